/-! THE MAKER of the suite (mk2.py) -/
def ptL (k : KX) (p : Nat) : List Sh := [sO 3 [some (.ref (k_b k + (p + 1))), some (.ref (k_b k + (p + 2))), some (.ref (k_b k + (p + 3)))], sJ 16, sJ 16, sJ 16]
theorem ar_reg (k : KX) (j : Nat) : (va_up (va_up (va_up (va_up (fun _ => none) 0 (some (k_b k + (j + 15)))) 1 (some (k_b k + (j + 17)))) 2 (some (k_b k + (j + 19)))) 3 (some (k_b k + (j + 21)))) = arF k (j + 15) 2 4 := by
  funext i
  by_cases h : i < 4
  · match i, h with
    | 0, _ => rfl
    | 1, _ => rfl
    | 2, _ => rfl
    | 3, _ => rfl
    | m + 4, h => exact absurd h (by omega)
  · simp only [va_up, arF]
    rw [if_neg h]
    repeat rw [if_neg (by omega)]
theorem ar_cv (k : KX) (j : Nat) : (va_up (va_up (fun _ => none) 0 (some (k_b k + (j + 39)))) 1 (some (k_b k + (j + 186)))) = arF k (j + 39) 147 2 := by
  funext i
  by_cases h : i < 2
  · match i, h with
    | 0, _ => rfl
    | 1, _ => rfl
    | m + 2, h => exact absurd h (by omega)
  · simp only [va_up, arF]
    rw [if_neg h]
    repeat rw [if_neg (by omega)]
theorem ar_ag (k : KX) (j : Nat) : (va_up (va_up (fun _ => none) 0 (some (k_b k + (j + 131)))) 1 (some (k_b k + (j + 278)))) = arF k (j + 131) 147 2 := by
  funext i
  by_cases h : i < 2
  · match i, h with
    | 0, _ => rfl
    | 1, _ => rfl
    | m + 2, h => exact absurd h (by omega)
  · simp only [va_up, arF]
    rw [if_neg h]
    repeat rw [if_neg (by omega)]
theorem ar_sg (k : KX) (j : Nat) : (va_up (va_up (fun _ => none) 0 (some (k_b k + (j + 143)))) 1 (some (k_b k + (j + 290)))) = arF k (j + 143) 147 2 := by
  funext i
  by_cases h : i < 2
  · match i, h with
    | 0, _ => rfl
    | 1, _ => rfl
    | m + 2, h => exact absurd h (by omega)
  · simp only [va_up, arF]
    rw [if_neg h]
    repeat rw [if_neg (by omega)]
theorem ar_pl (k : KX) (j : Nat) : (va_up (va_up (va_up (fun _ => none) 0 (some (k_b k + (j + 323)))) 1 (some (k_b k + (j + 327)))) 2 (some (k_b k + (j + 331)))) = arF k (j + 323) 4 3 := by
  funext i
  by_cases h : i < 3
  · match i, h with
    | 0, _ => rfl
    | 1, _ => rfl
    | 2, _ => rfl
    | m + 3, h => exact absurd h (by omega)
  · simp only [va_up, arF]
    rw [if_neg h]
    repeat rw [if_neg (by omega)]
def suL (k : KX) (j : Nat) : List Sh := ((sO 9 [some (.ref (k_b k + (j + 1))), some (.ref (k_b k + (j + 2))), some (.ref (k_b k + (j + 4))), some (.ref (k_b k + (j + 23))), some (.ref (k_b k + (j + 26))), some (.ref (k_b k + (j + 6))), some (.ref (k_b k + (j + 7))), some (.ref (k_b k + (j + 8))), some (.ref (k_b k + (j + 9))), some (.ref (k_b k + (j + 10))), some (.ref (k_b k + (j + 11)))]) :: (sA 5 4 (arF k (j + 15) 2 4)) :: (sO 4 [some (.ref (k_b k + (j + 3))), none]) :: (sI 256) :: (sO 4 [some (.ref (k_b k + (j + 5))), none]) :: (sI 64) :: (sA 3 2 (arF k (j + 39) 147 2)) :: (sA 2 2 (arF k (j + 131) 147 2)) :: (sA 6 2 (arF k (j + 143) 147 2)) :: (sA 4 3 (arF k (j + 323) 4 3)) :: (sI 3) :: (sO 3 [some (.ref (k_b k + (j + 12))), some (.ref (k_b k + (j + 13))), some (.ref (k_b k + (j + 14)))]) :: (sJ 16) :: (sJ 16) :: (sJ 16) :: (sO 4 [some (.ref (k_b k + (j + 16))), none]) :: (sI 57) :: (sO 4 [some (.ref (k_b k + (j + 18))), none]) :: (sI 57) :: (sO 4 [some (.ref (k_b k + (j + 20))), none]) :: (sI 114) :: (sO 4 [some (.ref (k_b k + (j + 22))), none]) :: (sI 114) :: (sO 6 [some (.ref (k_b k + (j + 24))), some (.ref (k_b k + (j + 25)))]) :: (sJ 8) :: (sJ 80) :: (sO 7 [some (.ref (k_b k + (j + 27))), some (.ref (k_b k + (j + 28)))]) :: (sJ 25) :: (sJ 5) :: ((((((((((fdL0 k (j + 29) ++ cvL0 k (j + 39) (j + 29)) ++ agL0 k (j + 131) (j + 29)) ++ sgL0 k (j + 143) (j + 39) (j + 23)) ++ fdL1 k (j + 176)) ++ cvL1 k (j + 186) (j + 176)) ++ agL1 k (j + 278) (j + 176)) ++ sgL1 k (j + 290) (j + 186) (j + 26)) ++ ptL k (j + 323)) ++ ptL k (j + 327)) ++ ptL k (j + 331)))
def mkSu (j : Nat) (S : StT) : StT := mkPt (j + 331) (mkPt (j + 327) (mkPt (j + 323) (mkSg1 (j + 290) (mkCv1 (j + 186) (mkFd1 (j + 176) (mkSg0 (j + 143) (mkCv0 (j + 39) (mkFd0 (j + 29) (mkCt (j + 19) 114 (mkCt (j + 17) 57 (mkCt (j + 15) 57 (mkPt (j + 11) S))))))))))))
