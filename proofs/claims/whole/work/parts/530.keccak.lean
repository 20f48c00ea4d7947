section
/-! KECCAK: class and model on lanes. -/
def rl (v : Int64) (r : Int32) : Int64 := (v <<< ((r).toInt64 &&& 63)) ||| ((v.toUInt64 >>> (((nI (64)) - (r)).toInt64.toUInt64 &&& Int64.toUInt64 63)).toInt64)
def kC (A : Nat → Int64) (x : Nat) : Int64 := ((((A x) ^^^ (A (x + 5))) ^^^ (A (x + 10))) ^^^ (A (x + 15))) ^^^ (A (x + 20))
/-- the columns are mixed -/
def kT (A : Nat → Int64) (i : Nat) : Int64 := A i ^^^ (kC A ((i % 5 + 4) % 5) ^^^ rl (kC A ((i % 5 + 1) % 5)) (nI 1))
def srL : List Nat := [0, 6, 12, 18, 24, 3, 9, 10, 16, 22, 1, 7, 13, 19, 20, 4, 5, 11, 17, 23, 2, 8, 14, 15, 21]
def amL : List Nat := [0, 44, 43, 21, 14, 28, 20, 3, 45, 61, 1, 6, 25, 8, 18, 27, 36, 10, 15, 56, 62, 55, 39, 41, 2]
/-- the lanes are moved and turned -/
def kP (A : Nat → Int64) (i : Nat) : Int64 := if i = 0 then A 0 else rl (A (srL.getD i 0)) (nI (amL.getD i 0))
/-- the rows are mixed -/
def kX (A : Nat → Int64) (i : Nat) : Int64 := A i ^^^ (((A (i - i % 5 + (i + 1) % 5)) ^^^ (-1)) &&& (A (i - i % 5 + (i + 2) % 5)))
def kR (k : Int64) (A : Nat → Int64) (i : Nat) : Int64 := if i = 0 then kX (kP (kT A)) 0 ^^^ k else kX (kP (kT A)) i
theorem kT_congr {A B : Nat → Int64} (h : ∀ i, i < 25 → A i = B i) {i : Nat} (hi : i < 25) : kT A i = kT B i := by
  unfold kT kC
  rw [h i hi, h ((i % 5 + 4) % 5) (by omega), h ((i % 5 + 4) % 5 + 5) (by omega), h ((i % 5 + 4) % 5 + 10) (by omega), h ((i % 5 + 4) % 5 + 15) (by omega), h ((i % 5 + 4) % 5 + 20) (by omega), h ((i % 5 + 1) % 5) (by omega), h ((i % 5 + 1) % 5 + 5) (by omega), h ((i % 5 + 1) % 5 + 10) (by omega), h ((i % 5 + 1) % 5 + 15) (by omega), h ((i % 5 + 1) % 5 + 20) (by omega)]
theorem srL_lt : ∀ i, i < 25 → srL.getD i 0 < 25 := by decide
theorem kP_congr {A B : Nat → Int64} (h : ∀ i, i < 25 → A i = B i) {i : Nat} (hi : i < 25) : kP A i = kP B i := by
  unfold kP
  rw [h 0 (by decide), h _ (srL_lt i hi)]
theorem kX_congr {A B : Nat → Int64} (h : ∀ i, i < 25 → A i = B i) {i : Nat} (hi : i < 25) : kX A i = kX B i := by
  unfold kX
  rw [h i hi, h (i - i % 5 + (i + 1) % 5) (by omega), h (i - i % 5 + (i + 2) % 5) (by omega)]
theorem kR_congr {A B : Nat → Int64} (k : Int64) (h : ∀ i, i < 25 → A i = B i) {i : Nat} (hi : i < 25) : kR k A i = kR k B i := by
  unfold kR
  have e : ∀ j, j < 25 → kX (kP (kT A)) j = kX (kP (kT B)) j := fun j hj => kX_congr (fun a ha => kP_congr (fun b hb => kT_congr h hb) ha) hj
  rw [e 0 (by decide), e i hi]
/-- the class: columns -/
theorem smixC_s (so : Nat) (S : StT) : (∀ i, i < 25 → (smixC_f so S).2.1 (so + 1) i = kT (S.2.1 (so + 1)) i) ∧ (∀ r, r ≠ so + 1 → r ≠ so + 2 → (smixC_f so S).2.1 r = S.2.1 r) := by
  have a : ∀ n, (∀ x, x < n → smixC_l2 so S n (so + 2) x = kC (S.2.1 (so + 1)) x) ∧ ∀ r, r ≠ so + 2 → smixC_l2 so S n r = S.2.1 r := by
    intro n
    induction n with
    | zero => exact ⟨fun i hi => absurd hi (Nat.not_lt_zero _), fun _ _ => rfl⟩
    | succ n ih =>
      obtain ⟨h1, h2⟩ := ih
      have st : smixC_l2 so S (n + 1) = va_up (smixC_l2 so S n) (so + 2) (vp_updL (smixC_l2 so S n (so + 2)) n (kC (smixC_l2 so S n (so + 1)) n)) := rfl
      rw [st, h2 (so + 1) (by omega)]
      refine ⟨fun x hx => ?_, fun r hr => (vu_n hr).trans (h2 r hr)⟩
      rw [vu_s]
      by_cases e : x = n
      · rw [e, pk_uLs]
      · rw [pk_uLn e]; exact h1 x (by omega)
  obtain ⟨a1, a2⟩ := a 5
  have e1 := a2 (so + 1) (by omega)
  unfold smixC_f
  dsimp only
  generalize smixC_l2 so S 5 = Y at a1 a2 e1
  have inn : ∀ (x : Nat) (y0 : Nat → Nat → Int64) (v : Int64) (X : Nat → Nat → Int64) (n : Nat), x < 5 → (∀ i, smixC_l100 so x y0 v (S.1, X, S.2.2) n (so + 1) i = if i % 5 = x ∧ i / 5 < n then X (so + 1) i ^^^ v else X (so + 1) i) ∧ ∀ r, r ≠ so + 1 → smixC_l100 so x y0 v (S.1, X, S.2.2) n r = X r := by
    intro x y0 v X n hx
    induction n with
    | zero => exact ⟨fun i => by rw [if_neg (by omega)]; rfl, fun _ _ => rfl⟩
    | succ n ih =>
      obtain ⟨h1, h2⟩ := ih
      have st : smixC_l100 so x y0 v (S.1, X, S.2.2) (n + 1) = va_up (smixC_l100 so x y0 v (S.1, X, S.2.2) n) (so + 1) (vp_updL (smixC_l100 so x y0 v (S.1, X, S.2.2) n (so + 1)) (5 * n + x) ((smixC_l100 so x y0 v (S.1, X, S.2.2) n (so + 1) (5 * n + x)) ^^^ v)) := rfl
      rw [st]
      refine ⟨fun i => ?_, fun r hr => (vu_n hr).trans (h2 r hr)⟩
      rw [vu_s]
      by_cases e : i = 5 * n + x
      · rw [e, pk_uLs, h1, if_neg (by omega), if_pos (by omega)]
      · rw [pk_uLn e, h1]
        by_cases q : i % 5 = x ∧ i / 5 < n
        · rw [if_pos q, if_pos (by omega)]
        · rw [if_neg q, if_neg (by omega)]
  have out : ∀ n, n ≤ 5 → (∀ i, i < 25 → smixC_l66 so (S.1, Y, S.2.2) n (so + 1) i = if i % 5 < n then kT (S.2.1 (so + 1)) i else S.2.1 (so + 1) i) ∧ ∀ r, r ≠ so + 1 → smixC_l66 so (S.1, Y, S.2.2) n r = Y r := by
    intro n
    induction n with
    | zero => exact fun _ => ⟨fun i _ => by rw [if_neg (by omega), ← e1]; rfl, fun _ _ => rfl⟩
    | succ n ih =>
      intro hn
      obtain ⟨h1, h2⟩ := ih (by omega)
      have st : smixC_l66 so (S.1, Y, S.2.2) (n + 1) = smixC_l100 so n (smixC_l66 so (S.1, Y, S.2.2) n) ((smixC_l66 so (S.1, Y, S.2.2) n (so + 2) ((n + 4) % 5)) ^^^ rl (smixC_l66 so (S.1, Y, S.2.2) n (so + 2) ((n + 1) % 5)) (nI 1)) (S.1, smixC_l66 so (S.1, Y, S.2.2) n, S.2.2) 5 := rfl
      rw [st, h2 (so + 2) (by omega), a1 ((n + 4) % 5) (by omega), a1 ((n + 1) % 5) (by omega)]
      obtain ⟨i1, i2⟩ := inn n (smixC_l66 so (S.1, Y, S.2.2) n) (kC (S.2.1 (so + 1)) ((n + 4) % 5) ^^^ rl (kC (S.2.1 (so + 1)) ((n + 1) % 5)) (nI 1)) (smixC_l66 so (S.1, Y, S.2.2) n) 5 (by omega)
      refine ⟨fun i hi => ?_, fun r hr => (i2 r hr).trans (h2 r hr)⟩
      rw [i1 i, h1 i hi]
      by_cases q : i % 5 = n
      · rw [if_pos ⟨q, by omega⟩, if_neg (by omega), if_pos (by omega)]
        unfold kT
        rw [q]
      · rw [if_neg (fun z => q z.1)]
        by_cases q2 : i % 5 < n
        · rw [if_pos q2, if_pos (by omega)]
        · rw [if_neg q2, if_neg (by omega)]
  obtain ⟨o1, o2⟩ := out 5 (Nat.le_refl _)
  exact ⟨fun i hi => by rw [o1 i hi, if_pos (by omega)], fun r q1 q2 => (o2 r q1).trans (a2 r q2)⟩
/-- the class: lanes, on one row -/
def mvR (A : Nat → Int64) : Nat → Int64 × (Nat → Int64)
  | 0 => (A 1, A)
  | i + 1 => ((mvR A i).2 (nlN i), vp_updL (mvR A i).2 (nlN i) (rl (mvR A i).1 (nI (tnN i))))
theorem mvR_v (A : Nat → Int64) : ∀ j, j < 25 → (mvR A 24).2 j = kP A j := by
  intro j hj
  match j, hj with
  | 0, _ => rfl
  | 1, _ => rfl
  | 2, _ => rfl
  | 3, _ => rfl
  | 4, _ => rfl
  | 5, _ => rfl
  | 6, _ => rfl
  | 7, _ => rfl
  | 8, _ => rfl
  | 9, _ => rfl
  | 10, _ => rfl
  | 11, _ => rfl
  | 12, _ => rfl
  | 13, _ => rfl
  | 14, _ => rfl
  | 15, _ => rfl
  | 16, _ => rfl
  | 17, _ => rfl
  | 18, _ => rfl
  | 19, _ => rfl
  | 20, _ => rfl
  | 21, _ => rfl
  | 22, _ => rfl
  | 23, _ => rfl
  | 24, _ => rfl
  | n + 25, h => exact absurd h (by omega)
theorem smove_s (so : Nat) (S : StT) : (∀ i, i < 25 → (smove_f so S).2.1 (so + 1) i = kP (S.2.1 (so + 1)) i) ∧ (∀ r, r ≠ so + 1 → (smove_f so S).2.1 r = S.2.1 r) := by
  have a : ∀ n, (smove_l9 so S (S.2.1 (so + 1) 1) n).1 = (mvR (S.2.1 (so + 1)) n).1 ∧ (smove_l9 so S (S.2.1 (so + 1) 1) n).2 (so + 1) = (mvR (S.2.1 (so + 1)) n).2 ∧ ∀ r, r ≠ so + 1 → (smove_l9 so S (S.2.1 (so + 1) 1) n).2 r = S.2.1 r := by
    intro n
    induction n with
    | zero => exact ⟨rfl, rfl, fun _ _ => rfl⟩
    | succ n ih =>
      obtain ⟨h1, h2, h3⟩ := ih
      have st : smove_l9 so S (S.2.1 (so + 1) 1) (n + 1) = ((smove_l9 so S (S.2.1 (so + 1) 1) n).2 (so + 1) (nlN n), va_up (smove_l9 so S (S.2.1 (so + 1) 1) n).2 (so + 1) (vp_updL ((smove_l9 so S (S.2.1 (so + 1) 1) n).2 (so + 1)) (nlN n) (rl (smove_l9 so S (S.2.1 (so + 1) 1) n).1 (nI (tnN n))))) := rfl
      rw [st, h1, h2]
      exact ⟨rfl, vu_s, fun r hr => (vu_n hr).trans (h3 r hr)⟩
  obtain ⟨_, a2, a3⟩ := a 24
  unfold smove_f
  exact ⟨fun i hi => by show (smove_l9 so S (S.2.1 (so + 1) 1) 24).2 (so + 1) i = _; rw [a2]; exact mvR_v _ i hi, a3⟩
/-- the class: rows -/
theorem smixR_s (so : Nat) (S : StT) : (∀ i, i < 25 → (smixR_f so S).2.1 (so + 1) i = kX (S.2.1 (so + 1)) i) ∧ (∀ r, r ≠ so + 1 → r ≠ so + 2 → (smixR_f so S).2.1 r = S.2.1 r) := by
  have inn : ∀ (x : Nat) (y0 : Nat → Nat → Int64) (X : Nat → Nat → Int64) (n : Nat), n ≤ 5 → (∀ i, smixR_l24 so x y0 (S.1, X, S.2.2) n (so + 1) i = if i / 5 = x ∧ i % 5 < n then (X (so + 2) (i % 5)) ^^^ (((X (so + 2) ((i % 5 + 1) % 5)) ^^^ (-1)) &&& (X (so + 2) ((i % 5 + 2) % 5))) else X (so + 1) i) ∧ ∀ r, r ≠ so + 1 → smixR_l24 so x y0 (S.1, X, S.2.2) n r = X r := by
    intro x y0 X n
    induction n with
    | zero => exact fun _ => ⟨fun i => by rw [if_neg (by omega)]; rfl, fun _ _ => rfl⟩
    | succ n ih =>
      intro hn
      obtain ⟨h1, h2⟩ := ih (by omega)
      have st : smixR_l24 so x y0 (S.1, X, S.2.2) (n + 1) = va_up (smixR_l24 so x y0 (S.1, X, S.2.2) n) (so + 1) (vp_updL (smixR_l24 so x y0 (S.1, X, S.2.2) n (so + 1)) (5 * x + n) ((smixR_l24 so x y0 (S.1, X, S.2.2) n (so + 2) n) ^^^ (((smixR_l24 so x y0 (S.1, X, S.2.2) n (so + 2) ((n + 1) % 5)) ^^^ (-1)) &&& (smixR_l24 so x y0 (S.1, X, S.2.2) n (so + 2) ((n + 2) % 5))))) := rfl
      rw [st, h2 (so + 2) (by omega)]
      refine ⟨fun i => ?_, fun r hr => (vu_n hr).trans (h2 r hr)⟩
      rw [vu_s]
      by_cases e : i = 5 * x + n
      · have em : i % 5 = n := by omega
        rw [e, pk_uLs, ← e, em, if_pos (by omega)]
      · rw [pk_uLn e, h1]
        by_cases q : i / 5 = x ∧ i % 5 < n
        · rw [if_pos q, if_pos (by omega)]
        · rw [if_neg q, if_neg (by omega)]
  have out : ∀ n, n ≤ 5 → (∀ i, i < 25 → smixR_l2 so S n (so + 1) i = if i / 5 < n then kX (S.2.1 (so + 1)) i else S.2.1 (so + 1) i) ∧ ∀ r, r ≠ so + 1 → r ≠ so + 2 → smixR_l2 so S n r = S.2.1 r := by
    intro n
    induction n with
    | zero => exact fun _ => ⟨fun i _ => by rw [if_neg (by omega)]; rfl, fun _ _ _ => rfl⟩
    | succ n ih =>
      intro hn
      obtain ⟨h1, h2⟩ := ih (by omega)
      have st : smixR_l2 so S (n + 1) = smixR_l24 so n (smixR_l2 so S n) (S.1, va_up (smixR_l2 so S n) (so + 2) (va_cpy (smixR_l2 so S n (so + 1)) (smixR_l2 so S n (so + 2)) (5 * n) 0 5), S.2.2) 5 := rfl
      rw [st]
      obtain ⟨i1, i2⟩ := inn n (smixR_l2 so S n) (va_up (smixR_l2 so S n) (so + 2) (va_cpy (smixR_l2 so S n (so + 1)) (smixR_l2 so S n (so + 2)) (5 * n) 0 5)) 5 (Nat.le_refl _)
      refine ⟨fun i hi => ?_, fun r q1 q2 => (i2 r q1).trans ((vu_n q2).trans (h2 r q1 q2))⟩
      rw [i1 i]
      by_cases q : i / 5 = n
      · rw [if_pos ⟨q, by omega⟩, if_pos (by omega)]
        have ec : ∀ j, j < 5 → va_up (smixR_l2 so S n) (so + 2) (va_cpy (smixR_l2 so S n (so + 1)) (smixR_l2 so S n (so + 2)) (5 * n) 0 5) (so + 2) j = S.2.1 (so + 1) (5 * n + j) := by
          intro j hj
          rw [vu_s]
          unfold va_cpy
          rw [if_pos ⟨Nat.zero_le _, by omega⟩, Nat.sub_zero, h1 (5 * n + j) (by omega), if_neg (by omega)]
        rw [ec (i % 5) (by omega), ec ((i % 5 + 1) % 5) (by omega), ec ((i % 5 + 2) % 5) (by omega)]
        unfold kX
        rw [show 5 * n + i % 5 = i from by omega, show i - i % 5 + (i + 1) % 5 = 5 * n + (i % 5 + 1) % 5 from by omega, show i - i % 5 + (i + 2) % 5 = 5 * n + (i % 5 + 2) % 5 from by omega]
      · rw [if_neg (fun z => q z.1), vu_n (show so + 1 ≠ so + 2 by omega), h1 i hi]
        by_cases q2 : i / 5 < n
        · rw [if_pos q2, if_pos (by omega)]
        · rw [if_neg q2, if_neg (by omega)]
  obtain ⟨o1, o2⟩ := out 5 (Nat.le_refl _)
  unfold smixR_f
  exact ⟨fun i hi => by show smixR_l2 so S 5 (so + 1) i = _; rw [o1 i hi, if_pos (by omega)], o2⟩
def kN (A : Nat → Int64) : Nat → Nat → Int64
  | 0 => A
  | n + 1 => kR (rkF n) (kN A n)
theorem kN_congr {A B : Nat → Int64} (h : ∀ i, i < 25 → A i = B i) : ∀ n, ∀ i, i < 25 → kN A n i = kN B n i := by
  intro n
  induction n with
  | zero => exact h
  | succ n ih => exact fun i hi => kR_congr _ ih hi
theorem sperm_s (so : Nat) (S : StT) : (∀ i, i < 25 → (sperm_f so S).2.1 (so + 1) i = kN (S.2.1 (so + 1)) 24 i) ∧ (∀ r, r ≠ so + 1 → r ≠ so + 2 → (sperm_f so S).2.1 r = S.2.1 r) := by
  have a : ∀ n, (∀ i, i < 25 → (sperm_l2 so S n).2.1 (so + 1) i = kN (S.2.1 (so + 1)) n i) ∧ (∀ r, r ≠ so + 1 → r ≠ so + 2 → (sperm_l2 so S n).2.1 r = S.2.1 r) := by
    intro n
    induction n with
    | zero => exact ⟨fun _ _ => rfl, fun _ _ _ => rfl⟩
    | succ n ih =>
      obtain ⟨h1, h2⟩ := ih
      unfold sperm_l2
      dsimp only
      generalize sperm_l2 so S n = Y at h1 h2
      obtain ⟨c1, c2⟩ := smixC_s so Y
      generalize smixC_f so Y = C at c1 c2
      obtain ⟨m1, m2⟩ := smove_s so C
      generalize smove_f so C = M at m1 m2
      obtain ⟨r1, r2⟩ := smixR_s so M
      generalize smixR_f so M = R at r1 r2
      have key : ∀ i, i < 25 → R.2.1 (so + 1) i = kX (kP (kT (kN (S.2.1 (so + 1)) n))) i := fun i hi => by
        rw [r1 i hi]
        exact kX_congr (fun a ha => by rw [m1 a ha]; exact kP_congr (fun b hb => by rw [c1 b hb]; exact kT_congr h1 hb) ha) hi
      refine ⟨fun i hi => ?_, fun r q1 q2 => (vu_n q1).trans ((r2 r q1 q2).trans ((m2 r q1).trans ((c2 r q1 q2).trans (h2 r q1 q2))))⟩
      rw [vu_s]
      unfold kN kR
      by_cases e : i = 0
      · rw [e, pk_uLs, if_pos rfl, key 0 (by decide)]
      · rw [pk_uLn e, if_neg e, key i hi]
  exact a 24
end
