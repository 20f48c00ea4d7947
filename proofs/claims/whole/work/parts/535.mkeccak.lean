section
/-! KECCAK: the model. -/
theorem mleft_rl (v : Int64) {r : Int32} (S : StT) (h : r ≠ 0) : (mleft_f v r S).1 = rl v r := by
  unfold mleft_f
  rw [if_pos h]
  rfl
theorem mk12 (mo t : Nat) (y0 : Int32) (y1 : Nat → Nat → Int64) (S : StT) : ∀ n, (∀ x, x < n → mperm_l12 mo t y0 y1 S n (mo + 19) x = kC (S.2.1 (mo + 17)) x) ∧ ∀ r, r ≠ mo + 19 → mperm_l12 mo t y0 y1 S n r = S.2.1 r := by
  intro n
  induction n with
  | zero => exact ⟨fun i hi => absurd hi (Nat.not_lt_zero _), fun _ _ => rfl⟩
  | succ n ih =>
    obtain ⟨h1, h2⟩ := ih
    have st : mperm_l12 mo t y0 y1 S (n + 1) = va_up (mperm_l12 mo t y0 y1 S n) (mo + 19) (vp_updL (mperm_l12 mo t y0 y1 S n (mo + 19)) n (kC (mperm_l12 mo t y0 y1 S n (mo + 17)) n)) := rfl
    rw [st, h2 (mo + 17) (by omega)]
    refine ⟨fun x hx => ?_, fun r hr => (vu_n hr).trans (h2 r hr)⟩
    rw [vu_s]
    by_cases e : x = n
    · rw [e, pk_uLs]
    · rw [pk_uLn e]; exact h1 x (by omega)
theorem mk76 (mo t : Nat) (y0 : Int32) (y1 : Nat → Nat → Int64) (S : StT) : ∀ n, (∀ i, i < n → mperm_l76 mo t y0 y1 S n (mo + 17) i = S.2.1 (mo + 17) i ^^^ (S.2.1 (mo + 19) ((i + 4) % 5) ^^^ rl (S.2.1 (mo + 19) ((i + 1) % 5)) (nI 1))) ∧ (∀ i, n ≤ i → mperm_l76 mo t y0 y1 S n (mo + 17) i = S.2.1 (mo + 17) i) ∧ ∀ r, r ≠ mo + 17 → mperm_l76 mo t y0 y1 S n r = S.2.1 r := by
  intro n
  induction n with
  | zero => exact ⟨fun i hi => absurd hi (Nat.not_lt_zero _), fun _ _ => rfl, fun _ _ => rfl⟩
  | succ n ih =>
    obtain ⟨h1, h2, h3⟩ := ih
    unfold mperm_l76
    dsimp only
    rw [h3 (mo + 19) (by omega), h2 n (Nat.le_refl _), mleft_rl _ _ (by decide), Int64.xor_assoc]
    refine ⟨fun i hi => ?_, fun i hi => ?_, fun r hr => (vu_n hr).trans (h3 r hr)⟩
    · rw [vu_s]
      by_cases e : i = n
      · rw [e, pk_uLs]
      · rw [pk_uLn e]; exact h1 i (by omega)
    · rw [vu_s, pk_uLn (by omega)]
      exact h2 i (by omega)
theorem mk128 (mo t : Nat) (y0 : Int32) (y1 : Nat → Nat → Int64) (S : StT) : ∀ n, (∀ i, i < n → mperm_l128 mo t y0 y1 S n (mo + 18) i = S.2.1 (mo + 17) i) ∧ ∀ r, r ≠ mo + 18 → mperm_l128 mo t y0 y1 S n r = S.2.1 r := by
  intro n
  induction n with
  | zero => exact ⟨fun i hi => absurd hi (Nat.not_lt_zero _), fun _ _ => rfl⟩
  | succ n ih =>
    obtain ⟨h1, h3⟩ := ih
    unfold mperm_l128
    dsimp only
    rw [h3 (mo + 17) (by omega)]
    refine ⟨fun i hi => ?_, fun r hr => (vu_n hr).trans (h3 r hr)⟩
    rw [vu_s]
    by_cases e : i = n
    · rw [e, pk_uLs]
    · rw [pk_uLn e]; exact h1 i (by omega)
theorem mk247 (mo t : Nat) (y0 : Int32) (y1 J1 : Nat → Nat → Int64) (v2 v3 : Nat) (S : StT) : ∀ n, (∀ i, i < n → mperm_l247 mo t y0 y1 J1 v2 v3 S n (mo + 18) i = S.2.1 (mo + 17) i) ∧ ∀ r, r ≠ mo + 18 → mperm_l247 mo t y0 y1 J1 v2 v3 S n r = S.2.1 r := by
  intro n
  induction n with
  | zero => exact ⟨fun i hi => absurd hi (Nat.not_lt_zero _), fun _ _ => rfl⟩
  | succ n ih =>
    obtain ⟨h1, h3⟩ := ih
    unfold mperm_l247
    dsimp only
    rw [h3 (mo + 17) (by omega)]
    refine ⟨fun i hi => ?_, fun r hr => (vu_n hr).trans (h3 r hr)⟩
    rw [vu_s]
    by_cases e : i = n
    · rw [e, pk_uLs]
    · rw [pk_uLn e]; exact h1 i (by omega)
theorem mk277 (mo t : Nat) (y0 : Int32) (y1 J1 : Nat → Nat → Int64) (v2 v3 : Nat) (S : StT) : ∀ n, (∀ i, i < n → mperm_l277 mo t y0 y1 J1 v2 v3 S n (mo + 17) i = kX (S.2.1 (mo + 18)) i) ∧ ∀ r, r ≠ mo + 17 → mperm_l277 mo t y0 y1 J1 v2 v3 S n r = S.2.1 r := by
  intro n
  induction n with
  | zero => exact ⟨fun i hi => absurd hi (Nat.not_lt_zero _), fun _ _ => rfl⟩
  | succ n ih =>
    obtain ⟨h1, h3⟩ := ih
    have st : mperm_l277 mo t y0 y1 J1 v2 v3 S (n + 1) = va_up (mperm_l277 mo t y0 y1 J1 v2 v3 S n) (mo + 17) (vp_updL (mperm_l277 mo t y0 y1 J1 v2 v3 S n (mo + 17)) n (kX (mperm_l277 mo t y0 y1 J1 v2 v3 S n (mo + 18)) n)) := rfl
    rw [st, h3 (mo + 18) (by omega)]
    refine ⟨fun i hi => ?_, fun r hr => (vu_n hr).trans (h3 r hr)⟩
    rw [vu_s]
    by_cases e : i = n
    · rw [e, pk_uLs]
    · rw [pk_uLn e]; exact h1 i (by omega)
/-- the walk over the lanes -/
def xyN : Nat → Nat × Nat
  | 0 => (1, 0)
  | i + 1 => ((xyN i).2, (2 * (xyN i).1 + 3 * (xyN i).2) % 5)
def mlR (A B : Nat → Int64) : Nat → Nat → Int64
  | 0 => A
  | i + 1 => vp_updL (mlR A B i) ((xyN i).2 + 5 * ((2 * (xyN i).1 + 3 * (xyN i).2) % 5)) (rl (B ((xyN i).1 + 5 * (xyN i).2)) (nI ((((i + 1) * (i + 2)) / 2) % 64)))
theorem mlR_v (A B : Nat → Int64) (h : A 0 = B 0) : ∀ j, j < 25 → mlR A B 24 j = kP B j := by
  intro j hj
  match j, hj with
  | 0, _ => exact h
  | 1, _ => rfl
  | 2, _ => rfl
  | 3, _ => rfl
  | 4, _ => rfl
  | 5, _ => rfl
  | 6, _ => rfl
  | 7, _ => rfl
  | 8, _ => rfl
  | 9, _ => rfl
  | 10, _ => rfl
  | 11, _ => rfl
  | 12, _ => rfl
  | 13, _ => rfl
  | 14, _ => rfl
  | 15, _ => rfl
  | 16, _ => rfl
  | 17, _ => rfl
  | 18, _ => rfl
  | 19, _ => rfl
  | 20, _ => rfl
  | 21, _ => rfl
  | 22, _ => rfl
  | 23, _ => rfl
  | 24, _ => rfl
  | n + 25, h => exact absurd h (by omega)
theorem am_nz : ∀ i, i < 24 → nI ((((i + 1) * (i + 2)) / 2) % 64) ≠ 0 := by decide
theorem mk172 (mo t : Nat) (y0 : Int32) (y1 J1 : Nat → Nat → Int64) (S : StT) : ∀ n, n ≤ 24 → (mperm_l172 mo t y0 y1 J1 S 1 0 n).1 = (xyN n).1 ∧ (mperm_l172 mo t y0 y1 J1 S 1 0 n).2.1 = (xyN n).2 ∧ (mperm_l172 mo t y0 y1 J1 S 1 0 n).2.2 (mo + 17) = mlR (S.2.1 (mo + 17)) (S.2.1 (mo + 18)) n ∧ ∀ r, r ≠ mo + 17 → (mperm_l172 mo t y0 y1 J1 S 1 0 n).2.2 r = S.2.1 r := by
  intro n
  induction n with
  | zero => exact fun _ => ⟨rfl, rfl, rfl, fun _ _ => rfl⟩
  | succ n ih =>
    intro hn
    obtain ⟨h1, h2, h3, h4⟩ := ih (by omega)
    have st : mperm_l172 mo t y0 y1 J1 S 1 0 (n + 1) = ((mperm_l172 mo t y0 y1 J1 S 1 0 n).2.1, (2 * (mperm_l172 mo t y0 y1 J1 S 1 0 n).1 + (3 * (mperm_l172 mo t y0 y1 J1 S 1 0 n).2.1)) % 5, va_up (mperm_l172 mo t y0 y1 J1 S 1 0 n).2.2 (mo + 17) (vp_updL ((mperm_l172 mo t y0 y1 J1 S 1 0 n).2.2 (mo + 17)) ((mperm_l172 mo t y0 y1 J1 S 1 0 n).2.1 + (5 * ((2 * (mperm_l172 mo t y0 y1 J1 S 1 0 n).1 + (3 * (mperm_l172 mo t y0 y1 J1 S 1 0 n).2.1)) % 5))) ((mleft_f ((mperm_l172 mo t y0 y1 J1 S 1 0 n).2.2 (mo + 18) ((mperm_l172 mo t y0 y1 J1 S 1 0 n).1 + (5 * (mperm_l172 mo t y0 y1 J1 S 1 0 n).2.1))) (nI ((((n + 1) * (n + 2)) / 2) % 64)) (S.1, (mperm_l172 mo t y0 y1 J1 S 1 0 n).2.2, S.2.2)).1))) := rfl
    rw [st, mleft_rl _ _ (am_nz n (by omega)), h1, h2, h3, h4 (mo + 18) (by omega)]
    exact ⟨rfl, rfl, vu_s, fun r hr => (vu_n hr).trans (h4 r hr)⟩
def lfS (y : Int32) : Int32 := ((y) <<< ((nI (1)) &&& 31)) ^^^ (((y) >>> ((nI (7)) &&& 31)) * (nI (369)))
def lfT (y : Int32) : Nat → Int32
  | 0 => y
  | i + 1 => lfS (lfT y i)
def rcX (y : Int32) : Nat → Int64
  | 0 => 0
  | i + 1 => if ((lfT y i) &&& (nI (1))) ≠ (nI (1)) then rcX y i else rcX y i ^^^ (1 <<< ((((nI (1)) <<< ((nI (i)) &&& 31)) - (nI (1))).toInt64 &&& 63))
theorem lfT_s (y : Int32) (i : Nat) : lfT y (i + 1) = lfS (lfT y i) := rfl
theorem rcX_s (y : Int32) (i : Nat) : rcX y (i + 1) = if ((lfT y i) &&& (nI (1))) ≠ (nI (1)) then rcX y i else rcX y i ^^^ (1 <<< ((((nI (1)) <<< ((nI (i)) &&& 31)) - (nI (1))).toInt64 &&& 63)) := rfl
theorem mk350 (mo t : Nat) (y0 : Int32) (y1 J1 : Nat → Nat → Int64) (v2 v3 : Nat) (S : StT) (z : Int32) : ∀ n, (mperm_l350 mo t y0 y1 J1 v2 v3 S z n).1 = lfT z n ∧ (mperm_l350 mo t y0 y1 J1 v2 v3 S z n).2 (mo + 17) 0 = S.2.1 (mo + 17) 0 ^^^ rcX z n ∧ (∀ i, i ≠ 0 → (mperm_l350 mo t y0 y1 J1 v2 v3 S z n).2 (mo + 17) i = S.2.1 (mo + 17) i) ∧ ∀ r, r ≠ mo + 17 → (mperm_l350 mo t y0 y1 J1 v2 v3 S z n).2 r = S.2.1 r := by
  intro n
  induction n with
  | zero => exact ⟨rfl, by show S.2.1 (mo + 17) 0 = S.2.1 (mo + 17) 0 ^^^ 0; rw [Int64.xor_zero], fun _ _ => rfl, fun _ _ => rfl⟩
  | succ n ih =>
    obtain ⟨h1, h2, h3, h4⟩ := ih
    have st : mperm_l350 mo t y0 y1 J1 v2 v3 S z (n + 1) = (if (((mperm_l350 mo t y0 y1 J1 v2 v3 S z n).1) &&& (nI (1))) ≠ (nI (1)) then (lfS (mperm_l350 mo t y0 y1 J1 v2 v3 S z n).1, (mperm_l350 mo t y0 y1 J1 v2 v3 S z n).2) else (lfS (mperm_l350 mo t y0 y1 J1 v2 v3 S z n).1, va_up (mperm_l350 mo t y0 y1 J1 v2 v3 S z n).2 (mo + 17) (vp_updL ((mperm_l350 mo t y0 y1 J1 v2 v3 S z n).2 (mo + 17)) 0 (((mperm_l350 mo t y0 y1 J1 v2 v3 S z n).2 (mo + 17) 0) ^^^ (1 <<< ((((nI (1)) <<< ((nI (n)) &&& 31)) - (nI (1))).toInt64 &&& 63)))))) := rfl
    rw [st, h1, lfT_s, rcX_s]
    by_cases q : (lfT z n &&& nI 1) ≠ nI 1
    · rw [if_pos q, if_pos q]
      exact ⟨rfl, h2, h3, h4⟩
    · rw [if_neg q, if_neg q]
      refine ⟨rfl, ?_, fun i hi => ?_, fun r hr => (vu_n hr).trans (h4 r hr)⟩
      · dsimp only
        rw [vu_s, pk_uLs, h2, Int64.xor_assoc]
      · dsimp only
        rw [vu_s, pk_uLn hi]
        exact h3 i hi
def lfR : Nat → Int32
  | 0 => nI 1
  | i + 1 => lfT (lfR i) 7
theorem rc_all : ∀ i, i < 24 → rcX (lfR i) 7 = rkF i := by decide +kernel
theorem mperm_st (mo : Nat) (S : StT) (z : Int32) (n : Nat) {y0 : Int32} {Y J2 J3 J4 J5 J7 J8 : Nat → Nat → Int64} {L : Nat × Nat × (Nat → Nat → Int64)} (hy : (mperm_l4 mo S z n).1 = y0) (hY : (mperm_l4 mo S z n).2 = Y) (h2 : mperm_l12 mo n y0 Y (S.1, Y, S.2.2) 5 = J2) (h3 : mperm_l76 mo n y0 Y (S.1, J2, S.2.2) 25 = J3) (h4 : mperm_l128 mo n y0 Y (S.1, J3, S.2.2) 25 = J4) (h5 : va_up J4 (mo + 17) (vp_updL (J4 (mo + 17)) 0 (J4 (mo + 18) 0)) = J5) (hL : mperm_l172 mo n y0 Y J5 (S.1, J5, S.2.2) 1 0 24 = L) (h7 : mperm_l247 mo n y0 Y J5 L.1 L.2.1 (S.1, L.2.2, S.2.2) 25 = J7) (h8 : mperm_l277 mo n y0 Y J5 L.1 L.2.1 (S.1, J7, S.2.2) 25 = J8) :
    mperm_l4 mo S z (n + 1) = ((mperm_l350 mo n y0 Y J5 L.1 L.2.1 (S.1, J8, S.2.2) y0 7).1, (mperm_l350 mo n y0 Y J5 L.1 L.2.1 (S.1, J8, S.2.2) y0 7).2) := by
  subst hy hY h2 h3 h4 h5 hL h7 h8
  dsimp only [mperm_l4]
theorem mperm_s (mo : Nat) (S : StT) : (∀ i, i < 25 → (mperm_f mo S).2.1 (mo + 17) i = kN (S.2.1 (mo + 17)) 24 i) ∧ (∀ r, r ≠ mo + 17 → r ≠ mo + 18 → r ≠ mo + 19 → (mperm_f mo S).2.1 r = S.2.1 r) ∧ (mperm_f mo S).1 = S.1 ∧ (mperm_f mo S).2.2 = S.2.2 := by
  have a : ∀ n, n ≤ 24 → (mperm_l4 mo S (nI 1) n).1 = lfR n ∧ (∀ i, i < 25 → (mperm_l4 mo S (nI 1) n).2 (mo + 17) i = kN (S.2.1 (mo + 17)) n i) ∧ (∀ r, r ≠ mo + 17 → r ≠ mo + 18 → r ≠ mo + 19 → (mperm_l4 mo S (nI 1) n).2 r = S.2.1 r) := by
    intro n
    induction n with
    | zero => exact fun _ => ⟨rfl, fun _ _ => rfl, fun _ _ _ _ => rfl⟩
    | succ n ih =>
      intro hn
      obtain ⟨h1, h2, h3⟩ := ih (by omega)
      have st := @mperm_st mo S (nI 1) n
      generalize hy : (mperm_l4 mo S (nI 1) n).1 = y0 at h1
      generalize hY : (mperm_l4 mo S (nI 1) n).2 = Y at h2 h3
      replace st := @st y0 Y
      rw [hy, hY] at st
      clear hy hY
      obtain ⟨a1, a2⟩ := mk12 mo n y0 Y (S.1, Y, S.2.2) 5
      have a3 : ∀ r, r ≠ mo + 19 → mperm_l12 mo n y0 Y (S.1, Y, S.2.2) 5 r = Y r := a2
      generalize hJ2 : mperm_l12 mo n y0 Y (S.1, Y, S.2.2) 5 = J2 at a1 a3
      obtain ⟨b1, _, b2⟩ := mk76 mo n y0 Y (S.1, J2, S.2.2) 25
      have b3 : ∀ r, r ≠ mo + 17 → mperm_l76 mo n y0 Y (S.1, J2, S.2.2) 25 r = J2 r := b2
      have b4 : ∀ i, i < 25 → mperm_l76 mo n y0 Y (S.1, J2, S.2.2) 25 (mo + 17) i = kT (Y (mo + 17)) i := by
        intro i hi
        rw [b1 i hi]
        show J2 (mo + 17) i ^^^ (J2 (mo + 19) ((i + 4) % 5) ^^^ rl (J2 (mo + 19) ((i + 1) % 5)) (nI 1)) = _
        rw [a3 (mo + 17) (by omega), a1 ((i + 4) % 5) (by omega), a1 ((i + 1) % 5) (by omega)]
        unfold kT
        rw [show (i % 5 + 4) % 5 = (i + 4) % 5 from by omega, show (i % 5 + 1) % 5 = (i + 1) % 5 from by omega]
      generalize hJ3 : mperm_l76 mo n y0 Y (S.1, J2, S.2.2) 25 = J3 at b3 b4
      obtain ⟨c1, c2⟩ := mk128 mo n y0 Y (S.1, J3, S.2.2) 25
      have c3 : ∀ r, r ≠ mo + 18 → mperm_l128 mo n y0 Y (S.1, J3, S.2.2) 25 r = J3 r := c2
      have c4 : ∀ i, i < 25 → mperm_l128 mo n y0 Y (S.1, J3, S.2.2) 25 (mo + 18) i = J3 (mo + 17) i := c1
      generalize hJ4 : mperm_l128 mo n y0 Y (S.1, J3, S.2.2) 25 = J4 at c3 c4
      generalize hJ5 : va_up J4 (mo + 17) (vp_updL (J4 (mo + 17)) 0 (J4 (mo + 18) 0)) = J5
      have d17 : ∀ i, J5 (mo + 17) i = if i = 0 then J4 (mo + 18) 0 else J4 (mo + 17) i := by
        intro i
        rw [← hJ5, vu_s]
        rfl
      have d3 : ∀ r, r ≠ mo + 17 → J5 r = J4 r := by
        intro r hr
        rw [← hJ5]
        exact vu_n hr
      obtain ⟨_, _, e1, e2⟩ := mk172 mo n y0 Y J5 (S.1, J5, S.2.2) 24 (Nat.le_refl _)
      have e3 : ∀ i, i < 25 → (mperm_l172 mo n y0 Y J5 (S.1, J5, S.2.2) 1 0 24).2.2 (mo + 17) i = kP (J5 (mo + 18)) i := by
        intro i hi
        rw [e1]
        exact mlR_v _ _ (by show J5 (mo + 17) 0 = J5 (mo + 18) 0; rw [d17 0, if_pos rfl, d3 (mo + 18) (by omega)]) i hi
      have e4 : ∀ r, r ≠ mo + 17 → (mperm_l172 mo n y0 Y J5 (S.1, J5, S.2.2) 1 0 24).2.2 r = J5 r := e2
      clear e1 e2
      generalize hL : mperm_l172 mo n y0 Y J5 (S.1, J5, S.2.2) 1 0 24 = L at e3 e4
      obtain ⟨f1, f2⟩ := mk247 mo n y0 Y J5 L.1 L.2.1 (S.1, L.2.2, S.2.2) 25
      have f3 : ∀ i, i < 25 → mperm_l247 mo n y0 Y J5 L.1 L.2.1 (S.1, L.2.2, S.2.2) 25 (mo + 18) i = L.2.2 (mo + 17) i := f1
      have f4 : ∀ r, r ≠ mo + 18 → mperm_l247 mo n y0 Y J5 L.1 L.2.1 (S.1, L.2.2, S.2.2) 25 r = L.2.2 r := f2
      generalize hJ7 : mperm_l247 mo n y0 Y J5 L.1 L.2.1 (S.1, L.2.2, S.2.2) 25 = J7 at f3 f4
      obtain ⟨g1, g2⟩ := mk277 mo n y0 Y J5 L.1 L.2.1 (S.1, J7, S.2.2) 25
      have g3 : ∀ i, i < 25 → mperm_l277 mo n y0 Y J5 L.1 L.2.1 (S.1, J7, S.2.2) 25 (mo + 17) i = kX (J7 (mo + 18)) i := g1
      have g4 : ∀ r, r ≠ mo + 17 → mperm_l277 mo n y0 Y J5 L.1 L.2.1 (S.1, J7, S.2.2) 25 r = J7 r := g2
      generalize hJ8 : mperm_l277 mo n y0 Y J5 L.1 L.2.1 (S.1, J7, S.2.2) 25 = J8 at g3 g4
      rw [st rfl rfl hJ2 hJ3 hJ4 hJ5 hL hJ7 hJ8]
      clear st hJ2 hJ3 hJ4 hJ5 hL hJ7 hJ8
      obtain ⟨k1, k2, k3, k4⟩ := mk350 mo n y0 Y J5 L.1 L.2.1 (S.1, J8, S.2.2) y0 7
      have key : ∀ i, i < 25 → J8 (mo + 17) i = kX (kP (kT (kN (S.2.1 (mo + 17)) n))) i := by
        intro i hi
        rw [g3 i hi]
        refine kX_congr (fun a ha => ?_) hi
        rw [f3 a ha, e3 a ha]
        refine kP_congr (fun b hb => ?_) ha
        rw [d3 (mo + 18) (by omega), c4 b hb, b4 b hb]
        exact kT_congr h2 hb
      refine ⟨by rw [k1, h1]; rfl, fun i hi => ?_, fun r q1 q2 q3 => (k4 r q1).trans ((g4 r q1).trans ((f4 r q2).trans ((e4 r q1).trans ((d3 r q1).trans ((c3 r q2).trans ((b3 r q1).trans ((a3 r q3).trans (h3 r q1 q2 q3))))))))⟩
      unfold kN kR
      by_cases e : i = 0
      · rw [e, k2, if_pos rfl, h1, rc_all n (by omega)]
        show J8 (mo + 17) 0 ^^^ _ = _
        rw [key 0 (by decide)]
      · rw [k3 i e, if_neg e]
        exact key i hi
  obtain ⟨_, a2, a3⟩ := a 24 (Nat.le_refl _)
  exact ⟨a2, a3, rfl, rfl⟩
end
