section
/-! SHA-512: class and model. -/
/-- a word turned right -/
def tn (v : Int64) (r : Int32) : Int64 := ((v.toUInt64 >>> ((r).toInt64.toUInt64 &&& Int64.toUInt64 63)).toInt64) ||| (v <<< (((nI (64)) - (r)).toInt64 &&& 63))
def shf (v : Int64) (r : Nat) : Int64 := (v.toUInt64 >>> ((nI r).toInt64.toUInt64 &&& Int64.toUInt64 63)).toInt64
def sS0 (v : Int64) : Int64 := (tn v (nI 28) ^^^ tn v (nI 34)) ^^^ tn v (nI 39)
def sS1 (v : Int64) : Int64 := (tn v (nI 14) ^^^ tn v (nI 18)) ^^^ tn v (nI 41)
def ss0 (v : Int64) : Int64 := (tn v (nI 1) ^^^ tn v (nI 8)) ^^^ shf v 7
def ss1 (v : Int64) : Int64 := (tn v (nI 19) ^^^ tn v (nI 61)) ^^^ shf v 6
abbrev T8 := Int64 × Int64 × Int64 × Int64 × Int64 × Int64 × Int64 × Int64
def sT1 (k w : Int64) (y : T8) : Int64 := (((y.2.2.2.2.2.2.2 + sS1 y.2.2.2.2.1) + ((y.2.2.2.2.1 &&& y.2.2.2.2.2.1) ^^^ ((y.2.2.2.2.1 ^^^ (-1)) &&& y.2.2.2.2.2.2.1))) + k) + w
def sT2 (y : T8) : Int64 := sS0 y.1 + (((y.1 &&& y.2.1) ^^^ (y.1 &&& y.2.2.1)) ^^^ (y.2.1 &&& y.2.2.1))
/-- the rounds -/
def sRn (K W : Nat → Int64) (z : T8) : Nat → T8
  | 0 => z
  | i + 1 => (sT1 (K i) (W i) (sRn K W z i) + sT2 (sRn K W z i), (sRn K W z i).1, (sRn K W z i).2.1, (sRn K W z i).2.2.1, (sRn K W z i).2.2.2.1 + sT1 (K i) (W i) (sRn K W z i), (sRn K W z i).2.2.2.2.1, (sRn K W z i).2.2.2.2.2.1, (sRn K W z i).2.2.2.2.2.2.1)
theorem sRn_congr {K K' W W' : Nat → Int64} (z : T8) : ∀ n, (∀ i, i < n → K i = K' i ∧ W i = W' i) → sRn K W z n = sRn K' W' z n := by
  intro n
  induction n with
  | zero => exact fun _ => rfl
  | succ n ih =>
    intro h
    have e := ih (fun i hi => h i (by omega))
    obtain ⟨h1, h2⟩ := h n (by omega)
    unfold sRn
    rw [e, h1, h2]
theorem hcomp_rn (so : Nat) (S : StT) (z0 z1 z2 z3 z4 z5 z6 z7 : Int64) : ∀ n, hcomp_l67 so S z0 z1 z2 z3 z4 z5 z6 z7 n = sRn hkF (S.2.1 (so + 2)) (z0, z1, z2, z3, z4, z5, z6, z7) n := by
  intro n
  induction n with
  | zero => rfl
  | succ n ih =>
    unfold hcomp_l67 sRn
    rw [ih]
    rfl
theorem mshaB_rn (mo at_ : Nat) (v1 v2 v3 v4 v5 v6 v7 v8 : Int64) (S : StT) (z0 z1 z2 z3 z4 z5 z6 z7 : Int64) : ∀ n, mshaB_l221 mo at_ v1 v2 v3 v4 v5 v6 v7 v8 S z0 z1 z2 z3 z4 z5 z6 z7 n = sRn (S.2.1 (mo + 15)) (S.2.1 (mo + 16)) (z0, z1, z2, z3, z4, z5, z6, z7) n := by
  intro n
  induction n with
  | zero => rfl
  | succ n ih =>
    unfold mshaB_l221 sRn
    rw [ih]
    rfl
/-- eight words of row r raised one after the other -/
def up8 (J : Nat → Nat → Int64) (r : Nat) (x : Nat → Int64) : Nat → Nat → Nat → Int64
  | 0 => J
  | k + 1 => va_up (up8 J r x k) r (vp_updL (up8 J r x k r) k (up8 J r x k r k + x k))
theorem up8_lp (J : Nat → Nat → Int64) (r : Nat) (x : Nat → Int64) : ∀ n, (∀ i, i < n → up8 J r x n r i = J r i + x i) ∧ (∀ i, n ≤ i → up8 J r x n r i = J r i) ∧ ∀ q, q ≠ r → up8 J r x n q = J q := by
  intro n
  induction n with
  | zero => exact ⟨fun i hi => absurd hi (Nat.not_lt_zero _), fun _ _ => rfl, fun _ _ => rfl⟩
  | succ n ih =>
    obtain ⟨h1, h2, h3⟩ := ih
    unfold up8
    refine ⟨fun i hi => ?_, fun i hi => ?_, fun q hq => (vu_n hq).trans (h3 q hq)⟩
    · rw [vu_s]
      by_cases e : i = n
      · rw [e, pk_uLs, h2 n (Nat.le_refl _)]
      · rw [pk_uLn e]
        exact h1 i (by omega)
    · rw [vu_s, pk_uLn (by omega)]
      exact h2 i (by omega)
def x8 (y : T8) (i : Nat) : Int64 := if i = 0 then y.1 else if i = 1 then y.2.1 else if i = 2 then y.2.2.1 else if i = 3 then y.2.2.2.1 else if i = 4 then y.2.2.2.2.1 else if i = 5 then y.2.2.2.2.2.1 else if i = 6 then y.2.2.2.2.2.2.1 else if i = 7 then y.2.2.2.2.2.2.2 else 0
theorem hcomp_s (so : Nat) (S : StT) : (∀ i, i < 8 → (hcomp_f so S).2.1 (so + 1) i = S.2.1 (so + 1) i + x8 (sRn hkF (S.2.1 (so + 2)) (S.2.1 (so + 1) 0, S.2.1 (so + 1) 1, S.2.1 (so + 1) 2, S.2.1 (so + 1) 3, S.2.1 (so + 1) 4, S.2.1 (so + 1) 5, S.2.1 (so + 1) 6, S.2.1 (so + 1) 7) 80) i) ∧ ∀ r, r ≠ so + 1 → (hcomp_f so S).2.1 r = S.2.1 r := by
  have e : (hcomp_f so S).2.1 = up8 S.2.1 (so + 1) (x8 (sRn hkF (S.2.1 (so + 2)) (S.2.1 (so + 1) 0, S.2.1 (so + 1) 1, S.2.1 (so + 1) 2, S.2.1 (so + 1) 3, S.2.1 (so + 1) 4, S.2.1 (so + 1) 5, S.2.1 (so + 1) 6, S.2.1 (so + 1) 7) 80)) 8 := by
    unfold hcomp_f
    rw [hcomp_rn]
    generalize sRn hkF (S.2.1 (so + 2)) (S.2.1 (so + 1) 0, S.2.1 (so + 1) 1, S.2.1 (so + 1) 2, S.2.1 (so + 1) 3, S.2.1 (so + 1) 4, S.2.1 (so + 1) 5, S.2.1 (so + 1) 6, S.2.1 (so + 1) 7) 80 = y
    rfl
  rw [e]
  obtain ⟨h1, _, h3⟩ := up8_lp S.2.1 (so + 1) (x8 (sRn hkF (S.2.1 (so + 2)) (S.2.1 (so + 1) 0, S.2.1 (so + 1) 1, S.2.1 (so + 1) 2, S.2.1 (so + 1) 3, S.2.1 (so + 1) 4, S.2.1 (so + 1) 5, S.2.1 (so + 1) 6, S.2.1 (so + 1) 7) 80)) 8
  exact ⟨h1, h3⟩
/-- words of eight bytes, the highest first -/
def w8 (g : Nat → Int32) : Nat → Int64
  | 0 => 0
  | i + 1 => (w8 g i <<< ((nI (8)).toInt64 &&& 63)) ||| (g i).toInt64
theorem w8_congr {f g : Nat → Int32} : ∀ n, (∀ i, i < n → f i = g i) → w8 f n = w8 g n := by
  intro n
  induction n with
  | zero => exact fun _ => rfl
  | succ n ih =>
    intro h
    unfold w8
    rw [ih (fun i hi => h i (by omega)), h n (by omega)]
/-- a block's eighty words -/
def SW (b W : Nat → Int64) : Prop := (∀ i, i < 16 → W i = b i) ∧ ∀ i, 16 ≤ i → i < 80 → W i = ((W (i - 16) + ss0 (W (i - 15))) + W (i - 7)) + ss1 (W (i - 2))
theorem SW_uniq {b b' W W' : Nat → Int64} (hb : ∀ i, i < 16 → b i = b' i) (h : SW b W) (h' : SW b' W') : ∀ n, ∀ i, i < n → i < 80 → W i = W' i := by
  intro n
  induction n with
  | zero => exact fun i hi => absurd hi (Nat.not_lt_zero _)
  | succ n ih =>
    intro i hi h80
    by_cases h16 : i < 16
    · rw [h.1 i h16, h'.1 i h16, hb i h16]
    · rw [h.2 i (by omega) h80, h'.2 i (by omega) h80, ih (i - 16) (by omega) (by omega), ih (i - 15) (by omega) (by omega), ih (i - 7) (by omega) (by omega), ih (i - 2) (by omega) (by omega)]
theorem hl16_w (ro q fr pd i : Nat) (S : StT) : ∀ n, hload_l16 ro q fr pd i S 0 n = w8 (fun j => (hpad_f ro q (fr + (8 * i) + j) pd S).1) n := by
  intro n
  induction n with
  | zero => rfl
  | succ n ih =>
    unfold hload_l16 w8
    rw [ih]
theorem hpad_I (ro q at_ pd : Nat) (I : Nat → Nat → Int32) (J J' : Nat → Nat → Int64) (F F' : Nat → Nat → Int32) : (hpad_f ro q at_ pd (I, J, F)).1 = (hpad_f ro q at_ pd (I, J', F')).1 := by
  unfold hpad_f
  (repeat' split) <;> rfl
theorem hload_s (so ro q fr pd : Nat) (S : StT) : SW (fun i => w8 (fun j => (hpad_f ro q (fr + (8 * i) + j) pd S).1) 8) ((hload_f so ro q fr pd S).2.1 (so + 2)) ∧ ∀ r, r ≠ so + 2 → (hload_f so ro q fr pd S).2.1 r = S.2.1 r := by
  have l3 : ∀ n, (∀ i, i < n → hload_l3 so ro q fr pd S n (so + 2) i = w8 (fun j => (hpad_f ro q (fr + (8 * i) + j) pd S).1) 8) ∧ ∀ r, r ≠ so + 2 → hload_l3 so ro q fr pd S n r = S.2.1 r := by
    intro n
    induction n with
    | zero => exact ⟨fun i hi => absurd hi (Nat.not_lt_zero _), fun _ _ => rfl⟩
    | succ n ih =>
      obtain ⟨h1, h2⟩ := ih
      unfold hload_l3
      dsimp only
      rw [hl16_w]
      refine ⟨fun i hi => ?_, fun r hr => (vu_n hr).trans (h2 r hr)⟩
      rw [vu_s]
      by_cases e : i = n
      · rw [e, pk_uLs]
        exact w8_congr 8 (fun j _ => hpad_I _ _ _ _ _ _ _ _ _)
      · rw [pk_uLn e]
        exact h1 i (by omega)
  obtain ⟨a1, a2⟩ := l3 16
  unfold hload_f
  dsimp only
  generalize hload_l3 so ro q fr pd S 16 = Y at a1 a2
  have key : ∀ n, n ≤ 64 → (∀ i, i < 16 → hload_l72 so (S.1, Y, S.2.2) n (so + 2) i = Y (so + 2) i) ∧ (∀ i, 16 ≤ i → i < 16 + n → hload_l72 so (S.1, Y, S.2.2) n (so + 2) i = ((hload_l72 so (S.1, Y, S.2.2) n (so + 2) (i - 16) + ss0 (hload_l72 so (S.1, Y, S.2.2) n (so + 2) (i - 15))) + hload_l72 so (S.1, Y, S.2.2) n (so + 2) (i - 7)) + ss1 (hload_l72 so (S.1, Y, S.2.2) n (so + 2) (i - 2))) ∧ ∀ r, r ≠ so + 2 → hload_l72 so (S.1, Y, S.2.2) n r = Y r := by
    intro n
    induction n with
    | zero => exact fun _ => ⟨fun _ _ => rfl, fun i h1 h2 => by omega, fun _ _ => rfl⟩
    | succ n ih =>
      intro hn
      obtain ⟨h1, h2, h3⟩ := ih (by omega)
      have st : hload_l72 so (S.1, Y, S.2.2) (n + 1) = va_up (hload_l72 so (S.1, Y, S.2.2) n) (so + 2) (vp_updL (hload_l72 so (S.1, Y, S.2.2) n (so + 2)) (16 + n) (((hload_l72 so (S.1, Y, S.2.2) n (so + 2) (16 + n - 16) + ss0 (hload_l72 so (S.1, Y, S.2.2) n (so + 2) (16 + n - 15))) + hload_l72 so (S.1, Y, S.2.2) n (so + 2) (16 + n - 7)) + ss1 (hload_l72 so (S.1, Y, S.2.2) n (so + 2) (16 + n - 2)))) := rfl
      rw [st]
      generalize hload_l72 so (S.1, Y, S.2.2) n = X at h1 h2 h3 ⊢
      refine ⟨fun i hi => ?_, fun i hi1 hi2 => ?_, fun r hr => (vu_n hr).trans (h3 r hr)⟩
      · rw [vu_s, pk_uLn (by omega)]
        exact h1 i hi
      · rw [vu_s, pk_uLn (j := i - 16) (by omega), pk_uLn (j := i - 15) (by omega), pk_uLn (j := i - 7) (by omega), pk_uLn (j := i - 2) (by omega)]
        by_cases e : i = 16 + n
        · rw [e, pk_uLs]
        · rw [pk_uLn e]
          exact h2 i hi1 (by omega)
  obtain ⟨k1, k2, k3⟩ := key 64 (Nat.le_refl _)
  exact ⟨⟨fun i hi => (k1 i hi).trans (a1 i hi), fun i h1 h2 => k2 i h1 (by omega)⟩, fun r hr => (k3 r hr).trans (a2 r hr)⟩
theorem ml19_w (mo at_ i : Nat) (y : Nat → Nat → Int64) (S : StT) : ∀ n, mshaB_l19 mo at_ i y S 0 n = w8 (fun j => S.1 (mo + 11) (at_ + (8 * i) + j)) n := by
  intro n
  induction n with
  | zero => rfl
  | succ n ih =>
    unfold mshaB_l19 w8
    rw [ih]
theorem ad4 (a b c d : Int64) : ((b + d) + c) + a = ((a + b) + c) + d := by
  rw [Int64.add_comm _ a, ← Int64.add_assoc, ← Int64.add_assoc, Int64.add_assoc (a + b) d c, Int64.add_comm d c, ← Int64.add_assoc]
theorem mshaW (mo at_ : Nat) (S : StT) : SW (fun i => w8 (fun j => S.1 (mo + 11) (at_ + (8 * i) + j)) 8) (mshaB_l2 mo at_ S 80 (mo + 16)) ∧ ∀ r, r ≠ mo + 16 → mshaB_l2 mo at_ S 80 r = S.2.1 r := by
  have key : ∀ n, n ≤ 80 → (∀ i, i < n → i < 16 → mshaB_l2 mo at_ S n (mo + 16) i = w8 (fun j => S.1 (mo + 11) (at_ + (8 * i) + j)) 8) ∧ (∀ i, 16 ≤ i → i < n → mshaB_l2 mo at_ S n (mo + 16) i = ((mshaB_l2 mo at_ S n (mo + 16) (i - 16) + ss0 (mshaB_l2 mo at_ S n (mo + 16) (i - 15))) + mshaB_l2 mo at_ S n (mo + 16) (i - 7)) + ss1 (mshaB_l2 mo at_ S n (mo + 16) (i - 2))) ∧ ∀ r, r ≠ mo + 16 → mshaB_l2 mo at_ S n r = S.2.1 r := by
    intro n
    induction n with
    | zero => exact fun _ => ⟨fun i hi => absurd hi (Nat.not_lt_zero _), fun i h1 h2 => by omega, fun _ _ => rfl⟩
    | succ n ih =>
      intro hn
      obtain ⟨h1, h2, h3⟩ := ih (by omega)
      have st : mshaB_l2 mo at_ S (n + 1) = (if (nI (16)) ≤ (nI n) then va_up (mshaB_l2 mo at_ S n) (mo + 16) (vp_updL (mshaB_l2 mo at_ S n (mo + 16)) n (((ss0 (mshaB_l2 mo at_ S n (mo + 16) (n - 15)) + ss1 (mshaB_l2 mo at_ S n (mo + 16) (n - 2))) + (mshaB_l2 mo at_ S n (mo + 16) (n - 7))) + (mshaB_l2 mo at_ S n (mo + 16) (n - 16)))) else va_up (mshaB_l2 mo at_ S n) (mo + 16) (vp_updL (mshaB_l2 mo at_ S n (mo + 16)) n (mshaB_l19 mo at_ n (mshaB_l2 mo at_ S n) (S.1, mshaB_l2 mo at_ S n, S.2.2) 0 8))) := rfl
      rw [st, ml19_w]
      generalize mshaB_l2 mo at_ S n = X at h1 h2 h3 ⊢
      by_cases h16 : 16 ≤ n
      · rw [if_pos ((nle (by omega) (by omega)).mpr h16), ad4]
        refine ⟨fun i hi hi2 => ?_, fun i hi1 hi2 => ?_, fun r hr => (vu_n hr).trans (h3 r hr)⟩
        · rw [vu_s, pk_uLn (by omega)]
          exact h1 i (by omega) hi2
        · rw [vu_s, pk_uLn (j := i - 16) (by omega), pk_uLn (j := i - 15) (by omega), pk_uLn (j := i - 7) (by omega), pk_uLn (j := i - 2) (by omega)]
          by_cases e : i = n
          · rw [e, pk_uLs]
          · rw [pk_uLn e]
            exact h2 i hi1 (by omega)
      · rw [if_neg (fun z => h16 ((nle (by omega) (by omega)).mp z))]
        refine ⟨fun i hi hi2 => ?_, fun i hi1 hi2 => by omega, fun r hr => (vu_n hr).trans (h3 r hr)⟩
        rw [vu_s]
        by_cases e : i = n
        · rw [e, pk_uLs]
        · rw [pk_uLn e]
          exact h1 i (by omega) hi2
  obtain ⟨k1, k2, k3⟩ := key 80 (Nat.le_refl _)
  exact ⟨⟨fun i hi => k1 i (by omega) hi, k2⟩, k3⟩
theorem mshaB_s (mo at_ : Nat) (S : StT) : ∃ W, SW (fun i => w8 (fun j => S.1 (mo + 11) (at_ + (8 * i) + j)) 8) W ∧ (∀ i, i < 8 → (mshaB_f mo at_ S).2.1 (mo + 13) i = S.2.1 (mo + 13) i + x8 (sRn (S.2.1 (mo + 15)) W (S.2.1 (mo + 13) 0, S.2.1 (mo + 13) 1, S.2.1 (mo + 13) 2, S.2.1 (mo + 13) 3, S.2.1 (mo + 13) 4, S.2.1 (mo + 13) 5, S.2.1 (mo + 13) 6, S.2.1 (mo + 13) 7) 80) i) ∧ (∀ r, r ≠ mo + 13 → r ≠ mo + 16 → (mshaB_f mo at_ S).2.1 r = S.2.1 r) ∧ (mshaB_f mo at_ S).1 = S.1 ∧ (mshaB_f mo at_ S).2.2 = S.2.2 := by
  obtain ⟨w1, w2⟩ := mshaW mo at_ S
  refine ⟨_, w1, ?_⟩
  have e13 := w2 (mo + 13) (by omega)
  have e15 := w2 (mo + 15) (by omega)
  have e : mshaB_f mo at_ S = (S.1, up8 (mshaB_l2 mo at_ S 80) (mo + 13) (x8 (sRn (S.2.1 (mo + 15)) (mshaB_l2 mo at_ S 80 (mo + 16)) (S.2.1 (mo + 13) 0, S.2.1 (mo + 13) 1, S.2.1 (mo + 13) 2, S.2.1 (mo + 13) 3, S.2.1 (mo + 13) 4, S.2.1 (mo + 13) 5, S.2.1 (mo + 13) 6, S.2.1 (mo + 13) 7) 80)) 8, S.2.2) := by
    unfold mshaB_f
    dsimp only
    rw [mshaB_rn]
    dsimp only
    rw [← e13, ← e15]
    generalize sRn (mshaB_l2 mo at_ S 80 (mo + 15)) (mshaB_l2 mo at_ S 80 (mo + 16)) (mshaB_l2 mo at_ S 80 (mo + 13) 0, mshaB_l2 mo at_ S 80 (mo + 13) 1, mshaB_l2 mo at_ S 80 (mo + 13) 2, mshaB_l2 mo at_ S 80 (mo + 13) 3, mshaB_l2 mo at_ S 80 (mo + 13) 4, mshaB_l2 mo at_ S 80 (mo + 13) 5, mshaB_l2 mo at_ S 80 (mo + 13) 6, mshaB_l2 mo at_ S 80 (mo + 13) 7) 80 = y
    rfl
  rw [e]
  obtain ⟨h1, _, h3⟩ := up8_lp (mshaB_l2 mo at_ S 80) (mo + 13) (x8 (sRn (S.2.1 (mo + 15)) (mshaB_l2 mo at_ S 80 (mo + 16)) (S.2.1 (mo + 13) 0, S.2.1 (mo + 13) 1, S.2.1 (mo + 13) 2, S.2.1 (mo + 13) 3, S.2.1 (mo + 13) 4, S.2.1 (mo + 13) 5, S.2.1 (mo + 13) 6, S.2.1 (mo + 13) 7) 80)) 8
  refine ⟨fun i hi => ?_, fun r q1 q2 => (h3 r q1).trans (w2 r q2), rfl, rfl⟩
  refine (h1 i hi).trans ?_
  rw [e13]
end
