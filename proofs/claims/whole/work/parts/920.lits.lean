/-! VALUES: what the model's maker writes piece by piece -/
/-- the pieces of place a, as ints -/
def ZV (I : Nat → Nat → Int32) (mo a : Nat) (g : Nat → Int32) : Prop := ∀ k, k < 32 → I (mo + 7) (32 * a + k) = g k
theorem zv_up {I : Nat → Nat → Int32} {mo a q : Nat} {g : Nat → Int32} (x : Int32) (h : ZV I mo a g) : ZV (va_up I (mo + 7) (upd (I (mo + 7)) (32 * a + q) x)) mo a (fun k => if k = q then x else g k) := by
  intro k hk
  rw [vu_s]
  by_cases e : k = q
  · subst e
    rw [pk_us]
    exact (if_pos rfl).symm
  · rw [pk_un (by omega)]
    exact (h k hk).trans (if_neg e).symm
theorem zv_oth {I : Nat → Nat → Int32} {mo a j : Nat} {g : Nat → Int32} (x : Int32) (hj : j < 32 * a ∨ 32 * a + 32 ≤ j) (h : ZV I mo a g) : ZV (va_up I (mo + 7) (upd (I (mo + 7)) j x)) mo a g := by
  intro k hk
  rw [vu_s, pk_un (by omega)]
  exact h k hk
theorem ZV_mx {mo a : Nat} {D : Nat → Prop} {T S : StT} {g : Nat → Int32} (h : MX mo D T S) (ha : ¬ D a) (hk : ZV S.1 mo a g) : ZV T.1 mo a g := fun k hk2 => (h.2.1 a ha k hk2).trans (hk k hk2)
theorem ZV_MD {I : Nat → Nat → Int32} {mo a n : Nat} {g : Nat → Int32} (h : ZV I mo a g) (hn : n < 2 ^ 448) (hg : ∀ k, k < 32 → uN (g k) = n / 2 ^ (16 * k) % 2 ^ 16) : MD I mo a n :=
  ⟨hn, fun i hi => by show uN (I (mo + 7) (32 * a + i)) = _; rw [h i hi]; exact hg i hi⟩
theorem zero28_z (mo a : Nat) (S : StT) : ZV (zero28_f mo a S).1 mo a (fun _ => 0) := by
  have h : ∀ n, ∀ k, k < n → zero28_l2 mo a S n (mo + 7) (32 * a + k) = 0 := by
    intro n
    induction n with
    | zero => exact fun k hk => absurd hk (Nat.not_lt_zero _)
    | succ n ih =>
      intro k hk
      show va_up (zero28_l2 mo a S n) (mo + 7) (upd (zero28_l2 mo a S n (mo + 7)) (32 * a + n) (nI 0)) (mo + 7) (32 * a + k) = 0
      rw [vu_s]
      by_cases e : k = n
      · subst e
        rw [pk_us]
        rfl
      · rw [pk_un (by omega)]
        exact ih k (by omega)
  exact fun k hk => h 32 k hk
def pcz (at_ : Nat) (v : Int64) (g : Nat → Int32) : Nat → Int32 := fun k => if at_ ≤ k ∧ k < at_ + 4 then ((v >>> ((nI (16 * (k - at_))).toInt64 &&& 63)).toInt32) &&& 65535 else g k
theorem mpiece_z {mo a at_ : Nat} {v : Int64} {S : StT} {g : Nat → Int32} (ha : at_ + 4 ≤ 32) (h : ZV S.1 mo a g) : ZV (mpiece_f mo a at_ v S).1 mo a (pcz at_ v g) ∧ MX mo (fun x => x = a) (mpiece_f mo a at_ v S) S := by
  have l : ∀ n, n ≤ 4 → (∀ k, k < 32 → mpiece_l3 mo a at_ v S n (mo + 7) (32 * a + k) = if at_ ≤ k ∧ k < at_ + n then ((v >>> ((nI (16 * (k - at_))).toInt64 &&& 63)).toInt32) &&& 65535 else g k) ∧ MF mo a (mpiece_l3 mo a at_ v S n) S.1 := by
    intro n
    induction n with
    | zero => exact fun _ => ⟨fun k hk => (h k hk).trans (if_neg (by omega)).symm, MF_rfl _ _ _⟩
    | succ n ih =>
      intro hn
      obtain ⟨i1, i2⟩ := ih (by omega)
      refine ⟨fun k hk => ?_, MF_tr ?_ i2⟩
      · show va_up (mpiece_l3 mo a at_ v S n) (mo + 7) (upd (mpiece_l3 mo a at_ v S n (mo + 7)) (32 * a + at_ + n) (((v >>> ((nI (16 * n)).toInt64 &&& 63)).toInt32) &&& 65535)) (mo + 7) (32 * a + k) = _
        rw [vu_s]
        by_cases e : k = at_ + n
        · subst e
          rw [← Nat.add_assoc, pk_us, if_pos (by omega), show at_ + n - at_ = n from by omega]
        · rw [pk_un (by omega), i1 k hk]
          by_cases e2 : at_ ≤ k ∧ k < at_ + n
          · rw [if_pos e2, if_pos (by omega)]
          · rw [if_neg e2, if_neg (by omega)]
      · have := mf_up (mpiece_l3 mo a at_ v S n) mo a (at_ + n) (((v >>> ((nI (16 * n)).toInt64 &&& 63)).toInt32) &&& 65535) (by omega)
        rw [← Nat.add_assoc] at this
        exact this
  obtain ⟨l1, l2⟩ := l 4 (Nat.le_refl _)
  exact ⟨l1, MX_of2 rfl l2 rfl⟩
/-- the two primes -/
def g9 (n : Nat) : Nat → Int32 := fun k => if k < n then (if 15 ≤ k then nI (if k = 15 then 32767 else 0) else 65535) else 0
def g10 (n : Nat) : Nat → Int32 := fun k => if k < n then 65535 else 0
theorem prm_lp (mo : Nat) (S1 S : StT) (h9 : ZV S.1 mo 9 (fun _ => 0)) (h10 : ZV S.1 mo 10 (fun _ => 0)) : ∀ n, n ≤ 28 → ZV (mbody_l265 mo S1 S n) mo 9 (g9 n) ∧ ZV (mbody_l265 mo S1 S n) mo 10 (g10 n) ∧ (∀ r, r ≠ mo + 7 → mbody_l265 mo S1 S n r = S.1 r) ∧ ∀ x, ¬ (x = 9 ∨ x = 10) → ∀ i, i < 32 → mbody_l265 mo S1 S n (mo + 7) (32 * x + i) = S.1 (mo + 7) (32 * x + i) := by
  intro n
  induction n with
  | zero => exact fun _ => ⟨fun k hk => (h9 k hk).trans (if_neg (Nat.not_lt_zero _)).symm, fun k hk => (h10 k hk).trans (if_neg (Nat.not_lt_zero _)).symm, fun _ _ => rfl, fun _ _ _ _ => rfl⟩
  | succ n ih =>
    intro hn
    obtain ⟨i1, i2, i3, i4⟩ := ih (by omega)
    have e : mbody_l265 mo S1 S (n + 1) = va_up (va_up (mbody_l265 mo S1 S n) (mo + 7) (upd (mbody_l265 mo S1 S n (mo + 7)) (288 + n) (if 15 ≤ n then nI (if n = 15 then 32767 else 0) else 65535))) (mo + 7) (upd ((va_up (mbody_l265 mo S1 S n) (mo + 7) (upd (mbody_l265 mo S1 S n (mo + 7)) (288 + n) (if 15 ≤ n then nI (if n = 15 then 32767 else 0) else 65535))) (mo + 7)) (320 + n) 65535) := by
      dsimp only [mbody_l265]
      by_cases h : 15 ≤ n
      · rw [if_pos ((nI_leI (by decide) (by omega)).mpr h), if_pos h]
        by_cases h2 : n = 15
        · subst h2
          rfl
        · rw [if_neg h2, if_pos (fun q => h2 (by have q2 := congrArg Int32.toInt q; rw [nI_toInt (by omega), nI_toInt (by decide)] at q2; omega))]
      · rw [if_neg (fun q => h ((nI_leI (by decide) (by omega)).mp q)), if_neg h]
    rw [e]
    refine ⟨?_, ?_, fun r hr => ?_, fun x hx i hi => ?_⟩
    · have z := zv_oth (j := 320 + n) 65535 (by omega) (zv_up (q := n) (if 15 ≤ n then nI (if n = 15 then 32767 else 0) else 65535) i1)
      intro k hk
      refine (z k hk).trans ?_
      dsimp only
      unfold g9
      by_cases h : k = n
      · subst h
        rw [if_pos rfl, if_pos (Nat.lt_succ_self _)]
      · rw [if_neg h]
        by_cases h2 : k < n
        · rw [if_pos h2, if_pos (show k < n + 1 by omega)]
        · rw [if_neg h2, if_neg (show ¬ k < n + 1 by omega)]
    · have z := zv_up (q := n) 65535 (zv_oth (j := 288 + n) (if 15 ≤ n then nI (if n = 15 then 32767 else 0) else 65535) (by omega) i2)
      intro k hk
      refine (z k hk).trans ?_
      dsimp only
      unfold g10
      by_cases h : k = n
      · subst h
        rw [if_pos rfl, if_pos (Nat.lt_succ_self _)]
      · rw [if_neg h]
        by_cases h2 : k < n
        · rw [if_pos h2, if_pos (show k < n + 1 by omega)]
        · rw [if_neg h2, if_neg (show ¬ k < n + 1 by omega)]
    · rw [vu_n hr, vu_n hr]
      exact i3 r hr
    · rw [vu_s, pk_un (by omega), vu_s, pk_un (by omega)]
      exact i4 x hx i hi
/-- the order of the second group: 2^446 less a number -/
def oB (X : Nat → Int32) : Nat → Nat
  | 0 => 0
  | i + 1 => if 0 ≤ (nI (if nI i ≠ nI 27 then 0 else 16384) - X i) - nI (oB X i) then 0 else 1
def oG (X : Nat → Int32) (n : Nat) : Nat → Int32 := fun k => if k < n then ((nI (if nI k ≠ nI 27 then 0 else 16384) - X k) - nI (oB X k)) &&& 65535 else 0
theorem ord_lp (mo : Nat) (S : StT) {X : Nat → Int32} (h20 : ZV S.1 mo 20 (fun _ => 0)) (h21 : ZV S.1 mo 21 X) : ∀ n, n ≤ 28 → (mo448_l67 mo S 0 n).1 = oB X n ∧ ZV (mo448_l67 mo S 0 n).2 mo 20 (oG X n) ∧ MF mo 20 (mo448_l67 mo S 0 n).2 S.1 := by
  intro n
  induction n with
  | zero => exact fun _ => ⟨rfl, fun k hk => (h20 k hk).trans (if_neg (Nat.not_lt_zero _)).symm, MF_rfl _ _ _⟩
  | succ n ih =>
    intro hn
    obtain ⟨i1, i2, i3⟩ := ih (by omega)
    have e21 : (mo448_l67 mo S 0 n).2 (mo + 7) (672 + n) = X n := by
      rw [i3.2 (672 + n) (by omega)]
      exact h21 n (by omega)
    have e : mo448_l67 mo S 0 (n + 1) = ((if 0 ≤ (nI (if nI n ≠ nI 27 then 0 else 16384) - X n) - nI (oB X n) then 0 else 1), va_up (mo448_l67 mo S 0 n).2 (mo + 7) (upd ((mo448_l67 mo S 0 n).2 (mo + 7)) (640 + n) (((nI (if nI n ≠ nI 27 then 0 else 16384) - X n) - nI (oB X n)) &&& 65535))) := by
      dsimp only [mo448_l67]
      rw [e21, i1]
    rw [e]
    refine ⟨rfl, ?_, MF_tr (mf_up _ mo 20 n _ (by omega)) i3⟩
    have z := zv_up (q := n) (((nI (if nI n ≠ nI 27 then 0 else 16384) - X n) - nI (oB X n)) &&& 65535) i2
    intro k hk
    refine (z k hk).trans ?_
    dsimp only
    unfold oG
    by_cases h : k = n
    · subst h
      rw [if_pos rfl, if_pos (Nat.lt_succ_self _)]
    · rw [if_neg h]
      by_cases h2 : k < n
      · rw [if_pos h2, if_pos (show k < n + 1 by omega)]
      · rw [if_neg h2, if_neg (show ¬ k < n + 1 by omega)]
def gX : Nat → Int32 := fun k => if k = 13 then 33589 else if k = 12 then 56342 else pcz 8 4301259484579875183 (pcz 4 (-2408513697996967766) (pcz 0 (-2556006723728458995) (fun _ => 0))) k
theorem gX_ok : ∀ k, k < 32 → uN (oG gX 28 k) = gO true / 2 ^ (16 * k) % 2 ^ 16 := by decide +kernel
theorem mo448_m (mo : Nat) (S : StT) : MD (mo448_f mo S).1 mo 20 (gO true) ∧ MX mo (fun x => x = 20 ∨ x = 21) (mo448_f mo S) S := by
  unfold mo448_f
  dsimp only
  have z1 := zero28_z mo 21 S
  have x1 : MX mo (fun x => x = 20 ∨ x = 21) (zero28_f mo 21 S) S := MX_of2 (Or.inr rfl) (zero28_m mo 21 S).2.1 (zero28_m mo 21 S).2.2
  have f1 : (zero28_f mo 21 S).2.2 = S.2.2 := rfl
  generalize zero28_f mo 21 S = S1 at z1 x1 f1 ⊢
  rw [← f1]
  obtain ⟨z2, x2⟩ := mpiece_z (at_ := 0) (v := -2556006723728458995) (S := S1) (by decide) z1
  have f2 : (mpiece_f mo 21 0 (-2556006723728458995) S1).2.2 = S1.2.2 := rfl
  have x2' := MX_tr (MX_le (E := fun x => x = 20 ∨ x = 21) (fun x h => Or.inr h) x2) x1
  rw [show ((S1.1, S1.2.1, S1.2.2) : StT) = S1 from rfl]
  generalize mpiece_f mo 21 0 (-2556006723728458995) S1 = S2 at z2 x2' f2 ⊢
  rw [← f2]
  obtain ⟨z3, x3⟩ := mpiece_z (at_ := 4) (v := -2408513697996967766) (S := S2) (by decide) z2
  have f3 : (mpiece_f mo 21 4 (-2408513697996967766) S2).2.2 = S2.2.2 := rfl
  have x3' := MX_tr (MX_le (E := fun x => x = 20 ∨ x = 21) (fun x h => Or.inr h) x3) x2'
  rw [show ((S2.1, S2.2.1, S2.2.2) : StT) = S2 from rfl]
  generalize mpiece_f mo 21 4 (-2408513697996967766) S2 = S3 at z3 x3' f3 ⊢
  rw [← f3]
  obtain ⟨z4, x4⟩ := mpiece_z (at_ := 8) (v := 4301259484579875183) (S := S3) (by decide) z3
  have f4 : (mpiece_f mo 21 8 4301259484579875183 S3).2.2 = S3.2.2 := rfl
  have x4' := MX_tr (MX_le (E := fun x => x = 20 ∨ x = 21) (fun x h => Or.inr h) x4) x3'
  rw [show ((S3.1, S3.2.1, S3.2.2) : StT) = S3 from rfl]
  generalize mpiece_f mo 21 8 4301259484579875183 S3 = S4 at z4 x4' f4 ⊢
  rw [← f4]
  have z5 := zv_up (q := 13) 33589 (zv_up (q := 12) 56342 z4)
  have x5 : MX mo (fun x => x = 20 ∨ x = 21) (va_up (va_up S4.1 (mo + 7) (upd (S4.1 (mo + 7)) (32 * 21 + 12) 56342)) (mo + 7) (upd ((va_up S4.1 (mo + 7) (upd (S4.1 (mo + 7)) (32 * 21 + 12) 56342)) (mo + 7)) (32 * 21 + 13) 33589), S4.2.1, S4.2.2) S := MX_tr (MX_of2 (d := 21) (Or.inr rfl) (MF_tr (mf_up _ mo 21 13 _ (by decide)) (mf_up _ mo 21 12 _ (by decide))) rfl) x4'
  generalize hI5 : va_up (va_up S4.1 (mo + 7) (upd (S4.1 (mo + 7)) (32 * 21 + 12) 56342)) (mo + 7) (upd ((va_up S4.1 (mo + 7) (upd (S4.1 (mo + 7)) (32 * 21 + 12) 56342)) (mo + 7)) (32 * 21 + 13) 33589) = I5 at z5 x5 ⊢
  have z6 := zero28_z mo 20 (I5, S4.2.1, S4.2.2)
  have m6 := zero28_m mo 20 (I5, S4.2.1, S4.2.2)
  have x6 : MX mo (fun x => x = 20 ∨ x = 21) (zero28_f mo 20 (I5, S4.2.1, S4.2.2)) S := MX_tr (MX_of2 (d := 20) (Or.inl rfl) m6.2.1 m6.2.2) x5
  have z6' : ZV (zero28_f mo 20 (I5, S4.2.1, S4.2.2)).1 mo 21 gX := fun k hk => (m6.2.1.2 (32 * 21 + k) (by omega)).trans (z5 k hk)
  have f6 : (zero28_f mo 20 (I5, S4.2.1, S4.2.2)).2.2 = S4.2.2 := rfl
  generalize zero28_f mo 20 (I5, S4.2.1, S4.2.2) = S6 at z6 x6 z6' f6 ⊢
  rw [← f6, show ((S6.1, S6.2.1, S6.2.2) : StT) = S6 from rfl]
  obtain ⟨-, o2, o3⟩ := ord_lp mo S6 z6 z6' 28 (Nat.le_refl _)
  exact ⟨ZV_MD o2 (by decide) gX_ok, MX_tr (MX_of2 (d := 20) (Or.inl rfl) o3 rfl) x6⟩
