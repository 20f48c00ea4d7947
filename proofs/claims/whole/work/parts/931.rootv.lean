/-! VALUES: a root's 64 bits -/
theorem rv_lp (mo : Nat) (S : StT) {v : Nat} (h : MD S.1 mo 21 v) : ∀ n, n ≤ 4 → uL (mrtB_l121 mo S 0 n) = v / 2 ^ (16 * (4 - n)) % 2 ^ (16 * n) := by
  intro n
  induction n with
  | zero =>
    intro _
    show uL 0 = _
    rw [show 16 * 0 = 0 from rfl, Nat.pow_zero, Nat.mod_one]
    rfl
  | succ n ih =>
    intro hn
    have i1 := ih (by omega)
    have hd : uN (S.1 (mo + 7) (672 + (4 - 1 - n))) = v / 2 ^ (16 * (4 - 1 - n)) % 2 ^ 16 := h.2 (4 - 1 - n) (by omega)
    have hdl : uN (S.1 (mo + 7) (672 + (4 - 1 - n))) < 2 ^ 16 := by rw [hd]; exact Nat.mod_lt _ (by decide)
    have hl : uL (mrtB_l121 mo S 0 n) < 2 ^ 48 := by
      rw [i1]
      exact Nat.lt_of_lt_of_le (Nat.mod_lt _ (Nat.two_pow_pos _)) (Nat.pow_le_pow_right (by decide) (by omega))
    show uL ((mrtB_l121 mo S 0 n <<< ((nI 16).toInt64 &&& 63)) ||| (S.1 (mo + 7) (672 + (4 - 1 - n))).toInt64) = _
    rw [uL_or, uL_shl _ (by decide), uL_of32 (by omega), Nat.mod_eq_of_lt (by omega), Nat.mul_comm, ← Nat.two_pow_add_eq_or_of_lt hdl, i1, hd]
    have e2 : 4 - (n + 1) = 4 - 1 - n := by omega
    rw [e2, show 16 * (4 - n) = 16 * (4 - 1 - n) + 16 from by omega, Nat.pow_add, ← Nat.div_div_eq_div_mul, show 16 * (n + 1) = 16 + 16 * n from by omega, Nat.pow_add, Nat.mod_mul]
    exact Nat.add_comm _ _
theorem rb_s (mo e : Nat) (p : Int32) (S : StT) (he : e = 2 ∨ e = 3) (hp : uN p < 2 ^ 16) : uL (mrtB_f mo e p S).1 = rt e (uN p * (2 ^ 16) ^ (4 * e)) 70 % 2 ^ 64 ∧ MY mo (fun x => 21 ≤ x ∧ x ≤ 23) (mrtB_f mo e p S).2 S := by
  unfold mrtB_f
  dsimp only
  obtain ⟨z1, z2, z3⟩ := mzero_m mo 21 S
  have zz : mzero_f mo 21 S = zero28_f mo 21 S := rfl
  rw [zz] at z1 z2 z3
  generalize zero28_f mo 21 S = Z at z1 z2 z3 ⊢
  have m1 : MY mo (fun x => 21 ≤ x ∧ x ≤ 23) (Z.1, Z.2.1, S.2.2) S := ⟨fun r h1 _ => z2.1 r h1, fun x hx i hi => z2.2 _ (by omega), fun r _ => by rw [z3]⟩
  obtain ⟨a1, a2⟩ := rb_lp mo e p (Z.1, Z.2.1, S.2.2) he hp z1 70 (Nat.le_refl _)
  generalize mrtB_l9 mo e p (Z.1, Z.2.1, S.2.2) 70 = Y at a1 a2 ⊢
  have v := rv_lp mo (Y.1, Y.2, S.2.2) a1 4 (Nat.le_refl _)
  refine ⟨?_, MY_tr a2 m1⟩
  rw [v, show 16 * (4 - 4) = 0 from rfl, Nat.pow_zero, Nat.div_one]
theorem kv_ok : ∀ i, i < 80 → rt 3 (prN (i + 1) * (2 ^ 16) ^ (4 * 3)) 70 % 2 ^ 64 = uL (hkF i) := by decide +kernel
theorem fv_ok : ∀ i, i < 8 → rt 2 (prN (i + 1) * (2 ^ 16) ^ (4 * 2)) 70 % 2 ^ 64 = uL (hsF i) := by decide +kernel
/-- all the roots -/
theorem rc_lp (mo : Nat) (S : StT) : ∀ n, n ≤ 80 → (∀ i, i < n → (mrtC_l4 mo S n).2 (mo + 15) i = hkF i) ∧ (∀ i, i < n → i < 8 → (mrtC_l4 mo S n).2 (mo + 14) i = hsF i) ∧ (∀ r, r ≠ mo + 7 → r ≠ mo + 9 → (mrtC_l4 mo S n).1 r = S.1 r) ∧ (∀ x, ¬ (21 ≤ x ∧ x ≤ 23) → ∀ i, i < 32 → (mrtC_l4 mo S n).1 (mo + 7) (32 * x + i) = S.1 (mo + 7) (32 * x + i)) ∧ ∀ r, r ≠ mo + 8 → r ≠ mo + 14 → r ≠ mo + 15 → (mrtC_l4 mo S n).2 r = S.2.1 r := by
  intro n
  induction n with
  | zero => exact fun _ => ⟨fun i hi => absurd hi (Nat.not_lt_zero _), fun i hi => absurd hi (Nat.not_lt_zero _), fun _ _ _ => rfl, fun _ _ _ _ => rfl, fun _ _ _ _ => rfl⟩
  | succ n ih =>
    intro hn
    obtain ⟨i1, i2, i3, i4, i5⟩ := ih (by omega)
    have hpr := (pr_ok n (by omega)).2.2.1
    have hpu : uN (nI (prN (n + 1))) = prN (n + 1) := uN_nI (by omega)
    generalize hT : mrtC_l4 mo S (n + 1) = T
    dsimp only [mrtC_l4] at hT
    generalize mrtC_l4 mo S n = Y at i1 i2 i3 i4 i5 hT
    obtain ⟨a1, a2⟩ := rb_s mo 3 (nI (prN (n + 1))) (Y.1, Y.2, S.2.2) (Or.inr rfl) (by rw [hpu]; omega)
    rw [hpu, kv_ok n (by omega)] at a1
    replace a1 := uL_ext a1
    generalize mrtB_f mo 3 (nI (prN (n + 1))) (Y.1, Y.2, S.2.2) = R at a1 a2 hT
    have k15 : ∀ i, i < n + 1 → va_up R.2.2.1 (mo + 15) (vp_updL (R.2.2.1 (mo + 15)) n R.1) (mo + 15) i = hkF i := by
      intro i hi
      rw [vu_s]
      by_cases e : i = n
      · subst e
        rw [pk_uLs, a1]
      · rw [pk_uLn e, a2.2.2 (mo + 15) (by omega)]
        exact i1 i (by omega)
    have k14 : ∀ i, i < n → i < 8 → va_up R.2.2.1 (mo + 15) (vp_updL (R.2.2.1 (mo + 15)) n R.1) (mo + 14) i = hsF i := by
      intro i hi h8
      rw [vu_n (by omega), a2.2.2 (mo + 14) (by omega)]
      exact i2 i hi h8
    have k5 : ∀ r, r ≠ mo + 8 → r ≠ mo + 14 → r ≠ mo + 15 → va_up R.2.2.1 (mo + 15) (vp_updL (R.2.2.1 (mo + 15)) n R.1) r = S.2.1 r := by
      intro r h1 h2 h3
      rw [vu_n h3, a2.2.2 r h1]
      exact i5 r h1 h2 h3
    have k3 : ∀ r, r ≠ mo + 7 → r ≠ mo + 9 → R.2.1 r = S.1 r := fun r h1 h2 => (a2.1 r h1 h2).trans (i3 r h1 h2)
    have k4 : ∀ x, ¬ (21 ≤ x ∧ x ≤ 23) → ∀ i, i < 32 → R.2.1 (mo + 7) (32 * x + i) = S.1 (mo + 7) (32 * x + i) := fun x hx i hi => (a2.2.1 x hx i hi).trans (i4 x hx i hi)
    generalize va_up R.2.2.1 (mo + 15) (vp_updL (R.2.2.1 (mo + 15)) n R.1) = J at k15 k14 k5 hT
    by_cases h8 : 8 ≤ n
    · rw [if_pos ((nI_leI (by decide) (by omega)).mpr h8)] at hT
      subst hT
      exact ⟨k15, fun i hi h => k14 i (by omega) h, k3, k4, k5⟩
    · rw [if_neg (fun q => h8 ((nI_leI (by decide) (by omega)).mp q))] at hT
      obtain ⟨b1, b2⟩ := rb_s mo 2 (nI (prN (n + 1))) (R.2.1, J, S.2.2) (Or.inl rfl) (by rw [hpu]; omega)
      rw [hpu, fv_ok n (by omega)] at b1
      replace b1 := uL_ext b1
      generalize mrtB_f mo 2 (nI (prN (n + 1))) (R.2.1, J, S.2.2) = Q at b1 b2 hT
      subst hT
      refine ⟨fun i hi => ?_, fun i hi h => ?_, fun r h1 h2 => (b2.1 r h1 h2).trans (k3 r h1 h2), fun x hx i hi => (b2.2.1 x hx i hi).trans (k4 x hx i hi), fun r h1 h2 h3 => ?_⟩
      · show va_up Q.2.2.1 (mo + 14) _ (mo + 15) i = _
        rw [vu_n (by omega), b2.2.2 (mo + 15) (by omega)]
        exact k15 i hi
      · show va_up Q.2.2.1 (mo + 14) (vp_updL (Q.2.2.1 (mo + 14)) n Q.1) (mo + 14) i = _
        rw [vu_s]
        by_cases e : i = n
        · subst e
          rw [pk_uLs, b1]
        · rw [pk_uLn e, b2.2.2 (mo + 14) (by omega)]
          exact k14 i (by omega) h
      · show va_up Q.2.2.1 (mo + 14) _ r = _
        rw [vu_n h2, b2.2.2 r h1]
        exact k5 r h1 h2 h3
