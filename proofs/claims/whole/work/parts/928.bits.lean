/-! VALUES: one piece of a number is set -/
theorem MD_set {I K : Nat → Nat → Int32} {mo a q n m x : Nat} (hI : MD I mo a n) (hK : ∀ k, k < 32 → mq K mo a k = if k = q then x else mq I mo a k) (hq : q < 28) (hx : x < 2 ^ 16) (hm : m + mq I mo a q * (2 ^ 16) ^ q = n + x * (2 ^ 16) ^ q) : MD K mo a m := by
  have h := MD_of (I := K) (mo := mo) (a := a) (fun i hi => by
    rw [hK i (by omega)]
    by_cases e : i = q
    · rw [if_pos e]; exact hx
    · rw [if_neg e]; exact MD_lt hI (by omega)) (fun i h1 h2 => by
    rw [hK i h2, if_neg (by omega), hI.2 i h2]
    have h3 : n / 2 ^ (16 * i) = 0 := Nat.div_eq_of_lt (Nat.lt_of_lt_of_le hI.1 (Nat.pow_le_pow_right (by decide) (by omega)))
    rw [h3])
  have e := rvN_set (2 ^ 16) (mq I mo a) (mq K mo a) q x 28 hq (fun k hk => hK k (by omega))
  rw [MD_28 hI] at e
  have e2 : rvN (2 ^ 16) (mq K mo a) 28 = m := by omega
  rw [e2] at h
  exact h
/-- a bit that is not there is set -/
theorem MD_bit {I : Nat → Nat → Int32} {mo a n b : Nat} (hI : MD I mo a n) (hb : b < 70) (hn : n % 2 ^ (b + 1) = 0) : MD (va_up I (mo + 7) (upd (I (mo + 7)) (32 * a + b / 2 ^ 4) (I (mo + 7) (32 * a + b / 2 ^ 4) + (nI 1 <<< (nI (b % 2 ^ 4) &&& 31))))) mo a (n + 2 ^ b) := by
  have hs : b % 2 ^ 4 < 16 := Nat.mod_lt _ (by decide)
  have hbq : b = 16 * (b / 2 ^ 4) + b % 2 ^ 4 := by omega
  generalize b / 2 ^ 4 = q at *
  generalize b % 2 ^ 4 = s at *
  subst hbq
  have hq : q < 28 := by omega
  have hd : mq I mo a q < 2 ^ 16 := MD_lt hI (by omega)
  have hdv : 2 ^ (s + 1) ∣ mq I mo a q := by
    rw [hI.2 q (by omega)]
    have h1 : 2 ^ (16 * q) * 2 ^ (s + 1) ∣ n := by
      rw [← Nat.pow_add, ← Nat.add_assoc]
      exact Nat.dvd_of_mod_eq_zero hn
    have h2 : 2 ^ (s + 1) ∣ n / 2 ^ (16 * q) := by
      obtain ⟨k, hk⟩ := h1
      rw [hk, Nat.mul_assoc, Nat.mul_div_cancel_left _ (Nat.two_pow_pos _)]
      exact Nat.dvd_mul_right _ _
    exact (Nat.dvd_mod_iff (Nat.pow_dvd_pow 2 (by omega))).mpr h2
  have hlt : mq I mo a q + 2 ^ (s + 1) ≤ 2 ^ 16 := by
    obtain ⟨k, hk⟩ := hdv
    have e16 : 2 ^ 16 = 2 ^ (s + 1) * 2 ^ (15 - s) := by rw [← Nat.pow_add]; congr 1; omega
    rw [hk] at hd ⊢
    rw [e16] at hd ⊢
    have : k < 2 ^ (15 - s) := Nat.lt_of_mul_lt_mul_left hd
    calc 2 ^ (s + 1) * k + 2 ^ (s + 1) = 2 ^ (s + 1) * (k + 1) := by rw [Nat.mul_add, Nat.mul_one]
      _ ≤ 2 ^ (s + 1) * 2 ^ (15 - s) := Nat.mul_le_mul_left _ this
  have hp : 2 ^ (s + 1) = 2 ^ s + 2 ^ s := by rw [Nat.pow_succ]; omega
  have hps := Nat.two_pow_pos s
  have hsh : uN (nI 1 <<< (nI s &&& 31)) = 2 ^ s := by
    rw [uN_shl (by omega), uN_nI (by decide), Nat.one_mul, Nat.mod_eq_of_lt (Nat.pow_lt_pow_right (by decide) (by omega))]
  have hx : uN (I (mo + 7) (32 * a + q) + (nI 1 <<< (nI s &&& 31))) = mq I mo a q + 2 ^ s := by
    have e : uN (I (mo + 7) (32 * a + q)) = mq I mo a q := rfl
    rw [uN_addl (by rw [hsh, e]; omega), hsh, e]
  refine MD_set (q := q) (x := mq I mo a q + 2 ^ s) hI (fun k hk => ?_) hq (by omega) ?_
  · rw [mq_up, hx]
    by_cases e : k = q
    · rw [if_pos (by omega), if_pos e]
    · rw [if_neg (by omega), if_neg e]
  · rw [Nat.add_mul, Nat.pow_add, Nat.pow_mul, Nat.mul_comm ((2 ^ 16) ^ q) (2 ^ s)]
    omega
