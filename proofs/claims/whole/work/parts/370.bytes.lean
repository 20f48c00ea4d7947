section
/-! BYTES and limbs. -/
def uL (x : Int64) : Nat := x.toBitVec.toNat
theorem uL_ext {x y : Int64} (h : uL x = uL y) : x = y := Int64.toBitVec_inj.mp (BitVec.eq_of_toNat_eq h)
theorem uN_ext {x y : Int32} (h : uN x = uN y) : x = y := Int32.toBitVec_inj.mp (BitVec.eq_of_toNat_eq h)
theorem uL_lt (x : Int64) : uL x < 2 ^ 64 := x.toBitVec.isLt
theorem uN_lt (x : Int32) : uN x < 2 ^ 32 := x.toBitVec.isLt
theorem uL_int {x : Int64} (h : uL x < 2 ^ 63) : x.toInt = (uL x : Int) := by
  show x.toBitVec.toInt = _
  rw [BitVec.toInt_eq_toNat_of_lt (by unfold uL at h; omega)]
  rfl
theorem uL_of_int {x : Int64} (h : 0 ≤ x.toInt) : (uL x : Int) = x.toInt ∧ uL x < 2 ^ 63 := by
  have h' : 0 ≤ x.toBitVec.toInt := h
  have e := BitVec.toInt_eq_toNat_cond x.toBitVec
  have hl := x.toBitVec.isLt
  show (x.toBitVec.toNat : Int) = x.toBitVec.toInt ∧ x.toBitVec.toNat < 2 ^ 63
  by_cases hc : 2 * x.toBitVec.toNat < 2 ^ 64
  · rw [if_pos hc] at e
    exact ⟨e.symm, by omega⟩
  · rw [if_neg hc] at e
    omega
theorem uL_and {x m : Int64} {k : Nat} (hm : uL m = 2 ^ k - 1) : uL (x &&& m) = uL x % 2 ^ k := by
  unfold uL at *
  rw [Int64.toBitVec_and, BitVec.toNat_and, hm, Nat.and_two_pow_sub_one_eq_mod]
theorem uL_or (x y : Int64) : uL (x ||| y) = uL x ||| uL y := by
  unfold uL
  rw [Int64.toBitVec_or, BitVec.toNat_or]
theorem s63 {k : Nat} (h : k < 64) : (((nI k).toInt64 &&& 63).toBitVec.smod 64).toNat = k := by
  have : ∀ k : Fin 64, (((nI k.val).toInt64 &&& 63).toBitVec.smod 64).toNat = k.val := by decide
  exact this ⟨k, h⟩
theorem uL_shl (x : Int64) {k : Nat} (h : k < 64) : uL (x <<< ((nI k).toInt64 &&& 63)) = uL x * 2 ^ k % 2 ^ 64 := by
  unfold uL
  rw [Int64.toBitVec_shiftLeft]
  show (x.toBitVec <<< (((nI k).toInt64 &&& 63).toBitVec.smod 64).toNat).toNat = _
  rw [s63 h, BitVec.toNat_shiftLeft, Nat.shiftLeft_eq]
theorem uL_shr {x : Int64} {k : Nat} (h : k < 64) (hx : uL x < 2 ^ 63) : uL (x >>> ((nI k).toInt64 &&& 63)) = uL x / 2 ^ k := by
  unfold uL at hx ⊢
  rw [Int64.toBitVec_shiftRight]
  show (x.toBitVec.sshiftRight (((nI k).toInt64 &&& 63).toBitVec.smod 64).toNat).toNat = _
  rw [s63 h]
  have hm : x.toBitVec.msb = false := by
    rw [BitVec.msb_eq_decide]
    exact decide_eq_false (by omega)
  rw [BitVec.sshiftRight_eq_of_msb_false hm, BitVec.toNat_ushiftRight, Nat.shiftRight_eq_div_pow]
theorem uL_of32 {x : Int32} (hx : uN x < 2 ^ 31) : uL x.toInt64 = uN x := by
  unfold uN at hx
  unfold uL uN
  rw [Int32.toBitVec_toInt64]
  have hm : x.toBitVec.msb = false := by
    rw [BitVec.msb_eq_decide]
    exact decide_eq_false (by omega)
  rw [BitVec.signExtend_eq_setWidth_of_msb_false hm, BitVec.toNat_setWidth]
  exact Nat.mod_eq_of_lt (by omega)
theorem uN_of64 (x : Int64) : uN x.toInt32 = uL x % 2 ^ 32 := by
  unfold uN uL
  rw [Int64.toBitVec_toInt32, BitVec.signExtend_eq_setWidth_of_le _ (by decide), BitVec.toNat_setWidth]
theorem uN_and {x : Int32} {k : Nat} (hk : k < 32) : uN (x &&& nI (2 ^ k - 1)) = uN x % 2 ^ k := by
  have h31 : 2 ^ k ≤ 2 ^ 31 := Nat.pow_le_pow_right (by decide) (by omega)
  unfold uN
  rw [Int32.toBitVec_and, BitVec.toNat_and, pk_tn (by omega), Nat.and_two_pow_sub_one_eq_mod]
theorem rvN_lt (B : Nat) (f : Nat → Nat) (hB : 0 < B) : ∀ n, (∀ i, i < n → f i < B) → rvN B f n < B ^ n := by
  intro n
  induction n with
  | zero => intro _; exact Nat.one_pos
  | succ n ih =>
    intro h
    show rvN B f n + f n * B ^ n < B ^ (n + 1)
    have h1 := ih (fun i hi => h i (by omega))
    have h2 : (f n + 1) * B ^ n ≤ B * B ^ n := Nat.mul_le_mul_right _ (h n (by omega))
    rw [Nat.pow_succ, Nat.mul_comm (B ^ n) B]
    rw [Nat.add_mul, Nat.one_mul] at h2
    omega
/-- a number's digits -/
theorem rvN_dig (B : Nat) (f : Nat → Nat) (hB : 0 < B) : ∀ n, (∀ i, i < n → f i < B) → ∀ k, k < n → rvN B f n / B ^ k = f k + B * (rvN B f n / B ^ (k + 1)) := by
  intro n h k hk
  have key : ∀ n, (∀ i, i < n → f i < B) → ∀ k, k < n → rvN B f n / B ^ k % B = f k := by
    intro n
    induction n with
    | zero => intro _ k hk; omega
    | succ n ih =>
      intro h k hk
      show (rvN B f n + f n * B ^ n) / B ^ k % B = f k
      have h1 := rvN_lt B f hB n (fun i hi => h i (by omega))
      by_cases e : k = n
      · subst e
        rw [Nat.add_mul_div_right _ _ (Nat.pow_pos hB), Nat.div_eq_of_lt h1, Nat.zero_add]
        exact Nat.mod_eq_of_lt (h _ (by omega))
      · obtain ⟨t, ht⟩ : ∃ t, n = k + (t + 1) := ⟨n - k - 1, by omega⟩
        have e2 : f n * B ^ n = B ^ k * (B * (f n * B ^ t)) := by
          rw [ht, Nat.pow_add, Nat.pow_succ]
          rw [Nat.mul_comm (B ^ t) B, ← Nat.mul_assoc (f _), Nat.mul_comm (f _) (B ^ k), Nat.mul_assoc, ← Nat.mul_assoc (f _) B, Nat.mul_comm (f _) B, Nat.mul_assoc]
        rw [e2, Nat.add_mul_div_left _ _ (Nat.pow_pos hB), Nat.add_mul_mod_self_left]
        exact ih (fun i hi => h i (by omega)) k (by omega)
  rw [Nat.pow_succ, ← Nat.div_div_eq_div_mul, ← key n h k hk]
  generalize rvN B f n / B ^ k = x
  rw [Nat.mod_add_div]
theorem or_add {a b k : Nat} (h : b < 2 ^ k) : b ||| 2 ^ k * a = b + 2 ^ k * a := by
  rw [Nat.add_comm, Nat.or_comm]
  exact (Nat.two_pow_add_eq_or_of_lt h a).symm
theorem lto_row (to fr lm bits : Nat) (S : StT) : ∀ n, (∀ r, r ≠ to → lto_l9 to fr lm bits S n r = S.1 r) ∧ ∀ j, (j < fr ∨ fr + n ≤ j) → lto_l9 to fr lm bits S n to j = S.1 to j := by
  intro n
  induction n with
  | zero => exact ⟨fun _ _ => rfl, fun _ _ => rfl⟩
  | succ n ih =>
    obtain ⟨i1, i2⟩ := ih
    have key : ∀ v : Int32, (∀ r, r ≠ to → va_up (lto_l9 to fr lm bits S n) to (upd (lto_l9 to fr lm bits S n to) (fr + n) v) r = S.1 r) ∧ ∀ j, (j < fr ∨ fr + (n + 1) ≤ j) → va_up (lto_l9 to fr lm bits S n) to (upd (lto_l9 to fr lm bits S n to) (fr + n) v) to j = S.1 to j := by
      intro v
      refine ⟨fun r hr => (vu_n hr).trans (i1 r hr), fun j hj => ?_⟩
      rw [vu_s]
      show (if j = fr + n then v else _) = _
      rw [if_neg (by omega)]
      exact i2 j (by omega)
    unfold lto_l9
    dsimp only
    (repeat' split) <;> exact key _
theorem lto_val (to fr lm bits m : Nat) (S : StT) (hb : 8 ≤ bits ∧ bits ≤ 40) (hm : m ≤ 16) (hl : ∀ j, j < m → uL (S.2.1 lm j) < 2 ^ bits) (n i : Nat) (hc : m = 16 ∨ 8 * (i + 1) ≤ bits * m) (hi : i < 100) :
    uN (lto_l9 to fr lm bits S (i + 1) to (fr + i)) = rvN (2 ^ bits) (fun j => uL (S.2.1 lm j)) m / 2 ^ (8 * i) % 256 := by
  have hmod := Nat.mod_lt (8 * i) (show bits > 0 by omega)
  have hdm := Nat.mod_add_div (8 * i) bits
  have hq : 8 * i / bits ≤ 8 * i := Nat.div_le_self _ _
  have hsm : ∀ x, x ≤ 40 → (2 : Nat) ^ x ≤ 2 ^ 40 := fun x hx => Nat.pow_le_pow_right (by decide) hx
  have hbb := hsm bits hb.2
  -- the number above a limb
  have up : ∀ q, q < m → rvN (2 ^ bits) (fun j => uL (S.2.1 lm j)) m / 2 ^ (bits * q) = uL (S.2.1 lm q) + 2 ^ bits * (rvN (2 ^ bits) (fun j => uL (S.2.1 lm j)) m / 2 ^ (bits * (q + 1))) := by
    intro q hq
    rw [Nat.pow_mul, Nat.pow_mul]
    exact rvN_dig (2 ^ bits) (fun j => uL (S.2.1 lm j)) (Nat.two_pow_pos _) m hl q hq
  have hall := rvN_lt (2 ^ bits) (fun j => uL (S.2.1 lm j)) (Nat.two_pow_pos _) m hl
  generalize hV : rvN (2 ^ bits) (fun j => uL (S.2.1 lm j)) m = V at up hall
  generalize hqq : 8 * i / bits = q at hdm hq
  generalize hss : 8 * i % bits = s at hdm hmod
  have hat : ∀ v : Int32, va_up (lto_l9 to fr lm bits S i) to (upd (lto_l9 to fr lm bits S i to) (fr + i) v) to (fr + i) = v := by
    intro v
    rw [vu_s]
    exact if_pos rfl
  have h255 : ∀ v : Int64, uN (v.toInt32 &&& nI 255) = uL v % 256 := by
    intro v
    rw [show (255 : Nat) = 2 ^ 8 - 1 from rfl, uN_and (by decide), uN_of64]
    exact Nat.mod_mod_of_dvd _ (by decide)
  have e0 : V / 2 ^ (8 * i) = V / 2 ^ (bits * q) / 2 ^ s := by
    rw [Nat.div_div_eq_div_mul, ← Nat.pow_add, show bits * q + s = 8 * i by omega]
  unfold lto_l9
  dsimp only
  rw [hqq, hss]
  by_cases hq16 : 16 ≤ q
  · rw [if_pos ((nI_leI (by decide) (by omega)).mpr hq16)]
    have hz : V / 2 ^ (8 * i) = 0 := by
      refine Nat.div_eq_of_lt (Nat.lt_of_lt_of_le hall ?_)
      rw [← Nat.pow_mul]
      refine Nat.pow_le_pow_right (by decide) ?_
      have : bits * m ≤ bits * q := Nat.mul_le_mul_left _ (by omega)
      omega
    rw [hz]
    have fin : uN ((0 : Int64).toInt32 &&& nI 255) = 0 % 256 := by decide
    split
    · rw [hat]; exact fin
    · rw [if_pos ((nI_leI (by decide) (by omega)).mpr (by omega)), hat]
      exact fin
  · rw [if_neg (fun h => hq16 ((nI_leI (by decide) (by omega)).mp h))]
    have hqm : q < m := by
      rcases hc with hc | hc
      · omega
      · refine Decidable.byContradiction (fun hn => ?_)
        have : bits * m ≤ bits * q := Nat.mul_le_mul_left _ (by omega)
        omega
    have hlq := hl q hqm
    have v2 : uL ((S.2.1 lm q) >>> ((nI s).toInt64 &&& 63)) = uL (S.2.1 lm q) / 2 ^ s := uL_shr (by omega) (by omega)
    have hsp : bits = s + (bits - s) := by omega
    have e1 : V / 2 ^ (8 * i) = uL (S.2.1 lm q) / 2 ^ s + 2 ^ (bits - s) * (V / 2 ^ (bits * (q + 1))) := by
      rw [e0, up q hqm]
      have : 2 ^ bits = 2 ^ s * 2 ^ (bits - s) := by rw [← Nat.pow_add, ← hsp]
      rw [this, Nat.mul_assoc, Nat.add_mul_div_left _ _ (Nat.two_pow_pos s)]
    have hlow : uL (S.2.1 lm q) / 2 ^ s < 2 ^ (bits - s) := by
      refine Nat.div_lt_of_lt_mul ?_
      rw [← Nat.pow_add, ← hsp]
      exact hlq
    rw [e1]
    by_cases hs8 : s + 8 < bits
    · rw [if_pos ((nI_ltI (by omega) (by omega)).mpr hs8), hat, h255, v2]
      obtain ⟨t, ht⟩ : ∃ t, bits - s = 8 + t := ⟨bits - s - 8, by omega⟩
      rw [ht, Nat.pow_add, Nat.mul_assoc, show (2 : Nat) ^ 8 = 256 from rfl, Nat.add_mul_mod_self_left]
    · rw [if_neg (fun h => hs8 ((nI_ltI (by omega) (by omega)).mp h))]
      by_cases hq1 : 16 ≤ q + 1
      · rw [if_pos ((nI_leI (by decide) (by omega)).mpr hq1), hat, h255, v2]
        have hz : V / 2 ^ (bits * (q + 1)) = 0 := by
          refine Nat.div_eq_of_lt (Nat.lt_of_lt_of_le hall ?_)
          rw [← Nat.pow_mul]
          exact Nat.pow_le_pow_right (by decide) (Nat.mul_le_mul_left _ (by omega))
        rw [hz, Nat.mul_zero, Nat.add_zero]
      · rw [if_neg (fun h => hq1 ((nI_leI (by decide) (by omega)).mp h)), hat, h255, uL_or, v2, show 8 - (s + 8 - bits) = bits - s by omega, uL_shl _ (by omega)]
        by_cases hq2 : q + 1 < m
        · have hlq1 := hl (q + 1) hq2
          have hsmall : uL (S.2.1 lm (q + 1)) * 2 ^ (bits - s) < 2 ^ 64 := by
            have a1 : 2 ^ (bits - s) ≤ 2 ^ 8 := Nat.pow_le_pow_right (by decide) (by omega)
            have a2 := Nat.mul_le_mul (Nat.le_of_lt hlq1) a1
            have a3 : 2 ^ bits * 2 ^ 8 ≤ 2 ^ 40 * 2 ^ 8 := Nat.mul_le_mul_right _ hbb
            have a4 : (2 : Nat) ^ 40 * 2 ^ 8 < 2 ^ 64 := by decide
            omega
          rw [Nat.mod_eq_of_lt hsmall, Nat.mul_comm (uL _) (2 ^ (bits - s)), or_add hlow, up (q + 1) hq2, Nat.mul_add, ← Nat.add_assoc, ← Nat.mul_assoc, ← Nat.pow_add]
          obtain ⟨t, ht⟩ : ∃ t, bits - s + bits = 8 + t := ⟨bits - s + bits - 8, by omega⟩
          rw [ht, Nat.pow_add, Nat.mul_assoc, show (2 : Nat) ^ 8 = 256 from rfl, Nat.add_mul_mod_self_left]
        · -- the last limb: nothing of the next is seen
          have hqe : q + 1 = m := by omega
          have hmb : bits * (q + 1) = bits * q + bits := by rw [Nat.mul_add, Nat.mul_one]
          have hs8' : bits - s = 8 := by
            rcases hc with hc | hc
            · omega
            · rw [← hqe] at hc
              omega
          have hz : V / 2 ^ (bits * (q + 1)) = 0 := by
            refine Nat.div_eq_of_lt (Nat.lt_of_lt_of_le hall ?_)
            rw [← Nat.pow_mul, hqe]
            exact Nat.le_refl _
          rw [hz, Nat.mul_zero, Nat.add_zero]
          rw [hs8'] at hlow ⊢
          have e3 : uL (S.2.1 lm (q + 1)) * 2 ^ 8 % 2 ^ 64 = 2 ^ 8 * (uL (S.2.1 lm (q + 1)) % 2 ^ 56) := by
            rw [show (2 : Nat) ^ 64 = 2 ^ 8 * 2 ^ 56 from rfl, Nat.mul_comm, Nat.mul_mod_mul_left]
          rw [e3, or_add hlow, show (2 : Nat) ^ 8 = 256 from rfl, Nat.add_mul_mod_self_left, Nat.add_zero]
theorem lto_s (to fr nn lm bits m : Nat) (S : StT) (hb : 8 ≤ bits ∧ bits ≤ 40) (hm : m ≤ 16) (hl : ∀ j, j < m → uL (S.2.1 lm j) < 2 ^ bits) (hc : m = 16 ∨ 8 * nn ≤ bits * m) (hn : nn ≤ 100) :
    (∀ i, i < nn → uN ((lto_f to fr nn lm bits S).1 to (fr + i)) = rvN (2 ^ bits) (fun j => uL (S.2.1 lm j)) m / 2 ^ (8 * i) % 256) ∧ (∀ r, r ≠ to → (lto_f to fr nn lm bits S).1 r = S.1 r) ∧ ∀ j, (j < fr ∨ fr + nn ≤ j) → (lto_f to fr nn lm bits S).1 to j = S.1 to j := by
  refine ⟨fun i hi => ?_, (lto_row to fr lm bits S nn).1, (lto_row to fr lm bits S nn).2⟩
  show uN (lto_l9 to fr lm bits S nn to (fr + i)) = _
  rw [← lto_val to fr lm bits m S hb hm hl nn i (by omega) (by omega)]
  have st : ∀ k, i < k → lto_l9 to fr lm bits S (k + 1) to (fr + i) = lto_l9 to fr lm bits S k to (fr + i) := by
    intro k hk
    have key : ∀ v : Int32, va_up (lto_l9 to fr lm bits S k) to (upd (lto_l9 to fr lm bits S k to) (fr + k) v) to (fr + i) = lto_l9 to fr lm bits S k to (fr + i) := by
      intro v
      rw [vu_s]
      exact if_neg (by omega)
    conv => lhs; unfold lto_l9
    dsimp only
    (repeat' split) <;> exact key _
  have all : ∀ d, i + 1 + d ≤ nn → lto_l9 to fr lm bits S (i + 1 + d) to (fr + i) = lto_l9 to fr lm bits S (i + 1) to (fr + i) := by
    intro d
    induction d with
    | zero => intro _; rfl
    | succ d ih => intro h; exact (st (i + 1 + d) (by omega)).trans (ih (by omega))
  have := all (nn - (i + 1)) (by omega)
  rw [show i + 1 + (nn - (i + 1)) = nn by omega] at this
  rw [this]
end
