section
/-! LIMBS. A row of longs as a number; carries. -/
theorem w_add {a b : Int64} (h1 : -2 ^ 63 ≤ a.toInt + b.toInt) (h2 : a.toInt + b.toInt < 2 ^ 63) : (a + b).toInt = a.toInt + b.toInt := by
  rw [Int64.toInt_add]
  exact Int.bmod_eq_of_le (by omega) (by omega)
theorem w_sub {a b : Int64} (h1 : -2 ^ 63 ≤ a.toInt - b.toInt) (h2 : a.toInt - b.toInt < 2 ^ 63) : (a - b).toInt = a.toInt - b.toInt := by
  rw [Int64.toInt_sub]
  exact Int.bmod_eq_of_le (by omega) (by omega)
theorem w_mul {a b : Int64} (h1 : -2 ^ 63 ≤ a.toInt * b.toInt) (h2 : a.toInt * b.toInt < 2 ^ 63) : (a * b).toInt = a.toInt * b.toInt := by
  rw [Int64.toInt_mul]
  exact Int.bmod_eq_of_le (by omega) (by omega)
theorem w_neg {a : Int64} (h1 : -2 ^ 63 ≤ -a.toInt) (h2 : -a.toInt < 2 ^ 63) : (-a).toInt = -a.toInt := by
  rw [Int64.toInt_neg]
  exact Int.bmod_eq_of_le (by omega) (by omega)
theorem w_shr (x s : Int64) (k : Nat) (hs : (s.toBitVec.smod 64).toNat = k) : (x >>> s).toInt = x.toInt / 2 ^ k := by
  show ((x.toBitVec).sshiftRight' (s.toBitVec.smod 64)).toInt = _
  rw [BitVec.sshiftRight_eq', BitVec.toInt_sshiftRight, hs, Int.shiftRight_eq_div_pow]
  rfl
theorem w_emod {x : BitVec 64} {k : Nat} (hk : k ≤ 64) : x.toInt % 2 ^ k = ((x.toNat % 2 ^ k : Nat) : Int) := by
  rw [BitVec.toInt_eq_toNat_bmod]
  have hd : ((2 ^ k : Nat) : Int) ∣ ((2 ^ 64 : Nat) : Int) := Int.natCast_dvd_natCast.mpr (Nat.pow_dvd_pow 2 hk)
  have e : ((x.toNat : Int).bmod (2 ^ 64)) % ((2 ^ k : Nat) : Int) = (x.toNat : Int) % ((2 ^ k : Nat) : Int) := by
    have h1 : ((x.toNat : Int).bmod (2 ^ 64)) % ((2 ^ 64 : Nat) : Int) = (x.toNat : Int) % ((2 ^ 64 : Nat) : Int) := Int.bmod_emod
    have h2 := Int.emod_emod_of_dvd ((x.toNat : Int).bmod (2 ^ 64)) hd
    have h3 := Int.emod_emod_of_dvd (x.toNat : Int) hd
    rw [← h2, h1, h3]
  have e2 : ((2 ^ k : Nat) : Int) = (2 : Int) ^ k := by rw [Int.natCast_pow]; rfl
  rw [← e2, e, Int.natCast_emod]
theorem w_and (x m : Int64) (k : Nat) (hk : k ≤ 62) (hm : m.toBitVec.toNat = 2 ^ k - 1) : (x &&& m).toInt = x.toInt % 2 ^ k := by
  show (x.toBitVec &&& m.toBitVec).toInt = x.toBitVec.toInt % 2 ^ k
  rw [w_emod (by omega)]
  have h1 : (x.toBitVec &&& m.toBitVec).toNat = x.toBitVec.toNat % 2 ^ k := by
    rw [BitVec.toNat_and, hm, Nat.and_two_pow_sub_one_eq_mod]
  have h2 : x.toBitVec.toNat % 2 ^ k < 2 ^ k := Nat.mod_lt _ (Nat.two_pow_pos k)
  have h3 : 2 ^ k ≤ 2 ^ 62 := Nat.pow_le_pow_right (by decide) hk
  rw [← h1]
  exact BitVec.toInt_eq_toNat_of_lt (by rw [h1]; omega)
/-- the number that a row's first limbs stand for -/
def rv (b : Nat) (f : Nat → Int) : Nat → Int
  | 0 => 0
  | n + 1 => rv b f n + f n * 2 ^ (b * n)
theorem rv_congr {b : Nat} {f g : Nat → Int} : ∀ n, (∀ i, i < n → f i = g i) → rv b f n = rv b g n := by
  intro n
  induction n with
  | zero => intro _; rfl
  | succ n ih =>
    intro h
    show rv b f n + f n * 2 ^ (b * n) = rv b g n + g n * 2 ^ (b * n)
    rw [ih (fun i hi => h i (by omega)), h n (by omega)]
theorem rv_add (b : Nat) (f g : Nat → Int) : ∀ n, rv b (fun i => f i + g i) n = rv b f n + rv b g n := by
  intro n
  induction n with
  | zero => rfl
  | succ n ih =>
    show rv b (fun i => f i + g i) n + (f n + g n) * 2 ^ (b * n) = (rv b f n + f n * 2 ^ (b * n)) + (rv b g n + g n * 2 ^ (b * n))
    rw [ih]
    generalize (2 : Int) ^ (b * n) = w
    generalize rv b f n = u
    generalize rv b g n = v
    grind
theorem rv_smul (b : Nat) (k : Int) (f : Nat → Int) : ∀ n, rv b (fun i => k * f i) n = k * rv b f n := by
  intro n
  induction n with
  | zero => show (0 : Int) = k * 0; rw [Int.mul_zero]
  | succ n ih =>
    show rv b (fun i => k * f i) n + k * f n * 2 ^ (b * n) = k * (rv b f n + f n * 2 ^ (b * n))
    rw [ih]
    generalize (2 : Int) ^ (b * n) = w
    generalize rv b f n = u
    grind
/-- one place more -/
theorem rv_at (b : Nat) (f : Nat → Int) (j : Nat) (d : Int) : ∀ n, j < n → rv b (fun i => if i = j then f i + d else f i) n = rv b f n + d * 2 ^ (b * j) := by
  intro n
  induction n with
  | zero => intro h; omega
  | succ n ih =>
    intro h
    show rv b (fun i => if i = j then f i + d else f i) n + (if n = j then f n + d else f n) * 2 ^ (b * n) = (rv b f n + f n * 2 ^ (b * n)) + d * 2 ^ (b * j)
    by_cases e : n = j
    · subst e
      rw [if_pos rfl, rv_congr (f := fun i => if i = n then f i + d else f i) (g := f) n (fun i hi => if_neg (by omega))]
      generalize (2 : Int) ^ (b * n) = w
      generalize rv b f n = u
      grind
    · rw [if_neg e, ih (by omega)]
      generalize (2 : Int) ^ (b * n) = w
      generalize (2 : Int) ^ (b * j) = w2
      generalize rv b f n = u
      grind
/-- carries over numbers -/
def cy (b : Nat) (f : Nat → Int) : Nat → Int
  | 0 => 0
  | i + 1 => (f i + cy b f i) / 2 ^ b
theorem cy_sum (b : Nat) (f : Nat → Int) : ∀ n, rv b (fun i => (f i + cy b f i) % 2 ^ b) n + cy b f n * 2 ^ (b * n) = rv b f n := by
  intro n
  induction n with
  | zero => show (0 : Int) + 0 * _ = 0; rw [Int.zero_mul]; rfl
  | succ n ih =>
    show rv b (fun i => (f i + cy b f i) % 2 ^ b) n + (f n + cy b f n) % 2 ^ b * 2 ^ (b * n) + (f n + cy b f n) / 2 ^ b * 2 ^ (b * (n + 1)) = rv b f n + f n * 2 ^ (b * n)
    have e := Int.emod_add_mul_ediv (f n + cy b f n) (2 ^ b)
    have e2 : (2 : Int) ^ (b * (n + 1)) = 2 ^ (b * n) * 2 ^ b := by rw [Nat.mul_add, Nat.mul_one, Int.pow_add]
    rw [e2]
    generalize rv b (fun i => (f i + cy b f i) % 2 ^ b) n = u at ih ⊢
    generalize cy b f n = z at ih e ⊢
    generalize rv b f n = R at ih ⊢
    generalize f n = x at e ⊢
    generalize (x + z) % 2 ^ b = r at e ⊢
    generalize (x + z) / 2 ^ b = q at e ⊢
    generalize (2 : Int) ^ b = w at e ⊢
    generalize (2 : Int) ^ (b * n) = v at ih ⊢
    clear e2
    grind
/-- how large a carry is -/
theorem cy_bd (b : Nat) (f : Nat → Int) (M : Int) (hb : 2 ≤ b) (hM : 0 ≤ M) : ∀ n, (∀ i, i < n → -M ≤ f i ∧ f i ≤ M) → -(2 * (M / 2 ^ b) + 2) ≤ cy b f n ∧ cy b f n ≤ 2 * (M / 2 ^ b) + 2 := by
  intro n
  have h2 : (4 : Int) ≤ 2 ^ b := by
    have : 2 ^ 2 ≤ 2 ^ b := Nat.pow_le_pow_right (by decide) hb
    have e : ((2 ^ b : Nat) : Int) = (2 : Int) ^ b := by rw [Int.natCast_pow]; rfl
    rw [← e]
    omega
  induction n with
  | zero =>
    intro _
    have : 0 ≤ M / 2 ^ b := Int.ediv_nonneg hM (by omega)
    show -(2 * (M / 2 ^ b) + 2) ≤ 0 ∧ 0 ≤ 2 * (M / 2 ^ b) + 2
    omega
  | succ n ih =>
    intro h
    have i1 := ih (fun i hi => h i (by omega))
    have i2 := h n (by omega)
    show -(2 * (M / 2 ^ b) + 2) ≤ (f n + cy b f n) / 2 ^ b ∧ (f n + cy b f n) / 2 ^ b ≤ 2 * (M / 2 ^ b) + 2
    generalize cy b f n = z at i1 ⊢
    generalize f n = x at i2 ⊢
    generalize (2 : Int) ^ b = w at h2 i1 ⊢
    have hw : 0 < w := by omega
    have e := Int.emod_add_mul_ediv M w
    have r1 := Int.emod_nonneg M (show w ≠ 0 by omega)
    have r2 := Int.emod_lt_of_pos M hw
    have hq : 0 ≤ M / w := Int.ediv_nonneg hM (by omega)
    generalize M / w = q at i1 e hq ⊢
    generalize M % w = r at e r1 r2
    have h5 : 4 * q ≤ w * q := Int.mul_le_mul_of_nonneg_right h2 hq
    refine ⟨?_, ?_⟩
    · refine (Int.le_ediv_iff_mul_le hw).mpr ?_
      have h4 : -(2 * q + 2) * w = -(2 * (w * q) + 2 * w) := by grind
      rw [h4]
      omega
    · refine Int.lt_add_one_iff.mp ((Int.ediv_lt_iff_lt_mul hw).mpr ?_)
      have h4 : (2 * q + 2 + 1) * w = 2 * (w * q) + 3 * w := by grind
      rw [h4]
      omega
end
