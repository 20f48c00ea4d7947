section
/-! THE FIELDS. Numbers modulo the two primes; what the law of the curves wants of them. -/
def fq (c : Bool) : Nat := nt_p c - 1
abbrev Zp (c : Bool) : Type := Fin (fq c + 1)
theorem fq_p (c : Bool) : fq c + 1 = nt_p c := by
  have := (nt_pp c).1.1
  unfold fq
  omega
/-- a number's class -/
def fz (c : Bool) (x : Int) : Zp c := @Int.cast (Zp c) Lean.Grind.Ring.intCast x
theorem fz_add (c : Bool) (x y : Int) : fz c (x + y) = fz c x + fz c y := Lean.Grind.Ring.intCast_add x y
theorem fz_sub (c : Bool) (x y : Int) : fz c (x - y) = fz c x - fz c y := Lean.Grind.Ring.intCast_sub x y
theorem fz_neg (c : Bool) (x : Int) : fz c (-x) = -fz c x := Lean.Grind.Ring.intCast_neg x
theorem fz_mul (c : Bool) (x y : Int) : fz c (x * y) = fz c x * fz c y := Lean.Grind.Ring.intCast_mul x y
theorem fz_pow (c : Bool) (x : Int) (n : Nat) : fz c (x ^ n) = fz c x ^ n := Lean.Grind.Ring.intCast_pow x n
theorem fz_0 (c : Bool) : fz c 0 = 0 := Lean.Grind.Ring.intCast_zero
theorem fz_1 (c : Bool) : fz c 1 = 1 := Lean.Grind.Ring.intCast_one
theorem fz_eq (c : Bool) (x y : Int) : fz c x = fz c y ↔ x % (nt_p c : Int) = y % (nt_p c : Int) := by
  rw [← fq_p]
  exact Lean.Grind.IsCharP.intCast_ext_iff (α := Zp c) (fq c + 1)
theorem fz_val {c : Bool} (u : Zp c) : fz c (u.val : Int) = u := by
  have h := Lean.Grind.Ring.intCast_natCast (α := Zp c) u.val
  refine h.trans ?_
  exact Fin.ext (Nat.mod_eq_of_lt u.isLt)
theorem fz_lt {c : Bool} (u : Zp c) : u.val < nt_p c := by
  have h := u.isLt
  have := fq_p c
  omega
theorem fz_vl (c : Bool) (x : Int) : ((fz c x).val : Int) = x % (nt_p c : Int) := by
  have h := (fz_eq c _ _).1 (fz_val (fz c x))
  have h2 := fz_lt (fz c x)
  rw [← h]
  exact (Int.emod_eq_of_lt (Int.natCast_nonneg _) (by omega)).symm
theorem fp_two (c : Bool) : 2 < nt_p c := by
  cases c
  · rw [nt_p0]; decide
  · rw [nt_p1]; decide
theorem fz_ne {c : Bool} {x y : Nat} (hx : x < nt_p c) (hy : y < nt_p c) (h : x ≠ y) : fz c (x : Int) ≠ fz c (y : Int) := by
  intro e
  have e2 := (fz_eq c _ _).1 e
  rw [Int.emod_eq_of_lt (Int.natCast_nonneg _) (by omega), Int.emod_eq_of_lt (Int.natCast_nonneg _) (by omega)] at e2
  exact h (by omega)
theorem fz_nat {c : Bool} {x y : Nat} (h : x % nt_p c = y % nt_p c) : fz c (x : Int) = fz c (y : Int) := by
  refine (fz_eq c _ _).2 ?_
  rw [← Int.natCast_emod, ← Int.natCast_emod, h]
theorem fp_10 (c : Bool) : (1 : Zp c) ≠ 0 := by
  have h := fz_ne (c := c) (x := 1) (y := 0) (by have := fp_two c; omega) (by have := fp_two c; omega) (by decide)
  intro e
  refine h ?_
  show fz c 1 = fz c 0
  rw [fz_1, fz_0]
  exact e
theorem fp_20 (c : Bool) : (1 : Zp c) + 1 ≠ 0 := by
  have h := fz_ne (c := c) (x := 2) (y := 0) (by have := fp_two c; omega) (by have := fp_two c; omega) (by decide)
  intro e
  refine h ?_
  show fz c (1 + 1) = fz c 0
  rw [fz_add, fz_1, fz_0]
  exact e
theorem fp_fermat {c : Bool} {u : Zp c} (hu : u ≠ 0) : u ^ (nt_p c - 1) = 1 := by
  have h0 : 0 < u.val := by
    rcases Nat.eq_zero_or_pos u.val with z | z
    · refine absurd ?_ hu
      rw [← fz_val u, z]
      exact fz_0 c
    · exact z
  have hF := (nt_pp c).2 u.val h0 (fz_lt u)
  have h1 : fz c ((u.val ^ (nt_p c - 1) : Nat) : Int) = fz c ((1 : Nat) : Int) := fz_nat (by rw [hF]; exact (Nat.mod_eq_of_lt (nt_pp c).1.1).symm)
  rw [Int.natCast_pow, fz_pow, fz_val] at h1
  exact h1.trans (fz_1 c)
/-- the inverse -/
def fp_iv (c : Bool) (u : Zp c) : Zp c := u ^ (nt_p c - 2)
theorem fp_inv {c : Bool} {u : Zp c} (hu : u ≠ 0) : u * fp_iv c u = 1 := by
  have h := fp_fermat hu
  have := fp_two c
  rw [show nt_p c - 1 = (nt_p c - 2) + 1 from by omega, Lean.Grind.Semiring.pow_succ] at h
  unfold fp_iv
  rw [Lean.Grind.CommSemiring.mul_comm]
  exact h
theorem fp_nzd {c : Bool} (u v : Zp c) (h : u * v = 0) : u = 0 ∨ v = 0 := by
  by_cases hu : u = 0
  · exact Or.inl hu
  · refine Or.inr ?_
    have h1 := fp_inv hu
    have e : v = (u * fp_iv c u) * v := by rw [h1, Lean.Grind.Semiring.one_mul]
    rw [e, Lean.Grind.CommSemiring.mul_comm u, Lean.Grind.Semiring.mul_assoc, h, Lean.Grind.Semiring.mul_zero]
/-- a, d and a root of a, of the two curves -/
def fp_a (c : Bool) : Zp c := fz c (if c then 1 else -1)
def fp_d (c : Bool) : Zp c := fz c (if c then -39081 else 37095705934669439343138083508754565189542113879843219016388785533085940283555)
def fp_i (c : Bool) : Zp c := fz c (if c then 1 else 19681161376707505956807079304988542015446066515923890162744021073123829784752)
theorem fp_ia (c : Bool) : fp_i c * fp_i c = fp_a c := by
  unfold fp_i fp_a
  rw [← fz_mul]
  refine (fz_eq c _ _).2 ?_
  cases c
  · rw [nt_p0]; decide +kernel
  · rw [nt_p1]; decide +kernel
theorem fp_a0 (c : Bool) : fp_a c ≠ 0 := by
  intro h
  have h2 := (fz_eq c _ _).1 (h.trans (fz_0 c).symm)
  cases c
  · rw [nt_p0] at h2; exact absurd h2 (by decide +kernel)
  · rw [nt_p1] at h2; exact absurd h2 (by decide +kernel)
theorem fp_pow_mul {c : Bool} (u : Zp c) (m n : Nat) : u ^ (m * n) = (u ^ m) ^ n := by
  induction n with
  | zero => rw [Nat.mul_zero, Lean.Grind.Semiring.pow_zero, Lean.Grind.Semiring.pow_zero]
  | succ n ih => rw [Nat.mul_succ, Lean.Grind.Semiring.pow_add, ih, Lean.Grind.Semiring.pow_succ]
/-- Euler: no square -/
theorem fp_euler {c : Bool} {x : Nat} (he : nt_pm (nt_p c) 512 x ((nt_p c - 1) / 2) = nt_p c - 1) (hl : (nt_p c - 1) / 2 < 2 ^ 512) (h2 : (nt_p c - 1) / 2 * 2 = nt_p c - 1) (s : Zp c) : s * s ≠ fz c (x : Int) := by
  intro h
  rw [nt_pm_eq _ _ _ _ hl] at he
  have h1 : fz c ((x ^ ((nt_p c - 1) / 2) : Nat) : Int) = fz c ((nt_p c - 1 : Nat) : Int) := fz_nat (by rw [he]; exact (Nat.mod_eq_of_lt (by have := fp_two c; omega)).symm)
  rw [Int.natCast_pow, fz_pow, ← h] at h1
  have h3 : (s * s) ^ ((nt_p c - 1) / 2) = s ^ (nt_p c - 1) := by
    have : s * s = s ^ 2 := by rw [Lean.Grind.Semiring.pow_succ, Lean.Grind.Semiring.pow_succ, Lean.Grind.Semiring.pow_zero, Lean.Grind.Semiring.one_mul]
    rw [this, ← fp_pow_mul, Nat.mul_comm, h2]
  rw [h3] at h1
  by_cases hs : s = 0
  · have : s ^ (nt_p c - 1) = 0 := by
      rw [hs, show nt_p c - 1 = (nt_p c - 2) + 1 from by have := fp_two c; omega, Lean.Grind.Semiring.pow_succ, Lean.Grind.Semiring.mul_zero]
    rw [this, ← fz_0] at h1
    exact fz_ne (c := c) (x := 0) (y := nt_p c - 1) (by have := fp_two c; omega) (by have := fp_two c; omega) (by have := fp_two c; omega) h1
  · rw [fp_fermat hs, ← fz_1] at h1
    exact fz_ne (c := c) (x := 1) (y := nt_p c - 1) (by have := fp_two c; omega) (by have := fp_two c; omega) (by have := fp_two c; omega) h1
theorem fp_dn (c : Bool) (s : Zp c) : s * s ≠ fp_d c := by
  cases c
  · show s * s ≠ fz false ((37095705934669439343138083508754565189542113879843219016388785533085940283555 : Nat) : Int)
    exact fp_euler (by rw [nt_p0]; decide +kernel) (by rw [nt_p0]; decide +kernel) (by rw [nt_p0]) s
  · have e : fp_d true = fz true ((726838724295606890549323807888004534353641360687318060281490199180612328166730772686396383698676545930088884461843637361053498018326358 : Nat) : Int) := (fz_eq _ _ _).2 (by rw [nt_p1]; decide +kernel)
    rw [e]
    exact fp_euler (by rw [nt_p1]; decide +kernel) (by rw [nt_p1]; decide +kernel) (by rw [nt_p1]) s
theorem fp_K (c : Bool) : ed_K (fp_a c) (fp_d c) (fp_i c) (fp_iv c) := ⟨fp_nzd, fun _ h => fp_inv h, ⟨fp_10 c, fp_20 c⟩, ⟨fp_ia c, fp_a0 c⟩, fp_dn c⟩
end
