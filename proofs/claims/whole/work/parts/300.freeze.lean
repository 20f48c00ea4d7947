section
/-! FREEZE: the one number below the prime. -/
theorem rv_nn (b : Nat) (m : Nat → Int) : ∀ n, (∀ i, i < n → 0 ≤ m i ∧ m i < 2 ^ b) → 0 ≤ rv b m n ∧ rv b m n < 2 ^ (b * n) := by
  intro n
  induction n with
  | zero => intro _; show (0 : Int) ≤ 0 ∧ (0 : Int) < 2 ^ (b * 0); rw [Nat.mul_zero]; decide
  | succ n ih =>
    intro h
    have i1 := ih (fun i hi => h i (by omega))
    have i2 := h n (by omega)
    show 0 ≤ rv b m n + m n * 2 ^ (b * n) ∧ rv b m n + m n * 2 ^ (b * n) < 2 ^ (b * (n + 1))
    rw [show b * (n + 1) = b * n + b from by rw [Nat.mul_add, Nat.mul_one], Int.pow_add]
    have hP : (0 : Int) < 2 ^ (b * n) := Int.pow_pos (by decide)
    generalize (2 : Int) ^ (b * n) = P at *
    generalize (2 : Int) ^ b = W at *
    generalize rv b m n = A at *
    generalize m n = x at *
    have a1 : 0 ≤ x * P := Int.mul_nonneg i2.1 (by omega)
    have a2 : (x + 1) * P ≤ W * P := Int.mul_le_mul_of_nonneg_right (by omega) (by omega)
    rw [Int.add_mul, Int.one_mul, Int.mul_comm W P] at a2
    omega
/-- limbs in their bits: the number is below the top -/
theorem rv_range (c : Bool) (m : Nat → Int) (h : ∀ i, i < fL c → 0 ≤ m i ∧ m i < 2 ^ fw c i) : 0 ≤ rv (fb c) m (fL c) ∧ rv (fb c) m (fL c) < 2 ^ (fb c * (fL c - 1) + ft c) := by
  have hL := fL_le c
  have h1 := rv_nn (fb c) m (fL c - 1) (fun i hi => by have := h i (by omega); rw [fw_lo c i hi] at this; exact this)
  have h2 := h (fL c - 1) (by omega)
  rw [fw_hi c] at h2
  rw [rv_top (fb c) m (fL c) (by omega), Int.pow_add]
  have hP : (0 : Int) < 2 ^ (fb c * (fL c - 1)) := Int.pow_pos (by decide)
  generalize (2 : Int) ^ (fb c * (fL c - 1)) = P at *
  generalize (2 : Int) ^ ft c = W at *
  generalize rv (fb c) m (fL c - 1) = A at *
  generalize m (fL c - 1) = x at *
  have a1 : 0 ≤ x * P := Int.mul_nonneg h2.1 (by omega)
  have a2 : (x + 1) * P ≤ W * P := Int.mul_le_mul_of_nonneg_right (by omega) (by omega)
  rw [Int.add_mul, Int.one_mul, Int.mul_comm W P] at a2
  omega
/-- the prime's limbs -/
def pl (c : Bool) (i : Nat) : Int := 2 ^ fw c i - 1 - (if c then (if i = 8 then 1 else 0) else (if i = 0 then 18 else 0))
theorem pl_val (c : Bool) : rv (fb c) (pl c) (fL c) = (nt_p c : Int) := by
  cases c
  · rw [nt_p0]; decide +kernel
  · rw [nt_p1]; decide +kernel
theorem pl_bd (c : Bool) (i : Nat) : 2 ^ fw c i - 19 ≤ pl c i ∧ pl c i < 2 ^ fw c i := by
  unfold pl
  (repeat' split) <;> omega
/-- a number of limbs in order is not far below 0 -/
theorem rv_low (c : Bool) (f : Nat → Int) (h : fok c f) : -(nt_p c : Int) < fvl c f := by
  have e : ∀ n, n ≤ fL c → rv (fb c) (fun _ => -63) n ≤ rv (fb c) f n := by
    intro n
    induction n with
    | zero => intro _; exact Int.le_refl _
    | succ n ih =>
      intro hn
      have i1 := ih (by omega)
      have h1 := h n (by omega)
      show rv (fb c) (fun _ => -63) n + -63 * 2 ^ (fb c * n) ≤ rv (fb c) f n + f n * 2 ^ (fb c * n)
      have hP : (0 : Int) < 2 ^ (fb c * n) := Int.pow_pos (by decide)
      have := Int.mul_le_mul_of_nonneg_right (show -63 ≤ f n by omega) (show 0 ≤ (2 : Int) ^ (fb c * n) by omega)
      omega
  have h1 := e (fL c) (Nat.le_refl _)
  have h2 : -(nt_p c : Int) < rv (fb c) (fun _ => -63) (fL c) := by
    cases c
    · rw [nt_p0]; decide +kernel
    · rw [nt_p1]; decide +kernel
  unfold fvl
  omega
/-- three carries: all limbs in their bits -/
theorem carry3 (c : Bool) (t : Nat) (S : StT) (h : ∀ i, i < fL c → -128 ≤ ri S.2.1 t i ∧ ri S.2.1 t i ≤ 2 * 2 ^ fw c i + 128) (hv : 0 ≤ fvl c (ri S.2.1 t)) :
    (∀ i, i < fL c → 0 ≤ ri (carry_f c t t (carry_f c t t (carry_f c t t S))).2.1 t i ∧ ri (carry_f c t t (carry_f c t t (carry_f c t t S))).2.1 t i < 2 ^ fw c i) ∧ fz c (fvl c (ri (carry_f c t t (carry_f c t t (carry_f c t t S))).2.1 t)) = fz c (fvl c (ri S.2.1 t)) ∧ ∀ r, r ≠ t → (carry_f c t t (carry_f c t t (carry_f c t t S))).2.1 r = S.2.1 r := by
  have hL := fL_le c
  have hpf := pw_fb c
  have hpt := pw_ft c
  have hT : (0 : Int) < 2 ^ (fb c * (fL c - 1) + ft c) := Int.pow_pos (by decide)
  have hpp : (2 : Int) ^ (fb c * (fL c - 1) + ft c) ≤ 2 * (nt_p c : Int) - 4 * rv (fb c) (fa c) (fL c) ∧ 0 < rv (fb c) (fa c) (fL c) := by
    cases c
    · rw [nt_p0]; decide +kernel
    · rw [nt_p1]; decide +kernel
  have hfa := rv_fa c
  obtain ⟨m1, u1, hu1, hm1, hs1, hg1, hr1⟩ := carry_s c t t S 1 3 1 3 (by decide) (by decide) (by decide) (by decide) (by decide) (by decide)
    (fun i hi => by have := h i (by omega); rw [fw_lo c i hi] at this; omega)
    (by have := h (fL c - 1) (by omega); rw [fw_hi c] at this; omega)
  have v1 := val_of hs1 hg1
  have r1 := rv_range c m1 hm1
  have hs1' : rv (fb c) m1 (fL c) + u1 * 2 ^ (fb c * (fL c - 1) + ft c) = fvl c (ri S.2.1 t) := hs1
  have hu1' : 0 ≤ u1 := by
    refine Decidable.byContradiction (fun q => ?_)
    have : u1 * 2 ^ (fb c * (fL c - 1) + ft c) ≤ -1 * 2 ^ (fb c * (fL c - 1) + ft c) := Int.mul_le_mul_of_nonneg_right (by omega) (by omega)
    omega
  have b1 : ∀ i, i < fL c → 0 ≤ ri (carry_f c t t S).2.1 t i ∧ ri (carry_f c t t S).2.1 t i ≤ 2 ^ fw c i + 57 := by
    intro i hi
    rw [hg1 i hi]
    have h1 := hm1 i hi
    have h2 := fa_bd c i
    have q1 : 0 ≤ u1 * fa c i := Int.mul_nonneg hu1' h2.1
    have q2 : u1 * fa c i ≤ 3 * fa c i := Int.mul_le_mul_of_nonneg_right hu1.2 h2.1
    omega
  obtain ⟨m2, u2, hu2, hm2, hs2, hg2, hr2⟩ := carry_s c t t (carry_f c t t S) 1 1 1 1 (by decide) (by decide) (by decide) (by decide) (by decide) (by decide)
    (fun i hi => by have := b1 i (by omega); rw [fw_lo c i hi] at this; omega)
    (by have := b1 (fL c - 1) (by omega); rw [fw_hi c] at this; omega)
  have v2 := val_of hs2 hg2
  have r2 := rv_range c m2 hm2
  have hs2' : rv (fb c) m2 (fL c) + u2 * 2 ^ (fb c * (fL c - 1) + ft c) = fvl c (ri (carry_f c t t S).2.1 t) := hs2
  have e1 : fvl c (ri (carry_f c t t S).2.1 t) = rv (fb c) m1 (fL c) + u1 * rv (fb c) (fa c) (fL c) := by
    unfold fvl
    rw [rv_congr (g := fun i => m1 i + u1 * fa c i) (fL c) hg1, rv_add, rv_smul]
  have e2 : fvl c (ri (carry_f c t t (carry_f c t t S)).2.1 t) = rv (fb c) m2 (fL c) + u2 * rv (fb c) (fa c) (fL c) := by
    unfold fvl
    rw [rv_congr (g := fun i => m2 i + u2 * fa c i) (fL c) hg2, rv_add, rv_smul]
  have q1 : 0 ≤ u1 * rv (fb c) (fa c) (fL c) := Int.mul_nonneg hu1' (by omega)
  have q2 : u1 * rv (fb c) (fa c) (fL c) ≤ 3 * rv (fb c) (fa c) (fL c) := Int.mul_le_mul_of_nonneg_right hu1.2 (by omega)
  have hu2' : 0 ≤ u2 := by
    refine Decidable.byContradiction (fun q => ?_)
    have : u2 * 2 ^ (fb c * (fL c - 1) + ft c) ≤ -1 * 2 ^ (fb c * (fL c - 1) + ft c) := Int.mul_le_mul_of_nonneg_right (by omega) (by omega)
    omega
  have w2 : 0 ≤ fvl c (ri (carry_f c t t (carry_f c t t S)).2.1 t) ∧ fvl c (ri (carry_f c t t (carry_f c t t S)).2.1 t) < 2 ^ (fb c * (fL c - 1) + ft c) := by
    rw [e2]
    by_cases z : u2 = 0
    · rw [z, Int.zero_mul]; omega
    · have z1 : u2 = 1 := by omega
      rw [z1, Int.one_mul] at hs2'
      rw [z1, Int.one_mul]
      omega
  have b2 : ∀ i, i < fL c → 0 ≤ ri (carry_f c t t (carry_f c t t S)).2.1 t i ∧ ri (carry_f c t t (carry_f c t t S)).2.1 t i ≤ 2 ^ fw c i + 19 := by
    intro i hi
    rw [hg2 i hi]
    have h1 := hm2 i hi
    have h2 := fa_bd c i
    have q1 : 0 ≤ u2 * fa c i := Int.mul_nonneg hu2' h2.1
    have q2 : u2 * fa c i ≤ 1 * fa c i := Int.mul_le_mul_of_nonneg_right hu2.2 h2.1
    omega
  obtain ⟨m3, u3, hu3, hm3, hs3, hg3, hr3⟩ := carry_s c t t (carry_f c t t (carry_f c t t S)) 1 1 1 1 (by decide) (by decide) (by decide) (by decide) (by decide) (by decide)
    (fun i hi => by have := b2 i (by omega); rw [fw_lo c i hi] at this; omega)
    (by have := b2 (fL c - 1) (by omega); rw [fw_hi c] at this; omega)
  have v3 := val_of hs3 hg3
  have r3 := rv_range c m3 hm3
  have hs3' : rv (fb c) m3 (fL c) + u3 * 2 ^ (fb c * (fL c - 1) + ft c) = fvl c (ri (carry_f c t t (carry_f c t t S)).2.1 t) := hs3
  have hu3' : u3 = 0 := by
    by_cases z : u3 = 0
    · exact z
    · rcases (show u3 = 1 ∨ u3 = -1 by omega) with e | e
      · rw [e, Int.one_mul] at hs3'; omega
      · rw [e] at hs3'; omega
  refine ⟨fun i hi => ?_, (fz_of v3).trans ((fz_of v2).trans (fz_of v1)), fun r hr => (hr3 r hr).trans ((hr2 r hr).trans (hr1 r hr))⟩
  rw [hg3 i hi, hu3', Int.zero_mul, Int.add_zero]
  exact hm3 i hi
end
