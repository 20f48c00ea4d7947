section
/-! POWERS in the class's field: the root's, the inverse. -/
theorem zp_add {c : Bool} (u : Zp c) (m n : Nat) : u ^ m * u ^ n = u ^ (m + n) := (Lean.Grind.Semiring.pow_add u m n).symm
theorem zp_one {c : Bool} (u : Zp c) : u ^ 1 = u := by rw [Lean.Grind.Semiring.pow_succ, Lean.Grind.Semiring.pow_zero, Lean.Grind.Semiring.one_mul]
theorem zp_sq {c : Bool} (u : Zp c) (m : Nat) : u ^ m * u ^ m = u ^ (2 * m) := by rw [zp_add]; congr 1; omega
theorem zp_x {c : Bool} (u : Zp c) (m : Nat) : u ^ m * u = u ^ (m + 1) := (Lean.Grind.Semiring.pow_succ u m).symm
/-- squaring again and again -/
theorem sq_again (c : Bool) (o : Nat) (lp : Nat → Nat → Nat → Int64) (S : StT) (h0 : lp 0 = S.2.1) (hs : ∀ i, lp (i + 1) = (sqr_f c o (o + 6) (o + 6) (S.1, lp i, S.2.2)).2.1) (hk : FK c S.2.1 (o + 6)) :
    ∀ n, FK c (lp n) (o + 6) ∧ FV c (lp n) (o + 6) = FV c S.2.1 (o + 6) ^ (2 ^ n) ∧ ∀ r, r ≠ o + 6 → r ≠ o + 3 → lp n r = S.2.1 r := by
  intro n
  induction n with
  | zero =>
    rw [h0]
    exact ⟨hk, (zp_one _).symm, fun _ _ _ => rfl⟩
  | succ n ih =>
    obtain ⟨h1, h2, h3⟩ := ih
    obtain ⟨q1, q2, q3⟩ := sqr_s c o (o + 6) (o + 6) (S.1, lp n, S.2.2) (by omega) h1
    rw [hs n]
    refine ⟨q1, q2.trans ?_, fun r e1 e2 => (q3 r e1 e2).trans (h3 r e1 e2)⟩
    show FV c (lp n) (o + 6) * FV c (lp n) (o + 6) = _
    rw [h2, zp_sq]
    congr 1
    rw [Nat.pow_succ]
    omega
theorem two_run (n : Nat) : 2 * (2 ^ n - 1) + 1 = 2 ^ (n + 1) - 1 := by
  have := Nat.two_pow_pos n
  rw [Nat.pow_succ]
  omega
theorem run_run (n : Nat) : (2 ^ n - 1) * 2 ^ n + (2 ^ n - 1) = 2 ^ (n * 2) - 1 := by
  have h := Nat.two_pow_pos n
  rw [show n * 2 = n + n from by omega, Nat.pow_add]
  generalize 2 ^ n = w at *
  have e : (w - 1) * w + w = w * w := by
    have : (w - 1) * w + w = (w - 1 + 1) * w := by rw [Nat.add_mul, Nat.one_mul]
    rw [this, Nat.sub_add_cancel h]
  omega
theorem root_lp (c : Bool) (o a : Nat) (S : StT) (h3 : a ≠ o + 3) (h6 : a ≠ o + 6) (h7 : a ≠ o + 7) (ha : FK c S.2.1 a) (hk : FK c S.2.1 (o + 6)) (he : FV c S.2.1 (o + 6) = FV c S.2.1 a) :
    ∀ i, i ≤ 7 → FK c (froot_l33 c o a S i) (o + 6) ∧ FV c (froot_l33 c o a S i) (o + 6) = FV c S.2.1 a ^ (2 ^ (rgN c / 2 ^ (7 - i)) - 1) ∧ ∀ r, r ≠ o + 3 → r ≠ o + 6 → r ≠ o + 7 → froot_l33 c o a S i r = S.2.1 r := by
  intro i
  induction i with
  | zero =>
    intro _
    refine ⟨hk, he.trans ?_, fun _ _ _ _ => rfl⟩
    have e : rgN c / 2 ^ (7 - 0) = 1 := by cases c <;> decide
    rw [e]
    exact (zp_one _).symm
  | succ i ih =>
    intro hi
    obtain ⟨i1, i2, i3⟩ := ih (by omega)
    generalize hy : froot_l33 c o a S i = y at i1 i2 i3
    obtain ⟨k1, k2, k3⟩ := copy_s c (o + 7) (o + 6) (S.1, y, S.2.2) i1
    generalize hS12 : fcopy_f c (o + 7) (o + 6) (S.1, y, S.2.2) = S12 at k1 k2 k3
    have k6 : FK c S12.2.1 (o + 6) := FK_row (k3 (o + 6) (by omega)) i1
    obtain ⟨s1, s2, s3⟩ := sq_again c o (froot_l53 c o (S.1, S12.2.1, S.2.2)) (S.1, S12.2.1, S.2.2) rfl (fun _ => rfl) k6 (rgN c / 2 ^ (7 - i))
    generalize hL : froot_l53 c o (S.1, S12.2.1, S.2.2) (rgN c / 2 ^ (7 - i)) = J at s1 s2 s3
    have k7 : FK c J (o + 7) := FK_row (s3 (o + 7) (by omega) (by omega)) k1
    obtain ⟨m1, m2, m3⟩ := mul_s c o (o + 6) (o + 6) (o + 7) (S.1, J, S.2.2) (by omega) (by omega) s1 k7
    generalize hS13 : mul_f c o (o + 6) (o + 6) (o + 7) (S.1, J, S.2.2) = S13 at m1 m2 m3
    have v6 : FV c S12.2.1 (o + 6) = FV c S.2.1 a ^ (2 ^ (rgN c / 2 ^ (7 - i)) - 1) := (FV_row (k3 (o + 6) (by omega))).trans i2
    have v7 : FV c J (o + 7) = FV c S.2.1 a ^ (2 ^ (rgN c / 2 ^ (7 - i)) - 1) := (FV_row (s3 (o + 7) (by omega) (by omega))).trans (k2.trans i2)
    have vm : FV c S13.2.1 (o + 6) = FV c S.2.1 a ^ (2 ^ (rgN c / 2 ^ (7 - i) * 2) - 1) := by
      refine m2.trans ?_
      show FV c J (o + 6) * FV c J (o + 7) = _
      rw [s2, v7]
      show FV c S12.2.1 (o + 6) ^ _ * _ = _
      rw [v6, ← fp_pow_mul, zp_add, run_run]
    have fr : ∀ r, r ≠ o + 3 → r ≠ o + 6 → r ≠ o + 7 → S13.2.1 r = S.2.1 r := fun r e1 e2 e3 => (m3 r e2 e1).trans ((s3 r e2 e1).trans ((k3 r e3).trans (i3 r e1 e2 e3)))
    have en : froot_l33 c o a S (i + 1) = (if (((nI (rgN c)) >>> ((nI (7 - 1 - i)) &&& 31)) &&& (nI (1))) ≠ (nI (1)) then S13.2.1 else (mul_f c o (o + 6) (o + 6) a (S.1, (sqr_f c o (o + 6) (o + 6) (S.1, S13.2.1, S.2.2)).2.1, S.2.2)).2.1) := by
      rw [← hS13, ← hL, ← hS12, ← hy]
      rfl
    rw [en]
    by_cases q : (((nI (rgN c)) >>> ((nI (7 - 1 - i)) &&& 31)) &&& (nI (1))) ≠ (nI (1))
    · rw [if_pos q, ← rg_0 c i (by omega) q]
      exact ⟨m1, vm, fr⟩
    · rw [if_neg q, ← rg_1 c i (by omega) (Decidable.byContradiction q)]
      obtain ⟨t1, t2, t3⟩ := sqr_s c o (o + 6) (o + 6) (S.1, S13.2.1, S.2.2) (by omega) m1
      generalize sqr_f c o (o + 6) (o + 6) (S.1, S13.2.1, S.2.2) = S15 at t1 t2 t3
      have ra : S15.2.1 a = S.2.1 a := (t3 a h6 h3).trans (fr a h3 h6 h7)
      obtain ⟨w1, w2, w3⟩ := mul_s c o (o + 6) (o + 6) a (S.1, S15.2.1, S.2.2) (by omega) h3 t1 (FK_row ra ha)
      refine ⟨w1, w2.trans ?_, fun r e1 e2 e3 => (w3 r e2 e1).trans ((t3 r e2 e1).trans (fr r e1 e2 e3))⟩
      show FV c S15.2.1 (o + 6) * FV c S15.2.1 a = _
      rw [t2, FV_row ra]
      show FV c S13.2.1 (o + 6) * FV c S13.2.1 (o + 6) * _ = _
      rw [vm, zp_sq, zp_x, two_run]
/-- the exponent of a root -/
def rE (c : Bool) : Nat := if c then 2 ^ 446 - 2 ^ 222 - 1 else 2 ^ 252 - 3
theorem root_s (c : Bool) (o to a : Nat) (S : StT) (h3 : a ≠ o + 3) (h6 : a ≠ o + 6) (h7 : a ≠ o + 7) (ha : FK c S.2.1 a) :
    FK c (froot_f c o to a S).2.1 to ∧ FV c (froot_f c o to a S).2.1 to = FV c S.2.1 a ^ rE c ∧ ∀ r, r ≠ to → r ≠ o + 3 → r ≠ o + 6 → r ≠ o + 7 → (froot_f c o to a S).2.1 r = S.2.1 r := by
  obtain ⟨k1, k2, k3⟩ := copy_s c (o + 6) a S ha
  generalize hS2 : fcopy_f c (o + 6) a S = S2 at k1 k2 k3
  have ra2 : S2.2.1 a = S.2.1 a := k3 a h6
  obtain ⟨l1, l2, l3⟩ := root_lp c o a (S.1, S2.2.1, S.2.2) h3 h6 h7 (FK_row ra2 ha) k1 (k2.trans (FV_row ra2).symm) 7 (Nat.le_refl _)
  generalize hJ : froot_l33 c o a (S.1, S2.2.1, S.2.2) 7 = J at l1 l2 l3
  have vJ : FV c J (o + 6) = FV c S.2.1 a ^ (2 ^ rgN c - 1) := by
    refine l2.trans ?_
    show FV c S2.2.1 a ^ (2 ^ (rgN c / 2 ^ (7 - 7)) - 1) = _
    rw [FV_row ra2, Nat.sub_self, Nat.pow_zero, Nat.div_one]
  have raJ : J a = S.2.1 a := (l3 a h3 h6 h7).trans ra2
  obtain ⟨n1, n2, n3⟩ := copy_s c (o + 7) a (S.1, J, S.2.2) (FK_row raJ ha)
  generalize hS3 : fcopy_f c (o + 7) a (S.1, J, S.2.2) = S3 at n1 n2 n3
  have k6 : FK c S3.2.1 (o + 6) := FK_row (n3 (o + 6) (by omega)) l1
  have v6 : FV c S3.2.1 (o + 6) = FV c S.2.1 a ^ (2 ^ rgN c - 1) := (FV_row (n3 (o + 6) (by omega))).trans vJ
  have v7 : FV c S3.2.1 (o + 7) = FV c S.2.1 a := n2.trans (FV_row raJ)
  have ra3 : S3.2.1 a = S.2.1 a := (n3 a h7).trans raJ
  have fr : ∀ r, r ≠ o + 3 → r ≠ o + 6 → r ≠ o + 7 → S3.2.1 r = S.2.1 r := fun r e1 e2 e3 => (n3 r e3).trans ((l3 r e1 e2 e3).trans (k3 r e2))
  obtain ⟨S8, hS8⟩ : ∃ S8 : StT, S8 = (if (bI c) = 0 then (S.1, S3.2.1, S.2.2) else (S.1, (mul_f c o (o + 6) (o + 6) a (S.1, (sqr_f c o (o + 6) (o + 6) (S.1, (fcopy_f c (o + 7) (o + 6) (S.1, S3.2.1, S.2.2)).2.1, S.2.2)).2.1, S.2.2)).2.1, S.2.2)) := ⟨_, rfl⟩
  have en : (froot_f c o to a S).2.1 = (mul_f c o to (o + 6) (o + 7) (S8.1, froot_l216 c o (S8.1, S8.2.1, S.2.2) (rhN c), S.2.2)).2.1 := by
    rw [hS8, ← hS3, ← hJ, ← hS2]
    rfl
  have h8 : FK c S8.2.1 (o + 6) ∧ FK c S8.2.1 (o + 7) ∧ (c = false → FV c S8.2.1 (o + 6) = FV c S.2.1 a ^ (2 ^ 250 - 1) ∧ FV c S8.2.1 (o + 7) = FV c S.2.1 a ^ 1) ∧ (c = true → FV c S8.2.1 (o + 6) = FV c S.2.1 a ^ (2 ^ 223 - 1) ∧ FV c S8.2.1 (o + 7) = FV c S.2.1 a ^ (2 ^ 222 - 1)) ∧ ∀ r, r ≠ o + 3 → r ≠ o + 6 → r ≠ o + 7 → S8.2.1 r = S.2.1 r := by
    cases c with
    | false =>
      rw [hS8]
      exact ⟨k6, n1, fun _ => ⟨v6, v7.trans (zp_one _).symm⟩, fun q => absurd q (by decide), fr⟩
    | true =>
      obtain ⟨a1, a2, a3⟩ := copy_s true (o + 7) (o + 6) (S.1, S3.2.1, S.2.2) k6
      generalize hS5 : fcopy_f true (o + 7) (o + 6) (S.1, S3.2.1, S.2.2) = S5 at a1 a2 a3 hS8
      obtain ⟨b1, b2, b3⟩ := sqr_s true o (o + 6) (o + 6) (S.1, S5.2.1, S.2.2) (by omega) (FK_row (a3 (o + 6) (by omega)) k6)
      generalize hS6 : sqr_f true o (o + 6) (o + 6) (S.1, S5.2.1, S.2.2) = S6 at b1 b2 b3 hS8
      have ra6 : S6.2.1 a = S.2.1 a := (b3 a h6 h3).trans ((a3 a h7).trans ra3)
      obtain ⟨d1, d2, d3⟩ := mul_s true o (o + 6) (o + 6) a (S.1, S6.2.1, S.2.2) (by omega) h3 b1 (FK_row ra6 ha)
      generalize hS7 : mul_f true o (o + 6) (o + 6) a (S.1, S6.2.1, S.2.2) = S7 at d1 d2 d3 hS8
      have e8 : S8 = (S.1, S7.2.1, S.2.2) := hS8
      rw [e8]
      have r7 : S7.2.1 (o + 7) = S5.2.1 (o + 7) := (d3 (o + 7) (by omega) (by omega)).trans (b3 (o + 7) (by omega) (by omega))
      refine ⟨d1, FK_row r7 a1, fun q => absurd q (by decide), fun _ => ⟨d2.trans ?_, (FV_row r7).trans (a2.trans v6)⟩, fun r e1 e2 e3 => (d3 r e2 e1).trans ((b3 r e2 e1).trans ((a3 r e3).trans (fr r e1 e2 e3)))⟩
      show FV true S6.2.1 (o + 6) * FV true S6.2.1 a = _
      rw [b2, FV_row ra6]
      show FV true S5.2.1 (o + 6) * FV true S5.2.1 (o + 6) * _ = _
      rw [FV_row (a3 (o + 6) (by omega))]
      show FV true S3.2.1 (o + 6) * FV true S3.2.1 (o + 6) * _ = _
      rw [v6, zp_sq, zp_x, two_run]
      rfl
  obtain ⟨g1, g2, g3, g4, g5⟩ := h8
  obtain ⟨s1, s2, s3⟩ := sq_again c o (froot_l216 c o (S8.1, S8.2.1, S.2.2)) (S8.1, S8.2.1, S.2.2) rfl (fun _ => rfl) g1 (rhN c)
  generalize hK : froot_l216 c o (S8.1, S8.2.1, S.2.2) (rhN c) = K at s1 s2 s3 en
  have r7 : K (o + 7) = S8.2.1 (o + 7) := s3 (o + 7) (by omega) (by omega)
  obtain ⟨m1, m2, m3⟩ := mul_s c o to (o + 6) (o + 7) (S8.1, K, S.2.2) (by omega) (by omega) s1 (FK_row r7 g2)
  rw [en]
  refine ⟨m1, m2.trans ?_, fun r e0 e1 e2 e3 => (m3 r e0 e1).trans ((s3 r e2 e1).trans (g5 r e1 e2 e3))⟩
  show FV c K (o + 6) * FV c K (o + 7) = _
  rw [s2, FV_row r7]
  show FV c S8.2.1 (o + 6) ^ _ * _ = _
  cases c with
  | false =>
    rw [(g3 rfl).1, (g3 rfl).2, ← fp_pow_mul, zp_add]
    congr 1
  | true =>
    rw [(g4 rfl).1, (g4 rfl).2, ← fp_pow_mul, zp_add]
    congr 1
theorem inv_s (c : Bool) (o to a : Nat) (S : StT) (h3 : a ≠ o + 3) (h6 : a ≠ o + 6) (h7 : a ≠ o + 7) (h8 : a ≠ o + 8) (ha : FK c S.2.1 a) :
    FK c (finv_f c o to a S).2.1 to ∧ FV c (finv_f c o to a S).2.1 to = fp_iv c (FV c S.2.1 a) ∧ ∀ r, r ≠ to → r ≠ o + 3 → r ≠ o + 6 → r ≠ o + 7 → r ≠ o + 8 → (finv_f c o to a S).2.1 r = S.2.1 r := by
  obtain ⟨a1, a2, a3⟩ := root_s c o (o + 8) a S h3 h6 h7 ha
  generalize hS1 : froot_f c o (o + 8) a S = S1 at a1 a2 a3
  have r1 : S1.2.1 a = S.2.1 a := a3 a h8 h3 h6 h7
  obtain ⟨b1, b2, b3⟩ := sqr_s c o (o + 8) (o + 8) (S.1, S1.2.1, S.2.2) (by omega) a1
  generalize hS2 : sqr_f c o (o + 8) (o + 8) (S.1, S1.2.1, S.2.2) = S2 at b1 b2 b3
  obtain ⟨d1, d2, d3⟩ := sqr_s c o (o + 8) (o + 8) (S.1, S2.2.1, S.2.2) (by omega) b1
  generalize hS3 : sqr_f c o (o + 8) (o + 8) (S.1, S2.2.1, S.2.2) = S3 at d1 d2 d3
  have r3 : S3.2.1 a = S.2.1 a := (d3 a h8 h3).trans ((b3 a h8 h3).trans r1)
  obtain ⟨e1, e2, e3⟩ := mul_s c o (o + 8) (o + 8) a (S.1, S3.2.1, S.2.2) (by omega) h3 d1 (FK_row r3 ha)
  generalize hS4 : mul_f c o (o + 8) (o + 8) a (S.1, S3.2.1, S.2.2) = S4 at e1 e2 e3
  have v2 : FV c S2.2.1 (o + 8) = FV c S.2.1 a ^ (2 * rE c) := by
    refine b2.trans ?_
    show FV c S1.2.1 (o + 8) * FV c S1.2.1 (o + 8) = _
    rw [a2, zp_sq]
  have v3 : FV c S3.2.1 (o + 8) = FV c S.2.1 a ^ (2 * (2 * rE c)) := by
    refine d2.trans ?_
    show FV c S2.2.1 (o + 8) * FV c S2.2.1 (o + 8) = _
    rw [v2, zp_sq]
  have v4 : FV c S4.2.1 (o + 8) = FV c S.2.1 a ^ (2 * (2 * rE c) + 1) := by
    refine e2.trans ?_
    show FV c S3.2.1 (o + 8) * FV c S3.2.1 a = _
    rw [v3, FV_row r3, zp_x]
  have fr : ∀ r, r ≠ o + 3 → r ≠ o + 6 → r ≠ o + 7 → r ≠ o + 8 → S4.2.1 r = S.2.1 r := fun r q3 q6 q7 q8 => (e3 r q8 q3).trans ((d3 r q8 q3).trans ((b3 r q8 q3).trans (a3 r q8 q3 q6 q7)))
  obtain ⟨S8, hS8⟩ : ∃ S8 : StT, S8 = (if (bI c) ≠ 0 then (S.1, S4.2.1, S.2.2) else (S.1, (mul_f c o (o + 8) (o + 8) a (S.1, (sqr_f c o (o + 8) (o + 8) (S.1, S4.2.1, S.2.2)).2.1, S.2.2)).2.1, S.2.2)) := ⟨_, rfl⟩
  have en : (finv_f c o to a S).2.1 = (fcopy_f c to (o + 8) (S8.1, S8.2.1, S.2.2)).2.1 := by
    rw [hS8, ← hS4, ← hS3, ← hS2, ← hS1]
    rfl
  have hh : FK c S8.2.1 (o + 8) ∧ FV c S8.2.1 (o + 8) = fp_iv c (FV c S.2.1 a) ∧ ∀ r, r ≠ o + 3 → r ≠ o + 6 → r ≠ o + 7 → r ≠ o + 8 → S8.2.1 r = S.2.1 r := by
    cases c with
    | true =>
      rw [hS8]
      refine ⟨e1, v4.trans ?_, fr⟩
      unfold fp_iv
      congr 1
    | false =>
      have r4 : S4.2.1 a = S.2.1 a := fr a h3 h6 h7 h8
      obtain ⟨f1, f2, f3⟩ := sqr_s false o (o + 8) (o + 8) (S.1, S4.2.1, S.2.2) (by omega) e1
      generalize hS6 : sqr_f false o (o + 8) (o + 8) (S.1, S4.2.1, S.2.2) = S6 at f1 f2 f3 hS8
      have r6 : S6.2.1 a = S.2.1 a := (f3 a h8 h3).trans r4
      obtain ⟨g1, g2, g3⟩ := mul_s false o (o + 8) (o + 8) a (S.1, S6.2.1, S.2.2) (by omega) h3 f1 (FK_row r6 ha)
      generalize hS7 : mul_f false o (o + 8) (o + 8) a (S.1, S6.2.1, S.2.2) = S7 at g1 g2 g3 hS8
      have e8 : S8 = (S.1, S7.2.1, S.2.2) := hS8
      rw [e8]
      refine ⟨g1, g2.trans ?_, fun r q3 q6 q7 q8 => (g3 r q8 q3).trans ((f3 r q8 q3).trans (fr r q3 q6 q7 q8))⟩
      show FV false S6.2.1 (o + 8) * FV false S6.2.1 a = _
      rw [f2, FV_row r6]
      show FV false S4.2.1 (o + 8) * FV false S4.2.1 (o + 8) * _ = _
      rw [v4, zp_sq, zp_x]
      unfold fp_iv
      congr 1
  obtain ⟨i1, i2, i3⟩ := hh
  obtain ⟨j1, j2, j3⟩ := copy_s c to (o + 8) (S8.1, S8.2.1, S.2.2) i1
  rw [en]
  exact ⟨j1, j2.trans i2, fun r q q3 q6 q7 q8 => (j3 r q).trans (i3 r q3 q6 q7 q8)⟩
end
