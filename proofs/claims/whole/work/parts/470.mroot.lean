section
/-! THE MODEL'S ROOTS. -/
theorem two_val (c : Bool) : ((1 : Zp c) + 1).val = 2 := by
  have e : (1 : Zp c) + 1 = fz c 2 := by
    rw [← fz_1, ← fz_add]
    rfl
  have h := fz_vl c 2
  rw [← e, Int.emod_eq_of_lt (by decide) (by have := fp_two c; omega)] at h
  omega
theorem mtwo_v (c : Bool) (mo d : Nat) (S : StT) : MV c (msmall_f mo d (nI 2) S).1 mo d (1 + 1) ∧ MF mo d (msmall_f mo d (nI 2) S).1 S.1 ∧ (msmall_f mo d (nI 2) S).2 = S.2 := by
  obtain ⟨h1, h2, h3⟩ := msmall_m mo d (nI 2) S
  exact ⟨by unfold MV; rw [two_val]; exact h1, h2, h3⟩
theorem z_pow0 {c : Bool} {n : Nat} (h : 0 < n) : (0 : Zp c) ^ n = 0 := by
  rw [show n = (n - 1) + 1 from by omega, Lean.Grind.Semiring.pow_succ, Lean.Grind.Semiring.mul_zero]
theorem rt_true {t s : Zp true} (h : s * s = t) : t ^ ((nt_p true + 1) / 2 ^ 2) * t ^ ((nt_p true + 1) / 2 ^ 2) = t := by
  have hp := nt_p1
  by_cases hs : s = 0
  · have ht : t = 0 := by rw [← h, hs]; exact Lean.Grind.Semiring.mul_zero _
    rw [ht, z_pow0 (by omega)]
    exact Lean.Grind.Semiring.mul_zero _
  · have e : 2 * (2 * ((nt_p true + 1) / 2 ^ 2)) = (nt_p true - 1) + 2 := by omega
    rw [← h, zp_pp, zp_sq, e, ← zp_add, fp_fermat hs, Lean.Grind.Semiring.one_mul, ← zp_sq (m := 1), zp_one]
theorem rt_false {t s : Zp false} (h : s * s = t) : t ^ ((nt_p false + 3) / 2 ^ 3) * t ^ ((nt_p false + 3) / 2 ^ 3) = t ∨ t ^ ((nt_p false + 3) / 2 ^ 3) * t ^ ((nt_p false + 3) / 2 ^ 3) = -t := by
  have hp := nt_p0
  by_cases hs : s = 0
  · left
    have ht : t = 0 := by rw [← h, hs]; exact Lean.Grind.Semiring.mul_zero _
    rw [ht, z_pow0 (by omega)]
    exact Lean.Grind.Semiring.mul_zero _
  · have e : 2 * (2 * ((nt_p false + 3) / 2 ^ 3)) = (nt_p false - 1) / 2 + 2 := by omega
    have e2 : (nt_p false - 1) / 2 + (nt_p false - 1) / 2 = nt_p false - 1 := by omega
    have hk : s ^ ((nt_p false - 1) / 2) * s ^ ((nt_p false - 1) / 2) = 1 := by rw [zp_add, e2, fp_fermat hs]
    rw [← h, zp_pp, zp_sq, e, ← zp_add, ← zp_sq (m := 1), zp_one]
    generalize s ^ ((nt_p false - 1) / 2) = k at hk
    have e6 : (k - 1) * (k + 1) = 0 := by clear hs h; grind
    rcases fp_nzd _ _ e6 with e7 | e7
    · left
      have : k = 1 := (sub0 k 1).mp e7
      rw [this, Lean.Grind.Semiring.one_mul]
    · right
      have : k = -1 := by clear hs h e6 hk; grind
      rw [this]
      clear hs h e6 hk e7
      grind
theorem two_i : (((1 : Zp false) + 1) ^ ((nt_p false - 1) / 2 ^ 2)) * (((1 : Zp false) + 1) ^ ((nt_p false - 1) / 2 ^ 2)) = -1 := by
  have hp := nt_p0
  have e2 : (1 : Zp false) + 1 = fz false ((2 : Nat) : Int) := by
    rw [← fz_1, ← fz_add]
    rfl
  have e3 : 2 * ((nt_p false - 1) / 2 ^ 2) = (nt_p false - 1) / 2 := by omega
  rw [zp_sq, e3, e2, ← fz_pow, ← Int.natCast_pow]
  have he : nt_pm (nt_p false) 512 2 ((nt_p false - 1) / 2) = nt_p false - 1 := by rw [nt_p0]; decide +kernel
  rw [nt_pm_eq _ _ _ _ (by rw [nt_p0]; decide +kernel)] at he
  have h1 : fz false ((2 ^ ((nt_p false - 1) / 2) : Nat) : Int) = fz false ((nt_p false - 1 : Nat) : Int) := fz_nat (by rw [he]; exact (Nat.mod_eq_of_lt (by have := fp_two false; omega)).symm)
  rw [h1, ← fz_1, ← fz_neg]
  refine fz_of (u := -1) ?_
  have := fp_two false
  omega
theorem x_t {c : Bool} {x u v : Zp c} (hv : v ≠ 0) : x * x * v = u ↔ x * x = u * fp_iv c v := by
  have hi := fp_inv hv
  generalize fp_iv c v = w at hi
  constructor
  · intro h
    rw [← h]
    clear h
    grind
  · intro h
    rw [h]
    clear h
    grind
def mrD (d x : Nat) : Prop := (23 ≤ x ∧ x ≤ 28) ∨ x = d
theorem mroot_g_false (c : Bool) (mo d y : Nat) (S : StT) {yv dd : Zp c} (qd : 28 < d ∨ (12 < d ∧ d < 23)) (qy : 28 < y ∨ (12 < y ∧ y < 23)) (qyd : y ≠ d) (hp : MD S.1 mo (9 + bN c) (nt_p c)) (hd : MV c S.1 mo (11 + bN c) dd) (hy : MV c S.1 mo y yv) :
    ∃ S1 S2 S3 S4 S5 S6 S7 S8 S9 : StT, msmall_f mo 25 (nI 1) S = S1 ∧ mmul_f c mo 26 y y S1 = S2 ∧ mminus_f c mo 27 26 25 S2 = S3 ∧ mmul_f c mo 28 26 (11 + bN c) S3 = S4 ∧ mplus_f c mo 28 28 25 S4 = S5 ∧ minv_f c mo 28 28 S5 = S6 ∧ mmul_f c mo 27 27 28 S6 = S7 ∧ mpow_f c mo d 27 (nI 3) 3 S7 = S8 ∧ mmul_f c mo 28 d d S8 = S9 ∧ MV c S9.1 mo d ((((yv * yv) - 1) * (fp_iv c (((yv * yv) * dd) + 1))) ^ ((nt_p c + 3) / 2 ^ 3)) ∧ MV c S9.1 mo 27 (((yv * yv) - 1) * (fp_iv c (((yv * yv) * dd) + 1))) ∧ MV c S9.1 mo 28 (((((yv * yv) - 1) * (fp_iv c (((yv * yv) * dd) + 1))) ^ ((nt_p c + 3) / 2 ^ 3)) * ((((yv * yv) - 1) * (fp_iv c (((yv * yv) * dd) + 1))) ^ ((nt_p c + 3) / 2 ^ 3))) ∧ MX mo (mrD d) S9 S := by
  have hbN := bN_le c
  have hE : ((nt_p c + 3 : Nat) : Int) = (nt_p c : Int) + (nI 3).toInt := by
    rw [show (nI 3).toInt = 3 from by decide]
    omega
  obtain ⟨v1, f1, e1⟩ := mone_v c mo 25 S
  have x1 : MX mo (mrD d) (msmall_f mo 25 (nI 1) S) S := MX_of2 (by unfold mrD; omega) f1 e1
  clear e1
  generalize hS1 : msmall_f mo 25 (nI 1) S = S1 at v1 f1 x1
  have hp1 := MD_fr f1 (by omega) hp
  have hy_1 := MV_fr (a := y) f1 (by omega) hy
  have hd_1 := MV_fr (a := 11 + bN c) f1 (by omega) hd
  obtain ⟨v2, f2, j2, e2⟩ := mmul_m c mo 26 y y S1 (by omega) hp1 hy_1 hy_1
  have x2 : MX mo (mrD d) (mmul_f c mo 26 y y S1) S := MX_tr (MX_of (by unfold mrD; omega) f2 j2 e2) x1
  clear j2 e2
  generalize hS2 : mmul_f c mo 26 y y S1 = S2 at v2 f2 x2
  have hp2 := MD_fr f2 (by omega) hp1
  have hd_2 := MV_fr (a := 11 + bN c) f2 (by omega) hd_1
  have v1_2 := MV_fr (a := 25) f2 (by omega) v1
  obtain ⟨v3, f3, j3, e3⟩ := mminus_m c mo 27 26 25 S2 (by omega) hp2 v2 v1_2
  have x3 : MX mo (mrD d) (mminus_f c mo 27 26 25 S2) S := MX_tr (MX_of (by unfold mrD; omega) f3 j3 e3) x2
  clear j3 e3
  generalize hS3 : mminus_f c mo 27 26 25 S2 = S3 at v3 f3 x3
  have hp3 := MD_fr f3 (by omega) hp2
  have hd_3 := MV_fr (a := 11 + bN c) f3 (by omega) hd_2
  have v1_3 := MV_fr (a := 25) f3 (by omega) v1_2
  have v2_3 := MV_fr (a := 26) f3 (by omega) v2
  obtain ⟨v4, f4, j4, e4⟩ := mmul_m c mo 28 26 (11 + bN c) S3 (by omega) hp3 v2_3 hd_3
  have x4 : MX mo (mrD d) (mmul_f c mo 28 26 (11 + bN c) S3) S := MX_tr (MX_of (by unfold mrD; omega) f4 j4 e4) x3
  clear j4 e4
  generalize hS4 : mmul_f c mo 28 26 (11 + bN c) S3 = S4 at v4 f4 x4
  have hp4 := MD_fr f4 (by omega) hp3
  have v1_4 := MV_fr (a := 25) f4 (by omega) v1_3
  have v3_4 := MV_fr (a := 27) f4 (by omega) v3
  obtain ⟨v5, f5, j5, e5⟩ := mplus_m c mo 28 28 25 S4 (by omega) hp4 v4 v1_4
  have x5 : MX mo (mrD d) (mplus_f c mo 28 28 25 S4) S := MX_tr (MX_of (by unfold mrD; omega) f5 j5 e5) x4
  clear j5 e5
  generalize hS5 : mplus_f c mo 28 28 25 S4 = S5 at v5 f5 x5
  have hp5 := MD_fr f5 (by omega) hp4
  have v3_5 := MV_fr (a := 27) f5 (by omega) v3_4
  obtain ⟨v6, f6⟩ := minv_m c mo 28 28 S5 hp5 (by omega) v5
  have x6 : MX mo (mrD d) (minv_f c mo 28 28 S5) S := MX_tr (MX_le (fun q hq => by rcases hq with h | h | h <;> (subst h; unfold mrD; omega)) f6) x5
  generalize hS6 : minv_f c mo 28 28 S5 = S6 at v6 f6 x6
  have hp6 := MD_mx f6 (by omega) hp5
  have v3_6 := MV_mx (a := 27) f6 (by omega) v3_5
  obtain ⟨v7, f7, j7, e7⟩ := mmul_m c mo 27 27 28 S6 (by omega) hp6 v3_6 v6
  have x7 : MX mo (mrD d) (mmul_f c mo 27 27 28 S6) S := MX_tr (MX_of (by unfold mrD; omega) f7 j7 e7) x6
  clear j7 e7
  generalize hS7 : mmul_f c mo 27 27 28 S6 = S7 at v7 f7 x7
  have hp7 := MD_fr f7 (by omega) hp6
  obtain ⟨v8, f8⟩ := mpow_m c mo d 27 (nI 3) 3 S7 (E := (nt_p c + 3)) (by decide) hp7 (by decide) hE (by omega) v7
  have x8 : MX mo (mrD d) (mpow_f c mo d 27 (nI 3) 3 S7) S := MX_tr (MX_le (fun q hq => by rcases hq with h | h | h <;> (subst h; unfold mrD; omega)) f8) x7
  generalize hS8 : mpow_f c mo d 27 (nI 3) 3 S7 = S8 at v8 f8 x8
  have hp8 := MD_mx f8 (by omega) hp7
  have v7_8 := MV_mx (a := 27) f8 (by omega) v7
  obtain ⟨v9, f9, j9, e9⟩ := mmul_m c mo 28 d d S8 (by omega) hp8 v8 v8
  have x9 : MX mo (mrD d) (mmul_f c mo 28 d d S8) S := MX_tr (MX_of (by unfold mrD; omega) f9 j9 e9) x8
  clear j9 e9
  generalize hS9 : mmul_f c mo 28 d d S8 = S9 at v9 f9 x9
  have hp9 := MD_fr f9 (by omega) hp8
  have v7_9 := MV_fr (a := 27) f9 (by omega) v7_8
  have v8_9 := MV_fr (a := d) f9 (by omega) v8
  exact ⟨S1, S2, S3, S4, S5, S6, S7, S8, S9, rfl, hS2, hS3, hS4, hS5, hS6, hS7, hS8, hS9, v8_9, v7_9, v9, x9⟩
theorem mroot_g_true (c : Bool) (mo d y : Nat) (S : StT) {yv dd : Zp c} (qd : 28 < d ∨ (12 < d ∧ d < 23)) (qy : 28 < y ∨ (12 < y ∧ y < 23)) (qyd : y ≠ d) (hp : MD S.1 mo (9 + bN c) (nt_p c)) (hd : MV c S.1 mo (11 + bN c) dd) (hy : MV c S.1 mo y yv) :
    ∃ S1 S2 S3 S4 S5 S6 S7 S8 S9 : StT, msmall_f mo 25 (nI 1) S = S1 ∧ mmul_f c mo 26 y y S1 = S2 ∧ mminus_f c mo 27 26 25 S2 = S3 ∧ mmul_f c mo 28 26 (11 + bN c) S3 = S4 ∧ mminus_f c mo 28 28 25 S4 = S5 ∧ minv_f c mo 28 28 S5 = S6 ∧ mmul_f c mo 27 27 28 S6 = S7 ∧ mpow_f c mo d 27 (nI 1) 2 S7 = S8 ∧ mmul_f c mo 28 d d S8 = S9 ∧ MV c S9.1 mo d ((((yv * yv) - 1) * (fp_iv c (((yv * yv) * dd) - 1))) ^ ((nt_p c + 1) / 2 ^ 2)) ∧ MV c S9.1 mo 27 (((yv * yv) - 1) * (fp_iv c (((yv * yv) * dd) - 1))) ∧ MV c S9.1 mo 28 (((((yv * yv) - 1) * (fp_iv c (((yv * yv) * dd) - 1))) ^ ((nt_p c + 1) / 2 ^ 2)) * ((((yv * yv) - 1) * (fp_iv c (((yv * yv) * dd) - 1))) ^ ((nt_p c + 1) / 2 ^ 2))) ∧ MX mo (mrD d) S9 S := by
  have hbN := bN_le c
  have hE : ((nt_p c + 1 : Nat) : Int) = (nt_p c : Int) + (nI 1).toInt := by
    rw [show (nI 1).toInt = 1 from by decide]
    omega
  obtain ⟨v1, f1, e1⟩ := mone_v c mo 25 S
  have x1 : MX mo (mrD d) (msmall_f mo 25 (nI 1) S) S := MX_of2 (by unfold mrD; omega) f1 e1
  clear e1
  generalize hS1 : msmall_f mo 25 (nI 1) S = S1 at v1 f1 x1
  have hp1 := MD_fr f1 (by omega) hp
  have hy_1 := MV_fr (a := y) f1 (by omega) hy
  have hd_1 := MV_fr (a := 11 + bN c) f1 (by omega) hd
  obtain ⟨v2, f2, j2, e2⟩ := mmul_m c mo 26 y y S1 (by omega) hp1 hy_1 hy_1
  have x2 : MX mo (mrD d) (mmul_f c mo 26 y y S1) S := MX_tr (MX_of (by unfold mrD; omega) f2 j2 e2) x1
  clear j2 e2
  generalize hS2 : mmul_f c mo 26 y y S1 = S2 at v2 f2 x2
  have hp2 := MD_fr f2 (by omega) hp1
  have hd_2 := MV_fr (a := 11 + bN c) f2 (by omega) hd_1
  have v1_2 := MV_fr (a := 25) f2 (by omega) v1
  obtain ⟨v3, f3, j3, e3⟩ := mminus_m c mo 27 26 25 S2 (by omega) hp2 v2 v1_2
  have x3 : MX mo (mrD d) (mminus_f c mo 27 26 25 S2) S := MX_tr (MX_of (by unfold mrD; omega) f3 j3 e3) x2
  clear j3 e3
  generalize hS3 : mminus_f c mo 27 26 25 S2 = S3 at v3 f3 x3
  have hp3 := MD_fr f3 (by omega) hp2
  have hd_3 := MV_fr (a := 11 + bN c) f3 (by omega) hd_2
  have v1_3 := MV_fr (a := 25) f3 (by omega) v1_2
  have v2_3 := MV_fr (a := 26) f3 (by omega) v2
  obtain ⟨v4, f4, j4, e4⟩ := mmul_m c mo 28 26 (11 + bN c) S3 (by omega) hp3 v2_3 hd_3
  have x4 : MX mo (mrD d) (mmul_f c mo 28 26 (11 + bN c) S3) S := MX_tr (MX_of (by unfold mrD; omega) f4 j4 e4) x3
  clear j4 e4
  generalize hS4 : mmul_f c mo 28 26 (11 + bN c) S3 = S4 at v4 f4 x4
  have hp4 := MD_fr f4 (by omega) hp3
  have v1_4 := MV_fr (a := 25) f4 (by omega) v1_3
  have v3_4 := MV_fr (a := 27) f4 (by omega) v3
  obtain ⟨v5, f5, j5, e5⟩ := mminus_m c mo 28 28 25 S4 (by omega) hp4 v4 v1_4
  have x5 : MX mo (mrD d) (mminus_f c mo 28 28 25 S4) S := MX_tr (MX_of (by unfold mrD; omega) f5 j5 e5) x4
  clear j5 e5
  generalize hS5 : mminus_f c mo 28 28 25 S4 = S5 at v5 f5 x5
  have hp5 := MD_fr f5 (by omega) hp4
  have v3_5 := MV_fr (a := 27) f5 (by omega) v3_4
  obtain ⟨v6, f6⟩ := minv_m c mo 28 28 S5 hp5 (by omega) v5
  have x6 : MX mo (mrD d) (minv_f c mo 28 28 S5) S := MX_tr (MX_le (fun q hq => by rcases hq with h | h | h <;> (subst h; unfold mrD; omega)) f6) x5
  generalize hS6 : minv_f c mo 28 28 S5 = S6 at v6 f6 x6
  have hp6 := MD_mx f6 (by omega) hp5
  have v3_6 := MV_mx (a := 27) f6 (by omega) v3_5
  obtain ⟨v7, f7, j7, e7⟩ := mmul_m c mo 27 27 28 S6 (by omega) hp6 v3_6 v6
  have x7 : MX mo (mrD d) (mmul_f c mo 27 27 28 S6) S := MX_tr (MX_of (by unfold mrD; omega) f7 j7 e7) x6
  clear j7 e7
  generalize hS7 : mmul_f c mo 27 27 28 S6 = S7 at v7 f7 x7
  have hp7 := MD_fr f7 (by omega) hp6
  obtain ⟨v8, f8⟩ := mpow_m c mo d 27 (nI 1) 2 S7 (E := (nt_p c + 1)) (by decide) hp7 (by decide) hE (by omega) v7
  have x8 : MX mo (mrD d) (mpow_f c mo d 27 (nI 1) 2 S7) S := MX_tr (MX_le (fun q hq => by rcases hq with h | h | h <;> (subst h; unfold mrD; omega)) f8) x7
  generalize hS8 : mpow_f c mo d 27 (nI 1) 2 S7 = S8 at v8 f8 x8
  have hp8 := MD_mx f8 (by omega) hp7
  have v7_8 := MV_mx (a := 27) f8 (by omega) v7
  obtain ⟨v9, f9, j9, e9⟩ := mmul_m c mo 28 d d S8 (by omega) hp8 v8 v8
  have x9 : MX mo (mrD d) (mmul_f c mo 28 d d S8) S := MX_tr (MX_of (by unfold mrD; omega) f9 j9 e9) x8
  clear j9 e9
  generalize hS9 : mmul_f c mo 28 d d S8 = S9 at v9 f9 x9
  have hp9 := MD_fr f9 (by omega) hp8
  have v7_9 := MV_fr (a := 27) f9 (by omega) v7_8
  have v8_9 := MV_fr (a := d) f9 (by omega) v8
  exact ⟨S1, S2, S3, S4, S5, S6, S7, S8, S9, rfl, hS2, hS3, hS4, hS5, hS6, hS7, hS8, hS9, v8_9, v7_9, v9, x9⟩
theorem mroot_h (c : Bool) (mo d : Nat) (S : StT) {X t : Zp c} (qd : 28 < d ∨ (12 < d ∧ d < 23)) (hp : MD S.1 mo (9 + bN c) (nt_p c)) (hX : MV c S.1 mo d X) (ht : MV c S.1 mo 27 t) :
    ∃ S1 S2 S3 S4 : StT, msmall_f mo 28 (nI 2) S = S1 ∧ mpow_f c mo 28 28 (-1) 2 S1 = S2 ∧ mmul_f c mo d d 28 S2 = S3 ∧ mmul_f c mo 28 d d S3 = S4 ∧ MV c S4.1 mo d (X * ((1 + 1) ^ ((nt_p c - 1) / 2 ^ 2))) ∧ MV c S4.1 mo 27 t ∧ MV c S4.1 mo 28 ((X * ((1 + 1) ^ ((nt_p c - 1) / 2 ^ 2))) * (X * ((1 + 1) ^ ((nt_p c - 1) / 2 ^ 2)))) ∧ MX mo (mrD d) S4 S := by
  have hbN := bN_le c
  have hE : ((nt_p c - 1 : Nat) : Int) = (nt_p c : Int) + (-1 : Int32).toInt := by
    have := fp_two c
    rw [show (-1 : Int32).toInt = -1 from by decide]
    omega
  obtain ⟨v1, f1, e1⟩ := mtwo_v c mo 28 S
  have x1 : MX mo (mrD d) (msmall_f mo 28 (nI 2) S) S := MX_of2 (by unfold mrD; omega) f1 e1
  clear e1
  generalize hS1 : msmall_f mo 28 (nI 2) S = S1 at v1 f1 x1
  have hp1 := MD_fr f1 (by omega) hp
  have hX_1 := MV_fr (a := d) f1 (by omega) hX
  have ht_1 := MV_fr (a := 27) f1 (by omega) ht
  obtain ⟨v2, f2⟩ := mpow_m c mo 28 28 (-1) 2 S1 (E := (nt_p c - 1)) (by decide) hp1 (by decide) hE (by omega) v1
  have x2 : MX mo (mrD d) (mpow_f c mo 28 28 (-1) 2 S1) S := MX_tr (MX_le (fun q hq => by rcases hq with h | h | h <;> (subst h; unfold mrD; omega)) f2) x1
  generalize hS2 : mpow_f c mo 28 28 (-1) 2 S1 = S2 at v2 f2 x2
  have hp2 := MD_mx f2 (by omega) hp1
  have hX_2 := MV_mx (a := d) f2 (by omega) hX_1
  have ht_2 := MV_mx (a := 27) f2 (by omega) ht_1
  obtain ⟨v3, f3, j3, e3⟩ := mmul_m c mo d d 28 S2 (by omega) hp2 hX_2 v2
  have x3 : MX mo (mrD d) (mmul_f c mo d d 28 S2) S := MX_tr (MX_of (by unfold mrD; omega) f3 j3 e3) x2
  clear j3 e3
  generalize hS3 : mmul_f c mo d d 28 S2 = S3 at v3 f3 x3
  have hp3 := MD_fr f3 (by omega) hp2
  have ht_3 := MV_fr (a := 27) f3 (by omega) ht_2
  obtain ⟨v4, f4, j4, e4⟩ := mmul_m c mo 28 d d S3 (by omega) hp3 v3 v3
  have x4 : MX mo (mrD d) (mmul_f c mo 28 d d S3) S := MX_tr (MX_of (by unfold mrD; omega) f4 j4 e4) x3
  clear j4 e4
  generalize hS4 : mmul_f c mo 28 d d S3 = S4 at v4 f4 x4
  have hp4 := MD_fr f4 (by omega) hp3
  have ht_4 := MV_fr (a := 27) f4 (by omega) ht_3
  have v3_4 := MV_fr (a := d) f4 (by omega) v3
  exact ⟨S1, S2, S3, S4, rfl, hS2, hS3, hS4, v3_4, ht_4, v4, x4⟩
theorem mroot_ch_false (mo d y : Nat) (S : StT) {S1 S2 S3 S4 S5 S6 S7 S8 S9 : StT} (h1 : msmall_f mo 25 (nI 1) S = S1) (h2 : mmul_f false mo 26 y y S1 = S2) (h3 : mminus_f false mo 27 26 25 S2 = S3) (h4 : mmul_f false mo 28 26 (11 + bN false) S3 = S4) (h5 : mplus_f false mo 28 28 25 S4 = S5) (h6 : minv_f false mo 28 28 S5 = S6) (h7 : mmul_f false mo 27 27 28 S6 = S7) (h8 : mpow_f false mo d 27 (nI 3) 3 S7 = S8) (h9 : mmul_f false mo 28 d d S8 = S9) : mroot_f false mo d y S = (if (mequal_f mo 28 27 S9).1 = 0 then ((mequal_f mo 28 27 (mmul_f false mo 28 d d (mmul_f false mo d d 28 (mpow_f false mo 28 28 (-1) 2 (msmall_f mo 28 (nI 2) S9))))).1, (mmul_f false mo 28 d d (mmul_f false mo d d 28 (mpow_f false mo 28 28 (-1) 2 (msmall_f mo 28 (nI 2) S9))))) else (nI 1, S9)) := by
  subst h1 h2 h3 h4 h5 h6 h7 h8 h9
  unfold mroot_f
  dsimp only
  rw [if_neg (show ¬ (nI (bN false) ≠ 0) by decide)]
  split
  · rw [if_pos (show nI (bN false) ≠ nI 1 by decide)]
  · rfl
theorem mroot_ch_true (mo d y : Nat) (S : StT) {S1 S2 S3 S4 S5 S6 S7 S8 S9 : StT} (h1 : msmall_f mo 25 (nI 1) S = S1) (h2 : mmul_f true mo 26 y y S1 = S2) (h3 : mminus_f true mo 27 26 25 S2 = S3) (h4 : mmul_f true mo 28 26 (11 + bN true) S3 = S4) (h5 : mminus_f true mo 28 28 25 S4 = S5) (h6 : minv_f true mo 28 28 S5 = S6) (h7 : mmul_f true mo 27 27 28 S6 = S7) (h8 : mpow_f true mo d 27 (nI 1) 2 S7 = S8) (h9 : mmul_f true mo 28 d d S8 = S9) : mroot_f true mo d y S = (if (mequal_f mo 28 27 S9).1 = 0 then (nI 0, S9) else (nI 1, S9)) := by
  subst h1 h2 h3 h4 h5 h6 h7 h8 h9
  unfold mroot_f
  dsimp only
  rw [if_pos (show nI (bN true) ≠ 0 by decide)]
  split
  · rw [if_neg (show ¬ (nI (bN true) ≠ nI 1) by decide)]
  · rfl
theorem mroot_true (mo d y : Nat) (S : StT) {yv : Zp true} (qd : 28 < d ∨ (12 < d ∧ d < 23)) (qy : 28 < y ∨ (12 < y ∧ y < 23)) (qyd : y ≠ d) (hC : MC true S.1 mo) (hy : MV true S.1 mo y yv) :
    (((mroot_f true mo d y S).1 = nI 1 ∧ ∃ x, pO true (x, yv) ∧ MV true (mroot_f true mo d y S).2.1 mo d x) ∨ ((mroot_f true mo d y S).1 = nI 0 ∧ ∀ x, ¬ pO true (x, yv))) ∧ MX mo (mrD d) (mroot_f true mo d y S).2 S := by
  obtain ⟨S1, S2, S3, S4, S5, S6, S7, S8, S9, h1, h2, h3, h4, h5, h6, h7, h8, h9, hX, ht, hq, hM⟩ := mroot_g_true true mo d y S qd qy qyd hC.1 hC.2 hy
  have en := mroot_ch_true mo d y S h1 h2 h3 h4 h5 h6 h7 h8 h9
  clear h1 h2 h3 h4 h5 h6 h7 h8 h9
  have ev : ((yv * yv) * fp_d true) - 1 = fp_d true * (yv * yv) - fp_a true := by
    rw [fa_t]
    exact ev_true _ _
  have hv := ed_v0 (fp_K true) yv
  have on : ∀ x, pO true (x, yv) ↔ x * x = (yv * yv - 1) * fp_iv true (((yv * yv) * fp_d true) - 1) := by
    intro x
    rw [ev]
    exact (ed_xy (fp_a true) (fp_d true) x yv).trans (x_t hv)
  generalize (yv * yv - 1) * fp_iv true (((yv * yv) * fp_d true) - 1) = t at ht hq hX on
  have rt : ∀ s, s * s = t → t ^ ((nt_p true + 1) / 2 ^ 2) * t ^ ((nt_p true + 1) / 2 ^ 2) = t := fun s hs => rt_true hs
  generalize t ^ ((nt_p true + 1) / 2 ^ 2) = X at hX hq rt
  obtain ⟨m1, _⟩ := mequal_m mo 28 27 S9 hq ht
  rw [en, m1]
  by_cases hx : (X * X).val = t.val
  · rw [if_pos hx, if_neg (by decide)]
    exact ⟨Or.inl ⟨rfl, X, (on X).mpr (valE.mp hx), hX⟩, hM⟩
  · rw [if_neg hx, if_pos (by decide)]
    exact ⟨Or.inr ⟨rfl, fun x q => hx (valE.mpr (rt x ((on x).mp q)))⟩, hM⟩
theorem neg_sq {F : Type} [Lean.Grind.CommRing F] {X i t : F} (h : i * i = -1) (hX : X * X = -t) : (X * i) * (X * i) = t := by grind
theorem mroot_false (mo d y : Nat) (S : StT) {yv : Zp false} (qd : 28 < d ∨ (12 < d ∧ d < 23)) (qy : 28 < y ∨ (12 < y ∧ y < 23)) (qyd : y ≠ d) (hC : MC false S.1 mo) (hy : MV false S.1 mo y yv) :
    (((mroot_f false mo d y S).1 = nI 1 ∧ ∃ x, pO false (x, yv) ∧ MV false (mroot_f false mo d y S).2.1 mo d x) ∨ ((mroot_f false mo d y S).1 = nI 0 ∧ ∀ x, ¬ pO false (x, yv))) ∧ MX mo (mrD d) (mroot_f false mo d y S).2 S := by
  obtain ⟨S1, S2, S3, S4, S5, S6, S7, S8, S9, h1, h2, h3, h4, h5, h6, h7, h8, h9, hX, ht, hq, hM⟩ := mroot_g_false false mo d y S qd qy qyd hC.1 hC.2 hy
  have en := mroot_ch_false mo d y S h1 h2 h3 h4 h5 h6 h7 h8 h9
  clear h1 h2 h3 h4 h5 h6 h7 h8 h9
  have ev : ((yv * yv) * fp_d false) + 1 = fp_d false * (yv * yv) - fp_a false := by
    rw [fa_f]
    exact ev_false _ _
  have hv := ed_v0 (fp_K false) yv
  have on : ∀ x, pO false (x, yv) ↔ x * x = (yv * yv - 1) * fp_iv false (((yv * yv) * fp_d false) + 1) := by
    intro x
    rw [ev]
    exact (ed_xy (fp_a false) (fp_d false) x yv).trans (x_t hv)
  generalize (yv * yv - 1) * fp_iv false (((yv * yv) * fp_d false) + 1) = t at ht hq hX on
  have rt : ∀ s, s * s = t → t ^ ((nt_p false + 3) / 2 ^ 3) * t ^ ((nt_p false + 3) / 2 ^ 3) = t ∨ t ^ ((nt_p false + 3) / 2 ^ 3) * t ^ ((nt_p false + 3) / 2 ^ 3) = -t := fun s hs => rt_false hs
  generalize t ^ ((nt_p false + 3) / 2 ^ 3) = X at hX hq rt
  obtain ⟨m1, _⟩ := mequal_m mo 28 27 S9 hq ht
  rw [en, m1]
  by_cases hx : (X * X).val = t.val
  · rw [if_pos hx, if_neg (by decide)]
    exact ⟨Or.inl ⟨rfl, X, (on X).mpr (valE.mp hx), hX⟩, hM⟩
  · rw [if_neg hx, if_pos (by decide)]
    obtain ⟨T1, T2, T3, T4, k1, k2, k3, k4, gX, gt, gq, gM⟩ := mroot_h false mo d S9 qd (MD_mx hM (by unfold mrD; show ¬ ((23 ≤ 9 + 0 ∧ 9 + 0 ≤ 28) ∨ 9 + 0 = d); omega) hC.1) hX ht
    rw [k1, k2, k3, k4]
    clear k1 k2 k3 k4
    have ti := two_i
    generalize ((1 : Zp false) + 1) ^ ((nt_p false - 1) / 2 ^ 2) = w at ti gX gq
    obtain ⟨n1, _⟩ := mequal_m mo 28 27 T4 gq gt
    rw [n1]
    by_cases hz : ((X * w) * (X * w)).val = t.val
    · rw [if_pos hz]
      exact ⟨Or.inl ⟨rfl, X * w, (on _).mpr (valE.mp hz), gX⟩, MX_tr gM hM⟩
    · rw [if_neg hz]
      refine ⟨Or.inr ⟨rfl, fun x q => ?_⟩, MX_tr gM hM⟩
      rcases rt x ((on x).mp q) with e | e
      · exact hx (valE.mpr e)
      · exact hz (valE.mpr (neg_sq ti e))
theorem mroot_m (c : Bool) (mo d y : Nat) (S : StT) {yv : Zp c} (qd : 28 < d ∨ (12 < d ∧ d < 23)) (qy : 28 < y ∨ (12 < y ∧ y < 23)) (qyd : y ≠ d) (hC : MC c S.1 mo) (hy : MV c S.1 mo y yv) :
    (((mroot_f c mo d y S).1 = nI 1 ∧ ∃ x, pO c (x, yv) ∧ MV c (mroot_f c mo d y S).2.1 mo d x) ∨ ((mroot_f c mo d y S).1 = nI 0 ∧ ∀ x, ¬ pO c (x, yv))) ∧ MX mo (mrD d) (mroot_f c mo d y S).2 S := by
  cases c with
  | true => exact mroot_true mo d y S qd qy qyd hC hy
  | false => exact mroot_false mo d y S qd qy qyd hC hy
end
