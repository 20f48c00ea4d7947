section
/-! THE MODEL'S POINTS. -/
theorem one_val (c : Bool) : ((1 : Zp c)).val = 1 := by
  have h := fz_vl c 1
  rw [fz_1, Int.emod_eq_of_lt (by decide) (by have := fp_two c; omega)] at h
  omega
theorem mcopy_v (c : Bool) (mo d a : Nat) (S : StT) {u : Zp c} (ha : MV c S.1 mo a u) : MV c (mcopy_f mo d a S).1 mo d u ∧ MF mo d (mcopy_f mo d a S).1 S.1 ∧ (mcopy_f mo d a S).2 = S.2 := mcopy_m mo d a S ha
theorem mzero_v (c : Bool) (mo d : Nat) (S : StT) : MV c (mzero_f mo d S).1 mo d 0 ∧ MF mo d (mzero_f mo d S).1 S.1 ∧ (mzero_f mo d S).2 = S.2 := by
  obtain ⟨h1, h2, h3⟩ := mzero_m mo d S
  exact ⟨by unfold MV; rw [zero_val]; exact h1, h2, h3⟩
theorem mone_v (c : Bool) (mo d : Nat) (S : StT) : MV c (msmall_f mo d (nI 1) S).1 mo d 1 ∧ MF mo d (msmall_f mo d (nI 1) S).1 S.1 ∧ (msmall_f mo d (nI 1) S).2 = S.2 := by
  obtain ⟨h1, h2, h3⟩ := msmall_m mo d (nI 1) S
  exact ⟨by unfold MV; rw [one_val]; exact h1, h2, h3⟩
/-- places a, a + 1, a + 2 hold the point P -/
def MP (c : Bool) (I : Nat → Nat → Int32) (mo a : Nat) (P : Pt c) : Prop := pO c P ∧ ∃ x y z : Zp c, MV c I mo a x ∧ MV c I mo (a + 1) y ∧ MV c I mo (a + 2) z ∧ ed_rp x y z P
theorem MP_mx {c : Bool} {mo : Nat} {D : Nat → Prop} {T S : StT} {a : Nat} {P : Pt c} (h : MX mo D T S) (h0 : ¬ D a) (h1 : ¬ D (a + 1)) (h2 : ¬ D (a + 2)) (hk : MP c S.1 mo a P) : MP c T.1 mo a P := by
  obtain ⟨on, x, y, z, q1, q2, q3, q4⟩ := hk
  exact ⟨on, x, y, z, MV_mx h h0 q1, MV_mx h h1 q2, MV_mx h h2 q3, q4⟩
/-- the model's constants: the prime, the curve's d -/
def MC (c : Bool) (I : Nat → Nat → Int32) (mo : Nat) : Prop := MD I mo (9 + bN c) (nt_p c) ∧ MV c I mo (11 + bN c) (fp_d c)
theorem MC_mx {c : Bool} {mo : Nat} {D : Nat → Prop} {T S : StT} (h : MX mo D T S) (h0 : ¬ D (9 + bN c)) (h1 : ¬ D (11 + bN c)) (hk : MC c S.1 mo) : MC c T.1 mo := ⟨MD_mx h h0 hk.1, MV_mx h h1 hk.2⟩
def msD (d x : Nat) : Prop := (30 ≤ x ∧ x ≤ 39) ∨ (d ≤ x ∧ x ≤ d + 2)
theorem my_false {F : Type} [Lean.Grind.CommRing F] (g u v : F) : g * (u + v) = g * (u - -1 * v) := by grind
theorem my_true {F : Type} [Lean.Grind.CommRing F] (g u v : F) : g * (u - v) = g * (u - 1 * v) := by grind
theorem msum_false (mo d a b : Nat) (S : StT) {P Q : Pt false} (qd : d + 2 < 9 ∨ 39 < d) (qa : a + 2 < 30 ∨ 39 < a) (qb : b + 2 < 30 ∨ 39 < b) (hC : MC false S.1 mo) (h1 : MP false S.1 mo a P) (h2 : MP false S.1 mo b Q) :
    MP false (msum_f false mo d a b S).1 mo d (pA false P Q) ∧ MX mo (msD d) (msum_f false mo d a b S) S := by
  obtain ⟨hp, hd⟩ := hC
  have hbN := bN_le false
  obtain ⟨on1, x1, y1, z1, a1, a2, a3, e1⟩ := h1
  obtain ⟨on2, x2, y2, z2, b1, b2, b3, e2⟩ := h2
  obtain ⟨v1, f1, j1, e1⟩ := mmul_m false mo 30 (a + 2) (b + 2) S (by omega) hp a3 b3
  have x1 : MX mo (msD d) (mmul_f false mo 30 (a + 2) (b + 2) S) S := MX_of (by unfold msD; omega) f1 j1 e1
  clear j1 e1
  generalize hS1 : mmul_f false mo 30 (a + 2) (b + 2) S = S1 at v1 f1 x1
  have hp1 := MD_fr f1 (by omega) hp
  have a1_1 := MV_fr (a := a) f1 (by omega) a1
  have a2_1 := MV_fr (a := a + 1) f1 (by omega) a2
  have b1_1 := MV_fr (a := b) f1 (by omega) b1
  have b2_1 := MV_fr (a := b + 1) f1 (by omega) b2
  have hd_1 := MV_fr (a := 11 + bN false) f1 (by omega) hd
  obtain ⟨v2, f2, j2, e2⟩ := mmul_m false mo 31 30 30 S1 (by omega) hp1 v1 v1
  have x2 : MX mo (msD d) (mmul_f false mo 31 30 30 S1) S := MX_tr (MX_of (by unfold msD; omega) f2 j2 e2) x1
  clear j2 e2
  generalize hS2 : mmul_f false mo 31 30 30 S1 = S2 at v2 f2 x2
  have hp2 := MD_fr f2 (by omega) hp1
  have a1_2 := MV_fr (a := a) f2 (by omega) a1_1
  have a2_2 := MV_fr (a := a + 1) f2 (by omega) a2_1
  have b1_2 := MV_fr (a := b) f2 (by omega) b1_1
  have b2_2 := MV_fr (a := b + 1) f2 (by omega) b2_1
  have hd_2 := MV_fr (a := 11 + bN false) f2 (by omega) hd_1
  have v1_2 := MV_fr (a := 30) f2 (by omega) v1
  obtain ⟨v3, f3, j3, e3⟩ := mmul_m false mo 32 a b S2 (by omega) hp2 a1_2 b1_2
  have x3 : MX mo (msD d) (mmul_f false mo 32 a b S2) S := MX_tr (MX_of (by unfold msD; omega) f3 j3 e3) x2
  clear j3 e3
  generalize hS3 : mmul_f false mo 32 a b S2 = S3 at v3 f3 x3
  have hp3 := MD_fr f3 (by omega) hp2
  have a1_3 := MV_fr (a := a) f3 (by omega) a1_2
  have a2_3 := MV_fr (a := a + 1) f3 (by omega) a2_2
  have b1_3 := MV_fr (a := b) f3 (by omega) b1_2
  have b2_3 := MV_fr (a := b + 1) f3 (by omega) b2_2
  have hd_3 := MV_fr (a := 11 + bN false) f3 (by omega) hd_2
  have v1_3 := MV_fr (a := 30) f3 (by omega) v1_2
  have v2_3 := MV_fr (a := 31) f3 (by omega) v2
  obtain ⟨v4, f4, j4, e4⟩ := mmul_m false mo 33 (a + 1) (b + 1) S3 (by omega) hp3 a2_3 b2_3
  have x4 : MX mo (msD d) (mmul_f false mo 33 (a + 1) (b + 1) S3) S := MX_tr (MX_of (by unfold msD; omega) f4 j4 e4) x3
  clear j4 e4
  generalize hS4 : mmul_f false mo 33 (a + 1) (b + 1) S3 = S4 at v4 f4 x4
  have hp4 := MD_fr f4 (by omega) hp3
  have a1_4 := MV_fr (a := a) f4 (by omega) a1_3
  have a2_4 := MV_fr (a := a + 1) f4 (by omega) a2_3
  have b1_4 := MV_fr (a := b) f4 (by omega) b1_3
  have b2_4 := MV_fr (a := b + 1) f4 (by omega) b2_3
  have hd_4 := MV_fr (a := 11 + bN false) f4 (by omega) hd_3
  have v1_4 := MV_fr (a := 30) f4 (by omega) v1_3
  have v2_4 := MV_fr (a := 31) f4 (by omega) v2_3
  have v3_4 := MV_fr (a := 32) f4 (by omega) v3
  obtain ⟨v5, f5, j5, e5⟩ := mmul_m false mo 34 32 33 S4 (by omega) hp4 v3_4 v4
  have x5 : MX mo (msD d) (mmul_f false mo 34 32 33 S4) S := MX_tr (MX_of (by unfold msD; omega) f5 j5 e5) x4
  clear j5 e5
  generalize hS5 : mmul_f false mo 34 32 33 S4 = S5 at v5 f5 x5
  have hp5 := MD_fr f5 (by omega) hp4
  have a1_5 := MV_fr (a := a) f5 (by omega) a1_4
  have a2_5 := MV_fr (a := a + 1) f5 (by omega) a2_4
  have b1_5 := MV_fr (a := b) f5 (by omega) b1_4
  have b2_5 := MV_fr (a := b + 1) f5 (by omega) b2_4
  have hd_5 := MV_fr (a := 11 + bN false) f5 (by omega) hd_4
  have v1_5 := MV_fr (a := 30) f5 (by omega) v1_4
  have v2_5 := MV_fr (a := 31) f5 (by omega) v2_4
  have v3_5 := MV_fr (a := 32) f5 (by omega) v3_4
  have v4_5 := MV_fr (a := 33) f5 (by omega) v4
  obtain ⟨v6, f6, j6, e6⟩ := mmul_m false mo 34 34 (11 + bN false) S5 (by omega) hp5 v5 hd_5
  have x6 : MX mo (msD d) (mmul_f false mo 34 34 (11 + bN false) S5) S := MX_tr (MX_of (by unfold msD; omega) f6 j6 e6) x5
  clear j6 e6
  generalize hS6 : mmul_f false mo 34 34 (11 + bN false) S5 = S6 at v6 f6 x6
  have hp6 := MD_fr f6 (by omega) hp5
  have a1_6 := MV_fr (a := a) f6 (by omega) a1_5
  have a2_6 := MV_fr (a := a + 1) f6 (by omega) a2_5
  have b1_6 := MV_fr (a := b) f6 (by omega) b1_5
  have b2_6 := MV_fr (a := b + 1) f6 (by omega) b2_5
  have v1_6 := MV_fr (a := 30) f6 (by omega) v1_5
  have v2_6 := MV_fr (a := 31) f6 (by omega) v2_5
  have v3_6 := MV_fr (a := 32) f6 (by omega) v3_5
  have v4_6 := MV_fr (a := 33) f6 (by omega) v4_5
  obtain ⟨v7, f7, j7, e7⟩ := mminus_m false mo 35 31 34 S6 (by omega) hp6 v2_6 v6
  have x7 : MX mo (msD d) (mminus_f false mo 35 31 34 S6) S := MX_tr (MX_of (by unfold msD; omega) f7 j7 e7) x6
  clear j7 e7
  generalize hS7 : mminus_f false mo 35 31 34 S6 = S7 at v7 f7 x7
  have hp7 := MD_fr f7 (by omega) hp6
  have a1_7 := MV_fr (a := a) f7 (by omega) a1_6
  have a2_7 := MV_fr (a := a + 1) f7 (by omega) a2_6
  have b1_7 := MV_fr (a := b) f7 (by omega) b1_6
  have b2_7 := MV_fr (a := b + 1) f7 (by omega) b2_6
  have v1_7 := MV_fr (a := 30) f7 (by omega) v1_6
  have v2_7 := MV_fr (a := 31) f7 (by omega) v2_6
  have v3_7 := MV_fr (a := 32) f7 (by omega) v3_6
  have v4_7 := MV_fr (a := 33) f7 (by omega) v4_6
  have v6_7 := MV_fr (a := 34) f7 (by omega) v6
  obtain ⟨v8, f8, j8, e8⟩ := mplus_m false mo 36 31 34 S7 (by omega) hp7 v2_7 v6_7
  have x8 : MX mo (msD d) (mplus_f false mo 36 31 34 S7) S := MX_tr (MX_of (by unfold msD; omega) f8 j8 e8) x7
  clear j8 e8
  generalize hS8 : mplus_f false mo 36 31 34 S7 = S8 at v8 f8 x8
  have hp8 := MD_fr f8 (by omega) hp7
  have a1_8 := MV_fr (a := a) f8 (by omega) a1_7
  have a2_8 := MV_fr (a := a + 1) f8 (by omega) a2_7
  have b1_8 := MV_fr (a := b) f8 (by omega) b1_7
  have b2_8 := MV_fr (a := b + 1) f8 (by omega) b2_7
  have v1_8 := MV_fr (a := 30) f8 (by omega) v1_7
  have v3_8 := MV_fr (a := 32) f8 (by omega) v3_7
  have v4_8 := MV_fr (a := 33) f8 (by omega) v4_7
  have v7_8 := MV_fr (a := 35) f8 (by omega) v7
  obtain ⟨v9, f9, j9, e9⟩ := mplus_m false mo 37 a (a + 1) S8 (by omega) hp8 a1_8 a2_8
  have x9 : MX mo (msD d) (mplus_f false mo 37 a (a + 1) S8) S := MX_tr (MX_of (by unfold msD; omega) f9 j9 e9) x8
  clear j9 e9
  generalize hS9 : mplus_f false mo 37 a (a + 1) S8 = S9 at v9 f9 x9
  have hp9 := MD_fr f9 (by omega) hp8
  have b1_9 := MV_fr (a := b) f9 (by omega) b1_8
  have b2_9 := MV_fr (a := b + 1) f9 (by omega) b2_8
  have v1_9 := MV_fr (a := 30) f9 (by omega) v1_8
  have v3_9 := MV_fr (a := 32) f9 (by omega) v3_8
  have v4_9 := MV_fr (a := 33) f9 (by omega) v4_8
  have v7_9 := MV_fr (a := 35) f9 (by omega) v7_8
  have v8_9 := MV_fr (a := 36) f9 (by omega) v8
  obtain ⟨v10, f10, j10, e10⟩ := mplus_m false mo 38 b (b + 1) S9 (by omega) hp9 b1_9 b2_9
  have x10 : MX mo (msD d) (mplus_f false mo 38 b (b + 1) S9) S := MX_tr (MX_of (by unfold msD; omega) f10 j10 e10) x9
  clear j10 e10
  generalize hS10 : mplus_f false mo 38 b (b + 1) S9 = S10 at v10 f10 x10
  have hp10 := MD_fr f10 (by omega) hp9
  have v1_10 := MV_fr (a := 30) f10 (by omega) v1_9
  have v3_10 := MV_fr (a := 32) f10 (by omega) v3_9
  have v4_10 := MV_fr (a := 33) f10 (by omega) v4_9
  have v7_10 := MV_fr (a := 35) f10 (by omega) v7_9
  have v8_10 := MV_fr (a := 36) f10 (by omega) v8_9
  have v9_10 := MV_fr (a := 37) f10 (by omega) v9
  obtain ⟨v11, f11, j11, e11⟩ := mmul_m false mo 37 37 38 S10 (by omega) hp10 v9_10 v10
  have x11 : MX mo (msD d) (mmul_f false mo 37 37 38 S10) S := MX_tr (MX_of (by unfold msD; omega) f11 j11 e11) x10
  clear j11 e11
  generalize hS11 : mmul_f false mo 37 37 38 S10 = S11 at v11 f11 x11
  have hp11 := MD_fr f11 (by omega) hp10
  have v1_11 := MV_fr (a := 30) f11 (by omega) v1_10
  have v3_11 := MV_fr (a := 32) f11 (by omega) v3_10
  have v4_11 := MV_fr (a := 33) f11 (by omega) v4_10
  have v7_11 := MV_fr (a := 35) f11 (by omega) v7_10
  have v8_11 := MV_fr (a := 36) f11 (by omega) v8_10
  obtain ⟨v12, f12, j12, e12⟩ := mminus_m false mo 37 37 32 S11 (by omega) hp11 v11 v3_11
  have x12 : MX mo (msD d) (mminus_f false mo 37 37 32 S11) S := MX_tr (MX_of (by unfold msD; omega) f12 j12 e12) x11
  clear j12 e12
  generalize hS12 : mminus_f false mo 37 37 32 S11 = S12 at v12 f12 x12
  have hp12 := MD_fr f12 (by omega) hp11
  have v1_12 := MV_fr (a := 30) f12 (by omega) v1_11
  have v3_12 := MV_fr (a := 32) f12 (by omega) v3_11
  have v4_12 := MV_fr (a := 33) f12 (by omega) v4_11
  have v7_12 := MV_fr (a := 35) f12 (by omega) v7_11
  have v8_12 := MV_fr (a := 36) f12 (by omega) v8_11
  obtain ⟨v13, f13, j13, e13⟩ := mminus_m false mo 37 37 33 S12 (by omega) hp12 v12 v4_12
  have x13 : MX mo (msD d) (mminus_f false mo 37 37 33 S12) S := MX_tr (MX_of (by unfold msD; omega) f13 j13 e13) x12
  clear j13 e13
  generalize hS13 : mminus_f false mo 37 37 33 S12 = S13 at v13 f13 x13
  have hp13 := MD_fr f13 (by omega) hp12
  have v1_13 := MV_fr (a := 30) f13 (by omega) v1_12
  have v3_13 := MV_fr (a := 32) f13 (by omega) v3_12
  have v4_13 := MV_fr (a := 33) f13 (by omega) v4_12
  have v7_13 := MV_fr (a := 35) f13 (by omega) v7_12
  have v8_13 := MV_fr (a := 36) f13 (by omega) v8_12
  obtain ⟨v14, f14, j14, e14⟩ := mplus_m false mo 38 33 32 S13 (by omega) hp13 v4_13 v3_13
  have x14 : MX mo (msD d) (mplus_f false mo 38 33 32 S13) S := MX_tr (MX_of (by unfold msD; omega) f14 j14 e14) x13
  clear j14 e14
  generalize hS14 : mplus_f false mo 38 33 32 S13 = S14 at v14 f14 x14
  have hp14 := MD_fr f14 (by omega) hp13
  have v1_14 := MV_fr (a := 30) f14 (by omega) v1_13
  have v7_14 := MV_fr (a := 35) f14 (by omega) v7_13
  have v8_14 := MV_fr (a := 36) f14 (by omega) v8_13
  have v13_14 := MV_fr (a := 37) f14 (by omega) v13
  obtain ⟨v15, f15, j15, e15⟩ := mmul_m false mo 39 30 35 S14 (by omega) hp14 v1_14 v7_14
  have x15 : MX mo (msD d) (mmul_f false mo 39 30 35 S14) S := MX_tr (MX_of (by unfold msD; omega) f15 j15 e15) x14
  clear j15 e15
  generalize hS15 : mmul_f false mo 39 30 35 S14 = S15 at v15 f15 x15
  have hp15 := MD_fr f15 (by omega) hp14
  have v1_15 := MV_fr (a := 30) f15 (by omega) v1_14
  have v7_15 := MV_fr (a := 35) f15 (by omega) v7_14
  have v8_15 := MV_fr (a := 36) f15 (by omega) v8_14
  have v13_15 := MV_fr (a := 37) f15 (by omega) v13_14
  have v14_15 := MV_fr (a := 38) f15 (by omega) v14
  obtain ⟨v16, f16, j16, e16⟩ := mmul_m false mo d 39 37 S15 (by omega) hp15 v15 v13_15
  have x16 : MX mo (msD d) (mmul_f false mo d 39 37 S15) S := MX_tr (MX_of (by unfold msD; omega) f16 j16 e16) x15
  clear j16 e16
  generalize hS16 : mmul_f false mo d 39 37 S15 = S16 at v16 f16 x16
  have hp16 := MD_fr f16 (by omega) hp15
  have v1_16 := MV_fr (a := 30) f16 (by omega) v1_15
  have v7_16 := MV_fr (a := 35) f16 (by omega) v7_15
  have v8_16 := MV_fr (a := 36) f16 (by omega) v8_15
  have v14_16 := MV_fr (a := 38) f16 (by omega) v14_15
  obtain ⟨v17, f17, j17, e17⟩ := mmul_m false mo 39 30 36 S16 (by omega) hp16 v1_16 v8_16
  have x17 : MX mo (msD d) (mmul_f false mo 39 30 36 S16) S := MX_tr (MX_of (by unfold msD; omega) f17 j17 e17) x16
  clear j17 e17
  generalize hS17 : mmul_f false mo 39 30 36 S16 = S17 at v17 f17 x17
  have hp17 := MD_fr f17 (by omega) hp16
  have v7_17 := MV_fr (a := 35) f17 (by omega) v7_16
  have v8_17 := MV_fr (a := 36) f17 (by omega) v8_16
  have v14_17 := MV_fr (a := 38) f17 (by omega) v14_16
  have v16_17 := MV_fr (a := d) f17 (by omega) v16
  obtain ⟨v18, f18, j18, e18⟩ := mmul_m false mo (d + 1) 39 38 S17 (by omega) hp17 v17 v14_17
  have x18 : MX mo (msD d) (mmul_f false mo (d + 1) 39 38 S17) S := MX_tr (MX_of (by unfold msD; omega) f18 j18 e18) x17
  clear j18 e18
  generalize hS18 : mmul_f false mo (d + 1) 39 38 S17 = S18 at v18 f18 x18
  have hp18 := MD_fr f18 (by omega) hp17
  have v7_18 := MV_fr (a := 35) f18 (by omega) v7_17
  have v8_18 := MV_fr (a := 36) f18 (by omega) v8_17
  have v16_18 := MV_fr (a := d) f18 (by omega) v16_17
  obtain ⟨v19, f19, j19, e19⟩ := mmul_m false mo (d + 2) 35 36 S18 (by omega) hp18 v7_18 v8_18
  have x19 : MX mo (msD d) (mmul_f false mo (d + 2) 35 36 S18) S := MX_tr (MX_of (by unfold msD; omega) f19 j19 e19) x18
  clear j19 e19
  generalize hS19 : mmul_f false mo (d + 2) 35 36 S18 = S19 at v19 f19 x19
  have hp19 := MD_fr f19 (by omega) hp18
  have v16_19 := MV_fr (a := d) f19 (by omega) v16_18
  have v18_19 := MV_fr (a := d + 1) f19 (by omega) v18
  have en : msum_f false mo d a b S = S19 := by
    unfold msum_f
    dsimp only
    rw [hS1, hS2, hS3, hS4, hS5, hS6, hS7, hS8, hS9, hS10, hS11, hS12]
    rw [if_neg (by decide)]
    rw [hS13, hS14, hS15, hS16, hS17, hS18, hS19]
  rw [en]
  have key := ed_rp_sum (fp_K false) on1 on2 e1 e2
  refine ⟨⟨pA_on on1 on2, _, _, _, v16_19, v18_19, v19, ed_rp_to key rfl ?_ rfl⟩, x19⟩
  rw [fa_f]
  exact my_false _ _ _
theorem msum_true (mo d a b : Nat) (S : StT) {P Q : Pt true} (qd : d + 2 < 9 ∨ 39 < d) (qa : a + 2 < 30 ∨ 39 < a) (qb : b + 2 < 30 ∨ 39 < b) (hC : MC true S.1 mo) (h1 : MP true S.1 mo a P) (h2 : MP true S.1 mo b Q) :
    MP true (msum_f true mo d a b S).1 mo d (pA true P Q) ∧ MX mo (msD d) (msum_f true mo d a b S) S := by
  obtain ⟨hp, hd⟩ := hC
  have hbN := bN_le true
  obtain ⟨on1, x1, y1, z1, a1, a2, a3, e1⟩ := h1
  obtain ⟨on2, x2, y2, z2, b1, b2, b3, e2⟩ := h2
  obtain ⟨v1, f1, j1, e1⟩ := mmul_m true mo 30 (a + 2) (b + 2) S (by omega) hp a3 b3
  have x1 : MX mo (msD d) (mmul_f true mo 30 (a + 2) (b + 2) S) S := MX_of (by unfold msD; omega) f1 j1 e1
  clear j1 e1
  generalize hS1 : mmul_f true mo 30 (a + 2) (b + 2) S = S1 at v1 f1 x1
  have hp1 := MD_fr f1 (by omega) hp
  have a1_1 := MV_fr (a := a) f1 (by omega) a1
  have a2_1 := MV_fr (a := a + 1) f1 (by omega) a2
  have b1_1 := MV_fr (a := b) f1 (by omega) b1
  have b2_1 := MV_fr (a := b + 1) f1 (by omega) b2
  have hd_1 := MV_fr (a := 11 + bN true) f1 (by omega) hd
  obtain ⟨v2, f2, j2, e2⟩ := mmul_m true mo 31 30 30 S1 (by omega) hp1 v1 v1
  have x2 : MX mo (msD d) (mmul_f true mo 31 30 30 S1) S := MX_tr (MX_of (by unfold msD; omega) f2 j2 e2) x1
  clear j2 e2
  generalize hS2 : mmul_f true mo 31 30 30 S1 = S2 at v2 f2 x2
  have hp2 := MD_fr f2 (by omega) hp1
  have a1_2 := MV_fr (a := a) f2 (by omega) a1_1
  have a2_2 := MV_fr (a := a + 1) f2 (by omega) a2_1
  have b1_2 := MV_fr (a := b) f2 (by omega) b1_1
  have b2_2 := MV_fr (a := b + 1) f2 (by omega) b2_1
  have hd_2 := MV_fr (a := 11 + bN true) f2 (by omega) hd_1
  have v1_2 := MV_fr (a := 30) f2 (by omega) v1
  obtain ⟨v3, f3, j3, e3⟩ := mmul_m true mo 32 a b S2 (by omega) hp2 a1_2 b1_2
  have x3 : MX mo (msD d) (mmul_f true mo 32 a b S2) S := MX_tr (MX_of (by unfold msD; omega) f3 j3 e3) x2
  clear j3 e3
  generalize hS3 : mmul_f true mo 32 a b S2 = S3 at v3 f3 x3
  have hp3 := MD_fr f3 (by omega) hp2
  have a1_3 := MV_fr (a := a) f3 (by omega) a1_2
  have a2_3 := MV_fr (a := a + 1) f3 (by omega) a2_2
  have b1_3 := MV_fr (a := b) f3 (by omega) b1_2
  have b2_3 := MV_fr (a := b + 1) f3 (by omega) b2_2
  have hd_3 := MV_fr (a := 11 + bN true) f3 (by omega) hd_2
  have v1_3 := MV_fr (a := 30) f3 (by omega) v1_2
  have v2_3 := MV_fr (a := 31) f3 (by omega) v2
  obtain ⟨v4, f4, j4, e4⟩ := mmul_m true mo 33 (a + 1) (b + 1) S3 (by omega) hp3 a2_3 b2_3
  have x4 : MX mo (msD d) (mmul_f true mo 33 (a + 1) (b + 1) S3) S := MX_tr (MX_of (by unfold msD; omega) f4 j4 e4) x3
  clear j4 e4
  generalize hS4 : mmul_f true mo 33 (a + 1) (b + 1) S3 = S4 at v4 f4 x4
  have hp4 := MD_fr f4 (by omega) hp3
  have a1_4 := MV_fr (a := a) f4 (by omega) a1_3
  have a2_4 := MV_fr (a := a + 1) f4 (by omega) a2_3
  have b1_4 := MV_fr (a := b) f4 (by omega) b1_3
  have b2_4 := MV_fr (a := b + 1) f4 (by omega) b2_3
  have hd_4 := MV_fr (a := 11 + bN true) f4 (by omega) hd_3
  have v1_4 := MV_fr (a := 30) f4 (by omega) v1_3
  have v2_4 := MV_fr (a := 31) f4 (by omega) v2_3
  have v3_4 := MV_fr (a := 32) f4 (by omega) v3
  obtain ⟨v5, f5, j5, e5⟩ := mmul_m true mo 34 32 33 S4 (by omega) hp4 v3_4 v4
  have x5 : MX mo (msD d) (mmul_f true mo 34 32 33 S4) S := MX_tr (MX_of (by unfold msD; omega) f5 j5 e5) x4
  clear j5 e5
  generalize hS5 : mmul_f true mo 34 32 33 S4 = S5 at v5 f5 x5
  have hp5 := MD_fr f5 (by omega) hp4
  have a1_5 := MV_fr (a := a) f5 (by omega) a1_4
  have a2_5 := MV_fr (a := a + 1) f5 (by omega) a2_4
  have b1_5 := MV_fr (a := b) f5 (by omega) b1_4
  have b2_5 := MV_fr (a := b + 1) f5 (by omega) b2_4
  have hd_5 := MV_fr (a := 11 + bN true) f5 (by omega) hd_4
  have v1_5 := MV_fr (a := 30) f5 (by omega) v1_4
  have v2_5 := MV_fr (a := 31) f5 (by omega) v2_4
  have v3_5 := MV_fr (a := 32) f5 (by omega) v3_4
  have v4_5 := MV_fr (a := 33) f5 (by omega) v4
  obtain ⟨v6, f6, j6, e6⟩ := mmul_m true mo 34 34 (11 + bN true) S5 (by omega) hp5 v5 hd_5
  have x6 : MX mo (msD d) (mmul_f true mo 34 34 (11 + bN true) S5) S := MX_tr (MX_of (by unfold msD; omega) f6 j6 e6) x5
  clear j6 e6
  generalize hS6 : mmul_f true mo 34 34 (11 + bN true) S5 = S6 at v6 f6 x6
  have hp6 := MD_fr f6 (by omega) hp5
  have a1_6 := MV_fr (a := a) f6 (by omega) a1_5
  have a2_6 := MV_fr (a := a + 1) f6 (by omega) a2_5
  have b1_6 := MV_fr (a := b) f6 (by omega) b1_5
  have b2_6 := MV_fr (a := b + 1) f6 (by omega) b2_5
  have v1_6 := MV_fr (a := 30) f6 (by omega) v1_5
  have v2_6 := MV_fr (a := 31) f6 (by omega) v2_5
  have v3_6 := MV_fr (a := 32) f6 (by omega) v3_5
  have v4_6 := MV_fr (a := 33) f6 (by omega) v4_5
  obtain ⟨v7, f7, j7, e7⟩ := mminus_m true mo 35 31 34 S6 (by omega) hp6 v2_6 v6
  have x7 : MX mo (msD d) (mminus_f true mo 35 31 34 S6) S := MX_tr (MX_of (by unfold msD; omega) f7 j7 e7) x6
  clear j7 e7
  generalize hS7 : mminus_f true mo 35 31 34 S6 = S7 at v7 f7 x7
  have hp7 := MD_fr f7 (by omega) hp6
  have a1_7 := MV_fr (a := a) f7 (by omega) a1_6
  have a2_7 := MV_fr (a := a + 1) f7 (by omega) a2_6
  have b1_7 := MV_fr (a := b) f7 (by omega) b1_6
  have b2_7 := MV_fr (a := b + 1) f7 (by omega) b2_6
  have v1_7 := MV_fr (a := 30) f7 (by omega) v1_6
  have v2_7 := MV_fr (a := 31) f7 (by omega) v2_6
  have v3_7 := MV_fr (a := 32) f7 (by omega) v3_6
  have v4_7 := MV_fr (a := 33) f7 (by omega) v4_6
  have v6_7 := MV_fr (a := 34) f7 (by omega) v6
  obtain ⟨v8, f8, j8, e8⟩ := mplus_m true mo 36 31 34 S7 (by omega) hp7 v2_7 v6_7
  have x8 : MX mo (msD d) (mplus_f true mo 36 31 34 S7) S := MX_tr (MX_of (by unfold msD; omega) f8 j8 e8) x7
  clear j8 e8
  generalize hS8 : mplus_f true mo 36 31 34 S7 = S8 at v8 f8 x8
  have hp8 := MD_fr f8 (by omega) hp7
  have a1_8 := MV_fr (a := a) f8 (by omega) a1_7
  have a2_8 := MV_fr (a := a + 1) f8 (by omega) a2_7
  have b1_8 := MV_fr (a := b) f8 (by omega) b1_7
  have b2_8 := MV_fr (a := b + 1) f8 (by omega) b2_7
  have v1_8 := MV_fr (a := 30) f8 (by omega) v1_7
  have v3_8 := MV_fr (a := 32) f8 (by omega) v3_7
  have v4_8 := MV_fr (a := 33) f8 (by omega) v4_7
  have v7_8 := MV_fr (a := 35) f8 (by omega) v7
  obtain ⟨v9, f9, j9, e9⟩ := mplus_m true mo 37 a (a + 1) S8 (by omega) hp8 a1_8 a2_8
  have x9 : MX mo (msD d) (mplus_f true mo 37 a (a + 1) S8) S := MX_tr (MX_of (by unfold msD; omega) f9 j9 e9) x8
  clear j9 e9
  generalize hS9 : mplus_f true mo 37 a (a + 1) S8 = S9 at v9 f9 x9
  have hp9 := MD_fr f9 (by omega) hp8
  have b1_9 := MV_fr (a := b) f9 (by omega) b1_8
  have b2_9 := MV_fr (a := b + 1) f9 (by omega) b2_8
  have v1_9 := MV_fr (a := 30) f9 (by omega) v1_8
  have v3_9 := MV_fr (a := 32) f9 (by omega) v3_8
  have v4_9 := MV_fr (a := 33) f9 (by omega) v4_8
  have v7_9 := MV_fr (a := 35) f9 (by omega) v7_8
  have v8_9 := MV_fr (a := 36) f9 (by omega) v8
  obtain ⟨v10, f10, j10, e10⟩ := mplus_m true mo 38 b (b + 1) S9 (by omega) hp9 b1_9 b2_9
  have x10 : MX mo (msD d) (mplus_f true mo 38 b (b + 1) S9) S := MX_tr (MX_of (by unfold msD; omega) f10 j10 e10) x9
  clear j10 e10
  generalize hS10 : mplus_f true mo 38 b (b + 1) S9 = S10 at v10 f10 x10
  have hp10 := MD_fr f10 (by omega) hp9
  have v1_10 := MV_fr (a := 30) f10 (by omega) v1_9
  have v3_10 := MV_fr (a := 32) f10 (by omega) v3_9
  have v4_10 := MV_fr (a := 33) f10 (by omega) v4_9
  have v7_10 := MV_fr (a := 35) f10 (by omega) v7_9
  have v8_10 := MV_fr (a := 36) f10 (by omega) v8_9
  have v9_10 := MV_fr (a := 37) f10 (by omega) v9
  obtain ⟨v11, f11, j11, e11⟩ := mmul_m true mo 37 37 38 S10 (by omega) hp10 v9_10 v10
  have x11 : MX mo (msD d) (mmul_f true mo 37 37 38 S10) S := MX_tr (MX_of (by unfold msD; omega) f11 j11 e11) x10
  clear j11 e11
  generalize hS11 : mmul_f true mo 37 37 38 S10 = S11 at v11 f11 x11
  have hp11 := MD_fr f11 (by omega) hp10
  have v1_11 := MV_fr (a := 30) f11 (by omega) v1_10
  have v3_11 := MV_fr (a := 32) f11 (by omega) v3_10
  have v4_11 := MV_fr (a := 33) f11 (by omega) v4_10
  have v7_11 := MV_fr (a := 35) f11 (by omega) v7_10
  have v8_11 := MV_fr (a := 36) f11 (by omega) v8_10
  obtain ⟨v12, f12, j12, e12⟩ := mminus_m true mo 37 37 32 S11 (by omega) hp11 v11 v3_11
  have x12 : MX mo (msD d) (mminus_f true mo 37 37 32 S11) S := MX_tr (MX_of (by unfold msD; omega) f12 j12 e12) x11
  clear j12 e12
  generalize hS12 : mminus_f true mo 37 37 32 S11 = S12 at v12 f12 x12
  have hp12 := MD_fr f12 (by omega) hp11
  have v1_12 := MV_fr (a := 30) f12 (by omega) v1_11
  have v3_12 := MV_fr (a := 32) f12 (by omega) v3_11
  have v4_12 := MV_fr (a := 33) f12 (by omega) v4_11
  have v7_12 := MV_fr (a := 35) f12 (by omega) v7_11
  have v8_12 := MV_fr (a := 36) f12 (by omega) v8_11
  obtain ⟨v13, f13, j13, e13⟩ := mminus_m true mo 37 37 33 S12 (by omega) hp12 v12 v4_12
  have x13 : MX mo (msD d) (mminus_f true mo 37 37 33 S12) S := MX_tr (MX_of (by unfold msD; omega) f13 j13 e13) x12
  clear j13 e13
  generalize hS13 : mminus_f true mo 37 37 33 S12 = S13 at v13 f13 x13
  have hp13 := MD_fr f13 (by omega) hp12
  have v1_13 := MV_fr (a := 30) f13 (by omega) v1_12
  have v3_13 := MV_fr (a := 32) f13 (by omega) v3_12
  have v4_13 := MV_fr (a := 33) f13 (by omega) v4_12
  have v7_13 := MV_fr (a := 35) f13 (by omega) v7_12
  have v8_13 := MV_fr (a := 36) f13 (by omega) v8_12
  obtain ⟨v14, f14, j14, e14⟩ := mminus_m true mo 38 33 32 S13 (by omega) hp13 v4_13 v3_13
  have x14 : MX mo (msD d) (mminus_f true mo 38 33 32 S13) S := MX_tr (MX_of (by unfold msD; omega) f14 j14 e14) x13
  clear j14 e14
  generalize hS14 : mminus_f true mo 38 33 32 S13 = S14 at v14 f14 x14
  have hp14 := MD_fr f14 (by omega) hp13
  have v1_14 := MV_fr (a := 30) f14 (by omega) v1_13
  have v7_14 := MV_fr (a := 35) f14 (by omega) v7_13
  have v8_14 := MV_fr (a := 36) f14 (by omega) v8_13
  have v13_14 := MV_fr (a := 37) f14 (by omega) v13
  obtain ⟨v15, f15, j15, e15⟩ := mmul_m true mo 39 30 35 S14 (by omega) hp14 v1_14 v7_14
  have x15 : MX mo (msD d) (mmul_f true mo 39 30 35 S14) S := MX_tr (MX_of (by unfold msD; omega) f15 j15 e15) x14
  clear j15 e15
  generalize hS15 : mmul_f true mo 39 30 35 S14 = S15 at v15 f15 x15
  have hp15 := MD_fr f15 (by omega) hp14
  have v1_15 := MV_fr (a := 30) f15 (by omega) v1_14
  have v7_15 := MV_fr (a := 35) f15 (by omega) v7_14
  have v8_15 := MV_fr (a := 36) f15 (by omega) v8_14
  have v13_15 := MV_fr (a := 37) f15 (by omega) v13_14
  have v14_15 := MV_fr (a := 38) f15 (by omega) v14
  obtain ⟨v16, f16, j16, e16⟩ := mmul_m true mo d 39 37 S15 (by omega) hp15 v15 v13_15
  have x16 : MX mo (msD d) (mmul_f true mo d 39 37 S15) S := MX_tr (MX_of (by unfold msD; omega) f16 j16 e16) x15
  clear j16 e16
  generalize hS16 : mmul_f true mo d 39 37 S15 = S16 at v16 f16 x16
  have hp16 := MD_fr f16 (by omega) hp15
  have v1_16 := MV_fr (a := 30) f16 (by omega) v1_15
  have v7_16 := MV_fr (a := 35) f16 (by omega) v7_15
  have v8_16 := MV_fr (a := 36) f16 (by omega) v8_15
  have v14_16 := MV_fr (a := 38) f16 (by omega) v14_15
  obtain ⟨v17, f17, j17, e17⟩ := mmul_m true mo 39 30 36 S16 (by omega) hp16 v1_16 v8_16
  have x17 : MX mo (msD d) (mmul_f true mo 39 30 36 S16) S := MX_tr (MX_of (by unfold msD; omega) f17 j17 e17) x16
  clear j17 e17
  generalize hS17 : mmul_f true mo 39 30 36 S16 = S17 at v17 f17 x17
  have hp17 := MD_fr f17 (by omega) hp16
  have v7_17 := MV_fr (a := 35) f17 (by omega) v7_16
  have v8_17 := MV_fr (a := 36) f17 (by omega) v8_16
  have v14_17 := MV_fr (a := 38) f17 (by omega) v14_16
  have v16_17 := MV_fr (a := d) f17 (by omega) v16
  obtain ⟨v18, f18, j18, e18⟩ := mmul_m true mo (d + 1) 39 38 S17 (by omega) hp17 v17 v14_17
  have x18 : MX mo (msD d) (mmul_f true mo (d + 1) 39 38 S17) S := MX_tr (MX_of (by unfold msD; omega) f18 j18 e18) x17
  clear j18 e18
  generalize hS18 : mmul_f true mo (d + 1) 39 38 S17 = S18 at v18 f18 x18
  have hp18 := MD_fr f18 (by omega) hp17
  have v7_18 := MV_fr (a := 35) f18 (by omega) v7_17
  have v8_18 := MV_fr (a := 36) f18 (by omega) v8_17
  have v16_18 := MV_fr (a := d) f18 (by omega) v16_17
  obtain ⟨v19, f19, j19, e19⟩ := mmul_m true mo (d + 2) 35 36 S18 (by omega) hp18 v7_18 v8_18
  have x19 : MX mo (msD d) (mmul_f true mo (d + 2) 35 36 S18) S := MX_tr (MX_of (by unfold msD; omega) f19 j19 e19) x18
  clear j19 e19
  generalize hS19 : mmul_f true mo (d + 2) 35 36 S18 = S19 at v19 f19 x19
  have hp19 := MD_fr f19 (by omega) hp18
  have v16_19 := MV_fr (a := d) f19 (by omega) v16_18
  have v18_19 := MV_fr (a := d + 1) f19 (by omega) v18
  have en : msum_f true mo d a b S = S19 := by
    unfold msum_f
    dsimp only
    rw [hS1, hS2, hS3, hS4, hS5, hS6, hS7, hS8, hS9, hS10, hS11, hS12]
    rw [if_pos (by decide)]
    rw [hS13, hS14, hS15, hS16, hS17, hS18, hS19]
  rw [en]
  have key := ed_rp_sum (fp_K true) on1 on2 e1 e2
  refine ⟨⟨pA_on on1 on2, _, _, _, v16_19, v18_19, v19, ed_rp_to key rfl ?_ rfl⟩, x19⟩
  rw [fa_t]
  exact my_true _ _ _
theorem msum_m (c : Bool) (mo d a b : Nat) (S : StT) {P Q : Pt c} (qd : d + 2 < 9 ∨ 39 < d) (qa : a + 2 < 30 ∨ 39 < a) (qb : b + 2 < 30 ∨ 39 < b) (hC : MC c S.1 mo) (h1 : MP c S.1 mo a P) (h2 : MP c S.1 mo b Q) :
    MP c (msum_f c mo d a b S).1 mo d (pA c P Q) ∧ MX mo (msD d) (msum_f c mo d a b S) S := by
  cases c with
  | true => exact msum_true mo d a b S qd qa qb hC h1 h2
  | false => exact msum_false mo d a b S qd qa qb hC h1 h2
theorem MP_0 {c : Bool} {I : Nat → Nat → Int32} {mo a : Nat} (h0 : MV c I mo a 0) (h1 : MV c I mo (a + 1) 1) (h2 : MV c I mo (a + 2) 1) : MP c I mo a (0, 1) := ⟨pO_0 c, 0, 1, 1, h0, h1, h2, fp_10 c, (Lean.Grind.Semiring.mul_one _).symm, (Lean.Grind.Semiring.mul_one _).symm⟩
def m3D (d x : Nat) : Prop := d ≤ x ∧ x ≤ d + 2
theorem mneutral_m (c : Bool) (mo a : Nat) (S : StT) : MP c (mneutral_f mo a S).1 mo a (0, 1) ∧ MX mo (m3D a) (mneutral_f mo a S) S := by
  unfold mneutral_f
  obtain ⟨a1, a2, a3⟩ := mzero_v c mo a S
  have x1 : MX mo (m3D a) (mzero_f mo a S) S := MX_of2 (by unfold m3D; omega) a2 a3
  generalize mzero_f mo a S = A at a1 x1 ⊢
  obtain ⟨b1, b2, b3⟩ := mone_v c mo (a + 1) A
  have x2 : MX mo (m3D a) (msmall_f mo (a + 1) (nI 1) A) S := MX_tr (MX_of2 (by unfold m3D; omega) b2 b3) x1
  generalize msmall_f mo (a + 1) (nI 1) A = B at b1 b2 x2 ⊢
  obtain ⟨c1, c2, c3⟩ := mone_v c mo (a + 2) B
  exact ⟨MP_0 (MV_fr c2 (by omega) (MV_fr b2 (by omega) a1)) (MV_fr c2 (by omega) b1) c1, MX_tr (MX_of2 (by unfold m3D; omega) c2 c3) x2⟩
theorem mcopyP_m (c : Bool) (mo d a : Nat) (S : StT) {P : Pt c} (hda : d = a ∨ d + 2 < a ∨ a + 2 < d) (h : MP c S.1 mo a P) : MP c (mcopyP_f mo d a S).1 mo d P ∧ MX mo (m3D d) (mcopyP_f mo d a S) S := by
  have en : mcopyP_f mo d a S = mcopy_f mo (d + 2) (a + 2) (mcopy_f mo (d + 1) (a + 1) (mcopy_f mo d a S)) := rfl
  rw [en]
  obtain ⟨on, x, y, z, q1, q2, q3, q4⟩ := h
  obtain ⟨a1, a2, a3⟩ := mcopy_v c mo d a S q1
  have x1 : MX mo (m3D d) (mcopy_f mo d a S) S := MX_of2 (by unfold m3D; omega) a2 a3
  have r2 : MV c (mcopy_f mo d a S).1 mo (a + 1) y := MV_fr a2 (by omega) q2
  have r3 : MV c (mcopy_f mo d a S).1 mo (a + 2) z := MV_fr a2 (by omega) q3
  generalize mcopy_f mo d a S = A at a1 x1 r2 r3 ⊢
  obtain ⟨b1, b2, b3⟩ := mcopy_v c mo (d + 1) (a + 1) A r2
  have x2 : MX mo (m3D d) (mcopy_f mo (d + 1) (a + 1) A) S := MX_tr (MX_of2 (by unfold m3D; omega) b2 b3) x1
  have s3 : MV c (mcopy_f mo (d + 1) (a + 1) A).1 mo (a + 2) z := MV_fr b2 (by omega) r3
  have s1 : MV c (mcopy_f mo (d + 1) (a + 1) A).1 mo d x := MV_fr b2 (by omega) a1
  generalize mcopy_f mo (d + 1) (a + 1) A = B at b1 x2 s1 s3 ⊢
  obtain ⟨c1, c2, c3⟩ := mcopy_v c mo (d + 2) (a + 2) B s3
  exact ⟨⟨on, x, y, z, MV_fr c2 (by omega) s1, MV_fr c2 (by omega) b1, c1, q4⟩, MX_tr (MX_of2 (by unfold m3D; omega) c2 c3) x2⟩
theorem zsub {F : Type} [Lean.Grind.CommRing F] (x : F) : 0 - x = -x := by grind
theorem mneg_m (c : Bool) (mo a : Nat) (S : StT) {P : Pt c} (qa : a + 2 < 9 ∨ 30 < a) (hC : MC c S.1 mo) (h : MP c S.1 mo a P) : MP c (mneg_f c mo a S).1 mo a (ed_neg P) ∧ MX mo (fun x => x = 30 ∨ x = a) (mneg_f c mo a S) S := by
  have hbN := bN_le c
  obtain ⟨on, x, y, z, q1, q2, q3, q4⟩ := h
  unfold mneg_f
  obtain ⟨a1, a2, a3⟩ := mzero_v c mo 30 S
  have x1 : MX mo (fun x => x = 30 ∨ x = a) (mzero_f mo 30 S) S := MX_of2 (Or.inl rfl) a2 a3
  have r1 : MV c (mzero_f mo 30 S).1 mo a x := MV_fr a2 (by omega) q1
  have r2 : MV c (mzero_f mo 30 S).1 mo (a + 1) y := MV_fr a2 (by omega) q2
  have r3 : MV c (mzero_f mo 30 S).1 mo (a + 2) z := MV_fr a2 (by omega) q3
  have hp := MD_fr a2 (by omega) hC.1
  generalize mzero_f mo 30 S = A at a1 x1 r1 r2 r3 hp ⊢
  obtain ⟨b1, b2, b3, b4⟩ := mminus_m c mo a 30 a A (by omega) hp a1 r1
  rw [zsub] at b1
  refine ⟨⟨pN_on on, -x, y, z, b1, MV_fr b2 (by omega) r2, MV_fr b2 (by omega) r3, ed_rp_neg q4⟩, MX_tr (MX_of (Or.inr rfl) b2 b3 b4) x1⟩
theorem val0 {c : Bool} {u : Zp c} : u.val = 0 ↔ u = 0 := ⟨fun h => Fin.ext (h.trans (zero_val c).symm), fun h => by rw [h]; rfl⟩
theorem valE {c : Bool} {u v : Zp c} : u.val = v.val ↔ u = v := ⟨fun h => Fin.ext h, fun h => by rw [h]⟩
theorem misN_m (c : Bool) (mo a : Nat) (S : StT) {P : Pt c} (h : MP c S.1 mo a P) : (misN_f mo a S).1 = (if P = (0, 1) then nI 1 else nI 0) ∧ (misN_f mo a S).2 = S := by
  obtain ⟨on, x, y, z, q1, q2, q3, q4⟩ := h
  obtain ⟨a1, _⟩ := misZero_m mo a S q1
  obtain ⟨b1, _⟩ := mequal_m mo (a + 1) (a + 2) S q2 q3
  have nt := ed_rp_nt (fp_K c) q4
  unfold misN_f
  rw [a1, b1]
  by_cases hx : x.val = 0
  · rw [if_pos hx, if_neg (by decide)]
    by_cases hy : y.val = z.val
    · rw [if_pos hy, if_neg (by decide), if_pos (nt.mp ⟨val0.mp hx, valE.mp hy⟩)]
      exact ⟨rfl, rfl⟩
    · rw [if_neg hy, if_pos (by decide), if_neg (fun q => hy (valE.mpr (nt.mpr q).2))]
      exact ⟨rfl, rfl⟩
  · rw [if_neg hx, if_pos (by decide), if_neg (fun q => hx (val0.mpr (nt.mpr q).1))]
    exact ⟨rfl, rfl⟩
theorem malike_m (c : Bool) (mo a b : Nat) (S : StT) {P Q : Pt c} (qa : a + 2 < 30 ∨ 39 < a) (qb : b + 2 < 30 ∨ 39 < b) (hC : MC c S.1 mo) (h1 : MP c S.1 mo a P) (h2 : MP c S.1 mo b Q) :
    (malike_f c mo a b S).1 = (if P = Q then nI 1 else nI 0) ∧ MX mo (fun x => 30 ≤ x ∧ x ≤ 33) (malike_f c mo a b S).2 S := by
  obtain ⟨hp, _⟩ := hC
  have hbN := bN_le c
  obtain ⟨on1, ux1, uy1, uz1, a1, a2, a3, e1⟩ := h1
  obtain ⟨on2, ux2, uy2, uz2, b1, b2, b3, e2⟩ := h2
  obtain ⟨v1, f1, j1, e1⟩ := mmul_m c mo 30 a (b + 2) S (by omega) hp a1 b3
  have x1 : MX mo (fun x => 30 ≤ x ∧ x ≤ 33) (mmul_f c mo 30 a (b + 2) S) S := MX_of (by omega) f1 j1 e1
  clear j1 e1
  generalize hS1 : mmul_f c mo 30 a (b + 2) S = S1 at v1 f1 x1
  have hp1 := MD_fr f1 (by omega) hp
  have a2_1 := MV_fr (a := a + 1) f1 (by omega) a2
  have a3_1 := MV_fr (a := a + 2) f1 (by omega) a3
  have b1_1 := MV_fr (a := b) f1 (by omega) b1
  have b2_1 := MV_fr (a := b + 1) f1 (by omega) b2
  have b3_1 := MV_fr (a := b + 2) f1 (by omega) b3
  obtain ⟨v2, f2, j2, e2⟩ := mmul_m c mo 31 b (a + 2) S1 (by omega) hp1 b1_1 a3_1
  have x2 : MX mo (fun x => 30 ≤ x ∧ x ≤ 33) (mmul_f c mo 31 b (a + 2) S1) S := MX_tr (MX_of (by omega) f2 j2 e2) x1
  clear j2 e2
  generalize hS2 : mmul_f c mo 31 b (a + 2) S1 = S2 at v2 f2 x2
  have hp2 := MD_fr f2 (by omega) hp1
  have a2_2 := MV_fr (a := a + 1) f2 (by omega) a2_1
  have a3_2 := MV_fr (a := a + 2) f2 (by omega) a3_1
  have b2_2 := MV_fr (a := b + 1) f2 (by omega) b2_1
  have b3_2 := MV_fr (a := b + 2) f2 (by omega) b3_1
  have v1_2 := MV_fr (a := 30) f2 (by omega) v1
  obtain ⟨v3, f3, j3, e3⟩ := mmul_m c mo 32 (a + 1) (b + 2) S2 (by omega) hp2 a2_2 b3_2
  have x3 : MX mo (fun x => 30 ≤ x ∧ x ≤ 33) (mmul_f c mo 32 (a + 1) (b + 2) S2) S := MX_tr (MX_of (by omega) f3 j3 e3) x2
  clear j3 e3
  generalize hS3 : mmul_f c mo 32 (a + 1) (b + 2) S2 = S3 at v3 f3 x3
  have hp3 := MD_fr f3 (by omega) hp2
  have a3_3 := MV_fr (a := a + 2) f3 (by omega) a3_2
  have b2_3 := MV_fr (a := b + 1) f3 (by omega) b2_2
  have v1_3 := MV_fr (a := 30) f3 (by omega) v1_2
  have v2_3 := MV_fr (a := 31) f3 (by omega) v2
  obtain ⟨v4, f4, j4, e4⟩ := mmul_m c mo 33 (b + 1) (a + 2) S3 (by omega) hp3 b2_3 a3_3
  have x4 : MX mo (fun x => 30 ≤ x ∧ x ≤ 33) (mmul_f c mo 33 (b + 1) (a + 2) S3) S := MX_tr (MX_of (by omega) f4 j4 e4) x3
  clear j4 e4
  generalize hS4 : mmul_f c mo 33 (b + 1) (a + 2) S3 = S4 at v4 f4 x4
  have hp4 := MD_fr f4 (by omega) hp3
  have v1_4 := MV_fr (a := 30) f4 (by omega) v1_3
  have v2_4 := MV_fr (a := 31) f4 (by omega) v2_3
  have v3_4 := MV_fr (a := 32) f4 (by omega) v3
  have eq := ed_rp_eq (fp_K c) e1 e2
  unfold malike_f
  dsimp only
  rw [hS1, hS2, hS3, hS4]
  obtain ⟨m1, _⟩ := mequal_m mo 30 31 S4 v1_4 v2_4
  obtain ⟨n1, _⟩ := mequal_m mo 32 33 S4 v3_4 v4
  rw [m1, n1]
  by_cases hx : (ux1 * uz2).val = (ux2 * uz1).val
  · rw [if_pos hx, if_neg (by decide)]
    by_cases hy : (uy1 * uz2).val = (uy2 * uz1).val
    · rw [if_pos hy, if_neg (by decide), if_pos (eq.mp ⟨valE.mp hx, valE.mp hy⟩)]
      exact ⟨rfl, x4⟩
    · rw [if_neg hy, if_pos (by decide), if_neg (fun q => hy (valE.mpr (eq.mpr q).2))]
      exact ⟨rfl, x4⟩
  · rw [if_neg hx, if_pos (by decide), if_neg (fun q => hx (valE.mpr (eq.mpr q).1))]
    exact ⟨rfl, x4⟩
theorem bit8 {x : Int32} {N j : Nat} (hx : uN x = N / 2 ^ (8 * (j / 8)) % 256) : ((x >>> (nI (j % 2 ^ 3) &&& 31)) &&& nI 1) ≠ nI 1 ↔ N / 2 ^ j % 2 = 0 := by
  have hl : uN x < 256 := by rw [hx]; exact Nat.mod_lt _ (by decide)
  have e : uN ((x >>> (nI (j % 2 ^ 3) &&& 31)) &&& nI 1) = N / 2 ^ j % 2 := by
    have e1 : uN ((x >>> (nI (j % 2 ^ 3) &&& 31)) &&& nI (2 ^ 1 - 1)) = uN (x >>> (nI (j % 2 ^ 3) &&& 31)) % 2 ^ 1 := uN_and (by decide)
    rw [sh_nat (by omega) (by omega), hx] at e1
    have e2 : uN ((x >>> (nI (j % 2 ^ 3) &&& 31)) &&& nI 1) = N / 2 ^ (8 * (j / 8)) % 256 / 2 ^ (j % 8) % 2 := e1
    rw [e2]
    have hk : j % 8 < 8 := Nat.mod_lt _ (by decide)
    have e3 : N / 2 ^ j = N / 2 ^ (8 * (j / 8)) / 2 ^ (j % 8) := by
      rw [Nat.div_div_eq_div_mul, ← Nat.pow_add, show 8 * (j / 8) + j % 8 = j from by omega]
    rw [e3]
    generalize N / 2 ^ (8 * (j / 8)) = F
    generalize j % 8 = k at hk
    have e4 : F % 256 / 2 ^ k % 2 = F / 2 ^ k % 2 := by
      have e5 : (256 : Nat) = 2 ^ k * 2 ^ (8 - k) := by rw [← Nat.pow_add, show k + (8 - k) = 8 from by omega]
      rw [e5, Nat.mod_mul_right_div_self]
      have e6 : (2 : Nat) ^ (8 - k) = 2 * 2 ^ (7 - k) := by rw [show 8 - k = (7 - k) + 1 from by omega, Nat.pow_succ, Nat.mul_comm]
      rw [e6, Nat.mod_mul_right_mod]
    exact e4
  constructor
  · intro h
    have h2 : N / 2 ^ j % 2 < 2 := Nat.mod_lt _ (by decide)
    rcases Nat.lt_or_ge (N / 2 ^ j % 2) 1 with q | q
    · omega
    · exact absurd (uN_ext (e.trans (by rw [show N / 2 ^ j % 2 = 1 from by omega]; decide))) h
  · intro h q
    rw [q, h] at e
    exact absurd e (by decide)
def myD (d x : Nat) : Prop := (30 ≤ x ∧ x ≤ 39) ∨ (40 ≤ x ∧ x ≤ 45) ∨ (d ≤ x ∧ x ≤ d + 2)
theorem pM_dbl {c : Bool} {P : Pt c} (h : pO c P) (N k : Nat) : pM c P (N / 2 ^ k) = if N / 2 ^ k % 2 = 0 then pA c (pM c P (N / 2 ^ (k + 1))) (pM c P (N / 2 ^ (k + 1))) else pA c (pA c (pM c P (N / 2 ^ (k + 1))) (pM c P (N / 2 ^ (k + 1)))) P := by
  have e : N / 2 ^ (k + 1) = N / 2 ^ k / 2 := by rw [Nat.pow_succ, Nat.div_div_eq_div_mul]
  rw [e, ← pM_add h]
  generalize N / 2 ^ k = n
  by_cases q : n % 2 = 0
  · rw [if_pos q, show n / 2 + n / 2 = n from by omega]
  · rw [if_neg q, ← pM_s, show n / 2 + n / 2 + 1 = n from by omega]
/-- the multiple by bits: the bytes nb of the model's row -/
theorem mmany_m (c : Bool) (mo d a nb m nn : Nat) (S : StT) {P : Pt c} (qd : d + 2 < 9 ∨ 45 < d) (qa : a + 2 < 30 ∨ 45 < a) (hnb7 : nb ≠ mo + 7) (hnb9 : nb ≠ mo + 9) (hB : BY (S.1 nb) nn) (hC : MC c S.1 mo) (h1 : MP c S.1 mo a P) :
    MP c (mmany_f c mo d a nb m nn S).1 mo d (pM c P (bv (S.1 nb) nn)) ∧ MX mo (myD d) (mmany_f c mo d a nb m nn S) S := by
  have hbN := bN_le c
  have on := h1.1
  unfold mmany_f
  dsimp only
  obtain ⟨a1, a2⟩ := mcopyP_m c mo 43 a S (by omega) h1
  have xA : MX mo (myD d) (mcopyP_f mo 43 a S) S := MX_le (fun x hx => by unfold m3D at hx; unfold myD; omega) a2
  generalize mcopyP_f mo 43 a S = A at a1 xA ⊢
  obtain ⟨b1, b2⟩ := mneutral_m c mo 40 A
  have xB : MX mo (myD d) (mneutral_f mo 40 A) S := MX_tr (MX_le (fun x hx => by unfold m3D at hx; unfold myD; omega) b2) xA
  have p43 : MP c (mneutral_f mo 40 A).1 mo 43 P := MP_mx b2 (by unfold m3D; omega) (by unfold m3D; omega) (by unfold m3D; omega) a1
  generalize mneutral_f mo 40 A = B at b1 xB p43 ⊢
  have hCB : MC c B.1 mo := MC_mx xB (by unfold myD; omega) (by unfold myD; omega) hC
  have hN := bv_lt hB
  have key : ∀ i, i ≤ 8 * nn → MP c (mmany_l22 c mo d a nb m nn B i).1 mo 40 (pM c P (bv (S.1 nb) nn / 2 ^ (8 * nn - i))) ∧ MX mo (msD 40) (mmany_l22 c mo d a nb m nn B i) B := by
    intro i
    induction i with
    | zero =>
      intro _
      rw [Nat.sub_zero, Nat.div_eq_of_lt hN, pM_0]
      exact ⟨b1, MX_rfl _ _ _⟩
    | succ i ih =>
      intro hi
      obtain ⟨i1, i2⟩ := ih (by omega)
      have st : mmany_l22 c mo d a nb m nn B (i + 1) = (if ((((msum_f c (mo) (40) (40) (40) (mmany_l22 c mo d a nb m nn B i)).1 (nb) (((8 * nn) - 1 - i) / 2 ^ 3)) >>> ((nI (((8 * nn) - 1 - i) % 2 ^ 3)) &&& 31)) &&& (nI (1))) ≠ (nI (1)) then msum_f c (mo) (40) (40) (40) (mmany_l22 c mo d a nb m nn B i) else msum_f c (mo) (40) (40) (43) (msum_f c (mo) (40) (40) (40) (mmany_l22 c mo d a nb m nn B i))) := rfl
      rw [st]
      clear st
      generalize mmany_l22 c mo d a nb m nn B i = Y at i1 i2 ⊢
      obtain ⟨m1, m2⟩ := msum_m c mo 40 40 40 Y (by decide) (by decide) (by decide) (MC_mx i2 (by unfold msD; omega) (by unfold msD; omega) hCB) i1 i1
      have xm : MX mo (msD 40) (msum_f c mo 40 40 40 Y) B := MX_tr m2 i2
      generalize msum_f c mo 40 40 40 Y = Z at m1 xm ⊢
      have er : Z.1 nb = S.1 nb := (xm.1 nb hnb7 hnb9).trans (xB.1 nb hnb7 hnb9)
      rw [er]
      have hbit := bit8 (N := bv (S.1 nb) nn) (j := 8 * nn - 1 - i) (bv_dig hB (i := (8 * nn - 1 - i) / 8) (by omega))
      have hh := pM_dbl on (bv (S.1 nb) nn) (8 * nn - 1 - i)
      rw [show 8 * nn - 1 - i + 1 = 8 * nn - i from by omega] at hh
      rw [show 8 * nn - (i + 1) = 8 * nn - 1 - i from by omega, hh]
      by_cases q : bv (S.1 nb) nn / 2 ^ (8 * nn - 1 - i) % 2 = 0
      · rw [if_pos (hbit.mpr q), if_pos q]
        exact ⟨m1, xm⟩
      · rw [if_neg (fun h => q (hbit.mp h)), if_neg q]
        obtain ⟨n1, n2⟩ := msum_m c mo 40 40 43 Z (by decide) (by decide) (by decide) (MC_mx xm (by unfold msD; omega) (by unfold msD; omega) hCB) m1 (MP_mx xm (by unfold msD; omega) (by unfold msD; omega) (by unfold msD; omega) p43)
        exact ⟨n1, MX_tr n2 xm⟩
  obtain ⟨k1, k2⟩ := key (8 * nn) (Nat.le_refl _)
  rw [Nat.sub_self, Nat.pow_zero, Nat.div_one] at k1
  generalize mmany_l22 c mo d a nb m nn B (8 * nn) = Y at k1 k2 ⊢
  obtain ⟨e1, e2⟩ := mcopyP_m c mo d 40 Y (by omega) k1
  exact ⟨e1, MX_tr (MX_le (fun x hx => by unfold m3D at hx; unfold myD; omega) e2) (MX_tr (MX_le (fun x hx => by unfold msD at hx; unfold myD; omega) k2) xB)⟩
end
