section
/-! THE MODEL'S LADDER. -/
def mlD (x : Nat) : Prop := (21 ≤ x ∧ x ≤ 24) ∨ (30 ≤ x ∧ x ≤ 41) ∨ (46 ≤ x ∧ x ≤ 48)
theorem l_c {F : Type} [Lean.Grind.CommRing F] (x s : F) : x * s = s * x := by grind
theorem l_k {F : Type} [Lean.Grind.CommRing F] (E k a : F) : E * (a + k * E) = (k * E + a) * E := by grind
def mgD (x : Nat) : Prop := (21 ≤ x ∧ x ≤ 22) ∨ (30 ≤ x ∧ x ≤ 41)
theorem mrung_m (c : Bool) (mo : Nat) (S : StT) {w1 w2 t2 w3 t3 : Zp c} (hp : MD S.1 mo (9 + bN c) (nt_p c)) (h1 : MV c S.1 mo 46 w1) (hk : MV c S.1 mo 47 (ka c)) (h2 : MV c S.1 mo 21 w2) (hz2 : MV c S.1 mo 22 t2) (h3 : MV c S.1 mo 40 w3) (hz3 : MV c S.1 mo 41 t3) :
    (MV c (mrung_f c mo S).1 mo 21 (lst c w1 w2 t2 w3 t3).1.1 ∧ MV c (mrung_f c mo S).1 mo 22 (lst c w1 w2 t2 w3 t3).1.2 ∧ MV c (mrung_f c mo S).1 mo 40 (lst c w1 w2 t2 w3 t3).2.1 ∧ MV c (mrung_f c mo S).1 mo 41 (lst c w1 w2 t2 w3 t3).2.2) ∧ MX mo mgD (mrung_f c mo S) S := by
  have hbN := bN_le c
  obtain ⟨v1, f1, j1, e1⟩ := mplus_m c mo 30 21 22 S (by omega) hp h2 hz2
  have x1 : MX mo mgD (mplus_f c mo 30 21 22 S) S := MX_of (by unfold mgD; omega) f1 j1 e1
  clear j1 e1
  generalize hS1 : mplus_f c mo 30 21 22 S = S1 at v1 f1 x1
  have hp1 := MD_fr f1 (by omega) hp
  have h2_1 := MV_fr (a := 21) f1 (by omega) h2
  have hz2_1 := MV_fr (a := 22) f1 (by omega) hz2
  have h3_1 := MV_fr (a := 40) f1 (by omega) h3
  have hz3_1 := MV_fr (a := 41) f1 (by omega) hz3
  have h1_1 := MV_fr (a := 46) f1 (by omega) h1
  have hk_1 := MV_fr (a := 47) f1 (by omega) hk
  obtain ⟨v2, f2, j2, e2⟩ := mmul_m c mo 31 30 30 S1 (by omega) hp1 v1 v1
  have x2 : MX mo mgD (mmul_f c mo 31 30 30 S1) S := MX_tr (MX_of (by unfold mgD; omega) f2 j2 e2) x1
  clear j2 e2
  generalize hS2 : mmul_f c mo 31 30 30 S1 = S2 at v2 f2 x2
  have hp2 := MD_fr f2 (by omega) hp1
  have h2_2 := MV_fr (a := 21) f2 (by omega) h2_1
  have hz2_2 := MV_fr (a := 22) f2 (by omega) hz2_1
  have h3_2 := MV_fr (a := 40) f2 (by omega) h3_1
  have hz3_2 := MV_fr (a := 41) f2 (by omega) hz3_1
  have h1_2 := MV_fr (a := 46) f2 (by omega) h1_1
  have hk_2 := MV_fr (a := 47) f2 (by omega) hk_1
  have v1_2 := MV_fr (a := 30) f2 (by omega) v1
  obtain ⟨v3, f3, j3, e3⟩ := mminus_m c mo 32 21 22 S2 (by omega) hp2 h2_2 hz2_2
  have x3 : MX mo mgD (mminus_f c mo 32 21 22 S2) S := MX_tr (MX_of (by unfold mgD; omega) f3 j3 e3) x2
  clear j3 e3
  generalize hS3 : mminus_f c mo 32 21 22 S2 = S3 at v3 f3 x3
  have hp3 := MD_fr f3 (by omega) hp2
  have h3_3 := MV_fr (a := 40) f3 (by omega) h3_2
  have hz3_3 := MV_fr (a := 41) f3 (by omega) hz3_2
  have h1_3 := MV_fr (a := 46) f3 (by omega) h1_2
  have hk_3 := MV_fr (a := 47) f3 (by omega) hk_2
  have v1_3 := MV_fr (a := 30) f3 (by omega) v1_2
  have v2_3 := MV_fr (a := 31) f3 (by omega) v2
  obtain ⟨v4, f4, j4, e4⟩ := mmul_m c mo 33 32 32 S3 (by omega) hp3 v3 v3
  have x4 : MX mo mgD (mmul_f c mo 33 32 32 S3) S := MX_tr (MX_of (by unfold mgD; omega) f4 j4 e4) x3
  clear j4 e4
  generalize hS4 : mmul_f c mo 33 32 32 S3 = S4 at v4 f4 x4
  have hp4 := MD_fr f4 (by omega) hp3
  have h3_4 := MV_fr (a := 40) f4 (by omega) h3_3
  have hz3_4 := MV_fr (a := 41) f4 (by omega) hz3_3
  have h1_4 := MV_fr (a := 46) f4 (by omega) h1_3
  have hk_4 := MV_fr (a := 47) f4 (by omega) hk_3
  have v1_4 := MV_fr (a := 30) f4 (by omega) v1_3
  have v2_4 := MV_fr (a := 31) f4 (by omega) v2_3
  have v3_4 := MV_fr (a := 32) f4 (by omega) v3
  obtain ⟨v5, f5, j5, e5⟩ := mminus_m c mo 34 31 33 S4 (by omega) hp4 v2_4 v4
  have x5 : MX mo mgD (mminus_f c mo 34 31 33 S4) S := MX_tr (MX_of (by unfold mgD; omega) f5 j5 e5) x4
  clear j5 e5
  generalize hS5 : mminus_f c mo 34 31 33 S4 = S5 at v5 f5 x5
  have hp5 := MD_fr f5 (by omega) hp4
  have h3_5 := MV_fr (a := 40) f5 (by omega) h3_4
  have hz3_5 := MV_fr (a := 41) f5 (by omega) hz3_4
  have h1_5 := MV_fr (a := 46) f5 (by omega) h1_4
  have hk_5 := MV_fr (a := 47) f5 (by omega) hk_4
  have v1_5 := MV_fr (a := 30) f5 (by omega) v1_4
  have v2_5 := MV_fr (a := 31) f5 (by omega) v2_4
  have v3_5 := MV_fr (a := 32) f5 (by omega) v3_4
  have v4_5 := MV_fr (a := 33) f5 (by omega) v4
  obtain ⟨v6, f6, j6, e6⟩ := mplus_m c mo 35 40 41 S5 (by omega) hp5 h3_5 hz3_5
  have x6 : MX mo mgD (mplus_f c mo 35 40 41 S5) S := MX_tr (MX_of (by unfold mgD; omega) f6 j6 e6) x5
  clear j6 e6
  generalize hS6 : mplus_f c mo 35 40 41 S5 = S6 at v6 f6 x6
  have hp6 := MD_fr f6 (by omega) hp5
  have h3_6 := MV_fr (a := 40) f6 (by omega) h3_5
  have hz3_6 := MV_fr (a := 41) f6 (by omega) hz3_5
  have h1_6 := MV_fr (a := 46) f6 (by omega) h1_5
  have hk_6 := MV_fr (a := 47) f6 (by omega) hk_5
  have v1_6 := MV_fr (a := 30) f6 (by omega) v1_5
  have v2_6 := MV_fr (a := 31) f6 (by omega) v2_5
  have v3_6 := MV_fr (a := 32) f6 (by omega) v3_5
  have v4_6 := MV_fr (a := 33) f6 (by omega) v4_5
  have v5_6 := MV_fr (a := 34) f6 (by omega) v5
  obtain ⟨v7, f7, j7, e7⟩ := mminus_m c mo 36 40 41 S6 (by omega) hp6 h3_6 hz3_6
  have x7 : MX mo mgD (mminus_f c mo 36 40 41 S6) S := MX_tr (MX_of (by unfold mgD; omega) f7 j7 e7) x6
  clear j7 e7
  generalize hS7 : mminus_f c mo 36 40 41 S6 = S7 at v7 f7 x7
  have hp7 := MD_fr f7 (by omega) hp6
  have h1_7 := MV_fr (a := 46) f7 (by omega) h1_6
  have hk_7 := MV_fr (a := 47) f7 (by omega) hk_6
  have v1_7 := MV_fr (a := 30) f7 (by omega) v1_6
  have v2_7 := MV_fr (a := 31) f7 (by omega) v2_6
  have v3_7 := MV_fr (a := 32) f7 (by omega) v3_6
  have v4_7 := MV_fr (a := 33) f7 (by omega) v4_6
  have v5_7 := MV_fr (a := 34) f7 (by omega) v5_6
  have v6_7 := MV_fr (a := 35) f7 (by omega) v6
  obtain ⟨v8, f8, j8, e8⟩ := mmul_m c mo 36 36 30 S7 (by omega) hp7 v7 v1_7
  have x8 : MX mo mgD (mmul_f c mo 36 36 30 S7) S := MX_tr (MX_of (by unfold mgD; omega) f8 j8 e8) x7
  clear j8 e8
  generalize hS8 : mmul_f c mo 36 36 30 S7 = S8 at v8 f8 x8
  have hp8 := MD_fr f8 (by omega) hp7
  have h1_8 := MV_fr (a := 46) f8 (by omega) h1_7
  have hk_8 := MV_fr (a := 47) f8 (by omega) hk_7
  have v2_8 := MV_fr (a := 31) f8 (by omega) v2_7
  have v3_8 := MV_fr (a := 32) f8 (by omega) v3_7
  have v4_8 := MV_fr (a := 33) f8 (by omega) v4_7
  have v5_8 := MV_fr (a := 34) f8 (by omega) v5_7
  have v6_8 := MV_fr (a := 35) f8 (by omega) v6_7
  obtain ⟨v9, f9, j9, e9⟩ := mmul_m c mo 35 35 32 S8 (by omega) hp8 v6_8 v3_8
  have x9 : MX mo mgD (mmul_f c mo 35 35 32 S8) S := MX_tr (MX_of (by unfold mgD; omega) f9 j9 e9) x8
  clear j9 e9
  generalize hS9 : mmul_f c mo 35 35 32 S8 = S9 at v9 f9 x9
  have hp9 := MD_fr f9 (by omega) hp8
  have h1_9 := MV_fr (a := 46) f9 (by omega) h1_8
  have hk_9 := MV_fr (a := 47) f9 (by omega) hk_8
  have v2_9 := MV_fr (a := 31) f9 (by omega) v2_8
  have v4_9 := MV_fr (a := 33) f9 (by omega) v4_8
  have v5_9 := MV_fr (a := 34) f9 (by omega) v5_8
  have v8_9 := MV_fr (a := 36) f9 (by omega) v8
  obtain ⟨v10, f10, j10, e10⟩ := mplus_m c mo 37 36 35 S9 (by omega) hp9 v8_9 v9
  have x10 : MX mo mgD (mplus_f c mo 37 36 35 S9) S := MX_tr (MX_of (by unfold mgD; omega) f10 j10 e10) x9
  clear j10 e10
  generalize hS10 : mplus_f c mo 37 36 35 S9 = S10 at v10 f10 x10
  have hp10 := MD_fr f10 (by omega) hp9
  have h1_10 := MV_fr (a := 46) f10 (by omega) h1_9
  have hk_10 := MV_fr (a := 47) f10 (by omega) hk_9
  have v2_10 := MV_fr (a := 31) f10 (by omega) v2_9
  have v4_10 := MV_fr (a := 33) f10 (by omega) v4_9
  have v5_10 := MV_fr (a := 34) f10 (by omega) v5_9
  have v8_10 := MV_fr (a := 36) f10 (by omega) v8_9
  have v9_10 := MV_fr (a := 35) f10 (by omega) v9
  obtain ⟨v11, f11, j11, e11⟩ := mmul_m c mo 40 37 37 S10 (by omega) hp10 v10 v10
  have x11 : MX mo mgD (mmul_f c mo 40 37 37 S10) S := MX_tr (MX_of (by unfold mgD; omega) f11 j11 e11) x10
  clear j11 e11
  generalize hS11 : mmul_f c mo 40 37 37 S10 = S11 at v11 f11 x11
  have hp11 := MD_fr f11 (by omega) hp10
  have h1_11 := MV_fr (a := 46) f11 (by omega) h1_10
  have hk_11 := MV_fr (a := 47) f11 (by omega) hk_10
  have v2_11 := MV_fr (a := 31) f11 (by omega) v2_10
  have v4_11 := MV_fr (a := 33) f11 (by omega) v4_10
  have v5_11 := MV_fr (a := 34) f11 (by omega) v5_10
  have v8_11 := MV_fr (a := 36) f11 (by omega) v8_10
  have v9_11 := MV_fr (a := 35) f11 (by omega) v9_10
  obtain ⟨v12, f12, j12, e12⟩ := mminus_m c mo 37 36 35 S11 (by omega) hp11 v8_11 v9_11
  have x12 : MX mo mgD (mminus_f c mo 37 36 35 S11) S := MX_tr (MX_of (by unfold mgD; omega) f12 j12 e12) x11
  clear j12 e12
  generalize hS12 : mminus_f c mo 37 36 35 S11 = S12 at v12 f12 x12
  have hp12 := MD_fr f12 (by omega) hp11
  have h1_12 := MV_fr (a := 46) f12 (by omega) h1_11
  have hk_12 := MV_fr (a := 47) f12 (by omega) hk_11
  have v2_12 := MV_fr (a := 31) f12 (by omega) v2_11
  have v4_12 := MV_fr (a := 33) f12 (by omega) v4_11
  have v5_12 := MV_fr (a := 34) f12 (by omega) v5_11
  have v11_12 := MV_fr (a := 40) f12 (by omega) v11
  obtain ⟨v13, f13, j13, e13⟩ := mmul_m c mo 37 37 37 S12 (by omega) hp12 v12 v12
  have x13 : MX mo mgD (mmul_f c mo 37 37 37 S12) S := MX_tr (MX_of (by unfold mgD; omega) f13 j13 e13) x12
  clear j13 e13
  generalize hS13 : mmul_f c mo 37 37 37 S12 = S13 at v13 f13 x13
  have hp13 := MD_fr f13 (by omega) hp12
  have h1_13 := MV_fr (a := 46) f13 (by omega) h1_12
  have hk_13 := MV_fr (a := 47) f13 (by omega) hk_12
  have v2_13 := MV_fr (a := 31) f13 (by omega) v2_12
  have v4_13 := MV_fr (a := 33) f13 (by omega) v4_12
  have v5_13 := MV_fr (a := 34) f13 (by omega) v5_12
  have v11_13 := MV_fr (a := 40) f13 (by omega) v11_12
  obtain ⟨v14, f14, j14, e14⟩ := mmul_m c mo 41 46 37 S13 (by omega) hp13 h1_13 v13
  have x14 : MX mo mgD (mmul_f c mo 41 46 37 S13) S := MX_tr (MX_of (by unfold mgD; omega) f14 j14 e14) x13
  clear j14 e14
  generalize hS14 : mmul_f c mo 41 46 37 S13 = S14 at v14 f14 x14
  have hp14 := MD_fr f14 (by omega) hp13
  have hk_14 := MV_fr (a := 47) f14 (by omega) hk_13
  have v2_14 := MV_fr (a := 31) f14 (by omega) v2_13
  have v4_14 := MV_fr (a := 33) f14 (by omega) v4_13
  have v5_14 := MV_fr (a := 34) f14 (by omega) v5_13
  have v11_14 := MV_fr (a := 40) f14 (by omega) v11_13
  obtain ⟨v15, f15, j15, e15⟩ := mmul_m c mo 21 31 33 S14 (by omega) hp14 v2_14 v4_14
  have x15 : MX mo mgD (mmul_f c mo 21 31 33 S14) S := MX_tr (MX_of (by unfold mgD; omega) f15 j15 e15) x14
  clear j15 e15
  generalize hS15 : mmul_f c mo 21 31 33 S14 = S15 at v15 f15 x15
  have hp15 := MD_fr f15 (by omega) hp14
  have hk_15 := MV_fr (a := 47) f15 (by omega) hk_14
  have v2_15 := MV_fr (a := 31) f15 (by omega) v2_14
  have v5_15 := MV_fr (a := 34) f15 (by omega) v5_14
  have v11_15 := MV_fr (a := 40) f15 (by omega) v11_14
  have v14_15 := MV_fr (a := 41) f15 (by omega) v14
  obtain ⟨v16, f16, j16, e16⟩ := mmul_m c mo 38 47 34 S15 (by omega) hp15 hk_15 v5_15
  have x16 : MX mo mgD (mmul_f c mo 38 47 34 S15) S := MX_tr (MX_of (by unfold mgD; omega) f16 j16 e16) x15
  clear j16 e16
  generalize hS16 : mmul_f c mo 38 47 34 S15 = S16 at v16 f16 x16
  have hp16 := MD_fr f16 (by omega) hp15
  have v2_16 := MV_fr (a := 31) f16 (by omega) v2_15
  have v5_16 := MV_fr (a := 34) f16 (by omega) v5_15
  have v11_16 := MV_fr (a := 40) f16 (by omega) v11_15
  have v14_16 := MV_fr (a := 41) f16 (by omega) v14_15
  have v15_16 := MV_fr (a := 21) f16 (by omega) v15
  obtain ⟨v17, f17, j17, e17⟩ := mplus_m c mo 38 31 38 S16 (by omega) hp16 v2_16 v16
  have x17 : MX mo mgD (mplus_f c mo 38 31 38 S16) S := MX_tr (MX_of (by unfold mgD; omega) f17 j17 e17) x16
  clear j17 e17
  generalize hS17 : mplus_f c mo 38 31 38 S16 = S17 at v17 f17 x17
  have hp17 := MD_fr f17 (by omega) hp16
  have v5_17 := MV_fr (a := 34) f17 (by omega) v5_16
  have v11_17 := MV_fr (a := 40) f17 (by omega) v11_16
  have v14_17 := MV_fr (a := 41) f17 (by omega) v14_16
  have v15_17 := MV_fr (a := 21) f17 (by omega) v15_16
  obtain ⟨v18, f18, j18, e18⟩ := mmul_m c mo 22 34 38 S17 (by omega) hp17 v5_17 v17
  have x18 : MX mo mgD (mmul_f c mo 22 34 38 S17) S := MX_tr (MX_of (by unfold mgD; omega) f18 j18 e18) x17
  clear j18 e18
  generalize hS18 : mmul_f c mo 22 34 38 S17 = S18 at v18 f18 x18
  have hp18 := MD_fr f18 (by omega) hp17
  have v11_18 := MV_fr (a := 40) f18 (by omega) v11_17
  have v14_18 := MV_fr (a := 41) f18 (by omega) v14_17
  have v15_18 := MV_fr (a := 21) f18 (by omega) v15_17
  have en : mrung_f c mo S = S18 := by
    unfold mrung_f
    dsimp only
    rw [hS1, hS2, hS3, hS4, hS5, hS6, hS7, hS8, hS9, hS10, hS11, hS12, hS13, hS14, hS15, hS16, hS17, hS18]
  rw [en]
  have w22 := v18
  have w41 := v14_18
  rw [l_k] at w22
  rw [l_c w1] at w41
  exact ⟨⟨v15_18, w22, v11_18, w41⟩, x18⟩
theorem mswap_m (c : Bool) (mo : Nat) (S : StT) {w2 t2 w3 t3 : Zp c} (h2 : MV c S.1 mo 21 w2) (hz2 : MV c S.1 mo 22 t2) (h3 : MV c S.1 mo 40 w3) (hz3 : MV c S.1 mo 41 t3) :
    (MV c (mswap_f mo S).1 mo 21 w3 ∧ MV c (mswap_f mo S).1 mo 22 t3 ∧ MV c (mswap_f mo S).1 mo 40 w2 ∧ MV c (mswap_f mo S).1 mo 41 t2) ∧ MX mo (fun x => x = 21 ∨ x = 22 ∨ x = 40 ∨ x = 41 ∨ x = 48) (mswap_f mo S) S := by
  have en : mswap_f mo S = mcopy_f mo 41 48 (mcopy_f mo 22 41 (mcopy_f mo 48 22 (mcopy_f mo 40 48 (mcopy_f mo 21 40 (mcopy_f mo 48 21 S))))) := rfl
  rw [en]
  obtain ⟨v1, f1, e1⟩ := mcopy_v c mo 48 21 S h2
  have x1 : MX mo (fun x => x = 21 ∨ x = 22 ∨ x = 40 ∨ x = 41 ∨ x = 48) (mcopy_f mo 48 21 S) S := MX_of2 (by omega) f1 e1
  clear e1
  generalize hS1 : mcopy_f mo 48 21 S = S1 at v1 f1 x1
  have hz2_1 := MV_fr (a := 22) f1 (by omega) hz2
  have h3_1 := MV_fr (a := 40) f1 (by omega) h3
  have hz3_1 := MV_fr (a := 41) f1 (by omega) hz3
  obtain ⟨v2, f2, e2⟩ := mcopy_v c mo 21 40 S1 h3_1
  have x2 : MX mo (fun x => x = 21 ∨ x = 22 ∨ x = 40 ∨ x = 41 ∨ x = 48) (mcopy_f mo 21 40 S1) S := MX_tr (MX_of2 (by omega) f2 e2) x1
  clear e2
  generalize hS2 : mcopy_f mo 21 40 S1 = S2 at v2 f2 x2
  have hz2_2 := MV_fr (a := 22) f2 (by omega) hz2_1
  have hz3_2 := MV_fr (a := 41) f2 (by omega) hz3_1
  have v1_2 := MV_fr (a := 48) f2 (by omega) v1
  obtain ⟨v3, f3, e3⟩ := mcopy_v c mo 40 48 S2 v1_2
  have x3 : MX mo (fun x => x = 21 ∨ x = 22 ∨ x = 40 ∨ x = 41 ∨ x = 48) (mcopy_f mo 40 48 S2) S := MX_tr (MX_of2 (by omega) f3 e3) x2
  clear e3
  generalize hS3 : mcopy_f mo 40 48 S2 = S3 at v3 f3 x3
  have hz2_3 := MV_fr (a := 22) f3 (by omega) hz2_2
  have hz3_3 := MV_fr (a := 41) f3 (by omega) hz3_2
  have v2_3 := MV_fr (a := 21) f3 (by omega) v2
  obtain ⟨v4, f4, e4⟩ := mcopy_v c mo 48 22 S3 hz2_3
  have x4 : MX mo (fun x => x = 21 ∨ x = 22 ∨ x = 40 ∨ x = 41 ∨ x = 48) (mcopy_f mo 48 22 S3) S := MX_tr (MX_of2 (by omega) f4 e4) x3
  clear e4
  generalize hS4 : mcopy_f mo 48 22 S3 = S4 at v4 f4 x4
  have hz3_4 := MV_fr (a := 41) f4 (by omega) hz3_3
  have v2_4 := MV_fr (a := 21) f4 (by omega) v2_3
  have v3_4 := MV_fr (a := 40) f4 (by omega) v3
  obtain ⟨v5, f5, e5⟩ := mcopy_v c mo 22 41 S4 hz3_4
  have x5 : MX mo (fun x => x = 21 ∨ x = 22 ∨ x = 40 ∨ x = 41 ∨ x = 48) (mcopy_f mo 22 41 S4) S := MX_tr (MX_of2 (by omega) f5 e5) x4
  clear e5
  generalize hS5 : mcopy_f mo 22 41 S4 = S5 at v5 f5 x5
  have v2_5 := MV_fr (a := 21) f5 (by omega) v2_4
  have v3_5 := MV_fr (a := 40) f5 (by omega) v3_4
  have v4_5 := MV_fr (a := 48) f5 (by omega) v4
  obtain ⟨v6, f6, e6⟩ := mcopy_v c mo 41 48 S5 v4_5
  have x6 : MX mo (fun x => x = 21 ∨ x = 22 ∨ x = 40 ∨ x = 41 ∨ x = 48) (mcopy_f mo 41 48 S5) S := MX_tr (MX_of2 (by omega) f6 e6) x5
  clear e6
  generalize hS6 : mcopy_f mo 41 48 S5 = S6 at v6 f6 x6
  have v2_6 := MV_fr (a := 21) f6 (by omega) v2_5
  have v3_6 := MV_fr (a := 40) f6 (by omega) v3_5
  have v5_6 := MV_fr (a := 22) f6 (by omega) v5
  exact ⟨⟨v2_6, v5_6, v3_6, v6⟩, x6⟩
theorem bit_1 {x : Int32} {j : Nat} (hx : uN x < 256) : ((x >>> (nI (j % 2 ^ 3) &&& 31)) &&& nI 1) ≠ nI 1 ↔ ¬ uN x / 2 ^ (j % 8) % 2 = 1 := by
  have e : uN ((x >>> (nI (j % 2 ^ 3) &&& 31)) &&& nI 1) = uN x / 2 ^ (j % 8) % 2 := by
    have e1 : uN ((x >>> (nI (j % 2 ^ 3) &&& 31)) &&& nI (2 ^ 1 - 1)) = uN (x >>> (nI (j % 2 ^ 3) &&& 31)) % 2 ^ 1 := uN_and (by decide)
    rw [sh_nat (by omega) (by omega)] at e1
    exact e1
  rw [← e]
  exact ⟨fun h q => h (uN_ext (q.trans (by decide))), fun h q => h (by rw [q]; decide)⟩
def mhD (x : Nat) : Prop := (21 ≤ x ∧ x ≤ 22) ∨ (30 ≤ x ∧ x ≤ 41) ∨ x = 48
theorem mlad_lp (c : Bool) (mo : Nat) (S : StT) {x1 : Zp c} (hB : BY (S.1 (mo + 20)) (fB c)) (hp : MD S.1 mo (9 + bN c) (nt_p c)) (h1 : MV c S.1 mo 46 x1) (hk : MV c S.1 mo 47 (ka c)) (h2 : MV c S.1 mo 21 1) (hz2 : MV c S.1 mo 22 0) (h3 : MV c S.1 mo 40 x1) (hz3 : MV c S.1 mo 41 1) : ∀ i,
    (MV c (mlad_l310 c mo S i).1 mo 21 (ldv c x1 (S.1 (mo + 20)) i).1.1 ∧ MV c (mlad_l310 c mo S i).1 mo 22 (ldv c x1 (S.1 (mo + 20)) i).1.2 ∧ MV c (mlad_l310 c mo S i).1 mo 40 (ldv c x1 (S.1 (mo + 20)) i).2.1 ∧ MV c (mlad_l310 c mo S i).1 mo 41 (ldv c x1 (S.1 (mo + 20)) i).2.2) ∧ MX mo mhD ((mlad_l310 c mo S i).1, (mlad_l310 c mo S i).2, S.2.2) S := by
  have hbN := bN_le c
  intro i
  induction i with
  | zero => exact ⟨⟨h2, hz2, h3, hz3⟩, MX_rfl _ _ _⟩
  | succ i ih =>
    obtain ⟨⟨i1, i2, i3, i4⟩, i5⟩ := ih
    have hj : (ldN c - 1 - i) / 2 ^ 3 < fB c := by
      have : ldN c ≤ 8 * fB c := by cases c <;> decide
      have h2 : 0 < fB c := by cases c <;> decide
      omega
    have er : (mlad_l310 c mo S i).1 (mo + 20) = S.1 (mo + 20) := i5.1 (mo + 20) (by omega) (by omega)
    have hbit := bit_1 (j := ldN c - 1 - i) (hB _ hj)
    have st : mlad_l310 c mo S (i + 1) = (if (nI ((if ((((mlad_l310 c mo S i).1 (mo + 20) (((ldN c) - 1 - i) / 2 ^ 3)) >>> ((nI (((ldN c) - 1 - i) % 2 ^ 3)) &&& 31)) &&& (nI (1))) ≠ (nI (1)) then 0 else 1))) = 0 then ((mrung_f c mo ((mlad_l310 c mo S i).1, (mlad_l310 c mo S i).2, S.2.2)).1, (mrung_f c mo ((mlad_l310 c mo S i).1, (mlad_l310 c mo S i).2, S.2.2)).2.1) else ((mswap_f mo ((mrung_f c mo ((mswap_f mo ((mlad_l310 c mo S i).1, (mlad_l310 c mo S i).2, S.2.2)).1, (mswap_f mo ((mlad_l310 c mo S i).1, (mlad_l310 c mo S i).2, S.2.2)).2.1, S.2.2)).1, (mrung_f c mo ((mswap_f mo ((mlad_l310 c mo S i).1, (mlad_l310 c mo S i).2, S.2.2)).1, (mswap_f mo ((mlad_l310 c mo S i).1, (mlad_l310 c mo S i).2, S.2.2)).2.1, S.2.2)).2.1, S.2.2)).1, (mswap_f mo ((mrung_f c mo ((mswap_f mo ((mlad_l310 c mo S i).1, (mlad_l310 c mo S i).2, S.2.2)).1, (mswap_f mo ((mlad_l310 c mo S i).1, (mlad_l310 c mo S i).2, S.2.2)).2.1, S.2.2)).1, (mrung_f c mo ((mswap_f mo ((mlad_l310 c mo S i).1, (mlad_l310 c mo S i).2, S.2.2)).1, (mswap_f mo ((mlad_l310 c mo S i).1, (mlad_l310 c mo S i).2, S.2.2)).2.1, S.2.2)).2.1, S.2.2)).2.1)) := by
      rw [mlad_l310]
    rw [st, er]
    clear st
    have bump : ∀ T U : StT, MX mo mhD T U → MX mo mhD U S → MX mo mhD (T.1, T.2.1, S.2.2) S := fun T U q1 q2 => ⟨fun r a b => (q1.1 r a b).trans (q2.1 r a b), fun x hx j hj => (q1.2.1 x hx j hj).trans (q2.2.1 x hx j hj), fun r hr => (q1.2.2.1 r hr).trans (q2.2.2.1 r hr), rfl⟩
    have le1 : ∀ T U : StT, MX mo mgD T U → MX mo mhD T U := fun T U q => MX_le (fun x hx => by unfold mgD at hx; unfold mhD; omega) q
    have le2 : ∀ T U : StT, MX mo (fun x => x = 21 ∨ x = 22 ∨ x = 40 ∨ x = 41 ∨ x = 48) T U → MX mo mhD T U := fun T U q => MX_le (fun x hx => by unfold mhD; omega) q
    have at_ : ∀ T : StT, MX mo mhD T S → MD T.1 mo (9 + bN c) (nt_p c) ∧ MV c T.1 mo 46 x1 ∧ MV c T.1 mo 47 (ka c) := fun T q => ⟨MD_mx q (by unfold mhD; omega) hp, MV_mx q (by unfold mhD; omega) h1, MV_mx q (by unfold mhD; omega) hk⟩
    obtain ⟨p1, p2, p3⟩ := at_ _ i5
    unfold ldv
    by_cases hb : lbit (S.1 (mo + 20)) (ldN c - 1 - i) = 1
    · rw [if_neg (fun q => (hbit.mp q) hb), if_neg (by decide), if_pos hb]
      obtain ⟨⟨s1, s2, s3, s4⟩, s5⟩ := mswap_m c mo ((mlad_l310 c mo S i).1, (mlad_l310 c mo S i).2, S.2.2) i1 i2 i3 i4
      have s6 := bump _ _ (le2 _ _ s5) i5
      generalize mswap_f mo ((mlad_l310 c mo S i).1, (mlad_l310 c mo S i).2, S.2.2) = A at s1 s2 s3 s4 s6 ⊢
      obtain ⟨p4, p5, p6⟩ := at_ _ s6
      obtain ⟨⟨r1, r2, r3, r4⟩, r5⟩ := mrung_m c mo (A.1, A.2.1, S.2.2) p4 p5 p6 s1 s2 s3 s4
      have r6 := bump _ _ (le1 _ _ r5) s6
      generalize mrung_f c mo (A.1, A.2.1, S.2.2) = B at r1 r2 r3 r4 r6 ⊢
      obtain ⟨⟨t1, t2, t3, t4⟩, t5⟩ := mswap_m c mo (B.1, B.2.1, S.2.2) r1 r2 r3 r4
      exact ⟨⟨t1, t2, t3, t4⟩, bump _ _ (le2 _ _ t5) r6⟩
    · rw [if_pos (hbit.mpr hb), if_pos (by decide), if_neg hb]
      obtain ⟨⟨r1, r2, r3, r4⟩, r5⟩ := mrung_m c mo ((mlad_l310 c mo S i).1, (mlad_l310 c mo S i).2, S.2.2) p1 p2 p3 i1 i2 i3 i4
      exact ⟨⟨r1, r2, r3, r4⟩, bump _ _ (le1 _ _ r5) i5⟩
/-- the bytes of the ladder's start -/
def msb (c bs : Bool) (f : Nat → Int32) (i : Nat) : Int32 := if bs then (if i = 0 then (if c then nI 5 else nI 9) else nI 0) else (if c = false ∧ i = 31 then f i &&& nI 127 else f i)
theorem nI_z16 {i : Nat} (hi : i < 2 ^ 16) : nI i ≤ 0 ↔ i = 0 := by
  rw [show (0 : Int32) = nI 0 from by decide, nle hi (by decide)]
  omega
theorem l146_st (c : Bool) (mo : Nat) (bs : Bool) (S : StT) {i : Nat} (hi : i < 2 ^ 16) : mlad_l146 c mo bs S (i + 1) = va_up (mlad_l146 c mo bs S i) (mo + 8) (vp_updL (mlad_l146 c mo bs S i (mo + 8)) (i / 2 ^ 1) ((mlad_l146 c mo bs S i (mo + 8) (i / 2 ^ 1)) + (((msb c bs (S.1 (mo + 2)) i).toInt64) <<< ((nI (8 * (i % 2 ^ 1))).toInt64 &&& 63)))) := by
  have nc : ∀ {a b : Nat}, a < 2 ^ 16 → b < 2 ^ 16 → (nI a ≠ nI b ↔ a ≠ b) := by
    intro a b ha hb
    constructor
    · intro h q
      exact h (by rw [q])
    · intro h q
      have q2 := congrArg uN q
      rw [uN_nI (by omega), uN_nI (by omega)] at q2
      exact h q2
  cases bs with
  | false =>
    cases c with
    | true =>
      have em : msb true false (S.1 (mo + 2)) i = S.1 (mo + 2) i := by
        unfold msb
        rw [if_neg (by decide), if_neg (fun q => absurd q.1 (by decide))]
      rw [em, mlad_l146]
      dsimp only
      rw [if_pos (show bI false = 0 by decide), if_pos (show nI (bN true) ≠ 0 by decide)]
    | false =>
      have em : msb false false (S.1 (mo + 2)) i = (if (nI i) ≠ (nI 31) then S.1 (mo + 2) i else (S.1 (mo + 2) i) &&& (nI (127))) := by
        unfold msb
        rw [if_neg (by decide)]
        by_cases h : i = 31
        · rw [if_pos ⟨rfl, h⟩, if_neg (fun q => (nc hi (by decide)).mp q h)]
        · rw [if_neg (fun q => h q.2), if_pos ((nc hi (by decide)).mpr h)]
      rw [em, mlad_l146]
      dsimp only
      rw [if_pos (show bI false = 0 by decide), if_neg (show ¬ (nI (bN false) ≠ 0) by decide)]
  | true =>
    by_cases h : i = 0
    · have em : msb c true (S.1 (mo + 2)) i = if c then nI 5 else nI 9 := by
        unfold msb
        rw [if_pos rfl, if_pos h]
      rw [em, mlad_l146]
      dsimp only
      rw [if_neg (show ¬ (bI true = 0) by decide), if_pos ((nI_z16 hi).mpr h)]
      cases c with
      | true => rw [if_pos (show nI (bN true) ≠ 0 by decide), if_pos rfl]
      | false => rw [if_neg (show ¬ (nI (bN false) ≠ 0) by decide), if_neg (by decide)]
    · have em : msb c true (S.1 (mo + 2)) i = nI 0 := by
        unfold msb
        rw [if_pos rfl, if_neg h]
      rw [em, mlad_l146]
      dsimp only
      rw [if_neg (show ¬ (bI true = 0) by decide), if_neg (fun q => h ((nI_z16 hi).mp q))]
theorem l146_lp (c : Bool) (mo : Nat) (bs : Bool) (S : StT) (hz : ∀ k, k < 64 → S.2.1 (mo + 8) k = 0) (hB : ∀ i, i < fB c → uN (msb c bs (S.1 (mo + 2)) i) < 256) : ∀ n, n ≤ fB c →
    (∀ k, k < 64 → 0 ≤ ri (mlad_l146 c mo bs S n) (mo + 8) k ∧ ri (mlad_l146 c mo bs S n) (mo + 8) k ≤ (if 2 * k + 1 < n then 65535 else if 2 * k < n then 255 else 0)) ∧ rv 16 (ri (mlad_l146 c mo bs S n) (mo + 8)) 64 = (rvN 256 (fun i => uN (msb c bs (S.1 (mo + 2)) i)) n : Int) ∧ ∀ r, r ≠ mo + 8 → mlad_l146 c mo bs S n r = S.2.1 r := by
  have hfB : fB c ≤ 56 := by cases c <;> decide
  intro n
  induction n with
  | zero =>
    intro _
    have e : ∀ k, k < 64 → ri S.2.1 (mo + 8) k = 0 := fun k hk => by show (S.2.1 (mo + 8) k).toInt = 0; rw [hz k hk]; rfl
    refine ⟨fun k hk => ?_, ?_, fun _ _ => rfl⟩
    · show 0 ≤ ri S.2.1 (mo + 8) k ∧ ri S.2.1 (mo + 8) k ≤ _
      rw [e k hk, if_neg (by omega), if_neg (by omega)]
      omega
    · show rv 16 (ri S.2.1 (mo + 8)) 64 = 0
      rw [rv_congr (g := fun k => 0 * 0) 64 (fun k hk => e k hk), rv_smul 16 0 (fun _ => 0), Int.zero_mul]
  | succ n ih =>
    intro hn
    obtain ⟨h1, h2, h3⟩ := ih (by omega)
    have hb := hB n (by omega)
    rw [l146_st c mo bs S (by omega)]
    have es : ((msb c bs (S.1 (mo + 2)) n).toInt64 <<< ((nI (8 * (n % 2 ^ 1))).toInt64 &&& 63)).toInt = (uN (msb c bs (S.1 (mo + 2)) n) : Int) * 2 ^ (8 * (n % 2)) := by
      have u1 := uL_shl (msb c bs (S.1 (mo + 2)) n).toInt64 (k := 8 * (n % 2 ^ 1)) (by omega)
      rw [uL_of32 (by omega)] at u1
      have u2 : uN (msb c bs (S.1 (mo + 2)) n) * 2 ^ (8 * (n % 2)) < 2 ^ 16 := by
        rcases Nat.mod_two_eq_zero_or_one n with z | z <;> rw [z] <;> omega
      have u3 : uL ((msb c bs (S.1 (mo + 2)) n).toInt64 <<< ((nI (8 * (n % 2 ^ 1))).toInt64 &&& 63)) = uN (msb c bs (S.1 (mo + 2)) n) * 2 ^ (8 * (n % 2)) := by
        rw [u1]
        exact Nat.mod_eq_of_lt (Nat.lt_trans u2 (by decide))
      rw [uL_int (by rw [u3]; omega), u3, Int.natCast_mul, Int.natCast_pow]
      rfl
    generalize (msb c bs (S.1 (mo + 2)) n).toInt64 <<< ((nI (8 * (n % 2 ^ 1))).toInt64 &&& 63) = w at es ⊢
    generalize mlad_l146 c mo bs S n = Y at h1 h2 h3 ⊢
    have hc := h1 (n / 2) (by omega)
    have wb : 0 ≤ w.toInt ∧ w.toInt ≤ (if n % 2 = 0 then 255 else 65280) := by
      rw [es]
      rcases Nat.mod_two_eq_zero_or_one n with z | z
      · rw [z, if_pos rfl, Nat.mul_zero, Int.pow_zero]
        omega
      · rw [z, if_neg (by decide), Nat.mul_one]
        omega
    have hc2 : ri Y (mo + 8) (n / 2) ≤ (if n % 2 = 0 then 0 else 255) := by
      refine Int.le_trans hc.2 ?_
      rcases Nat.mod_two_eq_zero_or_one n with z | z
      · rw [if_neg (by omega), if_neg (by omega), if_pos z]
        exact Int.le_refl _
      · rw [if_neg (by omega), if_pos (by omega), if_neg (by omega)]
        exact Int.le_refl _
    have hnew : ∀ k, ri (va_up Y (mo + 8) (vp_updL (Y (mo + 8)) (n / 2 ^ 1) (Y (mo + 8) (n / 2 ^ 1) + w))) (mo + 8) k = if k = n / 2 then ri Y (mo + 8) k + w.toInt else ri Y (mo + 8) k := by
      intro k
      unfold ri
      rw [vu_s]
      by_cases q : k = n / 2
      · rw [if_pos q, q]
        show (vp_updL (Y (mo + 8)) (n / 2) (Y (mo + 8) (n / 2) + w) (n / 2)).toInt = _
        have a0 : (Y (mo + 8) (n / 2)).toInt = ri Y (mo + 8) (n / 2) := rfl
        have wb2 : w.toInt ≤ 65280 := Int.le_trans wb.2 (by split <;> decide)
        have hc3 : ri Y (mo + 8) (n / 2) ≤ 255 := Int.le_trans hc2 (by split <;> decide)
        rw [pk_uLs, w_add (by rw [a0]; omega) (by rw [a0]; omega)]
      · rw [if_neg q]
        show (vp_updL (Y (mo + 8)) (n / 2) (Y (mo + 8) (n / 2) + w) k).toInt = _
        rw [pk_uLn q]
    refine ⟨fun k hk => ?_, ?_, fun r hr => (vu_n hr).trans (h3 r hr)⟩
    · rw [hnew k]
      by_cases q : k = n / 2
      · rw [if_pos q, q]
        refine ⟨by omega, ?_⟩
        rcases Nat.mod_two_eq_zero_or_one n with z | z
        · rw [if_pos z] at hc2 wb
          rw [if_neg (by omega), if_pos (by omega)]
          omega
        · rw [if_neg (by omega)] at hc2 wb
          rw [if_pos (by omega)]
          omega
      · rw [if_neg q]
        refine ⟨(h1 k hk).1, Int.le_trans (h1 k hk).2 ?_⟩
        by_cases a1 : 2 * k + 1 < n
        · rw [if_pos a1, if_pos (by omega)]; exact Int.le_refl _
        · rw [if_neg a1]
          by_cases a2 : 2 * k < n
          · exfalso; omega
          · rw [if_neg a2, if_neg (by omega), if_neg (by omega)]; exact Int.le_refl _
    · rw [rv_congr 64 (fun k _ => hnew k), rv_at 16 (ri Y (mo + 8)) (n / 2) w.toInt 64 (by omega), h2, es]
      show _ = ((rvN 256 (fun i => uN (msb c bs (S.1 (mo + 2)) i)) n + uN (msb c bs (S.1 (mo + 2)) n) * 256 ^ n : Nat) : Int)
      rw [Int.natCast_add, Int.natCast_mul, Int.mul_assoc, ← Int.pow_add, show 8 * (n % 2) + 16 * (n / 2) = 8 * n from by omega, Int.natCast_pow, show ((256 : Nat) : Int) = 2 ^ 8 from by decide, ← Int.pow_mul]
end
