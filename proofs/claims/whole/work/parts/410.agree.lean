section
/-! AGREEMENT: the ladder of the class. -/
def kaI (c : Bool) : Int32 := if bI c = 0 then 121665 else 39081
def ka (c : Bool) : Zp c := fz c (kaI c).toInt
theorem mulS_v (c : Bool) (to a : Nat) (S : StT) {u : Zp c} (ha : VL c S.2.1 a u) : VL c (mulS_f c to a (kaI c) S).2.1 to (ka c * u) ∧ ∀ r, r ≠ to → (mulS_f c to a (kaI c) S).2.1 r = S.2.1 r := by
  obtain ⟨h1, h2, h3⟩ := mulS_s c to a (kaI c) S (by cases c <;> decide) ha.1
  exact ⟨⟨h1, by rw [h2, ha.2]; rfl⟩, h3⟩
/-- one step: the first pair doubled, both added -/
def lst (c : Bool) (x1 x2 z2 x3 z3 : Zp c) : (Zp c × Zp c) × (Zp c × Zp c) := (((((x2 + z2) * (x2 + z2)) * ((x2 - z2) * (x2 - z2))), (((ka c * (((x2 + z2) * (x2 + z2)) - ((x2 - z2) * (x2 - z2)))) + ((x2 + z2) * (x2 + z2))) * (((x2 + z2) * (x2 + z2)) - ((x2 - z2) * (x2 - z2))))), (((((x3 - z3) * (x2 + z2)) + ((x3 + z3) * (x2 - z2))) * (((x3 - z3) * (x2 + z2)) + ((x3 + z3) * (x2 - z2)))), (((((x3 - z3) * (x2 + z2)) - ((x3 + z3) * (x2 - z2))) * (((x3 - z3) * (x2 + z2)) - ((x3 + z3) * (x2 - z2)))) * x1)))
def aT (ao fo r : Nat) : Prop := (fo + 3 ≤ r ∧ r ≤ fo + 9) ∨ (ao + 3 ≤ r ∧ r ≤ ao + 11)
theorem aT_a {ao fo r : Nat} (h : ¬ aT ao fo r) (j : Nat) (hj : 3 ≤ j ∧ j ≤ 11) : r ≠ ao + j := fun e => h (Or.inr (by omega))
theorem aT_f {ao fo r : Nat} (h : ¬ aT ao fo r) (j : Nat) (hj : 3 ≤ j ∧ j ≤ 9) : r ≠ fo + j := fun e => h (Or.inl (by omega))
theorem astep_a (c : Bool) (ao fo : Nat) (S : StT) {x1 x2 z2 x3 z3 : Zp c} (hfa : fo + 9 < ao) (h1 : VL c S.2.1 (ao + 2) x1) (h2 : VL c S.2.1 (ao + 3) x2) (hz2 : VL c S.2.1 (ao + 4) z2) (h3 : VL c S.2.1 (ao + 5) x3) (hz3 : VL c S.2.1 (ao + 6) z3) :
    (VL c (astep_f c ao fo (ao + 3) (ao + 4) (ao + 5) (ao + 6) S).2.1 (ao + 3) (lst c x1 x2 z2 x3 z3).1.1 ∧ VL c (astep_f c ao fo (ao + 3) (ao + 4) (ao + 5) (ao + 6) S).2.1 (ao + 4) (lst c x1 x2 z2 x3 z3).1.2 ∧ VL c (astep_f c ao fo (ao + 3) (ao + 4) (ao + 5) (ao + 6) S).2.1 (ao + 5) (lst c x1 x2 z2 x3 z3).2.1 ∧ VL c (astep_f c ao fo (ao + 3) (ao + 4) (ao + 5) (ao + 6) S).2.1 (ao + 6) (lst c x1 x2 z2 x3 z3).2.2) ∧ ∀ r, ¬ aT ao fo r → (astep_f c ao fo (ao + 3) (ao + 4) (ao + 5) (ao + 6) S).2.1 r = S.2.1 r := by
  obtain ⟨v1, f1⟩ := plus_v c (ao + 7) (ao + 3) (ao + 4) S  h2 hz2
  generalize hS1 : plus_f c (ao + 7) (ao + 3) (ao + 4) S = S1 at v1 f1
  have g1 : ∀ r, r ≠ ao + 7 → S1.2.1 r = S.2.1 r := f1
  clear f1
  have w1 := v1
  clear v1
  have h2_1 := VL_row (g1 (ao + 3) (ac_ne (by decide))) h2
  have hz2_1 := VL_row (g1 (ao + 4) (ac_ne (by decide))) hz2
  have h3_1 := VL_row (g1 (ao + 5) (ac_ne (by decide))) h3
  have hz3_1 := VL_row (g1 (ao + 6) (ac_ne (by decide))) hz3
  have h1_1 := VL_row (g1 (ao + 2) (ac_ne (by decide))) h1
  obtain ⟨v2, f2⟩ := minus_v c (ao + 8) (ao + 3) (ao + 4) S1  h2_1 hz2_1
  generalize hS2 : minus_f c (ao + 8) (ao + 3) (ao + 4) S1 = S2 at v2 f2
  have g2 : ∀ r, r ≠ ao + 8 → S2.2.1 r = S1.2.1 r := f2
  clear f2
  have w2 := v2
  clear v2
  have h3_2 := VL_row (g2 (ao + 5) (ac_ne (by decide))) h3_1
  have hz3_2 := VL_row (g2 (ao + 6) (ac_ne (by decide))) hz3_1
  have h1_2 := VL_row (g2 (ao + 2) (ac_ne (by decide))) h1_1
  have w1_2 := VL_row (g2 (ao + 7) (ac_ne (by decide))) w1
  obtain ⟨v3, f3⟩ := plus_v c (ao + 9) (ao + 5) (ao + 6) S2  h3_2 hz3_2
  generalize hS3 : plus_f c (ao + 9) (ao + 5) (ao + 6) S2 = S3 at v3 f3
  have g3 : ∀ r, r ≠ ao + 9 → S3.2.1 r = S2.2.1 r := f3
  clear f3
  have w3 := v3
  clear v3
  have h3_3 := VL_row (g3 (ao + 5) (ac_ne (by decide))) h3_2
  have hz3_3 := VL_row (g3 (ao + 6) (ac_ne (by decide))) hz3_2
  have h1_3 := VL_row (g3 (ao + 2) (ac_ne (by decide))) h1_2
  have w1_3 := VL_row (g3 (ao + 7) (ac_ne (by decide))) w1_2
  have w2_3 := VL_row (g3 (ao + 8) (ac_ne (by decide))) w2
  obtain ⟨v4, f4⟩ := minus_v c (ao + 10) (ao + 5) (ao + 6) S3  h3_3 hz3_3
  generalize hS4 : minus_f c (ao + 10) (ao + 5) (ao + 6) S3 = S4 at v4 f4
  have g4 : ∀ r, r ≠ ao + 10 → S4.2.1 r = S3.2.1 r := f4
  clear f4
  have w4 := v4
  clear v4
  have h1_4 := VL_row (g4 (ao + 2) (ac_ne (by decide))) h1_3
  have w1_4 := VL_row (g4 (ao + 7) (ac_ne (by decide))) w1_3
  have w2_4 := VL_row (g4 (ao + 8) (ac_ne (by decide))) w2_3
  have w3_4 := VL_row (g4 (ao + 9) (ac_ne (by decide))) w3
  obtain ⟨v5, f5⟩ := mul_v c fo (ao + 10) (ao + 10) (ao + 7) S4 (cf_ne hfa 10 3 (by decide)) (cf_ne hfa 7 3 (by decide)) w4 w1_4
  generalize hS5 : mul_f c fo (ao + 10) (ao + 10) (ao + 7) S4 = S5 at v5 f5
  have g5 : ∀ r, r ≠ ao + 10 → r ≠ fo + 3 → S5.2.1 r = S4.2.1 r := f5
  clear f5
  have w5 := v5
  clear v5
  have h1_5 := VL_row (g5 (ao + 2) (ac_ne (by decide)) (cf_ne hfa 2 3 (by decide))) h1_4
  have w1_5 := VL_row (g5 (ao + 7) (ac_ne (by decide)) (cf_ne hfa 7 3 (by decide))) w1_4
  have w2_5 := VL_row (g5 (ao + 8) (ac_ne (by decide)) (cf_ne hfa 8 3 (by decide))) w2_4
  have w3_5 := VL_row (g5 (ao + 9) (ac_ne (by decide)) (cf_ne hfa 9 3 (by decide))) w3_4
  obtain ⟨v6, f6⟩ := mul_v c fo (ao + 9) (ao + 9) (ao + 8) S5 (cf_ne hfa 9 3 (by decide)) (cf_ne hfa 8 3 (by decide)) w3_5 w2_5
  generalize hS6 : mul_f c fo (ao + 9) (ao + 9) (ao + 8) S5 = S6 at v6 f6
  have g6 : ∀ r, r ≠ ao + 9 → r ≠ fo + 3 → S6.2.1 r = S5.2.1 r := f6
  clear f6
  have w6 := v6
  clear v6
  have h1_6 := VL_row (g6 (ao + 2) (ac_ne (by decide)) (cf_ne hfa 2 3 (by decide))) h1_5
  have w1_6 := VL_row (g6 (ao + 7) (ac_ne (by decide)) (cf_ne hfa 7 3 (by decide))) w1_5
  have w2_6 := VL_row (g6 (ao + 8) (ac_ne (by decide)) (cf_ne hfa 8 3 (by decide))) w2_5
  have w5_6 := VL_row (g6 (ao + 10) (ac_ne (by decide)) (cf_ne hfa 10 3 (by decide))) w5
  obtain ⟨v7, f7⟩ := plus_v c (ao + 5) (ao + 10) (ao + 9) S6  w5_6 w6
  generalize hS7 : plus_f c (ao + 5) (ao + 10) (ao + 9) S6 = S7 at v7 f7
  have g7 : ∀ r, r ≠ ao + 5 → S7.2.1 r = S6.2.1 r := f7
  clear f7
  have w7 := v7
  clear v7
  have h1_7 := VL_row (g7 (ao + 2) (ac_ne (by decide))) h1_6
  have w1_7 := VL_row (g7 (ao + 7) (ac_ne (by decide))) w1_6
  have w2_7 := VL_row (g7 (ao + 8) (ac_ne (by decide))) w2_6
  have w5_7 := VL_row (g7 (ao + 10) (ac_ne (by decide))) w5_6
  have w6_7 := VL_row (g7 (ao + 9) (ac_ne (by decide))) w6
  obtain ⟨v8, f8⟩ := sqr_v c fo (ao + 5) (ao + 5) S7 (cf_ne hfa 5 3 (by decide)) w7
  generalize hS8 : sqr_f c fo (ao + 5) (ao + 5) S7 = S8 at v8 f8
  have g8 : ∀ r, r ≠ ao + 5 → r ≠ fo + 3 → S8.2.1 r = S7.2.1 r := f8
  clear f8
  have w8 := v8
  clear v8
  have h1_8 := VL_row (g8 (ao + 2) (ac_ne (by decide)) (cf_ne hfa 2 3 (by decide))) h1_7
  have w1_8 := VL_row (g8 (ao + 7) (ac_ne (by decide)) (cf_ne hfa 7 3 (by decide))) w1_7
  have w2_8 := VL_row (g8 (ao + 8) (ac_ne (by decide)) (cf_ne hfa 8 3 (by decide))) w2_7
  have w5_8 := VL_row (g8 (ao + 10) (ac_ne (by decide)) (cf_ne hfa 10 3 (by decide))) w5_7
  have w6_8 := VL_row (g8 (ao + 9) (ac_ne (by decide)) (cf_ne hfa 9 3 (by decide))) w6_7
  obtain ⟨v9, f9⟩ := minus_v c (ao + 6) (ao + 10) (ao + 9) S8  w5_8 w6_8
  generalize hS9 : minus_f c (ao + 6) (ao + 10) (ao + 9) S8 = S9 at v9 f9
  have g9 : ∀ r, r ≠ ao + 6 → S9.2.1 r = S8.2.1 r := f9
  clear f9
  have w9 := v9
  clear v9
  have h1_9 := VL_row (g9 (ao + 2) (ac_ne (by decide))) h1_8
  have w1_9 := VL_row (g9 (ao + 7) (ac_ne (by decide))) w1_8
  have w2_9 := VL_row (g9 (ao + 8) (ac_ne (by decide))) w2_8
  have w8_9 := VL_row (g9 (ao + 5) (ac_ne (by decide))) w8
  obtain ⟨v10, f10⟩ := sqr_v c fo (ao + 6) (ao + 6) S9 (cf_ne hfa 6 3 (by decide)) w9
  generalize hS10 : sqr_f c fo (ao + 6) (ao + 6) S9 = S10 at v10 f10
  have g10 : ∀ r, r ≠ ao + 6 → r ≠ fo + 3 → S10.2.1 r = S9.2.1 r := f10
  clear f10
  have w10 := v10
  clear v10
  have h1_10 := VL_row (g10 (ao + 2) (ac_ne (by decide)) (cf_ne hfa 2 3 (by decide))) h1_9
  have w1_10 := VL_row (g10 (ao + 7) (ac_ne (by decide)) (cf_ne hfa 7 3 (by decide))) w1_9
  have w2_10 := VL_row (g10 (ao + 8) (ac_ne (by decide)) (cf_ne hfa 8 3 (by decide))) w2_9
  have w8_10 := VL_row (g10 (ao + 5) (ac_ne (by decide)) (cf_ne hfa 5 3 (by decide))) w8_9
  obtain ⟨v11, f11⟩ := mul_v c fo (ao + 6) (ao + 6) (ao + 2) S10 (cf_ne hfa 6 3 (by decide)) (cf_ne hfa 2 3 (by decide)) w10 h1_10
  generalize hS11 : mul_f c fo (ao + 6) (ao + 6) (ao + 2) S10 = S11 at v11 f11
  have g11 : ∀ r, r ≠ ao + 6 → r ≠ fo + 3 → S11.2.1 r = S10.2.1 r := f11
  clear f11
  have w11 := v11
  clear v11
  have w1_11 := VL_row (g11 (ao + 7) (ac_ne (by decide)) (cf_ne hfa 7 3 (by decide))) w1_10
  have w2_11 := VL_row (g11 (ao + 8) (ac_ne (by decide)) (cf_ne hfa 8 3 (by decide))) w2_10
  have w8_11 := VL_row (g11 (ao + 5) (ac_ne (by decide)) (cf_ne hfa 5 3 (by decide))) w8_10
  obtain ⟨v12, f12⟩ := sqr_v c fo (ao + 7) (ao + 7) S11 (cf_ne hfa 7 3 (by decide)) w1_11
  generalize hS12 : sqr_f c fo (ao + 7) (ao + 7) S11 = S12 at v12 f12
  have g12 : ∀ r, r ≠ ao + 7 → r ≠ fo + 3 → S12.2.1 r = S11.2.1 r := f12
  clear f12
  have w12 := v12
  clear v12
  have w2_12 := VL_row (g12 (ao + 8) (ac_ne (by decide)) (cf_ne hfa 8 3 (by decide))) w2_11
  have w8_12 := VL_row (g12 (ao + 5) (ac_ne (by decide)) (cf_ne hfa 5 3 (by decide))) w8_11
  have w11_12 := VL_row (g12 (ao + 6) (ac_ne (by decide)) (cf_ne hfa 6 3 (by decide))) w11
  obtain ⟨v13, f13⟩ := sqr_v c fo (ao + 8) (ao + 8) S12 (cf_ne hfa 8 3 (by decide)) w2_12
  generalize hS13 : sqr_f c fo (ao + 8) (ao + 8) S12 = S13 at v13 f13
  have g13 : ∀ r, r ≠ ao + 8 → r ≠ fo + 3 → S13.2.1 r = S12.2.1 r := f13
  clear f13
  have w13 := v13
  clear v13
  have w8_13 := VL_row (g13 (ao + 5) (ac_ne (by decide)) (cf_ne hfa 5 3 (by decide))) w8_12
  have w11_13 := VL_row (g13 (ao + 6) (ac_ne (by decide)) (cf_ne hfa 6 3 (by decide))) w11_12
  have w12_13 := VL_row (g13 (ao + 7) (ac_ne (by decide)) (cf_ne hfa 7 3 (by decide))) w12
  obtain ⟨v14, f14⟩ := minus_v c (ao + 11) (ao + 7) (ao + 8) S13  w12_13 w13
  generalize hS14 : minus_f c (ao + 11) (ao + 7) (ao + 8) S13 = S14 at v14 f14
  have g14 : ∀ r, r ≠ ao + 11 → S14.2.1 r = S13.2.1 r := f14
  clear f14
  have w14 := v14
  clear v14
  have w8_14 := VL_row (g14 (ao + 5) (ac_ne (by decide))) w8_13
  have w11_14 := VL_row (g14 (ao + 6) (ac_ne (by decide))) w11_13
  have w12_14 := VL_row (g14 (ao + 7) (ac_ne (by decide))) w12_13
  have w13_14 := VL_row (g14 (ao + 8) (ac_ne (by decide))) w13
  obtain ⟨v15, f15⟩ := mul_v c fo (ao + 3) (ao + 7) (ao + 8) S14 (cf_ne hfa 7 3 (by decide)) (cf_ne hfa 8 3 (by decide)) w12_14 w13_14
  generalize hS15 : mul_f c fo (ao + 3) (ao + 7) (ao + 8) S14 = S15 at v15 f15
  have g15 : ∀ r, r ≠ ao + 3 → r ≠ fo + 3 → S15.2.1 r = S14.2.1 r := f15
  clear f15
  have w15 := v15
  clear v15
  have w8_15 := VL_row (g15 (ao + 5) (ac_ne (by decide)) (cf_ne hfa 5 3 (by decide))) w8_14
  have w11_15 := VL_row (g15 (ao + 6) (ac_ne (by decide)) (cf_ne hfa 6 3 (by decide))) w11_14
  have w12_15 := VL_row (g15 (ao + 7) (ac_ne (by decide)) (cf_ne hfa 7 3 (by decide))) w12_14
  have w14_15 := VL_row (g15 (ao + 11) (ac_ne (by decide)) (cf_ne hfa 11 3 (by decide))) w14
  obtain ⟨v16, f16⟩ := mulS_v c (ao + 4) (ao + 11) S15  w14_15
  generalize hS16 : mulS_f c (ao + 4) (ao + 11) (kaI c) S15 = S16 at v16 f16
  have g16 : ∀ r, r ≠ ao + 4 → S16.2.1 r = S15.2.1 r := f16
  clear f16
  have w16 := v16
  clear v16
  have w8_16 := VL_row (g16 (ao + 5) (ac_ne (by decide))) w8_15
  have w11_16 := VL_row (g16 (ao + 6) (ac_ne (by decide))) w11_15
  have w12_16 := VL_row (g16 (ao + 7) (ac_ne (by decide))) w12_15
  have w14_16 := VL_row (g16 (ao + 11) (ac_ne (by decide))) w14_15
  have w15_16 := VL_row (g16 (ao + 3) (ac_ne (by decide))) w15
  obtain ⟨v17, f17⟩ := plus_v c (ao + 4) (ao + 4) (ao + 7) S16  w16 w12_16
  generalize hS17 : plus_f c (ao + 4) (ao + 4) (ao + 7) S16 = S17 at v17 f17
  have g17 : ∀ r, r ≠ ao + 4 → S17.2.1 r = S16.2.1 r := f17
  clear f17
  have w17 := v17
  clear v17
  have w8_17 := VL_row (g17 (ao + 5) (ac_ne (by decide))) w8_16
  have w11_17 := VL_row (g17 (ao + 6) (ac_ne (by decide))) w11_16
  have w14_17 := VL_row (g17 (ao + 11) (ac_ne (by decide))) w14_16
  have w15_17 := VL_row (g17 (ao + 3) (ac_ne (by decide))) w15_16
  obtain ⟨v18, f18⟩ := mul_v c fo (ao + 4) (ao + 4) (ao + 11) S17 (cf_ne hfa 4 3 (by decide)) (cf_ne hfa 11 3 (by decide)) w17 w14_17
  generalize hS18 : mul_f c fo (ao + 4) (ao + 4) (ao + 11) S17 = S18 at v18 f18
  have g18 : ∀ r, r ≠ ao + 4 → r ≠ fo + 3 → S18.2.1 r = S17.2.1 r := f18
  clear f18
  have w18 := v18
  clear v18
  have w8_18 := VL_row (g18 (ao + 5) (ac_ne (by decide)) (cf_ne hfa 5 3 (by decide))) w8_17
  have w11_18 := VL_row (g18 (ao + 6) (ac_ne (by decide)) (cf_ne hfa 6 3 (by decide))) w11_17
  have w15_18 := VL_row (g18 (ao + 3) (ac_ne (by decide)) (cf_ne hfa 3 3 (by decide))) w15_17
  have en : astep_f c ao fo (ao + 3) (ao + 4) (ao + 5) (ao + 6) S = S18 := by
    unfold astep_f
    dsimp only
    rw [show (if bI c = 0 then (121665 : Int32) else 39081) = kaI c from rfl]
    rw [hS1, hS2, hS3, hS4, hS5, hS6, hS7, hS8, hS9, hS10, hS11, hS12, hS13, hS14, hS15, hS16, hS17, hS18]
  rw [en]
  exact ⟨⟨w15_18, w18, w8_18, w11_18⟩, fun r hr => ((g18 r (aT_a hr 4 (by decide)) (aT_f hr 3 (by decide))).trans ((g17 r (aT_a hr 4 (by decide))).trans ((g16 r (aT_a hr 4 (by decide))).trans ((g15 r (aT_a hr 3 (by decide)) (aT_f hr 3 (by decide))).trans ((g14 r (aT_a hr 11 (by decide))).trans ((g13 r (aT_a hr 8 (by decide)) (aT_f hr 3 (by decide))).trans ((g12 r (aT_a hr 7 (by decide)) (aT_f hr 3 (by decide))).trans ((g11 r (aT_a hr 6 (by decide)) (aT_f hr 3 (by decide))).trans ((g10 r (aT_a hr 6 (by decide)) (aT_f hr 3 (by decide))).trans ((g9 r (aT_a hr 6 (by decide))).trans ((g8 r (aT_a hr 5 (by decide)) (aT_f hr 3 (by decide))).trans ((g7 r (aT_a hr 5 (by decide))).trans ((g6 r (aT_a hr 9 (by decide)) (aT_f hr 3 (by decide))).trans ((g5 r (aT_a hr 10 (by decide)) (aT_f hr 3 (by decide))).trans ((g4 r (aT_a hr 10 (by decide))).trans ((g3 r (aT_a hr 9 (by decide))).trans ((g2 r (aT_a hr 8 (by decide))).trans (g1 r (aT_a hr 7 (by decide))))))))))))))))))))⟩
theorem astep_b (c : Bool) (ao fo : Nat) (S : StT) {x1 x2 z2 x3 z3 : Zp c} (hfa : fo + 9 < ao) (h1 : VL c S.2.1 (ao + 2) x1) (h2 : VL c S.2.1 (ao + 5) x2) (hz2 : VL c S.2.1 (ao + 6) z2) (h3 : VL c S.2.1 (ao + 3) x3) (hz3 : VL c S.2.1 (ao + 4) z3) :
    (VL c (astep_f c ao fo (ao + 5) (ao + 6) (ao + 3) (ao + 4) S).2.1 (ao + 5) (lst c x1 x2 z2 x3 z3).1.1 ∧ VL c (astep_f c ao fo (ao + 5) (ao + 6) (ao + 3) (ao + 4) S).2.1 (ao + 6) (lst c x1 x2 z2 x3 z3).1.2 ∧ VL c (astep_f c ao fo (ao + 5) (ao + 6) (ao + 3) (ao + 4) S).2.1 (ao + 3) (lst c x1 x2 z2 x3 z3).2.1 ∧ VL c (astep_f c ao fo (ao + 5) (ao + 6) (ao + 3) (ao + 4) S).2.1 (ao + 4) (lst c x1 x2 z2 x3 z3).2.2) ∧ ∀ r, ¬ aT ao fo r → (astep_f c ao fo (ao + 5) (ao + 6) (ao + 3) (ao + 4) S).2.1 r = S.2.1 r := by
  obtain ⟨v1, f1⟩ := plus_v c (ao + 7) (ao + 5) (ao + 6) S  h2 hz2
  generalize hS1 : plus_f c (ao + 7) (ao + 5) (ao + 6) S = S1 at v1 f1
  have g1 : ∀ r, r ≠ ao + 7 → S1.2.1 r = S.2.1 r := f1
  clear f1
  have w1 := v1
  clear v1
  have h2_1 := VL_row (g1 (ao + 5) (ac_ne (by decide))) h2
  have hz2_1 := VL_row (g1 (ao + 6) (ac_ne (by decide))) hz2
  have h3_1 := VL_row (g1 (ao + 3) (ac_ne (by decide))) h3
  have hz3_1 := VL_row (g1 (ao + 4) (ac_ne (by decide))) hz3
  have h1_1 := VL_row (g1 (ao + 2) (ac_ne (by decide))) h1
  obtain ⟨v2, f2⟩ := minus_v c (ao + 8) (ao + 5) (ao + 6) S1  h2_1 hz2_1
  generalize hS2 : minus_f c (ao + 8) (ao + 5) (ao + 6) S1 = S2 at v2 f2
  have g2 : ∀ r, r ≠ ao + 8 → S2.2.1 r = S1.2.1 r := f2
  clear f2
  have w2 := v2
  clear v2
  have h3_2 := VL_row (g2 (ao + 3) (ac_ne (by decide))) h3_1
  have hz3_2 := VL_row (g2 (ao + 4) (ac_ne (by decide))) hz3_1
  have h1_2 := VL_row (g2 (ao + 2) (ac_ne (by decide))) h1_1
  have w1_2 := VL_row (g2 (ao + 7) (ac_ne (by decide))) w1
  obtain ⟨v3, f3⟩ := plus_v c (ao + 9) (ao + 3) (ao + 4) S2  h3_2 hz3_2
  generalize hS3 : plus_f c (ao + 9) (ao + 3) (ao + 4) S2 = S3 at v3 f3
  have g3 : ∀ r, r ≠ ao + 9 → S3.2.1 r = S2.2.1 r := f3
  clear f3
  have w3 := v3
  clear v3
  have h3_3 := VL_row (g3 (ao + 3) (ac_ne (by decide))) h3_2
  have hz3_3 := VL_row (g3 (ao + 4) (ac_ne (by decide))) hz3_2
  have h1_3 := VL_row (g3 (ao + 2) (ac_ne (by decide))) h1_2
  have w1_3 := VL_row (g3 (ao + 7) (ac_ne (by decide))) w1_2
  have w2_3 := VL_row (g3 (ao + 8) (ac_ne (by decide))) w2
  obtain ⟨v4, f4⟩ := minus_v c (ao + 10) (ao + 3) (ao + 4) S3  h3_3 hz3_3
  generalize hS4 : minus_f c (ao + 10) (ao + 3) (ao + 4) S3 = S4 at v4 f4
  have g4 : ∀ r, r ≠ ao + 10 → S4.2.1 r = S3.2.1 r := f4
  clear f4
  have w4 := v4
  clear v4
  have h1_4 := VL_row (g4 (ao + 2) (ac_ne (by decide))) h1_3
  have w1_4 := VL_row (g4 (ao + 7) (ac_ne (by decide))) w1_3
  have w2_4 := VL_row (g4 (ao + 8) (ac_ne (by decide))) w2_3
  have w3_4 := VL_row (g4 (ao + 9) (ac_ne (by decide))) w3
  obtain ⟨v5, f5⟩ := mul_v c fo (ao + 10) (ao + 10) (ao + 7) S4 (cf_ne hfa 10 3 (by decide)) (cf_ne hfa 7 3 (by decide)) w4 w1_4
  generalize hS5 : mul_f c fo (ao + 10) (ao + 10) (ao + 7) S4 = S5 at v5 f5
  have g5 : ∀ r, r ≠ ao + 10 → r ≠ fo + 3 → S5.2.1 r = S4.2.1 r := f5
  clear f5
  have w5 := v5
  clear v5
  have h1_5 := VL_row (g5 (ao + 2) (ac_ne (by decide)) (cf_ne hfa 2 3 (by decide))) h1_4
  have w1_5 := VL_row (g5 (ao + 7) (ac_ne (by decide)) (cf_ne hfa 7 3 (by decide))) w1_4
  have w2_5 := VL_row (g5 (ao + 8) (ac_ne (by decide)) (cf_ne hfa 8 3 (by decide))) w2_4
  have w3_5 := VL_row (g5 (ao + 9) (ac_ne (by decide)) (cf_ne hfa 9 3 (by decide))) w3_4
  obtain ⟨v6, f6⟩ := mul_v c fo (ao + 9) (ao + 9) (ao + 8) S5 (cf_ne hfa 9 3 (by decide)) (cf_ne hfa 8 3 (by decide)) w3_5 w2_5
  generalize hS6 : mul_f c fo (ao + 9) (ao + 9) (ao + 8) S5 = S6 at v6 f6
  have g6 : ∀ r, r ≠ ao + 9 → r ≠ fo + 3 → S6.2.1 r = S5.2.1 r := f6
  clear f6
  have w6 := v6
  clear v6
  have h1_6 := VL_row (g6 (ao + 2) (ac_ne (by decide)) (cf_ne hfa 2 3 (by decide))) h1_5
  have w1_6 := VL_row (g6 (ao + 7) (ac_ne (by decide)) (cf_ne hfa 7 3 (by decide))) w1_5
  have w2_6 := VL_row (g6 (ao + 8) (ac_ne (by decide)) (cf_ne hfa 8 3 (by decide))) w2_5
  have w5_6 := VL_row (g6 (ao + 10) (ac_ne (by decide)) (cf_ne hfa 10 3 (by decide))) w5
  obtain ⟨v7, f7⟩ := plus_v c (ao + 3) (ao + 10) (ao + 9) S6  w5_6 w6
  generalize hS7 : plus_f c (ao + 3) (ao + 10) (ao + 9) S6 = S7 at v7 f7
  have g7 : ∀ r, r ≠ ao + 3 → S7.2.1 r = S6.2.1 r := f7
  clear f7
  have w7 := v7
  clear v7
  have h1_7 := VL_row (g7 (ao + 2) (ac_ne (by decide))) h1_6
  have w1_7 := VL_row (g7 (ao + 7) (ac_ne (by decide))) w1_6
  have w2_7 := VL_row (g7 (ao + 8) (ac_ne (by decide))) w2_6
  have w5_7 := VL_row (g7 (ao + 10) (ac_ne (by decide))) w5_6
  have w6_7 := VL_row (g7 (ao + 9) (ac_ne (by decide))) w6
  obtain ⟨v8, f8⟩ := sqr_v c fo (ao + 3) (ao + 3) S7 (cf_ne hfa 3 3 (by decide)) w7
  generalize hS8 : sqr_f c fo (ao + 3) (ao + 3) S7 = S8 at v8 f8
  have g8 : ∀ r, r ≠ ao + 3 → r ≠ fo + 3 → S8.2.1 r = S7.2.1 r := f8
  clear f8
  have w8 := v8
  clear v8
  have h1_8 := VL_row (g8 (ao + 2) (ac_ne (by decide)) (cf_ne hfa 2 3 (by decide))) h1_7
  have w1_8 := VL_row (g8 (ao + 7) (ac_ne (by decide)) (cf_ne hfa 7 3 (by decide))) w1_7
  have w2_8 := VL_row (g8 (ao + 8) (ac_ne (by decide)) (cf_ne hfa 8 3 (by decide))) w2_7
  have w5_8 := VL_row (g8 (ao + 10) (ac_ne (by decide)) (cf_ne hfa 10 3 (by decide))) w5_7
  have w6_8 := VL_row (g8 (ao + 9) (ac_ne (by decide)) (cf_ne hfa 9 3 (by decide))) w6_7
  obtain ⟨v9, f9⟩ := minus_v c (ao + 4) (ao + 10) (ao + 9) S8  w5_8 w6_8
  generalize hS9 : minus_f c (ao + 4) (ao + 10) (ao + 9) S8 = S9 at v9 f9
  have g9 : ∀ r, r ≠ ao + 4 → S9.2.1 r = S8.2.1 r := f9
  clear f9
  have w9 := v9
  clear v9
  have h1_9 := VL_row (g9 (ao + 2) (ac_ne (by decide))) h1_8
  have w1_9 := VL_row (g9 (ao + 7) (ac_ne (by decide))) w1_8
  have w2_9 := VL_row (g9 (ao + 8) (ac_ne (by decide))) w2_8
  have w8_9 := VL_row (g9 (ao + 3) (ac_ne (by decide))) w8
  obtain ⟨v10, f10⟩ := sqr_v c fo (ao + 4) (ao + 4) S9 (cf_ne hfa 4 3 (by decide)) w9
  generalize hS10 : sqr_f c fo (ao + 4) (ao + 4) S9 = S10 at v10 f10
  have g10 : ∀ r, r ≠ ao + 4 → r ≠ fo + 3 → S10.2.1 r = S9.2.1 r := f10
  clear f10
  have w10 := v10
  clear v10
  have h1_10 := VL_row (g10 (ao + 2) (ac_ne (by decide)) (cf_ne hfa 2 3 (by decide))) h1_9
  have w1_10 := VL_row (g10 (ao + 7) (ac_ne (by decide)) (cf_ne hfa 7 3 (by decide))) w1_9
  have w2_10 := VL_row (g10 (ao + 8) (ac_ne (by decide)) (cf_ne hfa 8 3 (by decide))) w2_9
  have w8_10 := VL_row (g10 (ao + 3) (ac_ne (by decide)) (cf_ne hfa 3 3 (by decide))) w8_9
  obtain ⟨v11, f11⟩ := mul_v c fo (ao + 4) (ao + 4) (ao + 2) S10 (cf_ne hfa 4 3 (by decide)) (cf_ne hfa 2 3 (by decide)) w10 h1_10
  generalize hS11 : mul_f c fo (ao + 4) (ao + 4) (ao + 2) S10 = S11 at v11 f11
  have g11 : ∀ r, r ≠ ao + 4 → r ≠ fo + 3 → S11.2.1 r = S10.2.1 r := f11
  clear f11
  have w11 := v11
  clear v11
  have w1_11 := VL_row (g11 (ao + 7) (ac_ne (by decide)) (cf_ne hfa 7 3 (by decide))) w1_10
  have w2_11 := VL_row (g11 (ao + 8) (ac_ne (by decide)) (cf_ne hfa 8 3 (by decide))) w2_10
  have w8_11 := VL_row (g11 (ao + 3) (ac_ne (by decide)) (cf_ne hfa 3 3 (by decide))) w8_10
  obtain ⟨v12, f12⟩ := sqr_v c fo (ao + 7) (ao + 7) S11 (cf_ne hfa 7 3 (by decide)) w1_11
  generalize hS12 : sqr_f c fo (ao + 7) (ao + 7) S11 = S12 at v12 f12
  have g12 : ∀ r, r ≠ ao + 7 → r ≠ fo + 3 → S12.2.1 r = S11.2.1 r := f12
  clear f12
  have w12 := v12
  clear v12
  have w2_12 := VL_row (g12 (ao + 8) (ac_ne (by decide)) (cf_ne hfa 8 3 (by decide))) w2_11
  have w8_12 := VL_row (g12 (ao + 3) (ac_ne (by decide)) (cf_ne hfa 3 3 (by decide))) w8_11
  have w11_12 := VL_row (g12 (ao + 4) (ac_ne (by decide)) (cf_ne hfa 4 3 (by decide))) w11
  obtain ⟨v13, f13⟩ := sqr_v c fo (ao + 8) (ao + 8) S12 (cf_ne hfa 8 3 (by decide)) w2_12
  generalize hS13 : sqr_f c fo (ao + 8) (ao + 8) S12 = S13 at v13 f13
  have g13 : ∀ r, r ≠ ao + 8 → r ≠ fo + 3 → S13.2.1 r = S12.2.1 r := f13
  clear f13
  have w13 := v13
  clear v13
  have w8_13 := VL_row (g13 (ao + 3) (ac_ne (by decide)) (cf_ne hfa 3 3 (by decide))) w8_12
  have w11_13 := VL_row (g13 (ao + 4) (ac_ne (by decide)) (cf_ne hfa 4 3 (by decide))) w11_12
  have w12_13 := VL_row (g13 (ao + 7) (ac_ne (by decide)) (cf_ne hfa 7 3 (by decide))) w12
  obtain ⟨v14, f14⟩ := minus_v c (ao + 11) (ao + 7) (ao + 8) S13  w12_13 w13
  generalize hS14 : minus_f c (ao + 11) (ao + 7) (ao + 8) S13 = S14 at v14 f14
  have g14 : ∀ r, r ≠ ao + 11 → S14.2.1 r = S13.2.1 r := f14
  clear f14
  have w14 := v14
  clear v14
  have w8_14 := VL_row (g14 (ao + 3) (ac_ne (by decide))) w8_13
  have w11_14 := VL_row (g14 (ao + 4) (ac_ne (by decide))) w11_13
  have w12_14 := VL_row (g14 (ao + 7) (ac_ne (by decide))) w12_13
  have w13_14 := VL_row (g14 (ao + 8) (ac_ne (by decide))) w13
  obtain ⟨v15, f15⟩ := mul_v c fo (ao + 5) (ao + 7) (ao + 8) S14 (cf_ne hfa 7 3 (by decide)) (cf_ne hfa 8 3 (by decide)) w12_14 w13_14
  generalize hS15 : mul_f c fo (ao + 5) (ao + 7) (ao + 8) S14 = S15 at v15 f15
  have g15 : ∀ r, r ≠ ao + 5 → r ≠ fo + 3 → S15.2.1 r = S14.2.1 r := f15
  clear f15
  have w15 := v15
  clear v15
  have w8_15 := VL_row (g15 (ao + 3) (ac_ne (by decide)) (cf_ne hfa 3 3 (by decide))) w8_14
  have w11_15 := VL_row (g15 (ao + 4) (ac_ne (by decide)) (cf_ne hfa 4 3 (by decide))) w11_14
  have w12_15 := VL_row (g15 (ao + 7) (ac_ne (by decide)) (cf_ne hfa 7 3 (by decide))) w12_14
  have w14_15 := VL_row (g15 (ao + 11) (ac_ne (by decide)) (cf_ne hfa 11 3 (by decide))) w14
  obtain ⟨v16, f16⟩ := mulS_v c (ao + 6) (ao + 11) S15  w14_15
  generalize hS16 : mulS_f c (ao + 6) (ao + 11) (kaI c) S15 = S16 at v16 f16
  have g16 : ∀ r, r ≠ ao + 6 → S16.2.1 r = S15.2.1 r := f16
  clear f16
  have w16 := v16
  clear v16
  have w8_16 := VL_row (g16 (ao + 3) (ac_ne (by decide))) w8_15
  have w11_16 := VL_row (g16 (ao + 4) (ac_ne (by decide))) w11_15
  have w12_16 := VL_row (g16 (ao + 7) (ac_ne (by decide))) w12_15
  have w14_16 := VL_row (g16 (ao + 11) (ac_ne (by decide))) w14_15
  have w15_16 := VL_row (g16 (ao + 5) (ac_ne (by decide))) w15
  obtain ⟨v17, f17⟩ := plus_v c (ao + 6) (ao + 6) (ao + 7) S16  w16 w12_16
  generalize hS17 : plus_f c (ao + 6) (ao + 6) (ao + 7) S16 = S17 at v17 f17
  have g17 : ∀ r, r ≠ ao + 6 → S17.2.1 r = S16.2.1 r := f17
  clear f17
  have w17 := v17
  clear v17
  have w8_17 := VL_row (g17 (ao + 3) (ac_ne (by decide))) w8_16
  have w11_17 := VL_row (g17 (ao + 4) (ac_ne (by decide))) w11_16
  have w14_17 := VL_row (g17 (ao + 11) (ac_ne (by decide))) w14_16
  have w15_17 := VL_row (g17 (ao + 5) (ac_ne (by decide))) w15_16
  obtain ⟨v18, f18⟩ := mul_v c fo (ao + 6) (ao + 6) (ao + 11) S17 (cf_ne hfa 6 3 (by decide)) (cf_ne hfa 11 3 (by decide)) w17 w14_17
  generalize hS18 : mul_f c fo (ao + 6) (ao + 6) (ao + 11) S17 = S18 at v18 f18
  have g18 : ∀ r, r ≠ ao + 6 → r ≠ fo + 3 → S18.2.1 r = S17.2.1 r := f18
  clear f18
  have w18 := v18
  clear v18
  have w8_18 := VL_row (g18 (ao + 3) (ac_ne (by decide)) (cf_ne hfa 3 3 (by decide))) w8_17
  have w11_18 := VL_row (g18 (ao + 4) (ac_ne (by decide)) (cf_ne hfa 4 3 (by decide))) w11_17
  have w15_18 := VL_row (g18 (ao + 5) (ac_ne (by decide)) (cf_ne hfa 5 3 (by decide))) w15_17
  have en : astep_f c ao fo (ao + 5) (ao + 6) (ao + 3) (ao + 4) S = S18 := by
    unfold astep_f
    dsimp only
    rw [show (if bI c = 0 then (121665 : Int32) else 39081) = kaI c from rfl]
    rw [hS1, hS2, hS3, hS4, hS5, hS6, hS7, hS8, hS9, hS10, hS11, hS12, hS13, hS14, hS15, hS16, hS17, hS18]
  rw [en]
  exact ⟨⟨w15_18, w18, w8_18, w11_18⟩, fun r hr => ((g18 r (aT_a hr 6 (by decide)) (aT_f hr 3 (by decide))).trans ((g17 r (aT_a hr 6 (by decide))).trans ((g16 r (aT_a hr 6 (by decide))).trans ((g15 r (aT_a hr 5 (by decide)) (aT_f hr 3 (by decide))).trans ((g14 r (aT_a hr 11 (by decide))).trans ((g13 r (aT_a hr 8 (by decide)) (aT_f hr 3 (by decide))).trans ((g12 r (aT_a hr 7 (by decide)) (aT_f hr 3 (by decide))).trans ((g11 r (aT_a hr 4 (by decide)) (aT_f hr 3 (by decide))).trans ((g10 r (aT_a hr 4 (by decide)) (aT_f hr 3 (by decide))).trans ((g9 r (aT_a hr 4 (by decide))).trans ((g8 r (aT_a hr 3 (by decide)) (aT_f hr 3 (by decide))).trans ((g7 r (aT_a hr 3 (by decide))).trans ((g6 r (aT_a hr 9 (by decide)) (aT_f hr 3 (by decide))).trans ((g5 r (aT_a hr 10 (by decide)) (aT_f hr 3 (by decide))).trans ((g4 r (aT_a hr 10 (by decide))).trans ((g3 r (aT_a hr 9 (by decide))).trans ((g2 r (aT_a hr 8 (by decide))).trans (g1 r (aT_a hr 7 (by decide))))))))))))))))))))⟩
def swp {α : Type} (p : α × α) : α × α := (p.2, p.1)
def lbit (f : Nat → Int32) (j : Nat) : Nat := uN (f (j / 8)) / 2 ^ (j % 8) % 2
/-- the ladder -/
def ldv (c : Bool) (x1 : Zp c) (f : Nat → Int32) : Nat → (Zp c × Zp c) × (Zp c × Zp c)
  | 0 => ((1, 0), (x1, 1))
  | i + 1 => if lbit f (ldN c - 1 - i) = 1 then swp (lst c x1 (ldv c x1 f i).2.1 (ldv c x1 f i).2.2 (ldv c x1 f i).1.1 (ldv c x1 f i).1.2) else lst c x1 (ldv c x1 f i).1.1 (ldv c x1 f i).1.2 (ldv c x1 f i).2.1 (ldv c x1 f i).2.2
def ldo (c : Bool) (x1 : Zp c) (f : Nat → Int32) : Zp c := (ldv c x1 f (ldN c)).1.1 * fp_iv c (ldv c x1 f (ldN c)).1.2
theorem ldv_congr {c : Bool} {x1 : Zp c} {f g : Nat → Int32} (h : ∀ j, j < fB c → f j = g j) : ∀ i, ldv c x1 f i = ldv c x1 g i := by
  intro i
  induction i with
  | zero => rfl
  | succ i ih =>
    have hb : lbit f (ldN c - 1 - i) = lbit g (ldN c - 1 - i) := by
      unfold lbit
      rw [h]
      have : ldN c ≤ 8 * fB c := by cases c <;> decide
      have h2 : 0 < fB c := by cases c <;> decide
      omega
    unfold ldv
    rw [ih, hb]
theorem ldo_congr {c : Bool} {x1 : Zp c} {f g : Nat → Int32} (h : ∀ j, j < fB c → f j = g j) : ldo c x1 f = ldo c x1 g := by
  unfold ldo
  rw [ldv_congr h]
theorem bit_if {x : Int32} {j : Nat} (hx : uN x < 256) : ((x >>> (nI (j % 2 ^ 3) &&& 31)) &&& nI 1) ≠ 0 ↔ uN x / 2 ^ (j % 8) % 2 = 1 := by
  have e : uN ((x >>> (nI (j % 2 ^ 3) &&& 31)) &&& nI 1) = uN x / 2 ^ (j % 8) % 2 := by
    have e1 : uN ((x >>> (nI (j % 2 ^ 3) &&& 31)) &&& nI (2 ^ 1 - 1)) = uN (x >>> (nI (j % 2 ^ 3) &&& 31)) % 2 ^ 1 := uN_and (by decide)
    rw [sh_nat (by omega) (by omega)] at e1
    exact e1
  rw [← e]
  constructor
  · intro h
    have h2 : uN ((x >>> (nI (j % 2 ^ 3) &&& 31)) &&& nI 1) < 2 := by rw [e]; omega
    have h3 : uN ((x >>> (nI (j % 2 ^ 3) &&& 31)) &&& nI 1) ≠ 0 := fun q => h (uN_ext (q.trans (by decide)))
    omega
  · intro h q
    rw [q] at h
    exact absurd h (by decide)
theorem aclimb_lp (c : Bool) (ao fo : Nat) (S : StT) {x1 : Zp c} (hfa : fo + 9 < ao) (hB : BY (S.1 (ao + 1)) (fB c)) (h1 : VL c S.2.1 (ao + 2) x1) (h2 : VL c S.2.1 (ao + 3) 1) (h3 : VL c S.2.1 (ao + 4) 0) (h4 : VL c S.2.1 (ao + 5) x1) (h5 : VL c S.2.1 (ao + 6) 1) : ∀ i,
    (VL c (aclimb_l81 c ao fo S i) (ao + 3) (ldv c x1 (S.1 (ao + 1)) i).1.1 ∧ VL c (aclimb_l81 c ao fo S i) (ao + 4) (ldv c x1 (S.1 (ao + 1)) i).1.2 ∧ VL c (aclimb_l81 c ao fo S i) (ao + 5) (ldv c x1 (S.1 (ao + 1)) i).2.1 ∧ VL c (aclimb_l81 c ao fo S i) (ao + 6) (ldv c x1 (S.1 (ao + 1)) i).2.2) ∧ ∀ r, ¬ aT ao fo r → aclimb_l81 c ao fo S i r = S.2.1 r := by
  intro i
  induction i with
  | zero => exact ⟨⟨h2, h3, h4, h5⟩, fun _ _ => rfl⟩
  | succ i ih =>
    obtain ⟨⟨i1, i2, i3, i4⟩, i5⟩ := ih
    have x1' := VL_row (i5 (ao + 2) (by unfold aT; omega)) h1
    have hj : (ldN c - 1 - i) / 2 ^ 3 < fB c := by
      have : ldN c ≤ 8 * fB c := by cases c <;> decide
      have h2 : 0 < fB c := by cases c <;> decide
      omega
    have hbit := bit_if (j := ldN c - 1 - i) (hB _ hj)
    unfold aclimb_l81 ldv
    dsimp only
    by_cases hb : lbit (S.1 (ao + 1)) (ldN c - 1 - i) = 1
    · rw [if_pos (hbit.mpr hb), if_pos hb]
      obtain ⟨⟨q1, q2, q3, q4⟩, q5⟩ := astep_b c ao fo (S.1, aclimb_l81 c ao fo S i, S.2.2) hfa x1' i3 i4 i1 i2
      exact ⟨⟨q3, q4, q1, q2⟩, fun r hr => (q5 r hr).trans (i5 r hr)⟩
    · rw [if_neg (fun q => hb (hbit.mp q)), if_neg hb]
      obtain ⟨⟨q1, q2, q3, q4⟩, q5⟩ := astep_a c ao fo (S.1, aclimb_l81 c ao fo S i, S.2.2) hfa x1' i1 i2 i3 i4
      exact ⟨⟨q1, q2, q3, q4⟩, fun r hr => (q5 r hr).trans (i5 r hr)⟩
/-- a scalar as the ladder takes it -/
def clp (c : Bool) (f : Nat → Int32) (j : Nat) : Int32 := if j = 0 then f 0 &&& nI (if c then 252 else 248) else if j = fB c - 1 then (if c then f j ||| nI 128 else (f j &&& nI 127) ||| nI 64) else f j
theorem uN_andle (x y : Int32) : uN (x &&& y) ≤ uN x := by
  unfold uN
  rw [Int32.toBitVec_and, BitVec.toNat_and]
  exact Nat.and_le_left
theorem or256 {a b : Nat} (ha : a < 256) (hb : b < 256) : a ||| b < 256 := Nat.or_lt_two_pow (n := 8) ha hb
theorem clp_by {c : Bool} {f : Nat → Int32} (h : BY f (fB c)) : BY (clp c f) (fB c) := by
  intro j hj
  have h0 : 0 < fB c := by cases c <;> decide
  unfold clp
  split
  · exact Nat.lt_of_le_of_lt (uN_andle _ _) (h 0 h0)
  · split
    · split
      · rw [uN_or]
        exact or256 (h j hj) (by decide)
      · rw [uN_or]
        exact or256 (Nat.lt_of_le_of_lt (uN_andle _ _) (h j hj)) (by decide)
    · exact h j hj
theorem clp_congr {c : Bool} {f g : Nat → Int32} (h : ∀ j, j < fB c → f j = g j) : ∀ j, j < fB c → clp c f j = clp c g j := by
  intro j hj
  unfold clp
  rw [h j hj, h 0 (by omega)]
theorem upd_v (f : Nat → Int32) (k : Nat) (v : Int32) (j : Nat) : upd f k v j = if j = k then v else f j := rfl
theorem aload_s (c : Bool) (ao fo sc : Nat) (S : StT) :
    (∀ j, j < fB c → (aload_f c ao fo sc S).1 (ao + 1) j = clp c (S.1 sc) j) ∧ (∀ r, r ≠ ao + 1 → (aload_f c ao fo sc S).1 r = S.1 r) ∧ (aload_f c ao fo sc S).2.1 = S.2.1 := by
  have hc : ∀ j, j < fB c → va_cpy (S.1 sc) (S.1 (ao + 1)) 0 0 (fB c) j = S.1 sc j := by
    intro j hj
    unfold va_cpy
    rw [if_pos ⟨Nat.zero_le _, by omega⟩, Nat.zero_add, Nat.sub_zero]
  unfold aload_f
  dsimp only
  rw [vu_s, vu_vu]
  generalize va_cpy (S.1 sc) (S.1 (ao + 1)) 0 0 (fB c) = g at hc ⊢
  cases c with
  | true =>
    rw [if_neg (by decide)]
    refine ⟨fun j hj => ?_, fun r hr => ?_, rfl⟩
    · dsimp only
      repeat rw [vu_s]
      repeat rw [upd_v]
      have e0 := hc 0 (by decide)
      unfold clp
      have ej := hc j hj
      by_cases h0 : j = 0
      · rw [if_neg (by omega), if_pos h0, if_pos h0, e0]; rfl
      · rw [if_neg h0, if_neg h0]
        by_cases h5 : j = 55
        · rw [if_pos h5, if_neg (by decide), if_pos (show j = fB true - 1 from h5), ← ej, h5]; rfl
        · rw [if_neg h5, if_neg (show ¬ j = fB true - 1 from h5), ej]
    · first | exact (vu_n hr).trans ((vu_n hr).trans (vu_n hr)) | exact (vu_n hr).trans (vu_n hr)
  | false =>
    rw [if_pos (by decide)]
    refine ⟨fun j hj => ?_, fun r hr => ?_, rfl⟩
    · dsimp only
      repeat rw [vu_s]
      repeat rw [upd_v]
      have e0 := hc 0 (by decide)
      unfold clp
      have ej := hc j hj
      by_cases h0 : j = 0
      · rw [if_neg (by omega), if_pos h0, if_pos h0, e0]; rfl
      · rw [if_neg h0, if_neg h0]
        by_cases h5 : j = 31
        · rw [if_pos h5, if_neg (by decide), if_pos (show j = fB false - 1 from h5), ← ej, h5]; rfl
        · rw [if_neg h5, if_neg (show ¬ j = fB false - 1 from h5), ej]
    · first | exact (vu_n hr).trans ((vu_n hr).trans (vu_n hr)) | exact (vu_n hr).trans (vu_n hr)
theorem VL_small {c : Bool} {J : Nat → Nat → Int64} {r m : Nat} (hm : m < 64) (h0 : uL (J r 0) = m) (h : ∀ j, 1 ≤ j → j < 16 → J r j = 0) : VL c J r (fz c (m : Int)) := by
  have hL := fL_le c
  have key : ∀ i, i < fL c → (J r i).toInt = ((if i = 0 then m else 0 : Nat) : Int) := by
    intro i hi
    by_cases e : i = 0
    · rw [if_pos e, e, uL_int (by omega), h0]
    · rw [if_neg e, h i (by omega) (by omega)]
      rfl
  refine ⟨fun i hi => ?_, ?_⟩
  · show -64 < (J r i).toInt ∧ (J r i).toInt < 2 ^ fw c i + 64
    rw [key i hi]
    have : (0 : Int) < 2 ^ fw c i := Int.pow_pos (by decide)
    split <;> omega
  · unfold FV fvl
    congr 1
    refine (rv_nat (f := ri J r) (g := fun i => if i = 0 then m else 0) (fL c) key).trans ?_
    rw [rvN_z _ _ 1 (fL c) (by omega) (fun j h1 _ => if_neg (by omega))]
    show ((0 + (if 0 = 0 then m else 0) * (2 ^ fb c) ^ 0 : Nat) : Int) = _
    rw [if_pos rfl, Nat.pow_zero, Nat.mul_one, Nat.zero_add]
theorem fill_v (c : Bool) (a : Nat) (S : StT) : VL c (fill_f a 16 0 S).2.1 a 0 ∧ ∀ r, r ≠ a → (fill_f a 16 0 S).2.1 r = S.2.1 r := by
  obtain ⟨f1, f2⟩ := fill_s a 16 S
  refine ⟨?_, f2⟩
  have := VL_small (c := c) (J := (fill_f a 16 0 S).2.1) (r := a) (m := 0) (by decide) (by rw [f1 0 (by decide)]; decide) (fun j _ hj => f1 j hj)
  rw [show ((0 : Nat) : Int) = 0 from rfl, fz_0] at this
  exact this
def bsN (c : Bool) : Nat := if c then 5 else 9
theorem abase_s (c : Bool) (ao fo : Nat) (S : StT) : VL c (abase_f c ao fo S).2.1 (ao + 2) (fz c (bsN c : Int)) ∧ (∀ r, r ≠ ao + 2 → (abase_f c ao fo S).2.1 r = S.2.1 r) ∧ (abase_f c ao fo S).1 = S.1 := by
  obtain ⟨f1, f2⟩ := fill_s (ao + 2) 16 S
  unfold abase_f
  dsimp only
  refine ⟨VL_small (by cases c <;> decide) ?_ (fun j h1 hj => ?_), fun r hr => (vu_n hr).trans (f2 r hr), rfl⟩
  · rw [vu_s]
    show uL (if 0 = 0 then _ else _) = _
    rw [if_pos rfl]
    cases c <;> decide
  · rw [vu_s]
    show (if j = 0 then _ else _) = _
    rw [if_neg (by omega)]
    exact f1 j hj
theorem astart_s (c : Bool) (ao fo nb : Nat) (S : StT) (hB : BY (S.1 nb) (fB c)) :
    VL c (astart_f c ao fo nb S).2.1 (ao + 2) (fz c ((bv (S.1 nb) (fB c) % 2 ^ fW c : Nat) : Int)) ∧ (∀ r, r ≠ ao + 2 → (astart_f c ao fo nb S).2.1 r = S.2.1 r) ∧ (astart_f c ao fo nb S).1 = S.1 := by
  obtain ⟨r1, r2⟩ := fread_s c (ao + 2) nb S hB
  unfold astart_f
  exact ⟨r1, r2, rfl⟩
theorem aclimb_s (c : Bool) (ao fo to sc : Nat) (S : StT) {x1 : Zp c} (hfa : fo + 9 < ao) (hB : BY (S.1 sc) (fB c)) (hP : PrimeAt c fo S.2.1) (ho : VL c S.2.1 (fo + 1) 1) (h1 : VL c S.2.1 (ao + 2) x1) :
    (aclimb_f c ao fo to sc S).1 = (if ldo c x1 (clp c (S.1 sc)) = 0 then nI 0 else nI 1) ∧ (∀ i, i < fB c → uN ((aclimb_f c ao fo to sc S).2.1 to i) = (ldo c x1 (clp c (S.1 sc))).val / 2 ^ (8 * i) % 256) ∧ (∀ r, r ≠ to → r ≠ ao + 1 → (aclimb_f c ao fo to sc S).2.1 r = S.1 r) ∧ (to ≠ ao + 1 → ∀ j, fB c ≤ j → (aclimb_f c ao fo to sc S).2.1 to j = S.1 to j) ∧ ∀ r, ¬ aT ao fo r → (aclimb_f c ao fo to sc S).2.2.1 r = S.2.1 r := by
  obtain ⟨l1, l2, l3⟩ := aload_s c ao fo sc S
  unfold aclimb_f
  dsimp only
  generalize aload_f c ao fo sc S = S1 at l1 l2 l3 ⊢
  have ho1 : VL c S1.2.1 (fo + 1) 1 := by rw [l3]; exact ho
  have h11 : VL c S1.2.1 (ao + 2) x1 := by rw [l3]; exact h1
  have hP1 : PrimeAt c fo S1.2.1 := by rw [l3]; exact hP
  have k1 : ∀ r, ¬ aT ao fo r → S1.2.1 r = S.2.1 r := fun r _ => by rw [l3]
  obtain ⟨a1, a2⟩ := copy_v c (ao + 3) (fo + 1) (S1.1, S1.2.1, S.2.2) ho1
  have a3 : ∀ r, r ≠ ao + 3 → (fcopy_f c (ao + 3) (fo + 1) (S1.1, S1.2.1, S.2.2)).2.1 r = S1.2.1 r := a2
  clear a2
  generalize fcopy_f c (ao + 3) (fo + 1) (S1.1, S1.2.1, S.2.2) = S2 at a1 a3 ⊢
  obtain ⟨b1, b2⟩ := fill_v c (ao + 4) (S1.1, S2.2.1, S.2.2)
  have b3 : ∀ r, r ≠ ao + 4 → (fill_f (ao + 4) 16 0 (S1.1, S2.2.1, S.2.2)).2.1 r = S2.2.1 r := b2
  clear b2
  generalize fill_f (ao + 4) 16 0 (S1.1, S2.2.1, S.2.2) = S3 at b1 b3 ⊢
  have c1 := VL_row (b3 (ao + 2) (by omega)) (VL_row (a3 (ao + 2) (by omega)) h11)
  have c2 := VL_row (b3 (fo + 1) (by omega)) (VL_row (a3 (fo + 1) (by omega)) ho1)
  have c3 := VL_row (b3 (ao + 3) (by omega)) a1
  obtain ⟨d1, d2⟩ := copy_v c (ao + 5) (ao + 2) (S1.1, S3.2.1, S.2.2) c1
  have d3 : ∀ r, r ≠ ao + 5 → (fcopy_f c (ao + 5) (ao + 2) (S1.1, S3.2.1, S.2.2)).2.1 r = S3.2.1 r := d2
  clear d2
  generalize fcopy_f c (ao + 5) (ao + 2) (S1.1, S3.2.1, S.2.2) = S4 at d1 d3 ⊢
  obtain ⟨e1, e2⟩ := copy_v c (ao + 6) (fo + 1) (S1.1, S4.2.1, S.2.2) (VL_row (d3 (fo + 1) (by omega)) c2)
  have e3 : ∀ r, r ≠ ao + 6 → (fcopy_f c (ao + 6) (fo + 1) (S1.1, S4.2.1, S.2.2)).2.1 r = S4.2.1 r := e2
  clear e2
  generalize fcopy_f c (ao + 6) (fo + 1) (S1.1, S4.2.1, S.2.2) = S5 at e1 e3 ⊢
  have k5 : ∀ r, ¬ aT ao fo r → S5.2.1 r = S.2.1 r := fun r hr => (e3 r (aT_a hr 6 (by decide))).trans ((d3 r (aT_a hr 5 (by decide))).trans ((b3 r (aT_a hr 4 (by decide))).trans ((a3 r (aT_a hr 3 (by decide))).trans (k1 r hr))))
  have hB1 : BY (S1.1 (ao + 1)) (fB c) := fun j hj => by rw [l1 j hj]; exact clp_by hB j hj
  obtain ⟨⟨v1, v2, v3, v4⟩, v5⟩ := aclimb_lp c ao fo (S1.1, S5.2.1, S.2.2) hfa hB1 (VL_row (e3 (ao + 2) (by omega)) (VL_row (d3 (ao + 2) (by omega)) c1)) (VL_row (e3 (ao + 3) (by omega)) (VL_row (d3 (ao + 3) (by omega)) c3)) (VL_row (e3 (ao + 4) (by omega)) (VL_row (d3 (ao + 4) (by omega)) b1)) (VL_row (e3 (ao + 5) (by omega)) d1) e1 (ldN c)
  have v6 : ∀ r, ¬ aT ao fo r → aclimb_l81 c ao fo (S1.1, S5.2.1, S.2.2) (ldN c) r = S5.2.1 r := v5
  clear v3 v4 v5
  rw [ldv_congr (f := S1.1 (ao + 1)) (g := clp c (S.1 sc)) l1] at v1 v2
  have ho : ldo c x1 (clp c (S.1 sc)) = (ldv c x1 (clp c (S.1 sc)) (ldN c)).1.1 * fp_iv c (ldv c x1 (clp c (S.1 sc)) (ldN c)).1.2 := rfl
  rw [ho]
  generalize ldv c x1 (clp c (S.1 sc)) (ldN c) = V at v1 v2 ⊢
  generalize aclimb_l81 c ao fo (S1.1, S5.2.1, S.2.2) (ldN c) = J6 at v1 v2 v6 ⊢
  obtain ⟨g1, g2⟩ := inv_v c fo (ao + 4) (ao + 4) (S1.1, J6, S.2.2) (by omega) (by omega) (by omega) (by omega) v2
  have g3 : ∀ r, r ≠ ao + 4 → r ≠ fo + 3 → r ≠ fo + 6 → r ≠ fo + 7 → r ≠ fo + 8 → (finv_f c fo (ao + 4) (ao + 4) (S1.1, J6, S.2.2)).2.1 r = J6 r := g2
  clear g2
  generalize finv_f c fo (ao + 4) (ao + 4) (S1.1, J6, S.2.2) = S7 at g1 g3 ⊢
  obtain ⟨m1, m2⟩ := mul_v c fo (ao + 3) (ao + 3) (ao + 4) (S1.1, S7.2.1, S.2.2) (by omega) (by omega) (VL_row (g3 (ao + 3) (by omega) (by omega) (by omega) (by omega) (by omega)) v1) g1
  have m3 : ∀ r, r ≠ ao + 3 → r ≠ fo + 3 → (mul_f c fo (ao + 3) (ao + 3) (ao + 4) (S1.1, S7.2.1, S.2.2)).2.1 r = S7.2.1 r := m2
  clear m2
  generalize mul_f c fo (ao + 3) (ao + 3) (ao + 4) (S1.1, S7.2.1, S.2.2) = S8 at m1 m3 ⊢
  generalize V.1.1 * fp_iv c V.1.2 = O at m1 ⊢
  have k8 : ∀ r, ¬ aT ao fo r → S8.2.1 r = S.2.1 r := fun r hr => (m3 r (aT_a hr 3 (by decide)) (aT_f hr 3 (by decide))).trans ((g3 r (aT_a hr 4 (by decide)) (aT_f hr 3 (by decide)) (aT_f hr 6 (by decide)) (aT_f hr 7 (by decide)) (aT_f hr 8 (by decide))).trans ((v6 r hr).trans (k5 r hr)))
  have hP8 : PrimeAt c fo S8.2.1 := PrimeAt_row (k8 (fo + 2) (by unfold aT; omega)) hP
  obtain ⟨w1, w2, w3, w4⟩ := fwrite_s c fo to (ao + 3) (S1.1, S8.2.1, S.2.2) (by omega) hP8 m1
  have w5 : ∀ r, r ≠ to → (fwrite_f c fo to (ao + 3) (S1.1, S8.2.1, S.2.2)).1 r = S1.1 r := w2
  have w6 : ∀ j, fB c ≤ j → (fwrite_f c fo to (ao + 3) (S1.1, S8.2.1, S.2.2)).1 to j = S1.1 to j := w3
  have w7 : ∀ r, r ≠ fo + 4 → r ≠ fo + 5 → (fwrite_f c fo to (ao + 3) (S1.1, S8.2.1, S.2.2)).2.1 r = S8.2.1 r := w4
  clear w2 w3 w4
  generalize fwrite_f c fo to (ao + 3) (S1.1, S8.2.1, S.2.2) = S9 at w1 w5 w6 w7 ⊢
  have hP9 : PrimeAt c fo S9.2.1 := PrimeAt_row (w7 (fo + 2) (by omega) (by omega)) hP8
  obtain ⟨z1, z2⟩ := isZero_v c fo (ao + 3) (S9.1, S9.2.1, S.2.2) (by omega) hP9 (VL_row (w7 (ao + 3) (by omega) (by omega)) m1)
  have z3 : ∀ r, r ≠ fo + 4 → r ≠ fo + 5 → (fisZero_f c fo (ao + 3) (S9.1, S9.2.1, S.2.2)).2.2.1 r = S9.2.1 r := z2
  clear z2
  generalize fisZero_f c fo (ao + 3) (S9.1, S9.2.1, S.2.2) = Z at z1 z3 ⊢
  have kz : ∀ r, ¬ aT ao fo r → Z.2.2.1 r = S.2.1 r := fun r hr => (z3 r (aT_f hr 4 (by decide)) (aT_f hr 5 (by decide))).trans ((w7 r (aT_f hr 4 (by decide)) (aT_f hr 5 (by decide))).trans (k8 r hr))
  have ks : ∀ r, r ≠ to → r ≠ ao + 1 → S9.1 r = S.1 r := fun r h1 h2 => (w5 r h1).trans (l2 r h2)
  have kt : to ≠ ao + 1 → ∀ j, fB c ≤ j → S9.1 to j = S.1 to j := fun h j hj => (w6 j hj).trans (congrFun (l2 to h) j)
  by_cases hO : O = 0
  · rw [if_pos hO] at z1
    rw [if_pos (show Z.1 ≠ 0 by rw [z1]; decide), if_pos hO]
    exact ⟨rfl, w1, ks, kt, kz⟩
  · rw [if_neg hO] at z1
    rw [if_neg (show ¬ (Z.1 ≠ 0) from fun h => h (z1.trans (by decide))), if_neg hO]
    exact ⟨rfl, w1, ks, kt, kz⟩
end
