section
/-! POINTS of the class over the field. -/
def VL (c : Bool) (J : Nat → Nat → Int64) (r : Nat) (v : Zp c) : Prop := FK c J r ∧ FV c J r = v
theorem VL_row {c : Bool} {J K : Nat → Nat → Int64} {r : Nat} {v : Zp c} (h : J r = K r) (hk : VL c K r v) : VL c J r v := ⟨FK_row h hk.1, (FV_row h).trans hk.2⟩
theorem plus_v (c : Bool) (to a b : Nat) (S : StT) {u v : Zp c} (ha : VL c S.2.1 a u) (hb : VL c S.2.1 b v) : VL c (plus_f c to a b S).2.1 to (u + v) ∧ ∀ r, r ≠ to → (plus_f c to a b S).2.1 r = S.2.1 r := by
  obtain ⟨h1, h2, h3⟩ := plus_s c to a b S ha.1 hb.1
  exact ⟨⟨h1, by rw [h2, ha.2, hb.2]⟩, h3⟩
theorem minus_v (c : Bool) (to a b : Nat) (S : StT) {u v : Zp c} (ha : VL c S.2.1 a u) (hb : VL c S.2.1 b v) : VL c (minus_f c to a b S).2.1 to (u - v) ∧ ∀ r, r ≠ to → (minus_f c to a b S).2.1 r = S.2.1 r := by
  obtain ⟨h1, h2, h3⟩ := minus_s c to a b S ha.1 hb.1
  exact ⟨⟨h1, by rw [h2, ha.2, hb.2]⟩, h3⟩
theorem neg_v (c : Bool) (to a : Nat) (S : StT) {u : Zp c} (ha : VL c S.2.1 a u) : VL c (fneg_f c to a S).2.1 to (-u) ∧ ∀ r, r ≠ to → (fneg_f c to a S).2.1 r = S.2.1 r := by
  obtain ⟨h1, h2, h3⟩ := neg_s c to a S ha.1
  exact ⟨⟨h1, by rw [h2, ha.2]⟩, h3⟩
theorem copy_v (c : Bool) (to a : Nat) (S : StT) {u : Zp c} (ha : VL c S.2.1 a u) : VL c (fcopy_f c to a S).2.1 to u ∧ ∀ r, r ≠ to → (fcopy_f c to a S).2.1 r = S.2.1 r := by
  obtain ⟨h1, h2, h3⟩ := copy_s c to a S ha.1
  exact ⟨⟨h1, by rw [h2, ha.2]⟩, h3⟩
theorem mul_v (c : Bool) (o to a b : Nat) (S : StT) {u v : Zp c} (hao : a ≠ o + 3) (hbo : b ≠ o + 3) (ha : VL c S.2.1 a u) (hb : VL c S.2.1 b v) : VL c (mul_f c o to a b S).2.1 to (u * v) ∧ ∀ r, r ≠ to → r ≠ o + 3 → (mul_f c o to a b S).2.1 r = S.2.1 r := by
  obtain ⟨h1, h2, h3⟩ := mul_s c o to a b S hao hbo ha.1 hb.1
  exact ⟨⟨h1, by rw [h2, ha.2, hb.2]⟩, h3⟩
theorem sqr_v (c : Bool) (o to a : Nat) (S : StT) {u : Zp c} (hao : a ≠ o + 3) (ha : VL c S.2.1 a u) : VL c (sqr_f c o to a S).2.1 to (u * u) ∧ ∀ r, r ≠ to → r ≠ o + 3 → (sqr_f c o to a S).2.1 r = S.2.1 r := by
  obtain ⟨h1, h2, h3⟩ := sqr_s c o to a S hao ha.1
  exact ⟨⟨h1, by rw [h2, ha.2]⟩, h3⟩
theorem root_v (c : Bool) (o to a : Nat) (S : StT) {u : Zp c} (q3 : a ≠ o + 3) (q6 : a ≠ o + 6) (q7 : a ≠ o + 7) (ha : VL c S.2.1 a u) : VL c (froot_f c o to a S).2.1 to (u ^ rE c) ∧ ∀ r, r ≠ to → r ≠ o + 3 → r ≠ o + 6 → r ≠ o + 7 → (froot_f c o to a S).2.1 r = S.2.1 r := by
  obtain ⟨h1, h2, h3⟩ := root_s c o to a S q3 q6 q7 ha.1
  exact ⟨⟨h1, by rw [h2, ha.2]⟩, h3⟩
theorem inv_v (c : Bool) (o to a : Nat) (S : StT) {u : Zp c} (q3 : a ≠ o + 3) (q6 : a ≠ o + 6) (q7 : a ≠ o + 7) (q8 : a ≠ o + 8) (ha : VL c S.2.1 a u) : VL c (finv_f c o to a S).2.1 to (fp_iv c u) ∧ ∀ r, r ≠ to → r ≠ o + 3 → r ≠ o + 6 → r ≠ o + 7 → r ≠ o + 8 → (finv_f c o to a S).2.1 r = S.2.1 r := by
  obtain ⟨h1, h2, h3⟩ := inv_s c o to a S q3 q6 q7 q8 ha.1
  exact ⟨⟨h1, by rw [h2, ha.2]⟩, h3⟩
abbrev Pt (c : Bool) : Type := Zp c × Zp c
def pA (c : Bool) (P Q : Pt c) : Pt c := ed_add (fp_a c) (fp_d c) (fp_iv c) P Q
def pO (c : Bool) (P : Pt c) : Prop := ed_on (fp_a c) (fp_d c) P
def PV (c : Bool) (J : Nat → Nat → Int64) (p : Nat) (P : Pt c) : Prop := pO c P ∧ ∃ x y z : Zp c, VL c J (p + 1) x ∧ VL c J (p + 2) y ∧ VL c J (p + 3) z ∧ ed_rp x y z P
theorem PV_row {c : Bool} {J K : Nat → Nat → Int64} {p : Nat} {P : Pt c} (h1 : J (p + 1) = K (p + 1)) (h2 : J (p + 2) = K (p + 2)) (h3 : J (p + 3) = K (p + 3)) (h : PV c K p P) : PV c J p P := by
  obtain ⟨o, x, y, z, a, b, d, e⟩ := h
  exact ⟨o, x, y, z, VL_row h1 a, VL_row h2 b, VL_row h3 d, e⟩
/-- rows that the field's and the curve's operations may change: the field's helpers, the curve's -/
def cT (co fo r : Nat) : Prop := (fo + 3 ≤ r ∧ r ≤ fo + 9) ∨ (co + 8 ≤ r ∧ r ≤ co + 15)
def pF (co fo p : Nat) : Prop := (p + 3 < fo + 3 ∨ fo + 9 < p + 1) ∧ (p + 3 < co + 8 ∨ co + 15 < p + 1)
theorem pF_c {co fo p : Nat} (h : pF co fo p) (i j : Nat) (hi : (1 ≤ i ∧ i ≤ 3) ∧ 8 ≤ j ∧ j ≤ 15) : p + i ≠ co + j := by obtain ⟨h1, h2⟩ := h; omega
theorem pF_f {co fo p : Nat} (h : pF co fo p) (i j : Nat) (hi : (1 ≤ i ∧ i ≤ 3) ∧ 3 ≤ j ∧ j ≤ 9) : p + i ≠ fo + j := by obtain ⟨h1, h2⟩ := h; omega
theorem cT_c {co fo r : Nat} (h : ¬ cT co fo r) (j : Nat) (hj : 8 ≤ j ∧ j ≤ 15) : r ≠ co + j := fun e => h (Or.inr (by omega))
theorem cT_f {co fo r : Nat} (h : ¬ cT co fo r) (j : Nat) (hj : 3 ≤ j ∧ j ≤ 9) : r ≠ fo + j := fun e => h (Or.inl (by omega))
theorem tT {t r : Nat} (h : ¬ (t + 1 ≤ r ∧ r ≤ t + 3)) (i : Nat) (hi : 1 ≤ i ∧ i ≤ 3) : r ≠ t + i := fun e => h (by omega)
theorem ac_ne {x i j : Nat} (h : i ≠ j) : x + i ≠ x + j := fun e => h (Nat.add_left_cancel e)
theorem cf_ne {co fo : Nat} (h : fo + 9 < co) (i j : Nat) (hj : j ≤ 9) : co + i ≠ fo + j := by omega
theorem fa_t : fp_a true = 1 := fz_1 true
theorem fa_f : fp_a false = -1 := by
  show fz false (-1) = _
  rw [fz_neg, fz_1]
set_option maxRecDepth 20000 in
theorem csum_s_false (co fo to p q : Nat) (S : StT) {P Q : Pt false} (hfc : fo + 9 < co) (hto : pF co fo to) (hp : pF co fo p) (hq : pF co fo q) (hd : VL false S.2.1 (co + 19) (fp_d false)) (h1 : PV false S.2.1 p P) (h2 : PV false S.2.1 q Q) :
    PV false (csum_f false co fo to p q S).2.1 to (pA false P Q) ∧ ∀ r, ¬ cT co fo r → ¬ (to + 1 ≤ r ∧ r ≤ to + 3) → (csum_f false co fo to p q S).2.1 r = S.2.1 r := by
  obtain ⟨on1, x1, y1, z1, a1, a2, a3, e1⟩ := h1
  obtain ⟨on2, x2, y2, z2, b1, b2, b3, e2⟩ := h2
  have key := ed_rp_sum (fp_K false) on1 on2 e1 e2
  have kon := ed_add_on (fp_K false) on1 on2
  obtain ⟨v1, f1⟩ := mul_v false fo (co + 8) (p + 3) (q + 3) S (pF_f hp 3 3 (by decide)) (pF_f hq 3 3 (by decide)) a3 b3
  generalize hS1 : mul_f false fo (co + 8) (p + 3) (q + 3) S = S1 at v1 f1
  have g1 : ∀ r, r ≠ co + 8 → r ≠ fo + 3 → S1.2.1 r = S.2.1 r := f1
  clear f1
  have w1 : VL false S1.2.1 (co + 8) (z1 * z2) := v1
  clear v1
  have a1_1 := VL_row (g1 (p + 1) (pF_c hp 1 8 (by decide)) (pF_f hp 1 3 (by decide))) a1
  have a2_1 := VL_row (g1 (p + 2) (pF_c hp 2 8 (by decide)) (pF_f hp 2 3 (by decide))) a2
  have b1_1 := VL_row (g1 (q + 1) (pF_c hq 1 8 (by decide)) (pF_f hq 1 3 (by decide))) b1
  have b2_1 := VL_row (g1 (q + 2) (pF_c hq 2 8 (by decide)) (pF_f hq 2 3 (by decide))) b2
  have hd_1 := VL_row (g1 (co + 19) (ac_ne (by decide)) (cf_ne hfc 19 3 (by decide))) hd
  obtain ⟨v2, f2⟩ := sqr_v false fo (co + 9) (co + 8) S1 (cf_ne hfc 8 3 (by decide)) w1
  generalize hS2 : sqr_f false fo (co + 9) (co + 8) S1 = S2 at v2 f2
  have g2 : ∀ r, r ≠ co + 9 → r ≠ fo + 3 → S2.2.1 r = S1.2.1 r := f2
  clear f2
  have w2 : VL false S2.2.1 (co + 9) ((z1 * z2) * (z1 * z2)) := v2
  clear v2
  have a1_2 := VL_row (g2 (p + 1) (pF_c hp 1 9 (by decide)) (pF_f hp 1 3 (by decide))) a1_1
  have a2_2 := VL_row (g2 (p + 2) (pF_c hp 2 9 (by decide)) (pF_f hp 2 3 (by decide))) a2_1
  have b1_2 := VL_row (g2 (q + 1) (pF_c hq 1 9 (by decide)) (pF_f hq 1 3 (by decide))) b1_1
  have b2_2 := VL_row (g2 (q + 2) (pF_c hq 2 9 (by decide)) (pF_f hq 2 3 (by decide))) b2_1
  have hd_2 := VL_row (g2 (co + 19) (ac_ne (by decide)) (cf_ne hfc 19 3 (by decide))) hd_1
  have w1_2 := VL_row (g2 (co + 8) (ac_ne (by decide)) (cf_ne hfc 8 3 (by decide))) w1
  obtain ⟨v3, f3⟩ := mul_v false fo (co + 10) (p + 1) (q + 1) S2 (pF_f hp 1 3 (by decide)) (pF_f hq 1 3 (by decide)) a1_2 b1_2
  generalize hS3 : mul_f false fo (co + 10) (p + 1) (q + 1) S2 = S3 at v3 f3
  have g3 : ∀ r, r ≠ co + 10 → r ≠ fo + 3 → S3.2.1 r = S2.2.1 r := f3
  clear f3
  have w3 : VL false S3.2.1 (co + 10) (x1 * x2) := v3
  clear v3
  have a1_3 := VL_row (g3 (p + 1) (pF_c hp 1 10 (by decide)) (pF_f hp 1 3 (by decide))) a1_2
  have a2_3 := VL_row (g3 (p + 2) (pF_c hp 2 10 (by decide)) (pF_f hp 2 3 (by decide))) a2_2
  have b1_3 := VL_row (g3 (q + 1) (pF_c hq 1 10 (by decide)) (pF_f hq 1 3 (by decide))) b1_2
  have b2_3 := VL_row (g3 (q + 2) (pF_c hq 2 10 (by decide)) (pF_f hq 2 3 (by decide))) b2_2
  have hd_3 := VL_row (g3 (co + 19) (ac_ne (by decide)) (cf_ne hfc 19 3 (by decide))) hd_2
  have w1_3 := VL_row (g3 (co + 8) (ac_ne (by decide)) (cf_ne hfc 8 3 (by decide))) w1_2
  have w2_3 := VL_row (g3 (co + 9) (ac_ne (by decide)) (cf_ne hfc 9 3 (by decide))) w2
  obtain ⟨v4, f4⟩ := mul_v false fo (co + 11) (p + 2) (q + 2) S3 (pF_f hp 2 3 (by decide)) (pF_f hq 2 3 (by decide)) a2_3 b2_3
  generalize hS4 : mul_f false fo (co + 11) (p + 2) (q + 2) S3 = S4 at v4 f4
  have g4 : ∀ r, r ≠ co + 11 → r ≠ fo + 3 → S4.2.1 r = S3.2.1 r := f4
  clear f4
  have w4 : VL false S4.2.1 (co + 11) (y1 * y2) := v4
  clear v4
  have a1_4 := VL_row (g4 (p + 1) (pF_c hp 1 11 (by decide)) (pF_f hp 1 3 (by decide))) a1_3
  have a2_4 := VL_row (g4 (p + 2) (pF_c hp 2 11 (by decide)) (pF_f hp 2 3 (by decide))) a2_3
  have b1_4 := VL_row (g4 (q + 1) (pF_c hq 1 11 (by decide)) (pF_f hq 1 3 (by decide))) b1_3
  have b2_4 := VL_row (g4 (q + 2) (pF_c hq 2 11 (by decide)) (pF_f hq 2 3 (by decide))) b2_3
  have hd_4 := VL_row (g4 (co + 19) (ac_ne (by decide)) (cf_ne hfc 19 3 (by decide))) hd_3
  have w1_4 := VL_row (g4 (co + 8) (ac_ne (by decide)) (cf_ne hfc 8 3 (by decide))) w1_3
  have w2_4 := VL_row (g4 (co + 9) (ac_ne (by decide)) (cf_ne hfc 9 3 (by decide))) w2_3
  have w3_4 := VL_row (g4 (co + 10) (ac_ne (by decide)) (cf_ne hfc 10 3 (by decide))) w3
  obtain ⟨v5, f5⟩ := mul_v false fo (co + 12) (co + 10) (co + 11) S4 (cf_ne hfc 10 3 (by decide)) (cf_ne hfc 11 3 (by decide)) w3_4 w4
  generalize hS5 : mul_f false fo (co + 12) (co + 10) (co + 11) S4 = S5 at v5 f5
  have g5 : ∀ r, r ≠ co + 12 → r ≠ fo + 3 → S5.2.1 r = S4.2.1 r := f5
  clear f5
  have w5 : VL false S5.2.1 (co + 12) ((x1 * x2) * (y1 * y2)) := v5
  clear v5
  have a1_5 := VL_row (g5 (p + 1) (pF_c hp 1 12 (by decide)) (pF_f hp 1 3 (by decide))) a1_4
  have a2_5 := VL_row (g5 (p + 2) (pF_c hp 2 12 (by decide)) (pF_f hp 2 3 (by decide))) a2_4
  have b1_5 := VL_row (g5 (q + 1) (pF_c hq 1 12 (by decide)) (pF_f hq 1 3 (by decide))) b1_4
  have b2_5 := VL_row (g5 (q + 2) (pF_c hq 2 12 (by decide)) (pF_f hq 2 3 (by decide))) b2_4
  have hd_5 := VL_row (g5 (co + 19) (ac_ne (by decide)) (cf_ne hfc 19 3 (by decide))) hd_4
  have w1_5 := VL_row (g5 (co + 8) (ac_ne (by decide)) (cf_ne hfc 8 3 (by decide))) w1_4
  have w2_5 := VL_row (g5 (co + 9) (ac_ne (by decide)) (cf_ne hfc 9 3 (by decide))) w2_4
  have w3_5 := VL_row (g5 (co + 10) (ac_ne (by decide)) (cf_ne hfc 10 3 (by decide))) w3_4
  have w4_5 := VL_row (g5 (co + 11) (ac_ne (by decide)) (cf_ne hfc 11 3 (by decide))) w4
  obtain ⟨v6, f6⟩ := mul_v false fo (co + 12) (co + 12) (co + 19) S5 (cf_ne hfc 12 3 (by decide)) (cf_ne hfc 19 3 (by decide)) w5 hd_5
  generalize hS6 : mul_f false fo (co + 12) (co + 12) (co + 19) S5 = S6 at v6 f6
  have g6 : ∀ r, r ≠ co + 12 → r ≠ fo + 3 → S6.2.1 r = S5.2.1 r := f6
  clear f6
  have w6 : VL false S6.2.1 (co + 12) (((x1 * x2) * (y1 * y2)) * (fp_d false)) := v6
  clear v6
  have a1_6 := VL_row (g6 (p + 1) (pF_c hp 1 12 (by decide)) (pF_f hp 1 3 (by decide))) a1_5
  have a2_6 := VL_row (g6 (p + 2) (pF_c hp 2 12 (by decide)) (pF_f hp 2 3 (by decide))) a2_5
  have b1_6 := VL_row (g6 (q + 1) (pF_c hq 1 12 (by decide)) (pF_f hq 1 3 (by decide))) b1_5
  have b2_6 := VL_row (g6 (q + 2) (pF_c hq 2 12 (by decide)) (pF_f hq 2 3 (by decide))) b2_5
  have w1_6 := VL_row (g6 (co + 8) (ac_ne (by decide)) (cf_ne hfc 8 3 (by decide))) w1_5
  have w2_6 := VL_row (g6 (co + 9) (ac_ne (by decide)) (cf_ne hfc 9 3 (by decide))) w2_5
  have w3_6 := VL_row (g6 (co + 10) (ac_ne (by decide)) (cf_ne hfc 10 3 (by decide))) w3_5
  have w4_6 := VL_row (g6 (co + 11) (ac_ne (by decide)) (cf_ne hfc 11 3 (by decide))) w4_5
  obtain ⟨v7, f7⟩ := minus_v false (co + 13) (co + 9) (co + 12) S6  w2_6 w6
  generalize hS7 : minus_f false (co + 13) (co + 9) (co + 12) S6 = S7 at v7 f7
  have g7 : ∀ r, r ≠ co + 13 → S7.2.1 r = S6.2.1 r := f7
  clear f7
  have w7 : VL false S7.2.1 (co + 13) (((z1 * z2) * (z1 * z2)) - (((x1 * x2) * (y1 * y2)) * (fp_d false))) := v7
  clear v7
  have a1_7 := VL_row (g7 (p + 1) (pF_c hp 1 13 (by decide))) a1_6
  have a2_7 := VL_row (g7 (p + 2) (pF_c hp 2 13 (by decide))) a2_6
  have b1_7 := VL_row (g7 (q + 1) (pF_c hq 1 13 (by decide))) b1_6
  have b2_7 := VL_row (g7 (q + 2) (pF_c hq 2 13 (by decide))) b2_6
  have w1_7 := VL_row (g7 (co + 8) (ac_ne (by decide))) w1_6
  have w2_7 := VL_row (g7 (co + 9) (ac_ne (by decide))) w2_6
  have w3_7 := VL_row (g7 (co + 10) (ac_ne (by decide))) w3_6
  have w4_7 := VL_row (g7 (co + 11) (ac_ne (by decide))) w4_6
  have w6_7 := VL_row (g7 (co + 12) (ac_ne (by decide))) w6
  obtain ⟨v8, f8⟩ := plus_v false (co + 14) (co + 9) (co + 12) S7  w2_7 w6_7
  generalize hS8 : plus_f false (co + 14) (co + 9) (co + 12) S7 = S8 at v8 f8
  have g8 : ∀ r, r ≠ co + 14 → S8.2.1 r = S7.2.1 r := f8
  clear f8
  have w8 : VL false S8.2.1 (co + 14) (((z1 * z2) * (z1 * z2)) + (((x1 * x2) * (y1 * y2)) * (fp_d false))) := v8
  clear v8
  have a1_8 := VL_row (g8 (p + 1) (pF_c hp 1 14 (by decide))) a1_7
  have a2_8 := VL_row (g8 (p + 2) (pF_c hp 2 14 (by decide))) a2_7
  have b1_8 := VL_row (g8 (q + 1) (pF_c hq 1 14 (by decide))) b1_7
  have b2_8 := VL_row (g8 (q + 2) (pF_c hq 2 14 (by decide))) b2_7
  have w1_8 := VL_row (g8 (co + 8) (ac_ne (by decide))) w1_7
  have w3_8 := VL_row (g8 (co + 10) (ac_ne (by decide))) w3_7
  have w4_8 := VL_row (g8 (co + 11) (ac_ne (by decide))) w4_7
  have w7_8 := VL_row (g8 (co + 13) (ac_ne (by decide))) w7
  obtain ⟨v9, f9⟩ := plus_v false (co + 15) (p + 1) (p + 2) S8  a1_8 a2_8
  generalize hS9 : plus_f false (co + 15) (p + 1) (p + 2) S8 = S9 at v9 f9
  have g9 : ∀ r, r ≠ co + 15 → S9.2.1 r = S8.2.1 r := f9
  clear f9
  have w9 : VL false S9.2.1 (co + 15) (x1 + y1) := v9
  clear v9
  have b1_9 := VL_row (g9 (q + 1) (pF_c hq 1 15 (by decide))) b1_8
  have b2_9 := VL_row (g9 (q + 2) (pF_c hq 2 15 (by decide))) b2_8
  have w1_9 := VL_row (g9 (co + 8) (ac_ne (by decide))) w1_8
  have w3_9 := VL_row (g9 (co + 10) (ac_ne (by decide))) w3_8
  have w4_9 := VL_row (g9 (co + 11) (ac_ne (by decide))) w4_8
  have w7_9 := VL_row (g9 (co + 13) (ac_ne (by decide))) w7_8
  have w8_9 := VL_row (g9 (co + 14) (ac_ne (by decide))) w8
  obtain ⟨v10, f10⟩ := plus_v false (co + 9) (q + 1) (q + 2) S9  b1_9 b2_9
  generalize hS10 : plus_f false (co + 9) (q + 1) (q + 2) S9 = S10 at v10 f10
  have g10 : ∀ r, r ≠ co + 9 → S10.2.1 r = S9.2.1 r := f10
  clear f10
  have w10 : VL false S10.2.1 (co + 9) (x2 + y2) := v10
  clear v10
  have w1_10 := VL_row (g10 (co + 8) (ac_ne (by decide))) w1_9
  have w3_10 := VL_row (g10 (co + 10) (ac_ne (by decide))) w3_9
  have w4_10 := VL_row (g10 (co + 11) (ac_ne (by decide))) w4_9
  have w7_10 := VL_row (g10 (co + 13) (ac_ne (by decide))) w7_9
  have w8_10 := VL_row (g10 (co + 14) (ac_ne (by decide))) w8_9
  have w9_10 := VL_row (g10 (co + 15) (ac_ne (by decide))) w9
  obtain ⟨v11, f11⟩ := mul_v false fo (co + 15) (co + 15) (co + 9) S10 (cf_ne hfc 15 3 (by decide)) (cf_ne hfc 9 3 (by decide)) w9_10 w10
  generalize hS11 : mul_f false fo (co + 15) (co + 15) (co + 9) S10 = S11 at v11 f11
  have g11 : ∀ r, r ≠ co + 15 → r ≠ fo + 3 → S11.2.1 r = S10.2.1 r := f11
  clear f11
  have w11 : VL false S11.2.1 (co + 15) ((x1 + y1) * (x2 + y2)) := v11
  clear v11
  have w1_11 := VL_row (g11 (co + 8) (ac_ne (by decide)) (cf_ne hfc 8 3 (by decide))) w1_10
  have w3_11 := VL_row (g11 (co + 10) (ac_ne (by decide)) (cf_ne hfc 10 3 (by decide))) w3_10
  have w4_11 := VL_row (g11 (co + 11) (ac_ne (by decide)) (cf_ne hfc 11 3 (by decide))) w4_10
  have w7_11 := VL_row (g11 (co + 13) (ac_ne (by decide)) (cf_ne hfc 13 3 (by decide))) w7_10
  have w8_11 := VL_row (g11 (co + 14) (ac_ne (by decide)) (cf_ne hfc 14 3 (by decide))) w8_10
  obtain ⟨v12, f12⟩ := plus_v false (co + 12) (co + 11) (co + 10) S11  w4_11 w3_11
  generalize hS12 : plus_f false (co + 12) (co + 11) (co + 10) S11 = S12 at v12 f12
  have g12 : ∀ r, r ≠ co + 12 → S12.2.1 r = S11.2.1 r := f12
  clear f12
  have w12 : VL false S12.2.1 (co + 12) ((y1 * y2) + (x1 * x2)) := v12
  clear v12
  have w1_12 := VL_row (g12 (co + 8) (ac_ne (by decide))) w1_11
  have w7_12 := VL_row (g12 (co + 13) (ac_ne (by decide))) w7_11
  have w8_12 := VL_row (g12 (co + 14) (ac_ne (by decide))) w8_11
  have w11_12 := VL_row (g12 (co + 15) (ac_ne (by decide))) w11
  obtain ⟨v13, f13⟩ := minus_v false (co + 15) (co + 15) (co + 12) S12  w11_12 w12
  generalize hS13 : minus_f false (co + 15) (co + 15) (co + 12) S12 = S13 at v13 f13
  have g13 : ∀ r, r ≠ co + 15 → S13.2.1 r = S12.2.1 r := f13
  clear f13
  have w13 : VL false S13.2.1 (co + 15) (((x1 + y1) * (x2 + y2)) - ((y1 * y2) + (x1 * x2))) := v13
  clear v13
  have w1_13 := VL_row (g13 (co + 8) (ac_ne (by decide))) w1_12
  have w7_13 := VL_row (g13 (co + 13) (ac_ne (by decide))) w7_12
  have w8_13 := VL_row (g13 (co + 14) (ac_ne (by decide))) w8_12
  have w12_13 := VL_row (g13 (co + 12) (ac_ne (by decide))) w12
  obtain ⟨v14, f14⟩ := mul_v false fo (to + 3) (co + 13) (co + 14) S13 (cf_ne hfc 13 3 (by decide)) (cf_ne hfc 14 3 (by decide)) w7_13 w8_13
  generalize hS14 : mul_f false fo (to + 3) (co + 13) (co + 14) S13 = S14 at v14 f14
  have g14 : ∀ r, r ≠ to + 3 → r ≠ fo + 3 → S14.2.1 r = S13.2.1 r := f14
  clear f14
  have w14 : VL false S14.2.1 (to + 3) ((((z1 * z2) * (z1 * z2)) - (((x1 * x2) * (y1 * y2)) * (fp_d false))) * (((z1 * z2) * (z1 * z2)) + (((x1 * x2) * (y1 * y2)) * (fp_d false)))) := v14
  clear v14
  have w1_14 := VL_row (g14 (co + 8) ((pF_c hto 3 8 (by decide)).symm) (cf_ne hfc 8 3 (by decide))) w1_13
  have w7_14 := VL_row (g14 (co + 13) ((pF_c hto 3 13 (by decide)).symm) (cf_ne hfc 13 3 (by decide))) w7_13
  have w8_14 := VL_row (g14 (co + 14) ((pF_c hto 3 14 (by decide)).symm) (cf_ne hfc 14 3 (by decide))) w8_13
  have w12_14 := VL_row (g14 (co + 12) ((pF_c hto 3 12 (by decide)).symm) (cf_ne hfc 12 3 (by decide))) w12_13
  have w13_14 := VL_row (g14 (co + 15) ((pF_c hto 3 15 (by decide)).symm) (cf_ne hfc 15 3 (by decide))) w13
  obtain ⟨v15, f15⟩ := mul_v false fo (co + 13) (co + 13) (co + 8) S14 (cf_ne hfc 13 3 (by decide)) (cf_ne hfc 8 3 (by decide)) w7_14 w1_14
  generalize hS15 : mul_f false fo (co + 13) (co + 13) (co + 8) S14 = S15 at v15 f15
  have g15 : ∀ r, r ≠ co + 13 → r ≠ fo + 3 → S15.2.1 r = S14.2.1 r := f15
  clear f15
  have w15 : VL false S15.2.1 (co + 13) ((((z1 * z2) * (z1 * z2)) - (((x1 * x2) * (y1 * y2)) * (fp_d false))) * (z1 * z2)) := v15
  clear v15
  have w1_15 := VL_row (g15 (co + 8) (ac_ne (by decide)) (cf_ne hfc 8 3 (by decide))) w1_14
  have w8_15 := VL_row (g15 (co + 14) (ac_ne (by decide)) (cf_ne hfc 14 3 (by decide))) w8_14
  have w12_15 := VL_row (g15 (co + 12) (ac_ne (by decide)) (cf_ne hfc 12 3 (by decide))) w12_14
  have w13_15 := VL_row (g15 (co + 15) (ac_ne (by decide)) (cf_ne hfc 15 3 (by decide))) w13_14
  have w14_15 := VL_row (g15 (to + 3) (pF_c hto 3 13 (by decide)) (pF_f hto 3 3 (by decide))) w14
  obtain ⟨v16, f16⟩ := mul_v false fo (to + 1) (co + 13) (co + 15) S15 (cf_ne hfc 13 3 (by decide)) (cf_ne hfc 15 3 (by decide)) w15 w13_15
  generalize hS16 : mul_f false fo (to + 1) (co + 13) (co + 15) S15 = S16 at v16 f16
  have g16 : ∀ r, r ≠ to + 1 → r ≠ fo + 3 → S16.2.1 r = S15.2.1 r := f16
  clear f16
  have w16 : VL false S16.2.1 (to + 1) (((((z1 * z2) * (z1 * z2)) - (((x1 * x2) * (y1 * y2)) * (fp_d false))) * (z1 * z2)) * (((x1 + y1) * (x2 + y2)) - ((y1 * y2) + (x1 * x2)))) := v16
  clear v16
  have w1_16 := VL_row (g16 (co + 8) ((pF_c hto 1 8 (by decide)).symm) (cf_ne hfc 8 3 (by decide))) w1_15
  have w8_16 := VL_row (g16 (co + 14) ((pF_c hto 1 14 (by decide)).symm) (cf_ne hfc 14 3 (by decide))) w8_15
  have w12_16 := VL_row (g16 (co + 12) ((pF_c hto 1 12 (by decide)).symm) (cf_ne hfc 12 3 (by decide))) w12_15
  have w14_16 := VL_row (g16 (to + 3) (ac_ne (by decide)) (pF_f hto 3 3 (by decide))) w14_15
  obtain ⟨v17, f17⟩ := mul_v false fo (co + 14) (co + 14) (co + 8) S16 (cf_ne hfc 14 3 (by decide)) (cf_ne hfc 8 3 (by decide)) w8_16 w1_16
  generalize hS17 : mul_f false fo (co + 14) (co + 14) (co + 8) S16 = S17 at v17 f17
  have g17 : ∀ r, r ≠ co + 14 → r ≠ fo + 3 → S17.2.1 r = S16.2.1 r := f17
  clear f17
  have w17 : VL false S17.2.1 (co + 14) ((((z1 * z2) * (z1 * z2)) + (((x1 * x2) * (y1 * y2)) * (fp_d false))) * (z1 * z2)) := v17
  clear v17
  have w12_17 := VL_row (g17 (co + 12) (ac_ne (by decide)) (cf_ne hfc 12 3 (by decide))) w12_16
  have w14_17 := VL_row (g17 (to + 3) (pF_c hto 3 14 (by decide)) (pF_f hto 3 3 (by decide))) w14_16
  have w16_17 := VL_row (g17 (to + 1) (pF_c hto 1 14 (by decide)) (pF_f hto 1 3 (by decide))) w16
  obtain ⟨v18, f18⟩ := mul_v false fo (to + 2) (co + 14) (co + 12) S17 (cf_ne hfc 14 3 (by decide)) (cf_ne hfc 12 3 (by decide)) w17 w12_17
  generalize hS18 : mul_f false fo (to + 2) (co + 14) (co + 12) S17 = S18 at v18 f18
  have g18 : ∀ r, r ≠ to + 2 → r ≠ fo + 3 → S18.2.1 r = S17.2.1 r := f18
  clear f18
  have w18 : VL false S18.2.1 (to + 2) (((((z1 * z2) * (z1 * z2)) + (((x1 * x2) * (y1 * y2)) * (fp_d false))) * (z1 * z2)) * ((y1 * y2) + (x1 * x2))) := v18
  clear v18
  have w14_18 := VL_row (g18 (to + 3) (ac_ne (by decide)) (pF_f hto 3 3 (by decide))) w14_17
  have w16_18 := VL_row (g18 (to + 1) (ac_ne (by decide)) (pF_f hto 1 3 (by decide))) w16_17
  have en : csum_f false co fo to p q S = S18 := by
    unfold csum_f
    dsimp only
    rw [if_pos (show (bI false = 0) by decide), hS1, hS2, hS3, hS4, hS5, hS6, hS7, hS8, hS9, hS10, hS11, hS12, hS13, hS14, hS15, hS16, hS17, hS18]
  rw [en]
  refine ⟨⟨kon, _, _, _, w16_18, w18, w14_18, ed_rp_to key ?_ ?_ ?_⟩, ?_⟩
  · clear key kon
    grind
  · rw [fa_f]
    clear key kon
    grind
  · clear key kon
    grind
  · intro r hr hq
    exact ((g18 r (tT hq 2 (by decide)) (cT_f hr 3 (by decide))).trans ((g17 r (cT_c hr 14 (by decide)) (cT_f hr 3 (by decide))).trans ((g16 r (tT hq 1 (by decide)) (cT_f hr 3 (by decide))).trans ((g15 r (cT_c hr 13 (by decide)) (cT_f hr 3 (by decide))).trans ((g14 r (tT hq 3 (by decide)) (cT_f hr 3 (by decide))).trans ((g13 r (cT_c hr 15 (by decide))).trans ((g12 r (cT_c hr 12 (by decide))).trans ((g11 r (cT_c hr 15 (by decide)) (cT_f hr 3 (by decide))).trans ((g10 r (cT_c hr 9 (by decide))).trans ((g9 r (cT_c hr 15 (by decide))).trans ((g8 r (cT_c hr 14 (by decide))).trans ((g7 r (cT_c hr 13 (by decide))).trans ((g6 r (cT_c hr 12 (by decide)) (cT_f hr 3 (by decide))).trans ((g5 r (cT_c hr 12 (by decide)) (cT_f hr 3 (by decide))).trans ((g4 r (cT_c hr 11 (by decide)) (cT_f hr 3 (by decide))).trans ((g3 r (cT_c hr 10 (by decide)) (cT_f hr 3 (by decide))).trans ((g2 r (cT_c hr 9 (by decide)) (cT_f hr 3 (by decide))).trans (g1 r (cT_c hr 8 (by decide)) (cT_f hr 3 (by decide))))))))))))))))))))
set_option maxRecDepth 20000 in
theorem ctwice_s_false (co fo to p : Nat) (S : StT) {P : Pt false} (hfc : fo + 9 < co) (hto : pF co fo to) (hp : pF co fo p) (h1 : PV false S.2.1 p P) :
    PV false (ctwice_f false co fo to p S).2.1 to (pA false P P) ∧ ∀ r, ¬ cT co fo r → ¬ (to + 1 ≤ r ∧ r ≤ to + 3) → (ctwice_f false co fo to p S).2.1 r = S.2.1 r := by
  obtain ⟨on1, x1, y1, z1, a1, a2, a3, e1⟩ := h1
  have key := ed_rp_dbl (fp_K false) on1 e1
  have kon := ed_add_on (fp_K false) on1 on1
  obtain ⟨v1, f1⟩ := plus_v false (co + 9) (p + 1) (p + 2) S  a1 a2
  generalize hS1 : plus_f false (co + 9) (p + 1) (p + 2) S = S1 at v1 f1
  have g1 : ∀ r, r ≠ co + 9 → S1.2.1 r = S.2.1 r := f1
  clear f1
  have w1 : VL false S1.2.1 (co + 9) (x1 + y1) := v1
  clear v1
  have a1_1 := VL_row (g1 (p + 1) (pF_c hp 1 9 (by decide))) a1
  have a2_1 := VL_row (g1 (p + 2) (pF_c hp 2 9 (by decide))) a2
  have a3_1 := VL_row (g1 (p + 3) (pF_c hp 3 9 (by decide))) a3
  obtain ⟨v2, f2⟩ := sqr_v false fo (co + 9) (co + 9) S1 (cf_ne hfc 9 3 (by decide)) w1
  generalize hS2 : sqr_f false fo (co + 9) (co + 9) S1 = S2 at v2 f2
  have g2 : ∀ r, r ≠ co + 9 → r ≠ fo + 3 → S2.2.1 r = S1.2.1 r := f2
  clear f2
  have w2 : VL false S2.2.1 (co + 9) ((x1 + y1) * (x1 + y1)) := v2
  clear v2
  have a1_2 := VL_row (g2 (p + 1) (pF_c hp 1 9 (by decide)) (pF_f hp 1 3 (by decide))) a1_1
  have a2_2 := VL_row (g2 (p + 2) (pF_c hp 2 9 (by decide)) (pF_f hp 2 3 (by decide))) a2_1
  have a3_2 := VL_row (g2 (p + 3) (pF_c hp 3 9 (by decide)) (pF_f hp 3 3 (by decide))) a3_1
  obtain ⟨v3, f3⟩ := sqr_v false fo (co + 10) (p + 1) S2 (pF_f hp 1 3 (by decide)) a1_2
  generalize hS3 : sqr_f false fo (co + 10) (p + 1) S2 = S3 at v3 f3
  have g3 : ∀ r, r ≠ co + 10 → r ≠ fo + 3 → S3.2.1 r = S2.2.1 r := f3
  clear f3
  have w3 : VL false S3.2.1 (co + 10) (x1 * x1) := v3
  clear v3
  have a2_3 := VL_row (g3 (p + 2) (pF_c hp 2 10 (by decide)) (pF_f hp 2 3 (by decide))) a2_2
  have a3_3 := VL_row (g3 (p + 3) (pF_c hp 3 10 (by decide)) (pF_f hp 3 3 (by decide))) a3_2
  have w2_3 := VL_row (g3 (co + 9) (ac_ne (by decide)) (cf_ne hfc 9 3 (by decide))) w2
  obtain ⟨v4, f4⟩ := sqr_v false fo (co + 11) (p + 2) S3 (pF_f hp 2 3 (by decide)) a2_3
  generalize hS4 : sqr_f false fo (co + 11) (p + 2) S3 = S4 at v4 f4
  have g4 : ∀ r, r ≠ co + 11 → r ≠ fo + 3 → S4.2.1 r = S3.2.1 r := f4
  clear f4
  have w4 : VL false S4.2.1 (co + 11) (y1 * y1) := v4
  clear v4
  have a3_4 := VL_row (g4 (p + 3) (pF_c hp 3 11 (by decide)) (pF_f hp 3 3 (by decide))) a3_3
  have w2_4 := VL_row (g4 (co + 9) (ac_ne (by decide)) (cf_ne hfc 9 3 (by decide))) w2_3
  have w3_4 := VL_row (g4 (co + 10) (ac_ne (by decide)) (cf_ne hfc 10 3 (by decide))) w3
  obtain ⟨v5, f5⟩ := sqr_v false fo (co + 15) (p + 3) S4 (pF_f hp 3 3 (by decide)) a3_4
  generalize hS5 : sqr_f false fo (co + 15) (p + 3) S4 = S5 at v5 f5
  have g5 : ∀ r, r ≠ co + 15 → r ≠ fo + 3 → S5.2.1 r = S4.2.1 r := f5
  clear f5
  have w5 : VL false S5.2.1 (co + 15) (z1 * z1) := v5
  clear v5
  have w2_5 := VL_row (g5 (co + 9) (ac_ne (by decide)) (cf_ne hfc 9 3 (by decide))) w2_4
  have w3_5 := VL_row (g5 (co + 10) (ac_ne (by decide)) (cf_ne hfc 10 3 (by decide))) w3_4
  have w4_5 := VL_row (g5 (co + 11) (ac_ne (by decide)) (cf_ne hfc 11 3 (by decide))) w4
  obtain ⟨v6, f6⟩ := plus_v false (co + 12) (co + 11) (co + 10) S5  w4_5 w3_5
  generalize hS6 : plus_f false (co + 12) (co + 11) (co + 10) S5 = S6 at v6 f6
  have g6 : ∀ r, r ≠ co + 12 → S6.2.1 r = S5.2.1 r := f6
  clear f6
  have w6 : VL false S6.2.1 (co + 12) ((y1 * y1) + (x1 * x1)) := v6
  clear v6
  have w2_6 := VL_row (g6 (co + 9) (ac_ne (by decide))) w2_5
  have w3_6 := VL_row (g6 (co + 10) (ac_ne (by decide))) w3_5
  have w4_6 := VL_row (g6 (co + 11) (ac_ne (by decide))) w4_5
  have w5_6 := VL_row (g6 (co + 15) (ac_ne (by decide))) w5
  obtain ⟨v7, f7⟩ := minus_v false (co + 14) (co + 11) (co + 10) S6  w4_6 w3_6
  generalize hS7 : minus_f false (co + 14) (co + 11) (co + 10) S6 = S7 at v7 f7
  have g7 : ∀ r, r ≠ co + 14 → S7.2.1 r = S6.2.1 r := f7
  clear f7
  have w7 : VL false S7.2.1 (co + 14) ((y1 * y1) - (x1 * x1)) := v7
  clear v7
  have w2_7 := VL_row (g7 (co + 9) (ac_ne (by decide))) w2_6
  have w5_7 := VL_row (g7 (co + 15) (ac_ne (by decide))) w5_6
  have w6_7 := VL_row (g7 (co + 12) (ac_ne (by decide))) w6
  obtain ⟨v8, f8⟩ := minus_v false (co + 9) (co + 9) (co + 12) S7  w2_7 w6_7
  generalize hS8 : minus_f false (co + 9) (co + 9) (co + 12) S7 = S8 at v8 f8
  have g8 : ∀ r, r ≠ co + 9 → S8.2.1 r = S7.2.1 r := f8
  clear f8
  have w8 : VL false S8.2.1 (co + 9) (((x1 + y1) * (x1 + y1)) - ((y1 * y1) + (x1 * x1))) := v8
  clear v8
  have w5_8 := VL_row (g8 (co + 15) (ac_ne (by decide))) w5_7
  have w6_8 := VL_row (g8 (co + 12) (ac_ne (by decide))) w6_7
  have w7_8 := VL_row (g8 (co + 14) (ac_ne (by decide))) w7
  obtain ⟨v9, f9⟩ := plus_v false (co + 15) (co + 15) (co + 15) S8  w5_8 w5_8
  generalize hS9 : plus_f false (co + 15) (co + 15) (co + 15) S8 = S9 at v9 f9
  have g9 : ∀ r, r ≠ co + 15 → S9.2.1 r = S8.2.1 r := f9
  clear f9
  have w9 : VL false S9.2.1 (co + 15) ((z1 * z1) + (z1 * z1)) := v9
  clear v9
  have w6_9 := VL_row (g9 (co + 12) (ac_ne (by decide))) w6_8
  have w7_9 := VL_row (g9 (co + 14) (ac_ne (by decide))) w7_8
  have w8_9 := VL_row (g9 (co + 9) (ac_ne (by decide))) w8
  obtain ⟨v10, f10⟩ := minus_v false (co + 15) (co + 15) (co + 14) S9  w9 w7_9
  generalize hS10 : minus_f false (co + 15) (co + 15) (co + 14) S9 = S10 at v10 f10
  have g10 : ∀ r, r ≠ co + 15 → S10.2.1 r = S9.2.1 r := f10
  clear f10
  have w10 : VL false S10.2.1 (co + 15) (((z1 * z1) + (z1 * z1)) - ((y1 * y1) - (x1 * x1))) := v10
  clear v10
  have w6_10 := VL_row (g10 (co + 12) (ac_ne (by decide))) w6_9
  have w7_10 := VL_row (g10 (co + 14) (ac_ne (by decide))) w7_9
  have w8_10 := VL_row (g10 (co + 9) (ac_ne (by decide))) w8_9
  obtain ⟨v11, f11⟩ := mul_v false fo (to + 1) (co + 9) (co + 15) S10 (cf_ne hfc 9 3 (by decide)) (cf_ne hfc 15 3 (by decide)) w8_10 w10
  generalize hS11 : mul_f false fo (to + 1) (co + 9) (co + 15) S10 = S11 at v11 f11
  have g11 : ∀ r, r ≠ to + 1 → r ≠ fo + 3 → S11.2.1 r = S10.2.1 r := f11
  clear f11
  have w11 : VL false S11.2.1 (to + 1) ((((x1 + y1) * (x1 + y1)) - ((y1 * y1) + (x1 * x1))) * (((z1 * z1) + (z1 * z1)) - ((y1 * y1) - (x1 * x1)))) := v11
  clear v11
  have w6_11 := VL_row (g11 (co + 12) ((pF_c hto 1 12 (by decide)).symm) (cf_ne hfc 12 3 (by decide))) w6_10
  have w7_11 := VL_row (g11 (co + 14) ((pF_c hto 1 14 (by decide)).symm) (cf_ne hfc 14 3 (by decide))) w7_10
  have w10_11 := VL_row (g11 (co + 15) ((pF_c hto 1 15 (by decide)).symm) (cf_ne hfc 15 3 (by decide))) w10
  obtain ⟨v12, f12⟩ := mul_v false fo (to + 2) (co + 12) (co + 14) S11 (cf_ne hfc 12 3 (by decide)) (cf_ne hfc 14 3 (by decide)) w6_11 w7_11
  generalize hS12 : mul_f false fo (to + 2) (co + 12) (co + 14) S11 = S12 at v12 f12
  have g12 : ∀ r, r ≠ to + 2 → r ≠ fo + 3 → S12.2.1 r = S11.2.1 r := f12
  clear f12
  have w12 : VL false S12.2.1 (to + 2) (((y1 * y1) + (x1 * x1)) * ((y1 * y1) - (x1 * x1))) := v12
  clear v12
  have w7_12 := VL_row (g12 (co + 14) ((pF_c hto 2 14 (by decide)).symm) (cf_ne hfc 14 3 (by decide))) w7_11
  have w10_12 := VL_row (g12 (co + 15) ((pF_c hto 2 15 (by decide)).symm) (cf_ne hfc 15 3 (by decide))) w10_11
  have w11_12 := VL_row (g12 (to + 1) (ac_ne (by decide)) (pF_f hto 1 3 (by decide))) w11
  obtain ⟨v13, f13⟩ := mul_v false fo (to + 3) (co + 14) (co + 15) S12 (cf_ne hfc 14 3 (by decide)) (cf_ne hfc 15 3 (by decide)) w7_12 w10_12
  generalize hS13 : mul_f false fo (to + 3) (co + 14) (co + 15) S12 = S13 at v13 f13
  have g13 : ∀ r, r ≠ to + 3 → r ≠ fo + 3 → S13.2.1 r = S12.2.1 r := f13
  clear f13
  have w13 : VL false S13.2.1 (to + 3) (((y1 * y1) - (x1 * x1)) * (((z1 * z1) + (z1 * z1)) - ((y1 * y1) - (x1 * x1)))) := v13
  clear v13
  have w11_13 := VL_row (g13 (to + 1) (ac_ne (by decide)) (pF_f hto 1 3 (by decide))) w11_12
  have w12_13 := VL_row (g13 (to + 2) (ac_ne (by decide)) (pF_f hto 2 3 (by decide))) w12
  have en : ctwice_f false co fo to p S = S13 := by
    unfold ctwice_f
    dsimp only
    rw [if_pos (show (bI false = 0) by decide), hS1, hS2, hS3, hS4, hS5, hS6, hS7, hS8, hS9, hS10, hS11, hS12, hS13]
  rw [en]
  refine ⟨⟨kon, _, _, _, w11_13, w12_13, w13, ed_rp_to key ?_ ?_ ?_⟩, ?_⟩
  · rw [fa_f]
    clear key kon
    grind
  · rw [fa_f]
    clear key kon
    grind
  · rw [fa_f]
    clear key kon
    grind
  · intro r hr hq
    exact ((g13 r (tT hq 3 (by decide)) (cT_f hr 3 (by decide))).trans ((g12 r (tT hq 2 (by decide)) (cT_f hr 3 (by decide))).trans ((g11 r (tT hq 1 (by decide)) (cT_f hr 3 (by decide))).trans ((g10 r (cT_c hr 15 (by decide))).trans ((g9 r (cT_c hr 15 (by decide))).trans ((g8 r (cT_c hr 9 (by decide))).trans ((g7 r (cT_c hr 14 (by decide))).trans ((g6 r (cT_c hr 12 (by decide))).trans ((g5 r (cT_c hr 15 (by decide)) (cT_f hr 3 (by decide))).trans ((g4 r (cT_c hr 11 (by decide)) (cT_f hr 3 (by decide))).trans ((g3 r (cT_c hr 10 (by decide)) (cT_f hr 3 (by decide))).trans ((g2 r (cT_c hr 9 (by decide)) (cT_f hr 3 (by decide))).trans (g1 r (cT_c hr 9 (by decide)))))))))))))))
set_option maxRecDepth 20000 in
theorem csum_s_true (co fo to p q : Nat) (S : StT) {P Q : Pt true} (hfc : fo + 9 < co) (hto : pF co fo to) (hp : pF co fo p) (hq : pF co fo q) (hd : VL true S.2.1 (co + 19) (fp_d true)) (h1 : PV true S.2.1 p P) (h2 : PV true S.2.1 q Q) :
    PV true (csum_f true co fo to p q S).2.1 to (pA true P Q) ∧ ∀ r, ¬ cT co fo r → ¬ (to + 1 ≤ r ∧ r ≤ to + 3) → (csum_f true co fo to p q S).2.1 r = S.2.1 r := by
  obtain ⟨on1, x1, y1, z1, a1, a2, a3, e1⟩ := h1
  obtain ⟨on2, x2, y2, z2, b1, b2, b3, e2⟩ := h2
  have key := ed_rp_sum (fp_K true) on1 on2 e1 e2
  have kon := ed_add_on (fp_K true) on1 on2
  obtain ⟨v1, f1⟩ := mul_v true fo (co + 8) (p + 3) (q + 3) S (pF_f hp 3 3 (by decide)) (pF_f hq 3 3 (by decide)) a3 b3
  generalize hS1 : mul_f true fo (co + 8) (p + 3) (q + 3) S = S1 at v1 f1
  have g1 : ∀ r, r ≠ co + 8 → r ≠ fo + 3 → S1.2.1 r = S.2.1 r := f1
  clear f1
  have w1 : VL true S1.2.1 (co + 8) (z1 * z2) := v1
  clear v1
  have a1_1 := VL_row (g1 (p + 1) (pF_c hp 1 8 (by decide)) (pF_f hp 1 3 (by decide))) a1
  have a2_1 := VL_row (g1 (p + 2) (pF_c hp 2 8 (by decide)) (pF_f hp 2 3 (by decide))) a2
  have b1_1 := VL_row (g1 (q + 1) (pF_c hq 1 8 (by decide)) (pF_f hq 1 3 (by decide))) b1
  have b2_1 := VL_row (g1 (q + 2) (pF_c hq 2 8 (by decide)) (pF_f hq 2 3 (by decide))) b2
  have hd_1 := VL_row (g1 (co + 19) (ac_ne (by decide)) (cf_ne hfc 19 3 (by decide))) hd
  obtain ⟨v2, f2⟩ := sqr_v true fo (co + 9) (co + 8) S1 (cf_ne hfc 8 3 (by decide)) w1
  generalize hS2 : sqr_f true fo (co + 9) (co + 8) S1 = S2 at v2 f2
  have g2 : ∀ r, r ≠ co + 9 → r ≠ fo + 3 → S2.2.1 r = S1.2.1 r := f2
  clear f2
  have w2 : VL true S2.2.1 (co + 9) ((z1 * z2) * (z1 * z2)) := v2
  clear v2
  have a1_2 := VL_row (g2 (p + 1) (pF_c hp 1 9 (by decide)) (pF_f hp 1 3 (by decide))) a1_1
  have a2_2 := VL_row (g2 (p + 2) (pF_c hp 2 9 (by decide)) (pF_f hp 2 3 (by decide))) a2_1
  have b1_2 := VL_row (g2 (q + 1) (pF_c hq 1 9 (by decide)) (pF_f hq 1 3 (by decide))) b1_1
  have b2_2 := VL_row (g2 (q + 2) (pF_c hq 2 9 (by decide)) (pF_f hq 2 3 (by decide))) b2_1
  have hd_2 := VL_row (g2 (co + 19) (ac_ne (by decide)) (cf_ne hfc 19 3 (by decide))) hd_1
  have w1_2 := VL_row (g2 (co + 8) (ac_ne (by decide)) (cf_ne hfc 8 3 (by decide))) w1
  obtain ⟨v3, f3⟩ := mul_v true fo (co + 10) (p + 1) (q + 1) S2 (pF_f hp 1 3 (by decide)) (pF_f hq 1 3 (by decide)) a1_2 b1_2
  generalize hS3 : mul_f true fo (co + 10) (p + 1) (q + 1) S2 = S3 at v3 f3
  have g3 : ∀ r, r ≠ co + 10 → r ≠ fo + 3 → S3.2.1 r = S2.2.1 r := f3
  clear f3
  have w3 : VL true S3.2.1 (co + 10) (x1 * x2) := v3
  clear v3
  have a1_3 := VL_row (g3 (p + 1) (pF_c hp 1 10 (by decide)) (pF_f hp 1 3 (by decide))) a1_2
  have a2_3 := VL_row (g3 (p + 2) (pF_c hp 2 10 (by decide)) (pF_f hp 2 3 (by decide))) a2_2
  have b1_3 := VL_row (g3 (q + 1) (pF_c hq 1 10 (by decide)) (pF_f hq 1 3 (by decide))) b1_2
  have b2_3 := VL_row (g3 (q + 2) (pF_c hq 2 10 (by decide)) (pF_f hq 2 3 (by decide))) b2_2
  have hd_3 := VL_row (g3 (co + 19) (ac_ne (by decide)) (cf_ne hfc 19 3 (by decide))) hd_2
  have w1_3 := VL_row (g3 (co + 8) (ac_ne (by decide)) (cf_ne hfc 8 3 (by decide))) w1_2
  have w2_3 := VL_row (g3 (co + 9) (ac_ne (by decide)) (cf_ne hfc 9 3 (by decide))) w2
  obtain ⟨v4, f4⟩ := mul_v true fo (co + 11) (p + 2) (q + 2) S3 (pF_f hp 2 3 (by decide)) (pF_f hq 2 3 (by decide)) a2_3 b2_3
  generalize hS4 : mul_f true fo (co + 11) (p + 2) (q + 2) S3 = S4 at v4 f4
  have g4 : ∀ r, r ≠ co + 11 → r ≠ fo + 3 → S4.2.1 r = S3.2.1 r := f4
  clear f4
  have w4 : VL true S4.2.1 (co + 11) (y1 * y2) := v4
  clear v4
  have a1_4 := VL_row (g4 (p + 1) (pF_c hp 1 11 (by decide)) (pF_f hp 1 3 (by decide))) a1_3
  have a2_4 := VL_row (g4 (p + 2) (pF_c hp 2 11 (by decide)) (pF_f hp 2 3 (by decide))) a2_3
  have b1_4 := VL_row (g4 (q + 1) (pF_c hq 1 11 (by decide)) (pF_f hq 1 3 (by decide))) b1_3
  have b2_4 := VL_row (g4 (q + 2) (pF_c hq 2 11 (by decide)) (pF_f hq 2 3 (by decide))) b2_3
  have hd_4 := VL_row (g4 (co + 19) (ac_ne (by decide)) (cf_ne hfc 19 3 (by decide))) hd_3
  have w1_4 := VL_row (g4 (co + 8) (ac_ne (by decide)) (cf_ne hfc 8 3 (by decide))) w1_3
  have w2_4 := VL_row (g4 (co + 9) (ac_ne (by decide)) (cf_ne hfc 9 3 (by decide))) w2_3
  have w3_4 := VL_row (g4 (co + 10) (ac_ne (by decide)) (cf_ne hfc 10 3 (by decide))) w3
  obtain ⟨v5, f5⟩ := mul_v true fo (co + 12) (co + 10) (co + 11) S4 (cf_ne hfc 10 3 (by decide)) (cf_ne hfc 11 3 (by decide)) w3_4 w4
  generalize hS5 : mul_f true fo (co + 12) (co + 10) (co + 11) S4 = S5 at v5 f5
  have g5 : ∀ r, r ≠ co + 12 → r ≠ fo + 3 → S5.2.1 r = S4.2.1 r := f5
  clear f5
  have w5 : VL true S5.2.1 (co + 12) ((x1 * x2) * (y1 * y2)) := v5
  clear v5
  have a1_5 := VL_row (g5 (p + 1) (pF_c hp 1 12 (by decide)) (pF_f hp 1 3 (by decide))) a1_4
  have a2_5 := VL_row (g5 (p + 2) (pF_c hp 2 12 (by decide)) (pF_f hp 2 3 (by decide))) a2_4
  have b1_5 := VL_row (g5 (q + 1) (pF_c hq 1 12 (by decide)) (pF_f hq 1 3 (by decide))) b1_4
  have b2_5 := VL_row (g5 (q + 2) (pF_c hq 2 12 (by decide)) (pF_f hq 2 3 (by decide))) b2_4
  have hd_5 := VL_row (g5 (co + 19) (ac_ne (by decide)) (cf_ne hfc 19 3 (by decide))) hd_4
  have w1_5 := VL_row (g5 (co + 8) (ac_ne (by decide)) (cf_ne hfc 8 3 (by decide))) w1_4
  have w2_5 := VL_row (g5 (co + 9) (ac_ne (by decide)) (cf_ne hfc 9 3 (by decide))) w2_4
  have w3_5 := VL_row (g5 (co + 10) (ac_ne (by decide)) (cf_ne hfc 10 3 (by decide))) w3_4
  have w4_5 := VL_row (g5 (co + 11) (ac_ne (by decide)) (cf_ne hfc 11 3 (by decide))) w4
  obtain ⟨v6, f6⟩ := mul_v true fo (co + 12) (co + 12) (co + 19) S5 (cf_ne hfc 12 3 (by decide)) (cf_ne hfc 19 3 (by decide)) w5 hd_5
  generalize hS6 : mul_f true fo (co + 12) (co + 12) (co + 19) S5 = S6 at v6 f6
  have g6 : ∀ r, r ≠ co + 12 → r ≠ fo + 3 → S6.2.1 r = S5.2.1 r := f6
  clear f6
  have w6 : VL true S6.2.1 (co + 12) (((x1 * x2) * (y1 * y2)) * (fp_d true)) := v6
  clear v6
  have a1_6 := VL_row (g6 (p + 1) (pF_c hp 1 12 (by decide)) (pF_f hp 1 3 (by decide))) a1_5
  have a2_6 := VL_row (g6 (p + 2) (pF_c hp 2 12 (by decide)) (pF_f hp 2 3 (by decide))) a2_5
  have b1_6 := VL_row (g6 (q + 1) (pF_c hq 1 12 (by decide)) (pF_f hq 1 3 (by decide))) b1_5
  have b2_6 := VL_row (g6 (q + 2) (pF_c hq 2 12 (by decide)) (pF_f hq 2 3 (by decide))) b2_5
  have w1_6 := VL_row (g6 (co + 8) (ac_ne (by decide)) (cf_ne hfc 8 3 (by decide))) w1_5
  have w2_6 := VL_row (g6 (co + 9) (ac_ne (by decide)) (cf_ne hfc 9 3 (by decide))) w2_5
  have w3_6 := VL_row (g6 (co + 10) (ac_ne (by decide)) (cf_ne hfc 10 3 (by decide))) w3_5
  have w4_6 := VL_row (g6 (co + 11) (ac_ne (by decide)) (cf_ne hfc 11 3 (by decide))) w4_5
  obtain ⟨v7, f7⟩ := minus_v true (co + 13) (co + 9) (co + 12) S6  w2_6 w6
  generalize hS7 : minus_f true (co + 13) (co + 9) (co + 12) S6 = S7 at v7 f7
  have g7 : ∀ r, r ≠ co + 13 → S7.2.1 r = S6.2.1 r := f7
  clear f7
  have w7 : VL true S7.2.1 (co + 13) (((z1 * z2) * (z1 * z2)) - (((x1 * x2) * (y1 * y2)) * (fp_d true))) := v7
  clear v7
  have a1_7 := VL_row (g7 (p + 1) (pF_c hp 1 13 (by decide))) a1_6
  have a2_7 := VL_row (g7 (p + 2) (pF_c hp 2 13 (by decide))) a2_6
  have b1_7 := VL_row (g7 (q + 1) (pF_c hq 1 13 (by decide))) b1_6
  have b2_7 := VL_row (g7 (q + 2) (pF_c hq 2 13 (by decide))) b2_6
  have w1_7 := VL_row (g7 (co + 8) (ac_ne (by decide))) w1_6
  have w2_7 := VL_row (g7 (co + 9) (ac_ne (by decide))) w2_6
  have w3_7 := VL_row (g7 (co + 10) (ac_ne (by decide))) w3_6
  have w4_7 := VL_row (g7 (co + 11) (ac_ne (by decide))) w4_6
  have w6_7 := VL_row (g7 (co + 12) (ac_ne (by decide))) w6
  obtain ⟨v8, f8⟩ := plus_v true (co + 14) (co + 9) (co + 12) S7  w2_7 w6_7
  generalize hS8 : plus_f true (co + 14) (co + 9) (co + 12) S7 = S8 at v8 f8
  have g8 : ∀ r, r ≠ co + 14 → S8.2.1 r = S7.2.1 r := f8
  clear f8
  have w8 : VL true S8.2.1 (co + 14) (((z1 * z2) * (z1 * z2)) + (((x1 * x2) * (y1 * y2)) * (fp_d true))) := v8
  clear v8
  have a1_8 := VL_row (g8 (p + 1) (pF_c hp 1 14 (by decide))) a1_7
  have a2_8 := VL_row (g8 (p + 2) (pF_c hp 2 14 (by decide))) a2_7
  have b1_8 := VL_row (g8 (q + 1) (pF_c hq 1 14 (by decide))) b1_7
  have b2_8 := VL_row (g8 (q + 2) (pF_c hq 2 14 (by decide))) b2_7
  have w1_8 := VL_row (g8 (co + 8) (ac_ne (by decide))) w1_7
  have w3_8 := VL_row (g8 (co + 10) (ac_ne (by decide))) w3_7
  have w4_8 := VL_row (g8 (co + 11) (ac_ne (by decide))) w4_7
  have w7_8 := VL_row (g8 (co + 13) (ac_ne (by decide))) w7
  obtain ⟨v9, f9⟩ := plus_v true (co + 15) (p + 1) (p + 2) S8  a1_8 a2_8
  generalize hS9 : plus_f true (co + 15) (p + 1) (p + 2) S8 = S9 at v9 f9
  have g9 : ∀ r, r ≠ co + 15 → S9.2.1 r = S8.2.1 r := f9
  clear f9
  have w9 : VL true S9.2.1 (co + 15) (x1 + y1) := v9
  clear v9
  have b1_9 := VL_row (g9 (q + 1) (pF_c hq 1 15 (by decide))) b1_8
  have b2_9 := VL_row (g9 (q + 2) (pF_c hq 2 15 (by decide))) b2_8
  have w1_9 := VL_row (g9 (co + 8) (ac_ne (by decide))) w1_8
  have w3_9 := VL_row (g9 (co + 10) (ac_ne (by decide))) w3_8
  have w4_9 := VL_row (g9 (co + 11) (ac_ne (by decide))) w4_8
  have w7_9 := VL_row (g9 (co + 13) (ac_ne (by decide))) w7_8
  have w8_9 := VL_row (g9 (co + 14) (ac_ne (by decide))) w8
  obtain ⟨v10, f10⟩ := plus_v true (co + 9) (q + 1) (q + 2) S9  b1_9 b2_9
  generalize hS10 : plus_f true (co + 9) (q + 1) (q + 2) S9 = S10 at v10 f10
  have g10 : ∀ r, r ≠ co + 9 → S10.2.1 r = S9.2.1 r := f10
  clear f10
  have w10 : VL true S10.2.1 (co + 9) (x2 + y2) := v10
  clear v10
  have w1_10 := VL_row (g10 (co + 8) (ac_ne (by decide))) w1_9
  have w3_10 := VL_row (g10 (co + 10) (ac_ne (by decide))) w3_9
  have w4_10 := VL_row (g10 (co + 11) (ac_ne (by decide))) w4_9
  have w7_10 := VL_row (g10 (co + 13) (ac_ne (by decide))) w7_9
  have w8_10 := VL_row (g10 (co + 14) (ac_ne (by decide))) w8_9
  have w9_10 := VL_row (g10 (co + 15) (ac_ne (by decide))) w9
  obtain ⟨v11, f11⟩ := mul_v true fo (co + 15) (co + 15) (co + 9) S10 (cf_ne hfc 15 3 (by decide)) (cf_ne hfc 9 3 (by decide)) w9_10 w10
  generalize hS11 : mul_f true fo (co + 15) (co + 15) (co + 9) S10 = S11 at v11 f11
  have g11 : ∀ r, r ≠ co + 15 → r ≠ fo + 3 → S11.2.1 r = S10.2.1 r := f11
  clear f11
  have w11 : VL true S11.2.1 (co + 15) ((x1 + y1) * (x2 + y2)) := v11
  clear v11
  have w1_11 := VL_row (g11 (co + 8) (ac_ne (by decide)) (cf_ne hfc 8 3 (by decide))) w1_10
  have w3_11 := VL_row (g11 (co + 10) (ac_ne (by decide)) (cf_ne hfc 10 3 (by decide))) w3_10
  have w4_11 := VL_row (g11 (co + 11) (ac_ne (by decide)) (cf_ne hfc 11 3 (by decide))) w4_10
  have w7_11 := VL_row (g11 (co + 13) (ac_ne (by decide)) (cf_ne hfc 13 3 (by decide))) w7_10
  have w8_11 := VL_row (g11 (co + 14) (ac_ne (by decide)) (cf_ne hfc 14 3 (by decide))) w8_10
  obtain ⟨v12, f12⟩ := plus_v true (co + 12) (co + 11) (co + 10) S11  w4_11 w3_11
  generalize hS12 : plus_f true (co + 12) (co + 11) (co + 10) S11 = S12 at v12 f12
  have g12 : ∀ r, r ≠ co + 12 → S12.2.1 r = S11.2.1 r := f12
  clear f12
  have w12 : VL true S12.2.1 (co + 12) ((y1 * y2) + (x1 * x2)) := v12
  clear v12
  have w1_12 := VL_row (g12 (co + 8) (ac_ne (by decide))) w1_11
  have w3_12 := VL_row (g12 (co + 10) (ac_ne (by decide))) w3_11
  have w4_12 := VL_row (g12 (co + 11) (ac_ne (by decide))) w4_11
  have w7_12 := VL_row (g12 (co + 13) (ac_ne (by decide))) w7_11
  have w8_12 := VL_row (g12 (co + 14) (ac_ne (by decide))) w8_11
  have w11_12 := VL_row (g12 (co + 15) (ac_ne (by decide))) w11
  obtain ⟨v13, f13⟩ := minus_v true (co + 15) (co + 15) (co + 12) S12  w11_12 w12
  generalize hS13 : minus_f true (co + 15) (co + 15) (co + 12) S12 = S13 at v13 f13
  have g13 : ∀ r, r ≠ co + 15 → S13.2.1 r = S12.2.1 r := f13
  clear f13
  have w13 : VL true S13.2.1 (co + 15) (((x1 + y1) * (x2 + y2)) - ((y1 * y2) + (x1 * x2))) := v13
  clear v13
  have w1_13 := VL_row (g13 (co + 8) (ac_ne (by decide))) w1_12
  have w3_13 := VL_row (g13 (co + 10) (ac_ne (by decide))) w3_12
  have w4_13 := VL_row (g13 (co + 11) (ac_ne (by decide))) w4_12
  have w7_13 := VL_row (g13 (co + 13) (ac_ne (by decide))) w7_12
  have w8_13 := VL_row (g13 (co + 14) (ac_ne (by decide))) w8_12
  obtain ⟨v14, f14⟩ := minus_v true (co + 12) (co + 11) (co + 10) S13  w4_13 w3_13
  generalize hS14 : minus_f true (co + 12) (co + 11) (co + 10) S13 = S14 at v14 f14
  have g14 : ∀ r, r ≠ co + 12 → S14.2.1 r = S13.2.1 r := f14
  clear f14
  have w14 : VL true S14.2.1 (co + 12) ((y1 * y2) - (x1 * x2)) := v14
  clear v14
  have w1_14 := VL_row (g14 (co + 8) (ac_ne (by decide))) w1_13
  have w7_14 := VL_row (g14 (co + 13) (ac_ne (by decide))) w7_13
  have w8_14 := VL_row (g14 (co + 14) (ac_ne (by decide))) w8_13
  have w13_14 := VL_row (g14 (co + 15) (ac_ne (by decide))) w13
  obtain ⟨v15, f15⟩ := mul_v true fo (to + 3) (co + 13) (co + 14) S14 (cf_ne hfc 13 3 (by decide)) (cf_ne hfc 14 3 (by decide)) w7_14 w8_14
  generalize hS15 : mul_f true fo (to + 3) (co + 13) (co + 14) S14 = S15 at v15 f15
  have g15 : ∀ r, r ≠ to + 3 → r ≠ fo + 3 → S15.2.1 r = S14.2.1 r := f15
  clear f15
  have w15 : VL true S15.2.1 (to + 3) ((((z1 * z2) * (z1 * z2)) - (((x1 * x2) * (y1 * y2)) * (fp_d true))) * (((z1 * z2) * (z1 * z2)) + (((x1 * x2) * (y1 * y2)) * (fp_d true)))) := v15
  clear v15
  have w1_15 := VL_row (g15 (co + 8) ((pF_c hto 3 8 (by decide)).symm) (cf_ne hfc 8 3 (by decide))) w1_14
  have w7_15 := VL_row (g15 (co + 13) ((pF_c hto 3 13 (by decide)).symm) (cf_ne hfc 13 3 (by decide))) w7_14
  have w8_15 := VL_row (g15 (co + 14) ((pF_c hto 3 14 (by decide)).symm) (cf_ne hfc 14 3 (by decide))) w8_14
  have w13_15 := VL_row (g15 (co + 15) ((pF_c hto 3 15 (by decide)).symm) (cf_ne hfc 15 3 (by decide))) w13_14
  have w14_15 := VL_row (g15 (co + 12) ((pF_c hto 3 12 (by decide)).symm) (cf_ne hfc 12 3 (by decide))) w14
  obtain ⟨v16, f16⟩ := mul_v true fo (co + 13) (co + 13) (co + 8) S15 (cf_ne hfc 13 3 (by decide)) (cf_ne hfc 8 3 (by decide)) w7_15 w1_15
  generalize hS16 : mul_f true fo (co + 13) (co + 13) (co + 8) S15 = S16 at v16 f16
  have g16 : ∀ r, r ≠ co + 13 → r ≠ fo + 3 → S16.2.1 r = S15.2.1 r := f16
  clear f16
  have w16 : VL true S16.2.1 (co + 13) ((((z1 * z2) * (z1 * z2)) - (((x1 * x2) * (y1 * y2)) * (fp_d true))) * (z1 * z2)) := v16
  clear v16
  have w1_16 := VL_row (g16 (co + 8) (ac_ne (by decide)) (cf_ne hfc 8 3 (by decide))) w1_15
  have w8_16 := VL_row (g16 (co + 14) (ac_ne (by decide)) (cf_ne hfc 14 3 (by decide))) w8_15
  have w13_16 := VL_row (g16 (co + 15) (ac_ne (by decide)) (cf_ne hfc 15 3 (by decide))) w13_15
  have w14_16 := VL_row (g16 (co + 12) (ac_ne (by decide)) (cf_ne hfc 12 3 (by decide))) w14_15
  have w15_16 := VL_row (g16 (to + 3) (pF_c hto 3 13 (by decide)) (pF_f hto 3 3 (by decide))) w15
  obtain ⟨v17, f17⟩ := mul_v true fo (to + 1) (co + 13) (co + 15) S16 (cf_ne hfc 13 3 (by decide)) (cf_ne hfc 15 3 (by decide)) w16 w13_16
  generalize hS17 : mul_f true fo (to + 1) (co + 13) (co + 15) S16 = S17 at v17 f17
  have g17 : ∀ r, r ≠ to + 1 → r ≠ fo + 3 → S17.2.1 r = S16.2.1 r := f17
  clear f17
  have w17 : VL true S17.2.1 (to + 1) (((((z1 * z2) * (z1 * z2)) - (((x1 * x2) * (y1 * y2)) * (fp_d true))) * (z1 * z2)) * (((x1 + y1) * (x2 + y2)) - ((y1 * y2) + (x1 * x2)))) := v17
  clear v17
  have w1_17 := VL_row (g17 (co + 8) ((pF_c hto 1 8 (by decide)).symm) (cf_ne hfc 8 3 (by decide))) w1_16
  have w8_17 := VL_row (g17 (co + 14) ((pF_c hto 1 14 (by decide)).symm) (cf_ne hfc 14 3 (by decide))) w8_16
  have w14_17 := VL_row (g17 (co + 12) ((pF_c hto 1 12 (by decide)).symm) (cf_ne hfc 12 3 (by decide))) w14_16
  have w15_17 := VL_row (g17 (to + 3) (ac_ne (by decide)) (pF_f hto 3 3 (by decide))) w15_16
  obtain ⟨v18, f18⟩ := mul_v true fo (co + 14) (co + 14) (co + 8) S17 (cf_ne hfc 14 3 (by decide)) (cf_ne hfc 8 3 (by decide)) w8_17 w1_17
  generalize hS18 : mul_f true fo (co + 14) (co + 14) (co + 8) S17 = S18 at v18 f18
  have g18 : ∀ r, r ≠ co + 14 → r ≠ fo + 3 → S18.2.1 r = S17.2.1 r := f18
  clear f18
  have w18 : VL true S18.2.1 (co + 14) ((((z1 * z2) * (z1 * z2)) + (((x1 * x2) * (y1 * y2)) * (fp_d true))) * (z1 * z2)) := v18
  clear v18
  have w14_18 := VL_row (g18 (co + 12) (ac_ne (by decide)) (cf_ne hfc 12 3 (by decide))) w14_17
  have w15_18 := VL_row (g18 (to + 3) (pF_c hto 3 14 (by decide)) (pF_f hto 3 3 (by decide))) w15_17
  have w17_18 := VL_row (g18 (to + 1) (pF_c hto 1 14 (by decide)) (pF_f hto 1 3 (by decide))) w17
  obtain ⟨v19, f19⟩ := mul_v true fo (to + 2) (co + 14) (co + 12) S18 (cf_ne hfc 14 3 (by decide)) (cf_ne hfc 12 3 (by decide)) w18 w14_18
  generalize hS19 : mul_f true fo (to + 2) (co + 14) (co + 12) S18 = S19 at v19 f19
  have g19 : ∀ r, r ≠ to + 2 → r ≠ fo + 3 → S19.2.1 r = S18.2.1 r := f19
  clear f19
  have w19 : VL true S19.2.1 (to + 2) (((((z1 * z2) * (z1 * z2)) + (((x1 * x2) * (y1 * y2)) * (fp_d true))) * (z1 * z2)) * ((y1 * y2) - (x1 * x2))) := v19
  clear v19
  have w15_19 := VL_row (g19 (to + 3) (ac_ne (by decide)) (pF_f hto 3 3 (by decide))) w15_18
  have w17_19 := VL_row (g19 (to + 1) (ac_ne (by decide)) (pF_f hto 1 3 (by decide))) w17_18
  have en : csum_f true co fo to p q S = S19 := by
    unfold csum_f
    dsimp only
    rw [if_neg (show ¬ (bI true = 0) by decide), hS1, hS2, hS3, hS4, hS5, hS6, hS7, hS8, hS9, hS10, hS11, hS12, hS13, hS14, hS15, hS16, hS17, hS18, hS19]
  rw [en]
  refine ⟨⟨kon, _, _, _, w17_19, w19, w15_19, ed_rp_to key ?_ ?_ ?_⟩, ?_⟩
  · clear key kon
    grind
  · rw [fa_t]
    clear key kon
    grind
  · clear key kon
    grind
  · intro r hr hq
    exact ((g19 r (tT hq 2 (by decide)) (cT_f hr 3 (by decide))).trans ((g18 r (cT_c hr 14 (by decide)) (cT_f hr 3 (by decide))).trans ((g17 r (tT hq 1 (by decide)) (cT_f hr 3 (by decide))).trans ((g16 r (cT_c hr 13 (by decide)) (cT_f hr 3 (by decide))).trans ((g15 r (tT hq 3 (by decide)) (cT_f hr 3 (by decide))).trans ((g14 r (cT_c hr 12 (by decide))).trans ((g13 r (cT_c hr 15 (by decide))).trans ((g12 r (cT_c hr 12 (by decide))).trans ((g11 r (cT_c hr 15 (by decide)) (cT_f hr 3 (by decide))).trans ((g10 r (cT_c hr 9 (by decide))).trans ((g9 r (cT_c hr 15 (by decide))).trans ((g8 r (cT_c hr 14 (by decide))).trans ((g7 r (cT_c hr 13 (by decide))).trans ((g6 r (cT_c hr 12 (by decide)) (cT_f hr 3 (by decide))).trans ((g5 r (cT_c hr 12 (by decide)) (cT_f hr 3 (by decide))).trans ((g4 r (cT_c hr 11 (by decide)) (cT_f hr 3 (by decide))).trans ((g3 r (cT_c hr 10 (by decide)) (cT_f hr 3 (by decide))).trans ((g2 r (cT_c hr 9 (by decide)) (cT_f hr 3 (by decide))).trans (g1 r (cT_c hr 8 (by decide)) (cT_f hr 3 (by decide)))))))))))))))))))))
set_option maxRecDepth 20000 in
theorem ctwice_s_true (co fo to p : Nat) (S : StT) {P : Pt true} (hfc : fo + 9 < co) (hto : pF co fo to) (hp : pF co fo p) (h1 : PV true S.2.1 p P) :
    PV true (ctwice_f true co fo to p S).2.1 to (pA true P P) ∧ ∀ r, ¬ cT co fo r → ¬ (to + 1 ≤ r ∧ r ≤ to + 3) → (ctwice_f true co fo to p S).2.1 r = S.2.1 r := by
  obtain ⟨on1, x1, y1, z1, a1, a2, a3, e1⟩ := h1
  have key := ed_rp_dbl (fp_K true) on1 e1
  have kon := ed_add_on (fp_K true) on1 on1
  obtain ⟨v1, f1⟩ := plus_v true (co + 9) (p + 1) (p + 2) S  a1 a2
  generalize hS1 : plus_f true (co + 9) (p + 1) (p + 2) S = S1 at v1 f1
  have g1 : ∀ r, r ≠ co + 9 → S1.2.1 r = S.2.1 r := f1
  clear f1
  have w1 : VL true S1.2.1 (co + 9) (x1 + y1) := v1
  clear v1
  have a1_1 := VL_row (g1 (p + 1) (pF_c hp 1 9 (by decide))) a1
  have a2_1 := VL_row (g1 (p + 2) (pF_c hp 2 9 (by decide))) a2
  have a3_1 := VL_row (g1 (p + 3) (pF_c hp 3 9 (by decide))) a3
  obtain ⟨v2, f2⟩ := sqr_v true fo (co + 9) (co + 9) S1 (cf_ne hfc 9 3 (by decide)) w1
  generalize hS2 : sqr_f true fo (co + 9) (co + 9) S1 = S2 at v2 f2
  have g2 : ∀ r, r ≠ co + 9 → r ≠ fo + 3 → S2.2.1 r = S1.2.1 r := f2
  clear f2
  have w2 : VL true S2.2.1 (co + 9) ((x1 + y1) * (x1 + y1)) := v2
  clear v2
  have a1_2 := VL_row (g2 (p + 1) (pF_c hp 1 9 (by decide)) (pF_f hp 1 3 (by decide))) a1_1
  have a2_2 := VL_row (g2 (p + 2) (pF_c hp 2 9 (by decide)) (pF_f hp 2 3 (by decide))) a2_1
  have a3_2 := VL_row (g2 (p + 3) (pF_c hp 3 9 (by decide)) (pF_f hp 3 3 (by decide))) a3_1
  obtain ⟨v3, f3⟩ := sqr_v true fo (co + 10) (p + 1) S2 (pF_f hp 1 3 (by decide)) a1_2
  generalize hS3 : sqr_f true fo (co + 10) (p + 1) S2 = S3 at v3 f3
  have g3 : ∀ r, r ≠ co + 10 → r ≠ fo + 3 → S3.2.1 r = S2.2.1 r := f3
  clear f3
  have w3 : VL true S3.2.1 (co + 10) (x1 * x1) := v3
  clear v3
  have a2_3 := VL_row (g3 (p + 2) (pF_c hp 2 10 (by decide)) (pF_f hp 2 3 (by decide))) a2_2
  have a3_3 := VL_row (g3 (p + 3) (pF_c hp 3 10 (by decide)) (pF_f hp 3 3 (by decide))) a3_2
  have w2_3 := VL_row (g3 (co + 9) (ac_ne (by decide)) (cf_ne hfc 9 3 (by decide))) w2
  obtain ⟨v4, f4⟩ := sqr_v true fo (co + 11) (p + 2) S3 (pF_f hp 2 3 (by decide)) a2_3
  generalize hS4 : sqr_f true fo (co + 11) (p + 2) S3 = S4 at v4 f4
  have g4 : ∀ r, r ≠ co + 11 → r ≠ fo + 3 → S4.2.1 r = S3.2.1 r := f4
  clear f4
  have w4 : VL true S4.2.1 (co + 11) (y1 * y1) := v4
  clear v4
  have a3_4 := VL_row (g4 (p + 3) (pF_c hp 3 11 (by decide)) (pF_f hp 3 3 (by decide))) a3_3
  have w2_4 := VL_row (g4 (co + 9) (ac_ne (by decide)) (cf_ne hfc 9 3 (by decide))) w2_3
  have w3_4 := VL_row (g4 (co + 10) (ac_ne (by decide)) (cf_ne hfc 10 3 (by decide))) w3
  obtain ⟨v5, f5⟩ := sqr_v true fo (co + 15) (p + 3) S4 (pF_f hp 3 3 (by decide)) a3_4
  generalize hS5 : sqr_f true fo (co + 15) (p + 3) S4 = S5 at v5 f5
  have g5 : ∀ r, r ≠ co + 15 → r ≠ fo + 3 → S5.2.1 r = S4.2.1 r := f5
  clear f5
  have w5 : VL true S5.2.1 (co + 15) (z1 * z1) := v5
  clear v5
  have w2_5 := VL_row (g5 (co + 9) (ac_ne (by decide)) (cf_ne hfc 9 3 (by decide))) w2_4
  have w3_5 := VL_row (g5 (co + 10) (ac_ne (by decide)) (cf_ne hfc 10 3 (by decide))) w3_4
  have w4_5 := VL_row (g5 (co + 11) (ac_ne (by decide)) (cf_ne hfc 11 3 (by decide))) w4
  obtain ⟨v6, f6⟩ := plus_v true (co + 12) (co + 11) (co + 10) S5  w4_5 w3_5
  generalize hS6 : plus_f true (co + 12) (co + 11) (co + 10) S5 = S6 at v6 f6
  have g6 : ∀ r, r ≠ co + 12 → S6.2.1 r = S5.2.1 r := f6
  clear f6
  have w6 : VL true S6.2.1 (co + 12) ((y1 * y1) + (x1 * x1)) := v6
  clear v6
  have w2_6 := VL_row (g6 (co + 9) (ac_ne (by decide))) w2_5
  have w3_6 := VL_row (g6 (co + 10) (ac_ne (by decide))) w3_5
  have w4_6 := VL_row (g6 (co + 11) (ac_ne (by decide))) w4_5
  have w5_6 := VL_row (g6 (co + 15) (ac_ne (by decide))) w5
  obtain ⟨v7, f7⟩ := minus_v true (co + 14) (co + 11) (co + 10) S6  w4_6 w3_6
  generalize hS7 : minus_f true (co + 14) (co + 11) (co + 10) S6 = S7 at v7 f7
  have g7 : ∀ r, r ≠ co + 14 → S7.2.1 r = S6.2.1 r := f7
  clear f7
  have w7 : VL true S7.2.1 (co + 14) ((y1 * y1) - (x1 * x1)) := v7
  clear v7
  have w2_7 := VL_row (g7 (co + 9) (ac_ne (by decide))) w2_6
  have w5_7 := VL_row (g7 (co + 15) (ac_ne (by decide))) w5_6
  have w6_7 := VL_row (g7 (co + 12) (ac_ne (by decide))) w6
  obtain ⟨v8, f8⟩ := minus_v true (co + 9) (co + 9) (co + 12) S7  w2_7 w6_7
  generalize hS8 : minus_f true (co + 9) (co + 9) (co + 12) S7 = S8 at v8 f8
  have g8 : ∀ r, r ≠ co + 9 → S8.2.1 r = S7.2.1 r := f8
  clear f8
  have w8 : VL true S8.2.1 (co + 9) (((x1 + y1) * (x1 + y1)) - ((y1 * y1) + (x1 * x1))) := v8
  clear v8
  have w5_8 := VL_row (g8 (co + 15) (ac_ne (by decide))) w5_7
  have w6_8 := VL_row (g8 (co + 12) (ac_ne (by decide))) w6_7
  have w7_8 := VL_row (g8 (co + 14) (ac_ne (by decide))) w7
  obtain ⟨v9, f9⟩ := plus_v true (co + 15) (co + 15) (co + 15) S8  w5_8 w5_8
  generalize hS9 : plus_f true (co + 15) (co + 15) (co + 15) S8 = S9 at v9 f9
  have g9 : ∀ r, r ≠ co + 15 → S9.2.1 r = S8.2.1 r := f9
  clear f9
  have w9 : VL true S9.2.1 (co + 15) ((z1 * z1) + (z1 * z1)) := v9
  clear v9
  have w6_9 := VL_row (g9 (co + 12) (ac_ne (by decide))) w6_8
  have w7_9 := VL_row (g9 (co + 14) (ac_ne (by decide))) w7_8
  have w8_9 := VL_row (g9 (co + 9) (ac_ne (by decide))) w8
  obtain ⟨v10, f10⟩ := minus_v true (co + 15) (co + 15) (co + 12) S9  w9 w6_9
  generalize hS10 : minus_f true (co + 15) (co + 15) (co + 12) S9 = S10 at v10 f10
  have g10 : ∀ r, r ≠ co + 15 → S10.2.1 r = S9.2.1 r := f10
  clear f10
  have w10 : VL true S10.2.1 (co + 15) (((z1 * z1) + (z1 * z1)) - ((y1 * y1) + (x1 * x1))) := v10
  clear v10
  have w6_10 := VL_row (g10 (co + 12) (ac_ne (by decide))) w6_9
  have w7_10 := VL_row (g10 (co + 14) (ac_ne (by decide))) w7_9
  have w8_10 := VL_row (g10 (co + 9) (ac_ne (by decide))) w8_9
  obtain ⟨v11, f11⟩ := mul_v true fo (to + 1) (co + 9) (co + 15) S10 (cf_ne hfc 9 3 (by decide)) (cf_ne hfc 15 3 (by decide)) w8_10 w10
  generalize hS11 : mul_f true fo (to + 1) (co + 9) (co + 15) S10 = S11 at v11 f11
  have g11 : ∀ r, r ≠ to + 1 → r ≠ fo + 3 → S11.2.1 r = S10.2.1 r := f11
  clear f11
  have w11 : VL true S11.2.1 (to + 1) ((((x1 + y1) * (x1 + y1)) - ((y1 * y1) + (x1 * x1))) * (((z1 * z1) + (z1 * z1)) - ((y1 * y1) + (x1 * x1)))) := v11
  clear v11
  have w6_11 := VL_row (g11 (co + 12) ((pF_c hto 1 12 (by decide)).symm) (cf_ne hfc 12 3 (by decide))) w6_10
  have w7_11 := VL_row (g11 (co + 14) ((pF_c hto 1 14 (by decide)).symm) (cf_ne hfc 14 3 (by decide))) w7_10
  have w10_11 := VL_row (g11 (co + 15) ((pF_c hto 1 15 (by decide)).symm) (cf_ne hfc 15 3 (by decide))) w10
  obtain ⟨v12, f12⟩ := mul_v true fo (to + 2) (co + 12) (co + 14) S11 (cf_ne hfc 12 3 (by decide)) (cf_ne hfc 14 3 (by decide)) w6_11 w7_11
  generalize hS12 : mul_f true fo (to + 2) (co + 12) (co + 14) S11 = S12 at v12 f12
  have g12 : ∀ r, r ≠ to + 2 → r ≠ fo + 3 → S12.2.1 r = S11.2.1 r := f12
  clear f12
  have w12 : VL true S12.2.1 (to + 2) (((y1 * y1) + (x1 * x1)) * ((y1 * y1) - (x1 * x1))) := v12
  clear v12
  have w6_12 := VL_row (g12 (co + 12) ((pF_c hto 2 12 (by decide)).symm) (cf_ne hfc 12 3 (by decide))) w6_11
  have w10_12 := VL_row (g12 (co + 15) ((pF_c hto 2 15 (by decide)).symm) (cf_ne hfc 15 3 (by decide))) w10_11
  have w11_12 := VL_row (g12 (to + 1) (ac_ne (by decide)) (pF_f hto 1 3 (by decide))) w11
  obtain ⟨v13, f13⟩ := mul_v true fo (to + 3) (co + 12) (co + 15) S12 (cf_ne hfc 12 3 (by decide)) (cf_ne hfc 15 3 (by decide)) w6_12 w10_12
  generalize hS13 : mul_f true fo (to + 3) (co + 12) (co + 15) S12 = S13 at v13 f13
  have g13 : ∀ r, r ≠ to + 3 → r ≠ fo + 3 → S13.2.1 r = S12.2.1 r := f13
  clear f13
  have w13 : VL true S13.2.1 (to + 3) (((y1 * y1) + (x1 * x1)) * (((z1 * z1) + (z1 * z1)) - ((y1 * y1) + (x1 * x1)))) := v13
  clear v13
  have w11_13 := VL_row (g13 (to + 1) (ac_ne (by decide)) (pF_f hto 1 3 (by decide))) w11_12
  have w12_13 := VL_row (g13 (to + 2) (ac_ne (by decide)) (pF_f hto 2 3 (by decide))) w12
  have en : ctwice_f true co fo to p S = S13 := by
    unfold ctwice_f
    dsimp only
    rw [if_neg (show ¬ (bI true = 0) by decide), hS1, hS2, hS3, hS4, hS5, hS6, hS7, hS8, hS9, hS10, hS11, hS12, hS13]
  rw [en]
  refine ⟨⟨kon, _, _, _, w11_13, w12_13, w13, ed_rp_to key ?_ ?_ ?_⟩, ?_⟩
  · rw [fa_t]
    clear key kon
    grind
  · rw [fa_t]
    clear key kon
    grind
  · rw [fa_t]
    clear key kon
    grind
  · intro r hr hq
    exact ((g13 r (tT hq 3 (by decide)) (cT_f hr 3 (by decide))).trans ((g12 r (tT hq 2 (by decide)) (cT_f hr 3 (by decide))).trans ((g11 r (tT hq 1 (by decide)) (cT_f hr 3 (by decide))).trans ((g10 r (cT_c hr 15 (by decide))).trans ((g9 r (cT_c hr 15 (by decide))).trans ((g8 r (cT_c hr 9 (by decide))).trans ((g7 r (cT_c hr 14 (by decide))).trans ((g6 r (cT_c hr 12 (by decide))).trans ((g5 r (cT_c hr 15 (by decide)) (cT_f hr 3 (by decide))).trans ((g4 r (cT_c hr 11 (by decide)) (cT_f hr 3 (by decide))).trans ((g3 r (cT_c hr 10 (by decide)) (cT_f hr 3 (by decide))).trans ((g2 r (cT_c hr 9 (by decide)) (cT_f hr 3 (by decide))).trans (g1 r (cT_c hr 9 (by decide)))))))))))))))
theorem csum_s (c : Bool) (co fo to p q : Nat) (S : StT) {P Q : Pt c} (hfc : fo + 9 < co) (hto : pF co fo to) (hp : pF co fo p) (hq : pF co fo q) (hd : VL c S.2.1 (co + 19) (fp_d c)) (h1 : PV c S.2.1 p P) (h2 : PV c S.2.1 q Q) :
    PV c (csum_f c co fo to p q S).2.1 to (pA c P Q) ∧ ∀ r, ¬ cT co fo r → ¬ (to + 1 ≤ r ∧ r ≤ to + 3) → (csum_f c co fo to p q S).2.1 r = S.2.1 r := by
  cases c with
  | true => exact csum_s_true co fo to p q S hfc hto hp hq hd h1 h2
  | false => exact csum_s_false co fo to p q S hfc hto hp hq hd h1 h2
theorem ctwice_s (c : Bool) (co fo to p : Nat) (S : StT) {P : Pt c} (hfc : fo + 9 < co) (hto : pF co fo to) (hp : pF co fo p) (h1 : PV c S.2.1 p P) :
    PV c (ctwice_f c co fo to p S).2.1 to (pA c P P) ∧ ∀ r, ¬ cT co fo r → ¬ (to + 1 ≤ r ∧ r ≤ to + 3) → (ctwice_f c co fo to p S).2.1 r = S.2.1 r := by
  cases c with
  | true => exact ctwice_s_true co fo to p S hfc hto hp h1
  | false => exact ctwice_s_false co fo to p S hfc hto hp h1
theorem cneg_s (c : Bool) (co fo to p : Nat) (S : StT) {P : Pt c} (hal : to = p ∨ to + 3 < p + 1 ∨ p + 3 < to + 1) (h1 : PV c S.2.1 p P) :
    PV c (cneg_f c co fo to p S).2.1 to (ed_neg P) ∧ ∀ r, ¬ (to + 1 ≤ r ∧ r ≤ to + 3) → (cneg_f c co fo to p S).2.1 r = S.2.1 r := by
  obtain ⟨on1, x1, y1, z1, a1, a2, a3, e1⟩ := h1
  obtain ⟨v1, f1⟩ := neg_v c (to + 1) (p + 1) S  a1
  generalize hS1 : fneg_f c (to + 1) (p + 1) S = S1 at v1 f1
  have g1 : ∀ r, r ≠ to + 1 → S1.2.1 r = S.2.1 r := f1
  clear f1
  have w1 : VL c S1.2.1 (to + 1) (-x1) := v1
  clear v1
  have a2_1 := VL_row (g1 (p + 2) (by omega)) a2
  have a3_1 := VL_row (g1 (p + 3) (by omega)) a3
  obtain ⟨v2, f2⟩ := copy_v c (to + 2) (p + 2) S1  a2_1
  generalize hS2 : fcopy_f c (to + 2) (p + 2) S1 = S2 at v2 f2
  have g2 : ∀ r, r ≠ to + 2 → S2.2.1 r = S1.2.1 r := f2
  clear f2
  have w2 : VL c S2.2.1 (to + 2) y1 := v2
  clear v2
  have a3_2 := VL_row (g2 (p + 3) (by omega)) a3_1
  have w1_2 := VL_row (g2 (to + 1) (by omega)) w1
  obtain ⟨v3, f3⟩ := copy_v c (to + 3) (p + 3) S2  a3_2
  generalize hS3 : fcopy_f c (to + 3) (p + 3) S2 = S3 at v3 f3
  have g3 : ∀ r, r ≠ to + 3 → S3.2.1 r = S2.2.1 r := f3
  clear f3
  have w3 : VL c S3.2.1 (to + 3) z1 := v3
  clear v3
  have w1_3 := VL_row (g3 (to + 1) (by omega)) w1_2
  have w2_3 := VL_row (g3 (to + 2) (by omega)) w2
  have en : cneg_f c co fo to p S = S3 := by
    unfold cneg_f
    rw [hS1, hS2, hS3]
  rw [en]
  refine ⟨⟨ed_neg_on on1, _, _, _, w1_3, w2_3, w3, ed_rp_neg e1⟩, ?_⟩
  intro r hq
  exact ((g3 r (tT hq 3 (by decide))).trans ((g2 r (tT hq 2 (by decide))).trans (g1 r (tT hq 1 (by decide)))))
theorem ccopy_s (c : Bool) (co fo to p : Nat) (S : StT) {P : Pt c} (hal : to = p ∨ to + 3 < p + 1 ∨ p + 3 < to + 1) (h1 : PV c S.2.1 p P) :
    PV c (ccopy_f c co fo to p S).2.1 to P ∧ ∀ r, ¬ (to + 1 ≤ r ∧ r ≤ to + 3) → (ccopy_f c co fo to p S).2.1 r = S.2.1 r := by
  obtain ⟨on1, x1, y1, z1, a1, a2, a3, e1⟩ := h1
  obtain ⟨v1, f1⟩ := copy_v c (to + 1) (p + 1) S  a1
  generalize hS1 : fcopy_f c (to + 1) (p + 1) S = S1 at v1 f1
  have g1 : ∀ r, r ≠ to + 1 → S1.2.1 r = S.2.1 r := f1
  clear f1
  have w1 : VL c S1.2.1 (to + 1) x1 := v1
  clear v1
  have a2_1 := VL_row (g1 (p + 2) (by omega)) a2
  have a3_1 := VL_row (g1 (p + 3) (by omega)) a3
  obtain ⟨v2, f2⟩ := copy_v c (to + 2) (p + 2) S1  a2_1
  generalize hS2 : fcopy_f c (to + 2) (p + 2) S1 = S2 at v2 f2
  have g2 : ∀ r, r ≠ to + 2 → S2.2.1 r = S1.2.1 r := f2
  clear f2
  have w2 : VL c S2.2.1 (to + 2) y1 := v2
  clear v2
  have a3_2 := VL_row (g2 (p + 3) (by omega)) a3_1
  have w1_2 := VL_row (g2 (to + 1) (by omega)) w1
  obtain ⟨v3, f3⟩ := copy_v c (to + 3) (p + 3) S2  a3_2
  generalize hS3 : fcopy_f c (to + 3) (p + 3) S2 = S3 at v3 f3
  have g3 : ∀ r, r ≠ to + 3 → S3.2.1 r = S2.2.1 r := f3
  clear f3
  have w3 : VL c S3.2.1 (to + 3) z1 := v3
  clear v3
  have w1_3 := VL_row (g3 (to + 1) (by omega)) w1_2
  have w2_3 := VL_row (g3 (to + 2) (by omega)) w2
  have en : ccopy_f c co fo to p S = S3 := by
    unfold ccopy_f
    rw [hS1, hS2, hS3]
  rw [en]
  refine ⟨⟨on1, _, _, _, w1_3, w2_3, w3, e1⟩, ?_⟩
  intro r hq
  exact ((g3 r (tT hq 3 (by decide))).trans ((g2 r (tT hq 2 (by decide))).trans (g1 r (tT hq 1 (by decide)))))
theorem if_nI {p : Prop} [Decidable p] : (if p then nI 1 else nI 0) = 0 ↔ ¬ p := by
  by_cases h : p
  · rw [if_pos h]; exact ⟨fun e => absurd e (by decide), fun e => absurd h e⟩
  · rw [if_neg h]; exact ⟨fun _ => h, fun _ => rfl⟩
theorem PrimeAt_row {c : Bool} {o : Nat} {J K : Nat → Nat → Int64} (h : J (o + 2) = K (o + 2)) (hk : PrimeAt c o K) : PrimeAt c o J := by
  intro i hi
  have e := hk i hi
  unfold ri at e ⊢
  rw [h]
  exact e
theorem cisN_s (c : Bool) (co fo p : Nat) (S : StT) {P : Pt c} (hp : pF co fo p) (hP : PrimeAt c fo S.2.1) (h1 : PV c S.2.1 p P) :
    (cisN_f c co fo p S).1 = (if P = (0, 1) then nI 1 else nI 0) ∧ ∀ r, ¬ cT co fo r → (cisN_f c co fo p S).2.2.1 r = S.2.1 r := by
  obtain ⟨on1, x, y, z, a1, a2, a3, e1⟩ := h1
  obtain ⟨i1, i2⟩ := isZero_s c fo (p + 1) S (pF_f hp 1 4 (by decide)) hP a1.1
  rw [a1.2] at i1
  have key := ed_rp_nt (fp_K c) e1
  unfold cisN_f
  generalize hr : fisZero_f c fo (p + 1) S = R at i1 i2
  by_cases hx : x = 0
  · rw [if_pos hx] at i1
    rw [if_neg (by rw [i1]; decide)]
    have b2 := VL_row (i2 (p + 2) (pF_f hp 2 4 (by decide)) (pF_f hp 2 5 (by decide))) a2
    have b3 := VL_row (i2 (p + 3) (pF_f hp 3 4 (by decide)) (pF_f hp 3 5 (by decide))) a3
    obtain ⟨j1, j2⟩ := areEq_s c fo (p + 2) (p + 3) R.2 (PrimeAt_row (i2 (fo + 2) (by omega) (by omega)) hP) b2.1 b3.1
    rw [b2.2, b3.2] at j1
    generalize fareEq_f c fo (p + 2) (p + 3) R.2 = T at j1 j2
    have fr : ∀ r, ¬ cT co fo r → T.2.2.1 r = S.2.1 r := fun r hr => (j2 r (cT_f hr 4 (by decide)) (cT_f hr 5 (by decide)) (cT_f hr 9 (by decide))).trans (i2 r (cT_f hr 4 (by decide)) (cT_f hr 5 (by decide)))
    by_cases hy : y = z
    · rw [if_pos hy] at j1
      rw [if_neg (by rw [j1]; decide), if_pos (key.mp ⟨hx, hy⟩)]
      exact ⟨rfl, fr⟩
    · rw [if_neg hy] at j1
      rw [if_pos (j1.trans (by decide)), if_neg (fun e => hy (key.mpr e).2)]
      exact ⟨rfl, fr⟩
  · rw [if_neg hx] at i1
    rw [if_pos (i1.trans (by decide)), if_neg (fun e => hx (key.mpr e).1)]
    exact ⟨rfl, fun r hr => i2 r (cT_f hr 4 (by decide)) (cT_f hr 5 (by decide))⟩
theorem cEq_s (c : Bool) (co fo p q : Nat) (S : StT) {P Q : Pt c} (hfc : fo + 9 < co) (hp : pF co fo p) (hq : pF co fo q) (hP : PrimeAt c fo S.2.1) (h1 : PV c S.2.1 p P) (h2 : PV c S.2.1 q Q) :
    (cEq_f c co fo p q S).1 = (if P = Q then nI 1 else nI 0) ∧ ∀ r, ¬ cT co fo r → (cEq_f c co fo p q S).2.2.1 r = S.2.1 r := by
  obtain ⟨on1, x1, y1, z1, a1, a2, a3, e1⟩ := h1
  obtain ⟨on2, x2, y2, z2, b1, b2, b3, e2⟩ := h2
  have key := ed_rp_eq (fp_K c) e1 e2
  obtain ⟨v1, f1⟩ := mul_v c fo (co + 8) (p + 1) (q + 3) S (pF_f hp 1 3 (by decide)) (pF_f hq 3 3 (by decide)) a1 b3
  generalize hS1 : mul_f c fo (co + 8) (p + 1) (q + 3) S = S1 at v1 f1
  have g1 : ∀ r, r ≠ co + 8 → r ≠ fo + 3 → S1.2.1 r = S.2.1 r := f1
  clear f1
  have w1 : VL c S1.2.1 (co + 8) (x1 * z2) := v1
  clear v1
  have a2_1 := VL_row (g1 (p + 2) (pF_c hp 2 8 (by decide)) (pF_f hp 2 3 (by decide))) a2
  have a3_1 := VL_row (g1 (p + 3) (pF_c hp 3 8 (by decide)) (pF_f hp 3 3 (by decide))) a3
  have b1_1 := VL_row (g1 (q + 1) (pF_c hq 1 8 (by decide)) (pF_f hq 1 3 (by decide))) b1
  have b2_1 := VL_row (g1 (q + 2) (pF_c hq 2 8 (by decide)) (pF_f hq 2 3 (by decide))) b2
  have b3_1 := VL_row (g1 (q + 3) (pF_c hq 3 8 (by decide)) (pF_f hq 3 3 (by decide))) b3
  obtain ⟨v2, f2⟩ := mul_v c fo (co + 9) (q + 1) (p + 3) S1 (pF_f hq 1 3 (by decide)) (pF_f hp 3 3 (by decide)) b1_1 a3_1
  generalize hS2 : mul_f c fo (co + 9) (q + 1) (p + 3) S1 = S2 at v2 f2
  have g2 : ∀ r, r ≠ co + 9 → r ≠ fo + 3 → S2.2.1 r = S1.2.1 r := f2
  clear f2
  have w2 : VL c S2.2.1 (co + 9) (x2 * z1) := v2
  clear v2
  have a2_2 := VL_row (g2 (p + 2) (pF_c hp 2 9 (by decide)) (pF_f hp 2 3 (by decide))) a2_1
  have a3_2 := VL_row (g2 (p + 3) (pF_c hp 3 9 (by decide)) (pF_f hp 3 3 (by decide))) a3_1
  have b2_2 := VL_row (g2 (q + 2) (pF_c hq 2 9 (by decide)) (pF_f hq 2 3 (by decide))) b2_1
  have b3_2 := VL_row (g2 (q + 3) (pF_c hq 3 9 (by decide)) (pF_f hq 3 3 (by decide))) b3_1
  have w1_2 := VL_row (g2 (co + 8) (ac_ne (by decide)) (cf_ne hfc 8 3 (by decide))) w1
  obtain ⟨v3, f3⟩ := mul_v c fo (co + 10) (p + 2) (q + 3) S2 (pF_f hp 2 3 (by decide)) (pF_f hq 3 3 (by decide)) a2_2 b3_2
  generalize hS3 : mul_f c fo (co + 10) (p + 2) (q + 3) S2 = S3 at v3 f3
  have g3 : ∀ r, r ≠ co + 10 → r ≠ fo + 3 → S3.2.1 r = S2.2.1 r := f3
  clear f3
  have w3 : VL c S3.2.1 (co + 10) (y1 * z2) := v3
  clear v3
  have a3_3 := VL_row (g3 (p + 3) (pF_c hp 3 10 (by decide)) (pF_f hp 3 3 (by decide))) a3_2
  have b2_3 := VL_row (g3 (q + 2) (pF_c hq 2 10 (by decide)) (pF_f hq 2 3 (by decide))) b2_2
  have w1_3 := VL_row (g3 (co + 8) (ac_ne (by decide)) (cf_ne hfc 8 3 (by decide))) w1_2
  have w2_3 := VL_row (g3 (co + 9) (ac_ne (by decide)) (cf_ne hfc 9 3 (by decide))) w2
  obtain ⟨v4, f4⟩ := mul_v c fo (co + 11) (q + 2) (p + 3) S3 (pF_f hq 2 3 (by decide)) (pF_f hp 3 3 (by decide)) b2_3 a3_3
  generalize hS4 : mul_f c fo (co + 11) (q + 2) (p + 3) S3 = S4 at v4 f4
  have g4 : ∀ r, r ≠ co + 11 → r ≠ fo + 3 → S4.2.1 r = S3.2.1 r := f4
  clear f4
  have w4 : VL c S4.2.1 (co + 11) (y2 * z1) := v4
  clear v4
  have w1_4 := VL_row (g4 (co + 8) (ac_ne (by decide)) (cf_ne hfc 8 3 (by decide))) w1_3
  have w2_4 := VL_row (g4 (co + 9) (ac_ne (by decide)) (cf_ne hfc 9 3 (by decide))) w2_3
  have w3_4 := VL_row (g4 (co + 10) (ac_ne (by decide)) (cf_ne hfc 10 3 (by decide))) w3
  have fr0 : ∀ r, ¬ cT co fo r → S4.2.1 r = S.2.1 r := fun r hr => ((g4 r (cT_c hr 11 (by decide)) (cT_f hr 3 (by decide))).trans ((g3 r (cT_c hr 10 (by decide)) (cT_f hr 3 (by decide))).trans ((g2 r (cT_c hr 9 (by decide)) (cT_f hr 3 (by decide))).trans (g1 r (cT_c hr 8 (by decide)) (cT_f hr 3 (by decide))))))
  have fp2 : S4.2.1 (fo + 2) = S.2.1 (fo + 2) := by
    have r : Nat := 0
    exact ((g4 (fo + 2) (by omega) (by omega)).trans ((g3 (fo + 2) (by omega) (by omega)).trans ((g2 (fo + 2) (by omega) (by omega)).trans (g1 (fo + 2) (by omega) (by omega)))))
  unfold cEq_f
  dsimp only
  rw [hS1, hS2, hS3, hS4]
  obtain ⟨i1, i2⟩ := areEq_s c fo (co + 8) (co + 9) S4 (PrimeAt_row fp2 hP) w1_4.1 w2_4.1
  rw [w1_4.2, w2_4.2] at i1
  generalize fareEq_f c fo (co + 8) (co + 9) S4 = R at i1 i2
  have ff : ∀ r, ¬ cT co fo r → R.2.2.1 r = S.2.1 r := fun r hr => (i2 r (cT_f hr 4 (by decide)) (cT_f hr 5 (by decide)) (cT_f hr 9 (by decide))).trans (fr0 r hr)
  by_cases hx : x1 * z2 = x2 * z1
  · rw [if_pos hx] at i1
    have c2 := VL_row (i2 (co + 10) (by omega) (by omega) (by omega)) w3_4
    have c3 := VL_row (i2 (co + 11) (by omega) (by omega) (by omega)) w4
    obtain ⟨j1, j2⟩ := areEq_s c fo (co + 10) (co + 11) R.2 (PrimeAt_row ((i2 (fo + 2) (by omega) (by omega) (by omega)).trans fp2) hP) c2.1 c3.1
    rw [c2.2, c3.2] at j1
    rw [if_neg (by rw [i1]; decide)]
    generalize fareEq_f c fo (co + 10) (co + 11) R.2 = T at j1 j2
    have fr : ∀ r, ¬ cT co fo r → T.2.2.1 r = S.2.1 r := fun r hr => (j2 r (cT_f hr 4 (by decide)) (cT_f hr 5 (by decide)) (cT_f hr 9 (by decide))).trans (ff r hr)
    by_cases hy : y1 * z2 = y2 * z1
    · rw [if_pos hy] at j1
      rw [if_neg (by rw [j1]; decide), if_pos (key.mp ⟨hx, hy⟩)]
      exact ⟨rfl, fr⟩
    · rw [if_neg hy] at j1
      rw [if_pos (j1.trans (by decide)), if_neg (fun e => hy (key.mpr e).2)]
      exact ⟨rfl, fr⟩
  · rw [if_neg hx] at i1
    rw [if_pos (i1.trans (by decide)), if_neg (fun e => hx (key.mpr e).1)]
    exact ⟨rfl, ff⟩
end
