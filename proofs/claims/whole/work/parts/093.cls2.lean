/-! CurveSuite$Curve, CurveSuite$Agreement, CurveSuite$Scalars: the rest of their methods, by program (dc.py, spec_cls2.py) -/
theorem fi_ite {c : Prop} [Decidable c] {a b : Int32 × StT} {G : Nat → Nat → Int32} (ha : a.2.1 = G) (hb : b.2.1 = G) : (if c then a else b).2.1 = G := by
  by_cases h : c
  · rw [if_pos h]; exact ha
  · rw [if_neg h]; exact hb
theorem fi_let {α : Type} {v : α} {f : α → Int32 × StT} {G : Nat → Nat → Int32} (h : ∀ x, x = v → (f x).2.1 = G) : (f v).2.1 = G := h v rfl
theorem nI_le0 {a : Nat} (h : a = 0) : nI a ≤ 0 := by subst h; decide
theorem dn_sub2 {a : Nat} (h : 1 ≤ a) : nI a - nI 2 = dn (a - 1) := by
  rcases a with _ | _ | a
  · omega
  · rfl
  · rw [pk_sub (by omega)]; rfl
/-- how many digits are left when the zeros at the end are left out -/
def lfN (dg : Nat → Nat) : Nat → Nat
  | 0 => 0
  | n + 1 => if dg n = 0 then lfN dg n else n + 1
theorem lfN_le (dg : Nat → Nat) : ∀ n, lfN dg n ≤ n
  | 0 => Nat.le_refl _
  | n + 1 => by
    unfold lfN
    split
    · have := lfN_le dg n; omega
    · exact Nat.le_refl _
theorem lfN_z (dg : Nat → Nat) : ∀ n j, lfN dg n ≤ j → j < n → dg j = 0
  | 0, j, _, h => absurd h (Nat.not_lt_zero _)
  | n + 1, j, h1, h2 => by
    unfold lfN at h1
    by_cases hz : dg n = 0
    · rw [if_pos hz] at h1
      by_cases hj : j = n
      · subst hj; exact hz
      · exact lfN_z dg n j h1 (by omega)
    · rw [if_neg hz] at h1
      omega
theorem lfN_n (dg : Nat → Nat) : ∀ n, 1 ≤ lfN dg n → dg (lfN dg n - 1) ≠ 0
  | 0, h => absurd (show 1 ≤ 0 from h) (by decide)
  | n + 1, h => by
    unfold lfN at h ⊢
    by_cases hz : dg n = 0
    · rw [if_pos hz] at h ⊢
      exact lfN_n dg n h
    · rw [if_neg hz]
      exact hz
/-- the low bits of an int -/
def lowb (b : Nat) (x : Int32) : Nat := x.toBitVec.toNat % 2 ^ b
theorem lowb_and (b : Nat) (hb : b < 31) (x : Int32) : x &&& nI (2 ^ b - 1) = nI (lowb b x) := by
  have h31 : 2 ^ b < 2 ^ 31 := Nat.pow_lt_pow_right (by decide) hb
  have hlt : lowb b x < 2 ^ b := Nat.mod_lt _ (Nat.two_pow_pos b)
  refine Int32.toBitVec_inj.mp (BitVec.eq_of_toNat_eq ?_)
  rw [Int32.toBitVec_and, BitVec.toNat_and, pk_tn (by omega), pk_tn (by omega), Nat.and_two_pow_sub_one_eq_mod]
  rfl
theorem lowb_lt (b : Nat) (x : Int32) : lowb b x < 2 ^ b := Nat.mod_lt _ (Nat.two_pow_pos b)
/-- four bits of a row of bytes; two bits of each of two rows -/
def dg4 (f : Nat → Int32) (j : Nat) : Nat := lowb 4 (f (j / 2 ^ 1) >>> (nI (4 * (j % 2 ^ 1)) &&& 31))
def dg2 (f g : Nat → Int32) (j : Nat) : Nat := lowb 2 (f (j / 2 ^ 2) >>> (nI (2 * (j % 2 ^ 2)) &&& 31)) + 4 * lowb 2 (g (j / 2 ^ 2) >>> (nI (2 * (j % 2 ^ 2)) &&& 31))
theorem dg2_lt (f g : Nat → Int32) (j : Nat) : dg2 f g j < 16 := by
  have h1 := lowb_lt 2 (f (j / 2 ^ 2) >>> (nI (2 * (j % 2 ^ 2)) &&& 31))
  have h2 := lowb_lt 2 (g (j / 2 ^ 2) >>> (nI (2 * (j % 2 ^ 2)) &&& 31))
  unfold dg2
  omega
def cwc_f (c : Bool) (co : Nat) (fo : Nat) (to : Nat) (y : Nat) (od : Int32) (S : StT) : StT := (let S1 := fwrite_f c (fo) (to) (y) (va_up S.1 (to) (upd (S.1 (to)) (cB c - 1) (nI (0))), S.2.1, S.2.2); (if (od) = 0 then (S1.1, S1.2.1, S.2.2) else (va_up S1.1 (to) (upd (S1.1 (to)) (cB c - 1) ((S1.1 (to) (cB c - 1)) ||| (nI (128)))), S1.2.1, S.2.2)))
theorem cwc_F (c : Bool) (co : Nat) (fo : Nat) (to : Nat) (y : Nat) (od : Int32) (S : StT) : (cwc_f c co fo to y od S).2.2 = S.2.2 := by
  unfold cwc_f; first | rfl | ((repeat' split) <;> rfl) | (dsimp only; (repeat' split) <;> rfl)
set_option maxRecDepth 100000 in
set_option maxHeartbeats 400000 in
theorem c_cwc {k : KX} {L : Nat → Option Sh} {S : StT} {n : Nat} {c : Bool} {co : Nat} {fo : Nat} {to : Nat} {m : Nat} {y : Nat} {od : Int32} (hC : CurveAt k L co fo c) (hto : L to = some (sI m)) (hm : m < 2 ^ 31) (hm2 : 57 ≤ m) (hy : L y = some (sJ 16)) :
    Cs k yX1_writeCode cX1_writeCode 4 none 4 0 0 [.ref (k_b k + (co)), .ref (k_b k + (to)), .ref (k_b k + (y)), .int (od)] (inst k L S.1 S.2.1 S.2.2) n (Pv k L n (cwc_f c co fo to y od S)) := by
  refine cs_of (by decide) (Nat.le_of_ble_eq_true rfl) ?_
  intro X hXk C Rt hnm
  subst hXk
  have hC9 := hC
  obtain ⟨hC0, hF, hc1, hc2, hc3, hc4, hc5, hc6, hc7, hc8, hcr, hcd, hct, hff, hdg, hca, hbs, htb⟩ := hC9
  have hF9 := hF
  have hff9 := hff
  obtain ⟨hff0, hff1, hff2, hff3⟩ := hff9
  obtain ⟨hF0, hf1, hf2, hf3, hf4, hf5, hf6, hf7, hf8, hf9⟩ := hF9
  obtain ⟨hl1, hl2⟩ := fL_le c
  obtain ⟨hk1, hk2⟩ := cB_le c
  refine rn_lv [(0, .ref (k_b X.1 + (co))), (1, .ref (k_b X.1 + (to))), (2, .ref (k_b X.1 + (y))), (3, .int (od))] (fun q h => h) ?_
  refine rn_aload_n C dX1_writeCode_0 rfl ?_
  refine rn_aload_n C dX1_writeCode_1 rfl ?_
  refine rs_get C dX1_writeCode_2 fl_X1_64 hC0 rfl ?_
  refine rn_iconst (v := nI 1) C dX1_writeCode_5 rfl ?_
  refine rn_isub C dX1_writeCode_6 (pk_sub (by omega)) ?_
  refine rn_iconst (v := nI 0) C dX1_writeCode_7 rfl ?_
  refine rs_iastore C dX1_writeCode_8 hto rfl (by omega) hm ?_
  refine rn_aload_n C dX1_writeCode_9 rfl ?_
  refine rs_get C dX1_writeCode_10 fl_X1_60 hC0 rfl ?_
  refine rn_aload_n C dX1_writeCode_13 rfl ?_
  refine rn_aload_n C dX1_writeCode_14 rfl ?_
  refine rs_vv C dX1_writeCode_15 mk_X3_write lv_X1_175 (c_fwrite (S := (va_up S.1 (to) (upd (S.1 (to)) (cB c - 1) (nI (0))), S.2.1, S.2.2)) hF hto hm (by omega) hy) hF0 rfl rfl rfl rfl (by decide) (Nat.le_of_ble_eq_true rfl) (by decide) (by decide) ?_
  rw [show (fwrite_f c (fo) (to) (y) (va_up S.1 (to) (upd (S.1 (to)) (cB c - 1) (nI (0))), S.2.1, S.2.2)).2.2 = S.2.2 from (fwrite_F c (fo) (to) (y) (va_up S.1 (to) (upd (S.1 (to)) (cB c - 1) (nI (0))), S.2.1, S.2.2))]
  generalize hS1 : fwrite_f c (fo) (to) (y) (va_up S.1 (to) (upd (S.1 (to)) (cB c - 1) (nI (0))), S.2.1, S.2.2) = S1
  refine rn_iload_n C dX1_writeCode_18 rfl ?_
  refine rn_if_eq (tgt := 36) C dX1_writeCode_19 (by decide) (fun hb2 => ?_) (fun hb2 => ?_)
  · skip
    have hret : cwc_f c co fo to y od S = (S1.1, S1.2.1, S.2.2) := by
      subst hS1
      first | (dsimp only [cwc_f]; done) | (dsimp only [cwc_f]; exact (if_pos hb2)) | exact (if_pos hb2)
    exact rn_vret C Rt dX1_writeCode_36 (pv_of hret) (Nat.zero_le _) (Nat.zero_le _)
  · skip
    refine rn_aload_n C dX1_writeCode_22 rfl ?_
    refine rn_aload_n C dX1_writeCode_23 rfl ?_
    refine rs_get C dX1_writeCode_24 fl_X1_64 hC0 rfl ?_
    refine rn_iconst (v := nI 1) C dX1_writeCode_27 rfl ?_
    refine rn_isub C dX1_writeCode_28 (pk_sub (by omega)) ?_
    refine rn_dup2 C dX1_writeCode_29 rfl rfl ?_
    refine rs_iaload C dX1_writeCode_30 hto rfl (by omega) hm ?_
    refine rn_sipush (v := nI 128) C dX1_writeCode_31 rfl ?_
    refine rn_ior C dX1_writeCode_34 rfl ?_
    refine rs_iastore C dX1_writeCode_35 hto rfl (by omega) hm ?_
    have hret : cwc_f c co fo to y od S = (va_up S1.1 (to) (upd (S1.1 (to)) (cB c - 1) ((S1.1 (to) (cB c - 1)) ||| (nI (128)))), S1.2.1, S.2.2) := by
      subst hS1
      first | (dsimp only [cwc_f]; done) | (dsimp only [cwc_f]; exact (if_neg hb2)) | exact (if_neg hb2)
    exact rn_vret C Rt dX1_writeCode_36 (pv_of hret) (Nat.zero_le _) (Nat.zero_le _)
def cenc_f (c : Bool) (co : Nat) (fo : Nat) (to : Nat) (p : Nat) (S : StT) : StT := (let S1 := finv_f c (fo) (co + 8) (p + 3) S; (let S2 := mul_f c (fo) (co + 9) (p + 1) (co + 8) (S.1, S1.2.1, S.2.2); (let S3 := mul_f c (fo) (co + 10) (p + 2) (co + 8) (S.1, S2.2.1, S.2.2); (let r4 := fisOdd_f c (fo) (co + 9) (S.1, S3.2.1, S.2.2); (let S5 := cwc_f c (co) fo (to) (co + 10) (r4.1) (S.1, r4.2.2.1, S.2.2); (S5.1, S5.2.1, S.2.2))))))
theorem cenc_F (c : Bool) (co : Nat) (fo : Nat) (to : Nat) (p : Nat) (S : StT) : (cenc_f c co fo to p S).2.2 = S.2.2 := by
  unfold cenc_f; first | rfl | ((repeat' split) <;> rfl) | (dsimp only; (repeat' split) <;> rfl)
set_option maxRecDepth 100000 in
set_option maxHeartbeats 400000 in
theorem c_cenc {k : KX} {L : Nat → Option Sh} {S : StT} {n : Nat} {c : Bool} {co : Nat} {fo : Nat} {to : Nat} {m : Nat} {p : Nat} (hC : CurveAt k L co fo c) (hto : L to = some (sI m)) (hm : m < 2 ^ 31) (hm2 : 57 ≤ m) (hp : PtAt k L p) :
    Cs k yX1_encode cX1_encode 3 none 5 0 0 [.ref (k_b k + (co)), .ref (k_b k + (to)), .ref (k_b k + (p))] (inst k L S.1 S.2.1 S.2.2) n (Pv k L n (cenc_f c co fo to p S)) := by
  refine cs_of (by decide) (Nat.le_of_ble_eq_true rfl) ?_
  intro X hXk C Rt hnm
  subst hXk
  have hC9 := hC
  obtain ⟨hC0, hF, hc1, hc2, hc3, hc4, hc5, hc6, hc7, hc8, hcr, hcd, hct, hff, hdg, hca, hbs, htb⟩ := hC9
  have hF9 := hF
  have hff9 := hff
  obtain ⟨hff0, hff1, hff2, hff3⟩ := hff9
  obtain ⟨hF0, hf1, hf2, hf3, hf4, hf5, hf6, hf7, hf8, hf9⟩ := hF9
  obtain ⟨hl1, hl2⟩ := fL_le c
  obtain ⟨hk1, hk2⟩ := cB_le c
  have hp9 := hp
  obtain ⟨hp0, hp1, hp2, hp3⟩ := hp9
  refine rn_lv [(0, .ref (k_b X.1 + (co))), (1, .ref (k_b X.1 + (to))), (2, .ref (k_b X.1 + (p)))] (fun q h => h) ?_
  refine rn_aload_n C dX1_encode_0 rfl ?_
  refine rs_get C dX1_encode_1 fl_X1_60 hC0 rfl ?_
  refine rn_aload_n C dX1_encode_4 rfl ?_
  refine rs_get C dX1_encode_5 fl_X1_31 hC0 rfl ?_
  refine rn_aload_n C dX1_encode_8 rfl ?_
  refine rs_get C dX1_encode_9 fl_X1_110 hp0 rfl ?_
  refine rs_vv C dX1_encode_12 mk_X3_invert lv_X1_151 (c_finv hF hc1 hp3) hF0 rfl rfl rfl rfl (by decide) (Nat.le_of_ble_eq_true rfl) (by decide) (by decide) ?_
  rw [show (finv_f c (fo) (co + 8) (p + 3) S).2.2 = S.2.2 from (finv_F c (fo) (co + 8) (p + 3) S)]
  rw [show (finv_f c (fo) (co + 8) (p + 3) S).1 = S.1 from finv_I c (fo) (co + 8) (p + 3) S]
  generalize hS1 : finv_f c (fo) (co + 8) (p + 3) S = S1
  refine rn_aload_n C dX1_encode_15 rfl ?_
  refine rs_get C dX1_encode_16 fl_X1_60 hC0 rfl ?_
  refine rn_aload_n C dX1_encode_19 rfl ?_
  refine rs_get C dX1_encode_20 fl_X1_35 hC0 rfl ?_
  refine rn_aload_n C dX1_encode_23 rfl ?_
  refine rs_get C dX1_encode_24 fl_X1_90 hp0 rfl ?_
  refine rn_aload_n C dX1_encode_27 rfl ?_
  refine rs_get C dX1_encode_28 fl_X1_31 hC0 rfl ?_
  refine rs_vv C dX1_encode_31 mk_X3_multiply lv_X1_113 (c_mul (S := (S.1, S1.2.1, S.2.2)) hF hc2 hp1 hc1) hF0 rfl rfl rfl rfl (by decide) (Nat.le_of_ble_eq_true rfl) (by decide) (by decide) ?_
  rw [show (mul_f c (fo) (co + 9) (p + 1) (co + 8) (S.1, S1.2.1, S.2.2)).2.2 = S.2.2 from (mul_F c (fo) (co + 9) (p + 1) (co + 8) (S.1, S1.2.1, S.2.2))]
  rw [show (mul_f c (fo) (co + 9) (p + 1) (co + 8) (S.1, S1.2.1, S.2.2)).1 = S.1 from mul_I c (fo) (co + 9) (p + 1) (co + 8) (S.1, S1.2.1, S.2.2)]
  generalize hS2 : mul_f c (fo) (co + 9) (p + 1) (co + 8) (S.1, S1.2.1, S.2.2) = S2
  refine rn_aload_n C dX1_encode_34 rfl ?_
  refine rs_get C dX1_encode_35 fl_X1_60 hC0 rfl ?_
  refine rn_aload_n C dX1_encode_38 rfl ?_
  refine rs_get C dX1_encode_39 fl_X1_38 hC0 rfl ?_
  refine rn_aload_n C dX1_encode_42 rfl ?_
  refine rs_get C dX1_encode_43 fl_X1_100 hp0 rfl ?_
  refine rn_aload_n C dX1_encode_46 rfl ?_
  refine rs_get C dX1_encode_47 fl_X1_31 hC0 rfl ?_
  refine rs_vv C dX1_encode_50 mk_X3_multiply lv_X1_113 (c_mul (S := (S.1, S2.2.1, S.2.2)) hF hc3 hp2 hc1) hF0 rfl rfl rfl rfl (by decide) (Nat.le_of_ble_eq_true rfl) (by decide) (by decide) ?_
  rw [show (mul_f c (fo) (co + 10) (p + 2) (co + 8) (S.1, S2.2.1, S.2.2)).2.2 = S.2.2 from (mul_F c (fo) (co + 10) (p + 2) (co + 8) (S.1, S2.2.1, S.2.2))]
  rw [show (mul_f c (fo) (co + 10) (p + 2) (co + 8) (S.1, S2.2.1, S.2.2)).1 = S.1 from mul_I c (fo) (co + 10) (p + 2) (co + 8) (S.1, S2.2.1, S.2.2)]
  generalize hS3 : mul_f c (fo) (co + 10) (p + 2) (co + 8) (S.1, S2.2.1, S.2.2) = S3
  refine rn_aload_n C dX1_encode_53 rfl ?_
  refine rn_aload_n C dX1_encode_54 rfl ?_
  refine rn_aload_n C dX1_encode_55 rfl ?_
  refine rs_get C dX1_encode_56 fl_X1_38 hC0 rfl ?_
  refine rn_aload_n C dX1_encode_59 rfl ?_
  refine rs_get C dX1_encode_60 fl_X1_60 hC0 rfl ?_
  refine rn_aload_n C dX1_encode_63 rfl ?_
  refine rs_get C dX1_encode_64 fl_X1_35 hC0 rfl ?_
  refine rs_vz C dX1_encode_67 mk_X3_isOdd lv_X1_154 (c_fisOdd (S := (S.1, S3.2.1, S.2.2)) hF hc2) hF0 rfl rfl rfl rfl (by decide) (Nat.le_of_ble_eq_true rfl) (by decide) (by decide) ?_
  rw [show (fisOdd_f c (fo) (co + 9) (S.1, S3.2.1, S.2.2)).2.2.2 = S.2.2 from (fisOdd_F c (fo) (co + 9) (S.1, S3.2.1, S.2.2))]
  rw [show (fisOdd_f c (fo) (co + 9) (S.1, S3.2.1, S.2.2)).2.1 = S.1 from fisOdd_I c (fo) (co + 9) (S.1, S3.2.1, S.2.2)]
  generalize hr4 : fisOdd_f c (fo) (co + 9) (S.1, S3.2.1, S.2.2) = r4
  refine rs_vv C dX1_encode_70 mk_X1_writeCode lv_X1_157 (c_cwc (S := (S.1, r4.2.2.1, S.2.2)) hC hto hm (by omega) hc3) hC0 rfl rfl rfl rfl (by decide) (Nat.le_of_ble_eq_true rfl) (by decide) (by decide) ?_
  rw [show (cwc_f c (co) fo (to) (co + 10) (r4.1) (S.1, r4.2.2.1, S.2.2)).2.2 = S.2.2 from (cwc_F c (co) fo (to) (co + 10) (r4.1) (S.1, r4.2.2.1, S.2.2))]
  generalize hS5 : cwc_f c (co) fo (to) (co + 10) (r4.1) (S.1, r4.2.2.1, S.2.2) = S5
  have hret : cenc_f c co fo to p S = (S5.1, S5.2.1, S.2.2) := by
    subst hS5
    subst hr4
    subst hS3
    subst hS2
    subst hS1
    first | (dsimp only [cenc_f]; done) | (dsimp only [cenc_f]; exact rfl) | exact rfl
  exact rn_vret C Rt dX1_encode_73 (pv_of hret) (Nat.zero_le _) (Nat.zero_le _)
def cfx_f (c : Bool) (co : Nat) (fo : Nat) (S : StT) : Int32 × StT := (let S1 := sqr_f c (fo) (co + 10) (co + 9) S; (let S2 := mul_f c (fo) (co + 11) (co + 10) (co + 19) (S.1, S1.2.1, S.2.2); (let S3 := minus_f c (co + 10) (co + 10) (fo + 1) (S.1, S2.2.1, S.2.2); (let S7 := (if (bI c) = 0 then (let S5 := plus_f c (co + 11) (co + 11) (fo + 1) (S.1, S3.2.1, S.2.2); (S.1, S5.2.1, S.2.2)) else (let S6 := minus_f c (co + 11) (co + 11) (fo + 1) (S.1, S3.2.1, S.2.2); (S.1, S6.2.1, S.2.2))); (let S8 := mul_f c (fo) (co + 12) (co + 10) (co + 11) (S.1, S7.2.1, S.2.2); (let S9 := froot_f c (fo) (co + 8) (co + 12) (S.1, S8.2.1, S.2.2); (let S10 := mul_f c (fo) (co + 8) (co + 8) (co + 10) (S.1, S9.2.1, S.2.2); (let S11 := sqr_f c (fo) (co + 12) (co + 8) (S.1, S10.2.1, S.2.2); (let S12 := mul_f c (fo) (co + 12) (co + 12) (co + 11) (S.1, S11.2.1, S.2.2); (let r13 := fareEq_f c (fo) (co + 12) (co + 10) (S.1, S12.2.1, S.2.2); (if (r13.1) = 0 then (let S15 := fneg_f c (co + 12) (co + 12) (S.1, r13.2.2.1, S.2.2); (if (bI c) ≠ 0 then (nI (0), (S.1, S15.2.1, S.2.2)) else (let r17 := fareEq_f c (fo) (co + 12) (co + 10) (S.1, S15.2.1, S.2.2); (if (r17.1) ≠ 0 then (let S19 := mul_f c (fo) (co + 8) (co + 8) (co + 17) (S.1, r17.2.2.1, S.2.2); (nI (1), (S.1, S19.2.1, S.2.2))) else (nI (0), (S.1, r17.2.2.1, S.2.2)))))) else (nI (1), (S.1, r13.2.2.1, S.2.2)))))))))))))
theorem cfx_F (c : Bool) (co : Nat) (fo : Nat) (S : StT) : (cfx_f c co fo S).2.2.2 = S.2.2 := by
  exact (ft_let (v := sqr_f c (fo) (co + 10) (co + 9) S) (f := fun S1 => (let S2 := mul_f c (fo) (co + 11) (co + 10) (co + 19) (S.1, S1.2.1, S.2.2); (let S3 := minus_f c (co + 10) (co + 10) (fo + 1) (S.1, S2.2.1, S.2.2); (let S7 := (if (bI c) = 0 then (let S5 := plus_f c (co + 11) (co + 11) (fo + 1) (S.1, S3.2.1, S.2.2); (S.1, S5.2.1, S.2.2)) else (let S6 := minus_f c (co + 11) (co + 11) (fo + 1) (S.1, S3.2.1, S.2.2); (S.1, S6.2.1, S.2.2))); (let S8 := mul_f c (fo) (co + 12) (co + 10) (co + 11) (S.1, S7.2.1, S.2.2); (let S9 := froot_f c (fo) (co + 8) (co + 12) (S.1, S8.2.1, S.2.2); (let S10 := mul_f c (fo) (co + 8) (co + 8) (co + 10) (S.1, S9.2.1, S.2.2); (let S11 := sqr_f c (fo) (co + 12) (co + 8) (S.1, S10.2.1, S.2.2); (let S12 := mul_f c (fo) (co + 12) (co + 12) (co + 11) (S.1, S11.2.1, S.2.2); (let r13 := fareEq_f c (fo) (co + 12) (co + 10) (S.1, S12.2.1, S.2.2); (if (r13.1) = 0 then (let S15 := fneg_f c (co + 12) (co + 12) (S.1, r13.2.2.1, S.2.2); (if (bI c) ≠ 0 then (nI (0), (S.1, S15.2.1, S.2.2)) else (let r17 := fareEq_f c (fo) (co + 12) (co + 10) (S.1, S15.2.1, S.2.2); (if (r17.1) ≠ 0 then (let S19 := mul_f c (fo) (co + 8) (co + 8) (co + 17) (S.1, r17.2.2.1, S.2.2); (nI (1), (S.1, S19.2.1, S.2.2))) else (nI (0), (S.1, r17.2.2.1, S.2.2)))))) else (nI (1), (S.1, r13.2.2.1, S.2.2))))))))))))) (fun S1 e_S1 => (ft_let (v := mul_f c (fo) (co + 11) (co + 10) (co + 19) (S.1, S1.2.1, S.2.2)) (f := fun S2 => (let S3 := minus_f c (co + 10) (co + 10) (fo + 1) (S.1, S2.2.1, S.2.2); (let S7 := (if (bI c) = 0 then (let S5 := plus_f c (co + 11) (co + 11) (fo + 1) (S.1, S3.2.1, S.2.2); (S.1, S5.2.1, S.2.2)) else (let S6 := minus_f c (co + 11) (co + 11) (fo + 1) (S.1, S3.2.1, S.2.2); (S.1, S6.2.1, S.2.2))); (let S8 := mul_f c (fo) (co + 12) (co + 10) (co + 11) (S.1, S7.2.1, S.2.2); (let S9 := froot_f c (fo) (co + 8) (co + 12) (S.1, S8.2.1, S.2.2); (let S10 := mul_f c (fo) (co + 8) (co + 8) (co + 10) (S.1, S9.2.1, S.2.2); (let S11 := sqr_f c (fo) (co + 12) (co + 8) (S.1, S10.2.1, S.2.2); (let S12 := mul_f c (fo) (co + 12) (co + 12) (co + 11) (S.1, S11.2.1, S.2.2); (let r13 := fareEq_f c (fo) (co + 12) (co + 10) (S.1, S12.2.1, S.2.2); (if (r13.1) = 0 then (let S15 := fneg_f c (co + 12) (co + 12) (S.1, r13.2.2.1, S.2.2); (if (bI c) ≠ 0 then (nI (0), (S.1, S15.2.1, S.2.2)) else (let r17 := fareEq_f c (fo) (co + 12) (co + 10) (S.1, S15.2.1, S.2.2); (if (r17.1) ≠ 0 then (let S19 := mul_f c (fo) (co + 8) (co + 8) (co + 17) (S.1, r17.2.2.1, S.2.2); (nI (1), (S.1, S19.2.1, S.2.2))) else (nI (0), (S.1, r17.2.2.1, S.2.2)))))) else (nI (1), (S.1, r13.2.2.1, S.2.2)))))))))))) (fun S2 e_S2 => (ft_let (v := minus_f c (co + 10) (co + 10) (fo + 1) (S.1, S2.2.1, S.2.2)) (f := fun S3 => (let S7 := (if (bI c) = 0 then (let S5 := plus_f c (co + 11) (co + 11) (fo + 1) (S.1, S3.2.1, S.2.2); (S.1, S5.2.1, S.2.2)) else (let S6 := minus_f c (co + 11) (co + 11) (fo + 1) (S.1, S3.2.1, S.2.2); (S.1, S6.2.1, S.2.2))); (let S8 := mul_f c (fo) (co + 12) (co + 10) (co + 11) (S.1, S7.2.1, S.2.2); (let S9 := froot_f c (fo) (co + 8) (co + 12) (S.1, S8.2.1, S.2.2); (let S10 := mul_f c (fo) (co + 8) (co + 8) (co + 10) (S.1, S9.2.1, S.2.2); (let S11 := sqr_f c (fo) (co + 12) (co + 8) (S.1, S10.2.1, S.2.2); (let S12 := mul_f c (fo) (co + 12) (co + 12) (co + 11) (S.1, S11.2.1, S.2.2); (let r13 := fareEq_f c (fo) (co + 12) (co + 10) (S.1, S12.2.1, S.2.2); (if (r13.1) = 0 then (let S15 := fneg_f c (co + 12) (co + 12) (S.1, r13.2.2.1, S.2.2); (if (bI c) ≠ 0 then (nI (0), (S.1, S15.2.1, S.2.2)) else (let r17 := fareEq_f c (fo) (co + 12) (co + 10) (S.1, S15.2.1, S.2.2); (if (r17.1) ≠ 0 then (let S19 := mul_f c (fo) (co + 8) (co + 8) (co + 17) (S.1, r17.2.2.1, S.2.2); (nI (1), (S.1, S19.2.1, S.2.2))) else (nI (0), (S.1, r17.2.2.1, S.2.2)))))) else (nI (1), (S.1, r13.2.2.1, S.2.2))))))))))) (fun S3 e_S3 => (ft_let (v := (if (bI c) = 0 then (let S5 := plus_f c (co + 11) (co + 11) (fo + 1) (S.1, S3.2.1, S.2.2); (S.1, S5.2.1, S.2.2)) else (let S6 := minus_f c (co + 11) (co + 11) (fo + 1) (S.1, S3.2.1, S.2.2); (S.1, S6.2.1, S.2.2)))) (f := fun S7 => (let S8 := mul_f c (fo) (co + 12) (co + 10) (co + 11) (S.1, S7.2.1, S.2.2); (let S9 := froot_f c (fo) (co + 8) (co + 12) (S.1, S8.2.1, S.2.2); (let S10 := mul_f c (fo) (co + 8) (co + 8) (co + 10) (S.1, S9.2.1, S.2.2); (let S11 := sqr_f c (fo) (co + 12) (co + 8) (S.1, S10.2.1, S.2.2); (let S12 := mul_f c (fo) (co + 12) (co + 12) (co + 11) (S.1, S11.2.1, S.2.2); (let r13 := fareEq_f c (fo) (co + 12) (co + 10) (S.1, S12.2.1, S.2.2); (if (r13.1) = 0 then (let S15 := fneg_f c (co + 12) (co + 12) (S.1, r13.2.2.1, S.2.2); (if (bI c) ≠ 0 then (nI (0), (S.1, S15.2.1, S.2.2)) else (let r17 := fareEq_f c (fo) (co + 12) (co + 10) (S.1, S15.2.1, S.2.2); (if (r17.1) ≠ 0 then (let S19 := mul_f c (fo) (co + 8) (co + 8) (co + 17) (S.1, r17.2.2.1, S.2.2); (nI (1), (S.1, S19.2.1, S.2.2))) else (nI (0), (S.1, r17.2.2.1, S.2.2)))))) else (nI (1), (S.1, r13.2.2.1, S.2.2)))))))))) (fun S7 e_S7 => (ft_let (v := mul_f c (fo) (co + 12) (co + 10) (co + 11) (S.1, S7.2.1, S.2.2)) (f := fun S8 => (let S9 := froot_f c (fo) (co + 8) (co + 12) (S.1, S8.2.1, S.2.2); (let S10 := mul_f c (fo) (co + 8) (co + 8) (co + 10) (S.1, S9.2.1, S.2.2); (let S11 := sqr_f c (fo) (co + 12) (co + 8) (S.1, S10.2.1, S.2.2); (let S12 := mul_f c (fo) (co + 12) (co + 12) (co + 11) (S.1, S11.2.1, S.2.2); (let r13 := fareEq_f c (fo) (co + 12) (co + 10) (S.1, S12.2.1, S.2.2); (if (r13.1) = 0 then (let S15 := fneg_f c (co + 12) (co + 12) (S.1, r13.2.2.1, S.2.2); (if (bI c) ≠ 0 then (nI (0), (S.1, S15.2.1, S.2.2)) else (let r17 := fareEq_f c (fo) (co + 12) (co + 10) (S.1, S15.2.1, S.2.2); (if (r17.1) ≠ 0 then (let S19 := mul_f c (fo) (co + 8) (co + 8) (co + 17) (S.1, r17.2.2.1, S.2.2); (nI (1), (S.1, S19.2.1, S.2.2))) else (nI (0), (S.1, r17.2.2.1, S.2.2)))))) else (nI (1), (S.1, r13.2.2.1, S.2.2))))))))) (fun S8 e_S8 => (ft_let (v := froot_f c (fo) (co + 8) (co + 12) (S.1, S8.2.1, S.2.2)) (f := fun S9 => (let S10 := mul_f c (fo) (co + 8) (co + 8) (co + 10) (S.1, S9.2.1, S.2.2); (let S11 := sqr_f c (fo) (co + 12) (co + 8) (S.1, S10.2.1, S.2.2); (let S12 := mul_f c (fo) (co + 12) (co + 12) (co + 11) (S.1, S11.2.1, S.2.2); (let r13 := fareEq_f c (fo) (co + 12) (co + 10) (S.1, S12.2.1, S.2.2); (if (r13.1) = 0 then (let S15 := fneg_f c (co + 12) (co + 12) (S.1, r13.2.2.1, S.2.2); (if (bI c) ≠ 0 then (nI (0), (S.1, S15.2.1, S.2.2)) else (let r17 := fareEq_f c (fo) (co + 12) (co + 10) (S.1, S15.2.1, S.2.2); (if (r17.1) ≠ 0 then (let S19 := mul_f c (fo) (co + 8) (co + 8) (co + 17) (S.1, r17.2.2.1, S.2.2); (nI (1), (S.1, S19.2.1, S.2.2))) else (nI (0), (S.1, r17.2.2.1, S.2.2)))))) else (nI (1), (S.1, r13.2.2.1, S.2.2)))))))) (fun S9 e_S9 => (ft_let (v := mul_f c (fo) (co + 8) (co + 8) (co + 10) (S.1, S9.2.1, S.2.2)) (f := fun S10 => (let S11 := sqr_f c (fo) (co + 12) (co + 8) (S.1, S10.2.1, S.2.2); (let S12 := mul_f c (fo) (co + 12) (co + 12) (co + 11) (S.1, S11.2.1, S.2.2); (let r13 := fareEq_f c (fo) (co + 12) (co + 10) (S.1, S12.2.1, S.2.2); (if (r13.1) = 0 then (let S15 := fneg_f c (co + 12) (co + 12) (S.1, r13.2.2.1, S.2.2); (if (bI c) ≠ 0 then (nI (0), (S.1, S15.2.1, S.2.2)) else (let r17 := fareEq_f c (fo) (co + 12) (co + 10) (S.1, S15.2.1, S.2.2); (if (r17.1) ≠ 0 then (let S19 := mul_f c (fo) (co + 8) (co + 8) (co + 17) (S.1, r17.2.2.1, S.2.2); (nI (1), (S.1, S19.2.1, S.2.2))) else (nI (0), (S.1, r17.2.2.1, S.2.2)))))) else (nI (1), (S.1, r13.2.2.1, S.2.2))))))) (fun S10 e_S10 => (ft_let (v := sqr_f c (fo) (co + 12) (co + 8) (S.1, S10.2.1, S.2.2)) (f := fun S11 => (let S12 := mul_f c (fo) (co + 12) (co + 12) (co + 11) (S.1, S11.2.1, S.2.2); (let r13 := fareEq_f c (fo) (co + 12) (co + 10) (S.1, S12.2.1, S.2.2); (if (r13.1) = 0 then (let S15 := fneg_f c (co + 12) (co + 12) (S.1, r13.2.2.1, S.2.2); (if (bI c) ≠ 0 then (nI (0), (S.1, S15.2.1, S.2.2)) else (let r17 := fareEq_f c (fo) (co + 12) (co + 10) (S.1, S15.2.1, S.2.2); (if (r17.1) ≠ 0 then (let S19 := mul_f c (fo) (co + 8) (co + 8) (co + 17) (S.1, r17.2.2.1, S.2.2); (nI (1), (S.1, S19.2.1, S.2.2))) else (nI (0), (S.1, r17.2.2.1, S.2.2)))))) else (nI (1), (S.1, r13.2.2.1, S.2.2)))))) (fun S11 e_S11 => (ft_let (v := mul_f c (fo) (co + 12) (co + 12) (co + 11) (S.1, S11.2.1, S.2.2)) (f := fun S12 => (let r13 := fareEq_f c (fo) (co + 12) (co + 10) (S.1, S12.2.1, S.2.2); (if (r13.1) = 0 then (let S15 := fneg_f c (co + 12) (co + 12) (S.1, r13.2.2.1, S.2.2); (if (bI c) ≠ 0 then (nI (0), (S.1, S15.2.1, S.2.2)) else (let r17 := fareEq_f c (fo) (co + 12) (co + 10) (S.1, S15.2.1, S.2.2); (if (r17.1) ≠ 0 then (let S19 := mul_f c (fo) (co + 8) (co + 8) (co + 17) (S.1, r17.2.2.1, S.2.2); (nI (1), (S.1, S19.2.1, S.2.2))) else (nI (0), (S.1, r17.2.2.1, S.2.2)))))) else (nI (1), (S.1, r13.2.2.1, S.2.2))))) (fun S12 e_S12 => (ft_let (v := fareEq_f c (fo) (co + 12) (co + 10) (S.1, S12.2.1, S.2.2)) (f := fun r13 => (if (r13.1) = 0 then (let S15 := fneg_f c (co + 12) (co + 12) (S.1, r13.2.2.1, S.2.2); (if (bI c) ≠ 0 then (nI (0), (S.1, S15.2.1, S.2.2)) else (let r17 := fareEq_f c (fo) (co + 12) (co + 10) (S.1, S15.2.1, S.2.2); (if (r17.1) ≠ 0 then (let S19 := mul_f c (fo) (co + 8) (co + 8) (co + 17) (S.1, r17.2.2.1, S.2.2); (nI (1), (S.1, S19.2.1, S.2.2))) else (nI (0), (S.1, r17.2.2.1, S.2.2)))))) else (nI (1), (S.1, r13.2.2.1, S.2.2)))) (fun r13 e_r13 => (ft_ite (ft_let (v := fneg_f c (co + 12) (co + 12) (S.1, r13.2.2.1, S.2.2)) (f := fun S15 => (if (bI c) ≠ 0 then (nI (0), (S.1, S15.2.1, S.2.2)) else (let r17 := fareEq_f c (fo) (co + 12) (co + 10) (S.1, S15.2.1, S.2.2); (if (r17.1) ≠ 0 then (let S19 := mul_f c (fo) (co + 8) (co + 8) (co + 17) (S.1, r17.2.2.1, S.2.2); (nI (1), (S.1, S19.2.1, S.2.2))) else (nI (0), (S.1, r17.2.2.1, S.2.2)))))) (fun S15 e_S15 => (ft_ite rfl (ft_let (v := fareEq_f c (fo) (co + 12) (co + 10) (S.1, S15.2.1, S.2.2)) (f := fun r17 => (if (r17.1) ≠ 0 then (let S19 := mul_f c (fo) (co + 8) (co + 8) (co + 17) (S.1, r17.2.2.1, S.2.2); (nI (1), (S.1, S19.2.1, S.2.2))) else (nI (0), (S.1, r17.2.2.1, S.2.2)))) (fun r17 e_r17 => (ft_ite (ft_let (v := mul_f c (fo) (co + 8) (co + 8) (co + 17) (S.1, r17.2.2.1, S.2.2)) (f := fun S19 => (nI (1), (S.1, S19.2.1, S.2.2))) (fun S19 e_S19 => rfl)) rfl)))))) rfl)))))))))))))))))))))
theorem cfx_I (c : Bool) (co : Nat) (fo : Nat) (S : StT) : (cfx_f c co fo S).2.1 = S.1 := by
  exact (fi_let (v := sqr_f c (fo) (co + 10) (co + 9) S) (f := fun S1 => (let S2 := mul_f c (fo) (co + 11) (co + 10) (co + 19) (S.1, S1.2.1, S.2.2); (let S3 := minus_f c (co + 10) (co + 10) (fo + 1) (S.1, S2.2.1, S.2.2); (let S7 := (if (bI c) = 0 then (let S5 := plus_f c (co + 11) (co + 11) (fo + 1) (S.1, S3.2.1, S.2.2); (S.1, S5.2.1, S.2.2)) else (let S6 := minus_f c (co + 11) (co + 11) (fo + 1) (S.1, S3.2.1, S.2.2); (S.1, S6.2.1, S.2.2))); (let S8 := mul_f c (fo) (co + 12) (co + 10) (co + 11) (S.1, S7.2.1, S.2.2); (let S9 := froot_f c (fo) (co + 8) (co + 12) (S.1, S8.2.1, S.2.2); (let S10 := mul_f c (fo) (co + 8) (co + 8) (co + 10) (S.1, S9.2.1, S.2.2); (let S11 := sqr_f c (fo) (co + 12) (co + 8) (S.1, S10.2.1, S.2.2); (let S12 := mul_f c (fo) (co + 12) (co + 12) (co + 11) (S.1, S11.2.1, S.2.2); (let r13 := fareEq_f c (fo) (co + 12) (co + 10) (S.1, S12.2.1, S.2.2); (if (r13.1) = 0 then (let S15 := fneg_f c (co + 12) (co + 12) (S.1, r13.2.2.1, S.2.2); (if (bI c) ≠ 0 then (nI (0), (S.1, S15.2.1, S.2.2)) else (let r17 := fareEq_f c (fo) (co + 12) (co + 10) (S.1, S15.2.1, S.2.2); (if (r17.1) ≠ 0 then (let S19 := mul_f c (fo) (co + 8) (co + 8) (co + 17) (S.1, r17.2.2.1, S.2.2); (nI (1), (S.1, S19.2.1, S.2.2))) else (nI (0), (S.1, r17.2.2.1, S.2.2)))))) else (nI (1), (S.1, r13.2.2.1, S.2.2))))))))))))) (fun S1 e_S1 => (fi_let (v := mul_f c (fo) (co + 11) (co + 10) (co + 19) (S.1, S1.2.1, S.2.2)) (f := fun S2 => (let S3 := minus_f c (co + 10) (co + 10) (fo + 1) (S.1, S2.2.1, S.2.2); (let S7 := (if (bI c) = 0 then (let S5 := plus_f c (co + 11) (co + 11) (fo + 1) (S.1, S3.2.1, S.2.2); (S.1, S5.2.1, S.2.2)) else (let S6 := minus_f c (co + 11) (co + 11) (fo + 1) (S.1, S3.2.1, S.2.2); (S.1, S6.2.1, S.2.2))); (let S8 := mul_f c (fo) (co + 12) (co + 10) (co + 11) (S.1, S7.2.1, S.2.2); (let S9 := froot_f c (fo) (co + 8) (co + 12) (S.1, S8.2.1, S.2.2); (let S10 := mul_f c (fo) (co + 8) (co + 8) (co + 10) (S.1, S9.2.1, S.2.2); (let S11 := sqr_f c (fo) (co + 12) (co + 8) (S.1, S10.2.1, S.2.2); (let S12 := mul_f c (fo) (co + 12) (co + 12) (co + 11) (S.1, S11.2.1, S.2.2); (let r13 := fareEq_f c (fo) (co + 12) (co + 10) (S.1, S12.2.1, S.2.2); (if (r13.1) = 0 then (let S15 := fneg_f c (co + 12) (co + 12) (S.1, r13.2.2.1, S.2.2); (if (bI c) ≠ 0 then (nI (0), (S.1, S15.2.1, S.2.2)) else (let r17 := fareEq_f c (fo) (co + 12) (co + 10) (S.1, S15.2.1, S.2.2); (if (r17.1) ≠ 0 then (let S19 := mul_f c (fo) (co + 8) (co + 8) (co + 17) (S.1, r17.2.2.1, S.2.2); (nI (1), (S.1, S19.2.1, S.2.2))) else (nI (0), (S.1, r17.2.2.1, S.2.2)))))) else (nI (1), (S.1, r13.2.2.1, S.2.2)))))))))))) (fun S2 e_S2 => (fi_let (v := minus_f c (co + 10) (co + 10) (fo + 1) (S.1, S2.2.1, S.2.2)) (f := fun S3 => (let S7 := (if (bI c) = 0 then (let S5 := plus_f c (co + 11) (co + 11) (fo + 1) (S.1, S3.2.1, S.2.2); (S.1, S5.2.1, S.2.2)) else (let S6 := minus_f c (co + 11) (co + 11) (fo + 1) (S.1, S3.2.1, S.2.2); (S.1, S6.2.1, S.2.2))); (let S8 := mul_f c (fo) (co + 12) (co + 10) (co + 11) (S.1, S7.2.1, S.2.2); (let S9 := froot_f c (fo) (co + 8) (co + 12) (S.1, S8.2.1, S.2.2); (let S10 := mul_f c (fo) (co + 8) (co + 8) (co + 10) (S.1, S9.2.1, S.2.2); (let S11 := sqr_f c (fo) (co + 12) (co + 8) (S.1, S10.2.1, S.2.2); (let S12 := mul_f c (fo) (co + 12) (co + 12) (co + 11) (S.1, S11.2.1, S.2.2); (let r13 := fareEq_f c (fo) (co + 12) (co + 10) (S.1, S12.2.1, S.2.2); (if (r13.1) = 0 then (let S15 := fneg_f c (co + 12) (co + 12) (S.1, r13.2.2.1, S.2.2); (if (bI c) ≠ 0 then (nI (0), (S.1, S15.2.1, S.2.2)) else (let r17 := fareEq_f c (fo) (co + 12) (co + 10) (S.1, S15.2.1, S.2.2); (if (r17.1) ≠ 0 then (let S19 := mul_f c (fo) (co + 8) (co + 8) (co + 17) (S.1, r17.2.2.1, S.2.2); (nI (1), (S.1, S19.2.1, S.2.2))) else (nI (0), (S.1, r17.2.2.1, S.2.2)))))) else (nI (1), (S.1, r13.2.2.1, S.2.2))))))))))) (fun S3 e_S3 => (fi_let (v := (if (bI c) = 0 then (let S5 := plus_f c (co + 11) (co + 11) (fo + 1) (S.1, S3.2.1, S.2.2); (S.1, S5.2.1, S.2.2)) else (let S6 := minus_f c (co + 11) (co + 11) (fo + 1) (S.1, S3.2.1, S.2.2); (S.1, S6.2.1, S.2.2)))) (f := fun S7 => (let S8 := mul_f c (fo) (co + 12) (co + 10) (co + 11) (S.1, S7.2.1, S.2.2); (let S9 := froot_f c (fo) (co + 8) (co + 12) (S.1, S8.2.1, S.2.2); (let S10 := mul_f c (fo) (co + 8) (co + 8) (co + 10) (S.1, S9.2.1, S.2.2); (let S11 := sqr_f c (fo) (co + 12) (co + 8) (S.1, S10.2.1, S.2.2); (let S12 := mul_f c (fo) (co + 12) (co + 12) (co + 11) (S.1, S11.2.1, S.2.2); (let r13 := fareEq_f c (fo) (co + 12) (co + 10) (S.1, S12.2.1, S.2.2); (if (r13.1) = 0 then (let S15 := fneg_f c (co + 12) (co + 12) (S.1, r13.2.2.1, S.2.2); (if (bI c) ≠ 0 then (nI (0), (S.1, S15.2.1, S.2.2)) else (let r17 := fareEq_f c (fo) (co + 12) (co + 10) (S.1, S15.2.1, S.2.2); (if (r17.1) ≠ 0 then (let S19 := mul_f c (fo) (co + 8) (co + 8) (co + 17) (S.1, r17.2.2.1, S.2.2); (nI (1), (S.1, S19.2.1, S.2.2))) else (nI (0), (S.1, r17.2.2.1, S.2.2)))))) else (nI (1), (S.1, r13.2.2.1, S.2.2)))))))))) (fun S7 e_S7 => (fi_let (v := mul_f c (fo) (co + 12) (co + 10) (co + 11) (S.1, S7.2.1, S.2.2)) (f := fun S8 => (let S9 := froot_f c (fo) (co + 8) (co + 12) (S.1, S8.2.1, S.2.2); (let S10 := mul_f c (fo) (co + 8) (co + 8) (co + 10) (S.1, S9.2.1, S.2.2); (let S11 := sqr_f c (fo) (co + 12) (co + 8) (S.1, S10.2.1, S.2.2); (let S12 := mul_f c (fo) (co + 12) (co + 12) (co + 11) (S.1, S11.2.1, S.2.2); (let r13 := fareEq_f c (fo) (co + 12) (co + 10) (S.1, S12.2.1, S.2.2); (if (r13.1) = 0 then (let S15 := fneg_f c (co + 12) (co + 12) (S.1, r13.2.2.1, S.2.2); (if (bI c) ≠ 0 then (nI (0), (S.1, S15.2.1, S.2.2)) else (let r17 := fareEq_f c (fo) (co + 12) (co + 10) (S.1, S15.2.1, S.2.2); (if (r17.1) ≠ 0 then (let S19 := mul_f c (fo) (co + 8) (co + 8) (co + 17) (S.1, r17.2.2.1, S.2.2); (nI (1), (S.1, S19.2.1, S.2.2))) else (nI (0), (S.1, r17.2.2.1, S.2.2)))))) else (nI (1), (S.1, r13.2.2.1, S.2.2))))))))) (fun S8 e_S8 => (fi_let (v := froot_f c (fo) (co + 8) (co + 12) (S.1, S8.2.1, S.2.2)) (f := fun S9 => (let S10 := mul_f c (fo) (co + 8) (co + 8) (co + 10) (S.1, S9.2.1, S.2.2); (let S11 := sqr_f c (fo) (co + 12) (co + 8) (S.1, S10.2.1, S.2.2); (let S12 := mul_f c (fo) (co + 12) (co + 12) (co + 11) (S.1, S11.2.1, S.2.2); (let r13 := fareEq_f c (fo) (co + 12) (co + 10) (S.1, S12.2.1, S.2.2); (if (r13.1) = 0 then (let S15 := fneg_f c (co + 12) (co + 12) (S.1, r13.2.2.1, S.2.2); (if (bI c) ≠ 0 then (nI (0), (S.1, S15.2.1, S.2.2)) else (let r17 := fareEq_f c (fo) (co + 12) (co + 10) (S.1, S15.2.1, S.2.2); (if (r17.1) ≠ 0 then (let S19 := mul_f c (fo) (co + 8) (co + 8) (co + 17) (S.1, r17.2.2.1, S.2.2); (nI (1), (S.1, S19.2.1, S.2.2))) else (nI (0), (S.1, r17.2.2.1, S.2.2)))))) else (nI (1), (S.1, r13.2.2.1, S.2.2)))))))) (fun S9 e_S9 => (fi_let (v := mul_f c (fo) (co + 8) (co + 8) (co + 10) (S.1, S9.2.1, S.2.2)) (f := fun S10 => (let S11 := sqr_f c (fo) (co + 12) (co + 8) (S.1, S10.2.1, S.2.2); (let S12 := mul_f c (fo) (co + 12) (co + 12) (co + 11) (S.1, S11.2.1, S.2.2); (let r13 := fareEq_f c (fo) (co + 12) (co + 10) (S.1, S12.2.1, S.2.2); (if (r13.1) = 0 then (let S15 := fneg_f c (co + 12) (co + 12) (S.1, r13.2.2.1, S.2.2); (if (bI c) ≠ 0 then (nI (0), (S.1, S15.2.1, S.2.2)) else (let r17 := fareEq_f c (fo) (co + 12) (co + 10) (S.1, S15.2.1, S.2.2); (if (r17.1) ≠ 0 then (let S19 := mul_f c (fo) (co + 8) (co + 8) (co + 17) (S.1, r17.2.2.1, S.2.2); (nI (1), (S.1, S19.2.1, S.2.2))) else (nI (0), (S.1, r17.2.2.1, S.2.2)))))) else (nI (1), (S.1, r13.2.2.1, S.2.2))))))) (fun S10 e_S10 => (fi_let (v := sqr_f c (fo) (co + 12) (co + 8) (S.1, S10.2.1, S.2.2)) (f := fun S11 => (let S12 := mul_f c (fo) (co + 12) (co + 12) (co + 11) (S.1, S11.2.1, S.2.2); (let r13 := fareEq_f c (fo) (co + 12) (co + 10) (S.1, S12.2.1, S.2.2); (if (r13.1) = 0 then (let S15 := fneg_f c (co + 12) (co + 12) (S.1, r13.2.2.1, S.2.2); (if (bI c) ≠ 0 then (nI (0), (S.1, S15.2.1, S.2.2)) else (let r17 := fareEq_f c (fo) (co + 12) (co + 10) (S.1, S15.2.1, S.2.2); (if (r17.1) ≠ 0 then (let S19 := mul_f c (fo) (co + 8) (co + 8) (co + 17) (S.1, r17.2.2.1, S.2.2); (nI (1), (S.1, S19.2.1, S.2.2))) else (nI (0), (S.1, r17.2.2.1, S.2.2)))))) else (nI (1), (S.1, r13.2.2.1, S.2.2)))))) (fun S11 e_S11 => (fi_let (v := mul_f c (fo) (co + 12) (co + 12) (co + 11) (S.1, S11.2.1, S.2.2)) (f := fun S12 => (let r13 := fareEq_f c (fo) (co + 12) (co + 10) (S.1, S12.2.1, S.2.2); (if (r13.1) = 0 then (let S15 := fneg_f c (co + 12) (co + 12) (S.1, r13.2.2.1, S.2.2); (if (bI c) ≠ 0 then (nI (0), (S.1, S15.2.1, S.2.2)) else (let r17 := fareEq_f c (fo) (co + 12) (co + 10) (S.1, S15.2.1, S.2.2); (if (r17.1) ≠ 0 then (let S19 := mul_f c (fo) (co + 8) (co + 8) (co + 17) (S.1, r17.2.2.1, S.2.2); (nI (1), (S.1, S19.2.1, S.2.2))) else (nI (0), (S.1, r17.2.2.1, S.2.2)))))) else (nI (1), (S.1, r13.2.2.1, S.2.2))))) (fun S12 e_S12 => (fi_let (v := fareEq_f c (fo) (co + 12) (co + 10) (S.1, S12.2.1, S.2.2)) (f := fun r13 => (if (r13.1) = 0 then (let S15 := fneg_f c (co + 12) (co + 12) (S.1, r13.2.2.1, S.2.2); (if (bI c) ≠ 0 then (nI (0), (S.1, S15.2.1, S.2.2)) else (let r17 := fareEq_f c (fo) (co + 12) (co + 10) (S.1, S15.2.1, S.2.2); (if (r17.1) ≠ 0 then (let S19 := mul_f c (fo) (co + 8) (co + 8) (co + 17) (S.1, r17.2.2.1, S.2.2); (nI (1), (S.1, S19.2.1, S.2.2))) else (nI (0), (S.1, r17.2.2.1, S.2.2)))))) else (nI (1), (S.1, r13.2.2.1, S.2.2)))) (fun r13 e_r13 => (fi_ite (fi_let (v := fneg_f c (co + 12) (co + 12) (S.1, r13.2.2.1, S.2.2)) (f := fun S15 => (if (bI c) ≠ 0 then (nI (0), (S.1, S15.2.1, S.2.2)) else (let r17 := fareEq_f c (fo) (co + 12) (co + 10) (S.1, S15.2.1, S.2.2); (if (r17.1) ≠ 0 then (let S19 := mul_f c (fo) (co + 8) (co + 8) (co + 17) (S.1, r17.2.2.1, S.2.2); (nI (1), (S.1, S19.2.1, S.2.2))) else (nI (0), (S.1, r17.2.2.1, S.2.2)))))) (fun S15 e_S15 => (fi_ite rfl (fi_let (v := fareEq_f c (fo) (co + 12) (co + 10) (S.1, S15.2.1, S.2.2)) (f := fun r17 => (if (r17.1) ≠ 0 then (let S19 := mul_f c (fo) (co + 8) (co + 8) (co + 17) (S.1, r17.2.2.1, S.2.2); (nI (1), (S.1, S19.2.1, S.2.2))) else (nI (0), (S.1, r17.2.2.1, S.2.2)))) (fun r17 e_r17 => (fi_ite (fi_let (v := mul_f c (fo) (co + 8) (co + 8) (co + 17) (S.1, r17.2.2.1, S.2.2)) (f := fun S19 => (nI (1), (S.1, S19.2.1, S.2.2))) (fun S19 e_S19 => rfl)) rfl)))))) rfl)))))))))))))))))))))
set_option maxRecDepth 100000 in
set_option maxHeartbeats 400000 in
theorem c_cfx {k : KX} {L : Nat → Option Sh} {S : StT} {n : Nat} {c : Bool} {co : Nat} {fo : Nat} (hC : CurveAt k L co fo c) :
    Cs k yX1_findX cX1_findX 1 (some .boolean) 4 0 0 [.ref (k_b k + (co))] (inst k L S.1 S.2.1 S.2.2) n (Pi k L n (cfx_f c co fo S)) := by
  refine cs_of (by decide) (Nat.le_of_ble_eq_true rfl) ?_
  intro X hXk C Rt hnm
  subst hXk
  have hC9 := hC
  obtain ⟨hC0, hF, hc1, hc2, hc3, hc4, hc5, hc6, hc7, hc8, hcr, hcd, hct, hff, hdg, hca, hbs, htb⟩ := hC9
  have hF9 := hF
  have hff9 := hff
  obtain ⟨hff0, hff1, hff2, hff3⟩ := hff9
  obtain ⟨hF0, hf1, hf2, hf3, hf4, hf5, hf6, hf7, hf8, hf9⟩ := hF9
  obtain ⟨hl1, hl2⟩ := fL_le c
  obtain ⟨hk1, hk2⟩ := cB_le c
  refine rn_lv [(0, .ref (k_b X.1 + (co)))] (fun q h => h) ?_
  refine rn_aload_n C dX1_findX_0 rfl ?_
  refine rs_get C dX1_findX_1 fl_X1_60 hC0 rfl ?_
  refine rn_aload_n C dX1_findX_4 rfl ?_
  refine rs_get C dX1_findX_5 fl_X1_38 hC0 rfl ?_
  refine rn_aload_n C dX1_findX_8 rfl ?_
  refine rs_get C dX1_findX_9 fl_X1_35 hC0 rfl ?_
  refine rs_vv C dX1_findX_12 mk_X3_square lv_X1_117 (c_sqr hF hc3 hc2) hF0 rfl rfl rfl rfl (by decide) (Nat.le_of_ble_eq_true rfl) (by decide) (by decide) ?_
  rw [show (sqr_f c (fo) (co + 10) (co + 9) S).2.2 = S.2.2 from (sqr_F c (fo) (co + 10) (co + 9) S)]
  rw [show (sqr_f c (fo) (co + 10) (co + 9) S).1 = S.1 from sqr_I c (fo) (co + 10) (co + 9) S]
  generalize hS1 : sqr_f c (fo) (co + 10) (co + 9) S = S1
  refine rn_aload_n C dX1_findX_15 rfl ?_
  refine rs_get C dX1_findX_16 fl_X1_60 hC0 rfl ?_
  refine rn_aload_n C dX1_findX_19 rfl ?_
  refine rs_get C dX1_findX_20 fl_X1_41 hC0 rfl ?_
  refine rn_aload_n C dX1_findX_23 rfl ?_
  refine rs_get C dX1_findX_24 fl_X1_38 hC0 rfl ?_
  refine rn_aload_n C dX1_findX_27 rfl ?_
  refine rs_get C dX1_findX_28 fl_X1_87 hC0 rfl ?_
  refine rs_vv C dX1_findX_31 mk_X3_multiply lv_X1_113 (c_mul (S := (S.1, S1.2.1, S.2.2)) hF hc4 hc3 hcd) hF0 rfl rfl rfl rfl (by decide) (Nat.le_of_ble_eq_true rfl) (by decide) (by decide) ?_
  rw [show (mul_f c (fo) (co + 11) (co + 10) (co + 19) (S.1, S1.2.1, S.2.2)).2.2 = S.2.2 from (mul_F c (fo) (co + 11) (co + 10) (co + 19) (S.1, S1.2.1, S.2.2))]
  rw [show (mul_f c (fo) (co + 11) (co + 10) (co + 19) (S.1, S1.2.1, S.2.2)).1 = S.1 from mul_I c (fo) (co + 11) (co + 10) (co + 19) (S.1, S1.2.1, S.2.2)]
  generalize hS2 : mul_f c (fo) (co + 11) (co + 10) (co + 19) (S.1, S1.2.1, S.2.2) = S2
  refine rn_aload_n C dX1_findX_34 rfl ?_
  refine rs_get C dX1_findX_35 fl_X1_60 hC0 rfl ?_
  refine rn_aload_n C dX1_findX_38 rfl ?_
  refine rs_get C dX1_findX_39 fl_X1_38 hC0 rfl ?_
  refine rn_aload_n C dX1_findX_42 rfl ?_
  refine rs_get C dX1_findX_43 fl_X1_38 hC0 rfl ?_
  refine rn_aload_n C dX1_findX_46 rfl ?_
  refine rs_get C dX1_findX_47 fl_X1_60 hC0 rfl ?_
  refine rs_get C dX1_findX_50 fl_X1_169 hF0 rfl ?_
  refine rs_vv C dX1_findX_53 mk_X3_minus lv_X1_120 (c_minus (S := (S.1, S2.2.1, S.2.2)) hF hc3 hc3 hf1) hF0 rfl rfl rfl rfl (by decide) (Nat.le_of_ble_eq_true rfl) (by decide) (by decide) ?_
  rw [show (minus_f c (co + 10) (co + 10) (fo + 1) (S.1, S2.2.1, S.2.2)).2.2 = S.2.2 from (minus_F c (co + 10) (co + 10) (fo + 1) (S.1, S2.2.1, S.2.2))]
  rw [show (minus_f c (co + 10) (co + 10) (fo + 1) (S.1, S2.2.1, S.2.2)).1 = S.1 from minus_I c (co + 10) (co + 10) (fo + 1) (S.1, S2.2.1, S.2.2)]
  generalize hS3 : minus_f c (co + 10) (co + 10) (fo + 1) (S.1, S2.2.1, S.2.2) = S3
  refine rn_aload_n C dX1_findX_56 rfl ?_
  refine rs_get C dX1_findX_57 fl_X1_56 hC0 rfl ?_
  have K60_7 : Rn X 110 [(0, .ref (k_b X.1 + (co)))] [] (inst X.1 L S.1 (if (bI c) = 0 then (let S5 := plus_f c (co + 11) (co + 11) (fo + 1) (S.1, S3.2.1, S.2.2); (S.1, S5.2.1, S.2.2)) else (let S6 := minus_f c (co + 11) (co + 11) (fo + 1) (S.1, S3.2.1, S.2.2); (S.1, S6.2.1, S.2.2))).2.1 (S.2.2)) n 0 0 := by
    generalize hS7 : (if (bI c) = 0 then (let S5 := plus_f c (co + 11) (co + 11) (fo + 1) (S.1, S3.2.1, S.2.2); (S.1, S5.2.1, S.2.2)) else (let S6 := minus_f c (co + 11) (co + 11) (fo + 1) (S.1, S3.2.1, S.2.2); (S.1, S6.2.1, S.2.2))) = S7
    refine rn_aload_n C dX1_findX_110 rfl ?_
    refine rs_get C dX1_findX_111 fl_X1_60 hC0 rfl ?_
    refine rn_aload_n C dX1_findX_114 rfl ?_
    refine rs_get C dX1_findX_115 fl_X1_44 hC0 rfl ?_
    refine rn_aload_n C dX1_findX_118 rfl ?_
    refine rs_get C dX1_findX_119 fl_X1_38 hC0 rfl ?_
    refine rn_aload_n C dX1_findX_122 rfl ?_
    refine rs_get C dX1_findX_123 fl_X1_41 hC0 rfl ?_
    refine rs_vv C dX1_findX_126 mk_X3_multiply lv_X1_113 (c_mul (S := (S.1, S7.2.1, S.2.2)) hF hc5 hc3 hc4) hF0 rfl rfl rfl rfl (by decide) (Nat.le_of_ble_eq_true rfl) (by decide) (by decide) ?_
    rw [show (mul_f c (fo) (co + 12) (co + 10) (co + 11) (S.1, S7.2.1, S.2.2)).2.2 = S.2.2 from (mul_F c (fo) (co + 12) (co + 10) (co + 11) (S.1, S7.2.1, S.2.2))]
    rw [show (mul_f c (fo) (co + 12) (co + 10) (co + 11) (S.1, S7.2.1, S.2.2)).1 = S.1 from mul_I c (fo) (co + 12) (co + 10) (co + 11) (S.1, S7.2.1, S.2.2)]
    generalize hS8 : mul_f c (fo) (co + 12) (co + 10) (co + 11) (S.1, S7.2.1, S.2.2) = S8
    refine rn_aload_n C dX1_findX_129 rfl ?_
    refine rs_get C dX1_findX_130 fl_X1_60 hC0 rfl ?_
    refine rn_aload_n C dX1_findX_133 rfl ?_
    refine rs_get C dX1_findX_134 fl_X1_31 hC0 rfl ?_
    refine rn_aload_n C dX1_findX_137 rfl ?_
    refine rs_get C dX1_findX_138 fl_X1_44 hC0 rfl ?_
    refine rs_vv C dX1_findX_141 mk_X3_rootPower lv_X1_172 (c_froot (S := (S.1, S8.2.1, S.2.2)) hF hc1 hc5) hF0 rfl rfl rfl rfl (by decide) (Nat.le_of_ble_eq_true rfl) (by decide) (by decide) ?_
    rw [show (froot_f c (fo) (co + 8) (co + 12) (S.1, S8.2.1, S.2.2)).2.2 = S.2.2 from (froot_F c (fo) (co + 8) (co + 12) (S.1, S8.2.1, S.2.2))]
    rw [show (froot_f c (fo) (co + 8) (co + 12) (S.1, S8.2.1, S.2.2)).1 = S.1 from froot_I c (fo) (co + 8) (co + 12) (S.1, S8.2.1, S.2.2)]
    generalize hS9 : froot_f c (fo) (co + 8) (co + 12) (S.1, S8.2.1, S.2.2) = S9
    refine rn_aload_n C dX1_findX_144 rfl ?_
    refine rs_get C dX1_findX_145 fl_X1_60 hC0 rfl ?_
    refine rn_aload_n C dX1_findX_148 rfl ?_
    refine rs_get C dX1_findX_149 fl_X1_31 hC0 rfl ?_
    refine rn_aload_n C dX1_findX_152 rfl ?_
    refine rs_get C dX1_findX_153 fl_X1_31 hC0 rfl ?_
    refine rn_aload_n C dX1_findX_156 rfl ?_
    refine rs_get C dX1_findX_157 fl_X1_38 hC0 rfl ?_
    refine rs_vv C dX1_findX_160 mk_X3_multiply lv_X1_113 (c_mul (S := (S.1, S9.2.1, S.2.2)) hF hc1 hc1 hc3) hF0 rfl rfl rfl rfl (by decide) (Nat.le_of_ble_eq_true rfl) (by decide) (by decide) ?_
    rw [show (mul_f c (fo) (co + 8) (co + 8) (co + 10) (S.1, S9.2.1, S.2.2)).2.2 = S.2.2 from (mul_F c (fo) (co + 8) (co + 8) (co + 10) (S.1, S9.2.1, S.2.2))]
    rw [show (mul_f c (fo) (co + 8) (co + 8) (co + 10) (S.1, S9.2.1, S.2.2)).1 = S.1 from mul_I c (fo) (co + 8) (co + 8) (co + 10) (S.1, S9.2.1, S.2.2)]
    generalize hS10 : mul_f c (fo) (co + 8) (co + 8) (co + 10) (S.1, S9.2.1, S.2.2) = S10
    refine rn_aload_n C dX1_findX_163 rfl ?_
    refine rs_get C dX1_findX_164 fl_X1_60 hC0 rfl ?_
    refine rn_aload_n C dX1_findX_167 rfl ?_
    refine rs_get C dX1_findX_168 fl_X1_44 hC0 rfl ?_
    refine rn_aload_n C dX1_findX_171 rfl ?_
    refine rs_get C dX1_findX_172 fl_X1_31 hC0 rfl ?_
    refine rs_vv C dX1_findX_175 mk_X3_square lv_X1_117 (c_sqr (S := (S.1, S10.2.1, S.2.2)) hF hc5 hc1) hF0 rfl rfl rfl rfl (by decide) (Nat.le_of_ble_eq_true rfl) (by decide) (by decide) ?_
    rw [show (sqr_f c (fo) (co + 12) (co + 8) (S.1, S10.2.1, S.2.2)).2.2 = S.2.2 from (sqr_F c (fo) (co + 12) (co + 8) (S.1, S10.2.1, S.2.2))]
    rw [show (sqr_f c (fo) (co + 12) (co + 8) (S.1, S10.2.1, S.2.2)).1 = S.1 from sqr_I c (fo) (co + 12) (co + 8) (S.1, S10.2.1, S.2.2)]
    generalize hS11 : sqr_f c (fo) (co + 12) (co + 8) (S.1, S10.2.1, S.2.2) = S11
    refine rn_aload_n C dX1_findX_178 rfl ?_
    refine rs_get C dX1_findX_179 fl_X1_60 hC0 rfl ?_
    refine rn_aload_n C dX1_findX_182 rfl ?_
    refine rs_get C dX1_findX_183 fl_X1_44 hC0 rfl ?_
    refine rn_aload_n C dX1_findX_186 rfl ?_
    refine rs_get C dX1_findX_187 fl_X1_44 hC0 rfl ?_
    refine rn_aload_n C dX1_findX_190 rfl ?_
    refine rs_get C dX1_findX_191 fl_X1_41 hC0 rfl ?_
    refine rs_vv C dX1_findX_194 mk_X3_multiply lv_X1_113 (c_mul (S := (S.1, S11.2.1, S.2.2)) hF hc5 hc5 hc4) hF0 rfl rfl rfl rfl (by decide) (Nat.le_of_ble_eq_true rfl) (by decide) (by decide) ?_
    rw [show (mul_f c (fo) (co + 12) (co + 12) (co + 11) (S.1, S11.2.1, S.2.2)).2.2 = S.2.2 from (mul_F c (fo) (co + 12) (co + 12) (co + 11) (S.1, S11.2.1, S.2.2))]
    rw [show (mul_f c (fo) (co + 12) (co + 12) (co + 11) (S.1, S11.2.1, S.2.2)).1 = S.1 from mul_I c (fo) (co + 12) (co + 12) (co + 11) (S.1, S11.2.1, S.2.2)]
    generalize hS12 : mul_f c (fo) (co + 12) (co + 12) (co + 11) (S.1, S11.2.1, S.2.2) = S12
    refine rn_aload_n C dX1_findX_197 rfl ?_
    refine rs_get C dX1_findX_198 fl_X1_60 hC0 rfl ?_
    refine rn_aload_n C dX1_findX_201 rfl ?_
    refine rs_get C dX1_findX_202 fl_X1_44 hC0 rfl ?_
    refine rn_aload_n C dX1_findX_205 rfl ?_
    refine rs_get C dX1_findX_206 fl_X1_38 hC0 rfl ?_
    refine rs_vz C dX1_findX_209 mk_X3_areEqual lv_X1_141 (c_fareEq (S := (S.1, S12.2.1, S.2.2)) hF hc5 hc3) hF0 rfl rfl rfl rfl (by decide) (Nat.le_of_ble_eq_true rfl) (by decide) (by decide) ?_
    rw [show (fareEq_f c (fo) (co + 12) (co + 10) (S.1, S12.2.1, S.2.2)).2.2.2 = S.2.2 from (fareEq_F c (fo) (co + 12) (co + 10) (S.1, S12.2.1, S.2.2))]
    rw [show (fareEq_f c (fo) (co + 12) (co + 10) (S.1, S12.2.1, S.2.2)).2.1 = S.1 from fareEq_I c (fo) (co + 12) (co + 10) (S.1, S12.2.1, S.2.2)]
    generalize hr13 : fareEq_f c (fo) (co + 12) (co + 10) (S.1, S12.2.1, S.2.2) = r13
    refine rn_if_eq (tgt := 217) C dX1_findX_212 (by decide) (fun hb14 => ?_) (fun hb14 => ?_)
    · skip
      refine rn_aload_n C dX1_findX_217 rfl ?_
      refine rs_get C dX1_findX_218 fl_X1_60 hC0 rfl ?_
      refine rn_aload_n C dX1_findX_221 rfl ?_
      refine rs_get C dX1_findX_222 fl_X1_44 hC0 rfl ?_
      refine rn_aload_n C dX1_findX_225 rfl ?_
      refine rs_get C dX1_findX_226 fl_X1_44 hC0 rfl ?_
      refine rs_vv C dX1_findX_229 mk_X3_negate lv_X1_83 (c_fneg (S := (S.1, r13.2.2.1, S.2.2)) hF hc5 hc5) hF0 rfl rfl rfl rfl (by decide) (Nat.le_of_ble_eq_true rfl) (by decide) (by decide) ?_
      rw [show (fneg_f c (co + 12) (co + 12) (S.1, r13.2.2.1, S.2.2)).2.2 = S.2.2 from (fneg_F c (co + 12) (co + 12) (S.1, r13.2.2.1, S.2.2))]
      rw [show (fneg_f c (co + 12) (co + 12) (S.1, r13.2.2.1, S.2.2)).1 = S.1 from fneg_I c (co + 12) (co + 12) (S.1, r13.2.2.1, S.2.2)]
      generalize hS15 : fneg_f c (co + 12) (co + 12) (S.1, r13.2.2.1, S.2.2) = S15
      refine rn_aload_n C dX1_findX_232 rfl ?_
      refine rs_get C dX1_findX_233 fl_X1_56 hC0 rfl ?_
      refine rn_if_ne (tgt := 257) C dX1_findX_236 (by decide) (fun hb16 => ?_) (fun hb16 => ?_)
      · skip
        refine rn_iconst (v := nI 0) C dX1_findX_257 rfl ?_
        have hret : cfx_f c co fo S = (nI (0), (S.1, S15.2.1, S.2.2)) := by
          subst hS15
          subst hr13
          subst hS12
          subst hS11
          subst hS10
          subst hS9
          subst hS8
          subst hS7
          subst hS3
          subst hS2
          subst hS1
          first | (dsimp only [cfx_f]; done) | (dsimp only [cfx_f]; exact ((if_pos hb14).trans (if_pos hb16))) | exact ((if_pos hb14).trans (if_pos hb16))
        exact rn_zret C Rt dX1_findX_258 (by first | rfl | exact rfl) (pi_of hret) (Nat.zero_le _) (Nat.zero_le _)
      · skip
        refine rn_aload_n C dX1_findX_239 rfl ?_
        refine rs_get C dX1_findX_240 fl_X1_60 hC0 rfl ?_
        refine rn_aload_n C dX1_findX_243 rfl ?_
        refine rs_get C dX1_findX_244 fl_X1_44 hC0 rfl ?_
        refine rn_aload_n C dX1_findX_247 rfl ?_
        refine rs_get C dX1_findX_248 fl_X1_38 hC0 rfl ?_
        refine rs_vz C dX1_findX_251 mk_X3_areEqual lv_X1_141 (c_fareEq (S := (S.1, S15.2.1, S.2.2)) hF hc5 hc3) hF0 rfl rfl rfl rfl (by decide) (Nat.le_of_ble_eq_true rfl) (by decide) (by decide) ?_
        rw [show (fareEq_f c (fo) (co + 12) (co + 10) (S.1, S15.2.1, S.2.2)).2.2.2 = S.2.2 from (fareEq_F c (fo) (co + 12) (co + 10) (S.1, S15.2.1, S.2.2))]
        rw [show (fareEq_f c (fo) (co + 12) (co + 10) (S.1, S15.2.1, S.2.2)).2.1 = S.1 from fareEq_I c (fo) (co + 12) (co + 10) (S.1, S15.2.1, S.2.2)]
        generalize hr17 : fareEq_f c (fo) (co + 12) (co + 10) (S.1, S15.2.1, S.2.2) = r17
        refine rn_if_ne (tgt := 259) C dX1_findX_254 (by decide) (fun hb18 => ?_) (fun hb18 => ?_)
        · skip
          refine rn_aload_n C dX1_findX_259 rfl ?_
          refine rs_get C dX1_findX_260 fl_X1_60 hC0 rfl ?_
          refine rn_aload_n C dX1_findX_263 rfl ?_
          refine rs_get C dX1_findX_264 fl_X1_31 hC0 rfl ?_
          refine rn_aload_n C dX1_findX_267 rfl ?_
          refine rs_get C dX1_findX_268 fl_X1_31 hC0 rfl ?_
          refine rn_aload_n C dX1_findX_271 rfl ?_
          refine rs_get C dX1_findX_272 fl_X1_76 hC0 rfl ?_
          refine rs_vv C dX1_findX_275 mk_X3_multiply lv_X1_113 (c_mul (S := (S.1, r17.2.2.1, S.2.2)) hF hc1 hc1 hcr) hF0 rfl rfl rfl rfl (by decide) (Nat.le_of_ble_eq_true rfl) (by decide) (by decide) ?_
          rw [show (mul_f c (fo) (co + 8) (co + 8) (co + 17) (S.1, r17.2.2.1, S.2.2)).2.2 = S.2.2 from (mul_F c (fo) (co + 8) (co + 8) (co + 17) (S.1, r17.2.2.1, S.2.2))]
          rw [show (mul_f c (fo) (co + 8) (co + 8) (co + 17) (S.1, r17.2.2.1, S.2.2)).1 = S.1 from mul_I c (fo) (co + 8) (co + 8) (co + 17) (S.1, r17.2.2.1, S.2.2)]
          generalize hS19 : mul_f c (fo) (co + 8) (co + 8) (co + 17) (S.1, r17.2.2.1, S.2.2) = S19
          refine rn_iconst (v := nI 1) C dX1_findX_278 rfl ?_
          have hret : cfx_f c co fo S = (nI (1), (S.1, S19.2.1, S.2.2)) := by
            subst hS19
            subst hr17
            subst hS15
            subst hr13
            subst hS12
            subst hS11
            subst hS10
            subst hS9
            subst hS8
            subst hS7
            subst hS3
            subst hS2
            subst hS1
            first | (dsimp only [cfx_f]; done) | (dsimp only [cfx_f]; exact (((if_pos hb14).trans (if_neg (fun q => q hb16))).trans (if_pos hb18))) | exact (((if_pos hb14).trans (if_neg (fun q => q hb16))).trans (if_pos hb18))
          exact rn_zret C Rt dX1_findX_279 (by first | rfl | exact rfl) (pi_of hret) (Nat.zero_le _) (Nat.zero_le _)
        · skip
          refine rn_iconst (v := nI 0) C dX1_findX_257 rfl ?_
          have hret : cfx_f c co fo S = (nI (0), (S.1, r17.2.2.1, S.2.2)) := by
            subst hr17
            subst hS15
            subst hr13
            subst hS12
            subst hS11
            subst hS10
            subst hS9
            subst hS8
            subst hS7
            subst hS3
            subst hS2
            subst hS1
            first | (dsimp only [cfx_f]; done) | (dsimp only [cfx_f]; exact (((if_pos hb14).trans (if_neg (fun q => q hb16))).trans (if_neg (fun q => q hb18)))) | exact (((if_pos hb14).trans (if_neg (fun q => q hb16))).trans (if_neg (fun q => q hb18)))
          exact rn_zret C Rt dX1_findX_258 (by first | rfl | exact rfl) (pi_of hret) (Nat.zero_le _) (Nat.zero_le _)
    · skip
      refine rn_iconst (v := nI 1) C dX1_findX_215 rfl ?_
      have hret : cfx_f c co fo S = (nI (1), (S.1, r13.2.2.1, S.2.2)) := by
        subst hr13
        subst hS12
        subst hS11
        subst hS10
        subst hS9
        subst hS8
        subst hS7
        subst hS3
        subst hS2
        subst hS1
        first | (dsimp only [cfx_f]; done) | (dsimp only [cfx_f]; exact (if_neg hb14)) | exact (if_neg hb14)
      exact rn_zret C Rt dX1_findX_216 (by first | rfl | exact rfl) (pi_of hret) (Nat.zero_le _) (Nat.zero_le _)
  refine rn_if_eq (tgt := 88) C dX1_findX_60 (by decide) (fun hb4 => ?_) (fun hb4 => ?_)
  · skip
    refine rn_aload_n C dX1_findX_88 rfl ?_
    refine rs_get C dX1_findX_89 fl_X1_60 hC0 rfl ?_
    refine rn_aload_n C dX1_findX_92 rfl ?_
    refine rs_get C dX1_findX_93 fl_X1_41 hC0 rfl ?_
    refine rn_aload_n C dX1_findX_96 rfl ?_
    refine rs_get C dX1_findX_97 fl_X1_41 hC0 rfl ?_
    refine rn_aload_n C dX1_findX_100 rfl ?_
    refine rs_get C dX1_findX_101 fl_X1_60 hC0 rfl ?_
    refine rs_get C dX1_findX_104 fl_X1_169 hF0 rfl ?_
    refine rs_vv C dX1_findX_107 mk_X3_plus lv_X1_123 (c_plus (S := (S.1, S3.2.1, S.2.2)) hF hc4 hc4 hf1) hF0 rfl rfl rfl rfl (by decide) (Nat.le_of_ble_eq_true rfl) (by decide) (by decide) ?_
    rw [show (plus_f c (co + 11) (co + 11) (fo + 1) (S.1, S3.2.1, S.2.2)).2.2 = S.2.2 from (plus_F c (co + 11) (co + 11) (fo + 1) (S.1, S3.2.1, S.2.2))]
    rw [show (plus_f c (co + 11) (co + 11) (fo + 1) (S.1, S3.2.1, S.2.2)).1 = S.1 from plus_I c (co + 11) (co + 11) (fo + 1) (S.1, S3.2.1, S.2.2)]
    generalize hS5 : plus_f c (co + 11) (co + 11) (fo + 1) (S.1, S3.2.1, S.2.2) = S5
    subst hS5
    rw [if_pos hb4] at K60_7
    exact rn_ks [0] K60_7 rfl
  · skip
    refine rn_aload_n C dX1_findX_63 rfl ?_
    refine rs_get C dX1_findX_64 fl_X1_60 hC0 rfl ?_
    refine rn_aload_n C dX1_findX_67 rfl ?_
    refine rs_get C dX1_findX_68 fl_X1_41 hC0 rfl ?_
    refine rn_aload_n C dX1_findX_71 rfl ?_
    refine rs_get C dX1_findX_72 fl_X1_41 hC0 rfl ?_
    refine rn_aload_n C dX1_findX_75 rfl ?_
    refine rs_get C dX1_findX_76 fl_X1_60 hC0 rfl ?_
    refine rs_get C dX1_findX_79 fl_X1_169 hF0 rfl ?_
    refine rs_vv C dX1_findX_82 mk_X3_minus lv_X1_120 (c_minus (S := (S.1, S3.2.1, S.2.2)) hF hc4 hc4 hf1) hF0 rfl rfl rfl rfl (by decide) (Nat.le_of_ble_eq_true rfl) (by decide) (by decide) ?_
    rw [show (minus_f c (co + 11) (co + 11) (fo + 1) (S.1, S3.2.1, S.2.2)).2.2 = S.2.2 from (minus_F c (co + 11) (co + 11) (fo + 1) (S.1, S3.2.1, S.2.2))]
    rw [show (minus_f c (co + 11) (co + 11) (fo + 1) (S.1, S3.2.1, S.2.2)).1 = S.1 from minus_I c (co + 11) (co + 11) (fo + 1) (S.1, S3.2.1, S.2.2)]
    generalize hS6 : minus_f c (co + 11) (co + 11) (fo + 1) (S.1, S3.2.1, S.2.2) = S6
    refine rn_goto (tgt := 110) C dX1_findX_85 (by decide) ?_
    subst hS6
    rw [if_neg hb4] at K60_7
    exact rn_ks [0] K60_7 rfl
def cdec_s48 (c : Bool) (co : Nat) (fo : Nat) (to : Nat) (nb : Nat) (S3 : StT) (v4 : Nat) (S : StT) : Nat → Nat → Int32 × StT
  | 0, i48 => (let r5 := cfx_f c (co) fo  S; (if (r5.1) = 0 then (nI (0), (S.1, r5.2.2.1, S.2.2)) else (if (nI (v4)) = 0 then (let r8 := fisOdd_f c (fo) (co + 8) (S.1, r5.2.2.1, S.2.2); (let S11 := (if (r8.1) = (nI (v4)) then (S.1, r8.2.2.1, S.2.2) else (let S10 := fneg_f c (co + 8) (co + 8) (S.1, r8.2.2.1, S.2.2); (S.1, S10.2.1, S.2.2))); (let S12 := fcopy_f c (to + 1) (co + 8) (S.1, S11.2.1, S.2.2); (let S13 := fcopy_f c (to + 2) (co + 9) (S.1, S12.2.1, S.2.2); (let S14 := fcopy_f c (to + 3) (fo + 1) (S.1, S13.2.1, S.2.2); (nI (1), (S.1, S14.2.1, S.2.2))))))) else (let r15 := fisZero_f c (fo) (co + 8) (S.1, r5.2.2.1, S.2.2); (if (r15.1) = 0 then (let r17 := fisOdd_f c (fo) (co + 8) (S.1, r15.2.2.1, S.2.2); (let S20 := (if (r17.1) = (nI (v4)) then (S.1, r17.2.2.1, S.2.2) else (let S19 := fneg_f c (co + 8) (co + 8) (S.1, r17.2.2.1, S.2.2); (S.1, S19.2.1, S.2.2))); (let S21 := fcopy_f c (to + 1) (co + 8) (S.1, S20.2.1, S.2.2); (let S22 := fcopy_f c (to + 2) (co + 9) (S.1, S21.2.1, S.2.2); (let S23 := fcopy_f c (to + 3) (fo + 1) (S.1, S22.2.1, S.2.2); (nI (1), (S.1, S23.2.1, S.2.2))))))) else (nI (0), (S.1, r15.2.2.1, S.2.2)))))))
  | f48 + 1, i48 => (if (S.1 (co + 7) (i48)) = (S.1 (nb) (i48)) then cdec_s48 c co fo to nb S3 v4 (S3.1, S3.2.1, S.2.2) f48 (i48 + 1) else (nI (0), S))
def cdec_f (c : Bool) (co : Nat) (fo : Nat) (to : Nat) (nb : Nat) (S : StT) : Int32 × StT := (let S2 := fread_f c (co + 9) (nb) S; (let S3 := cwc_f c (co) fo (co + 7) (co + 9) (nI ((if (S.1 (nb) (cB c - 1)) < (nI (128)) then 0 else 1))) (S.1, S2.2.1, S.2.2); (let v4 := (if (S.1 (nb) (cB c - 1)) < (nI (128)) then 0 else 1); cdec_s48 c co fo to nb S3 v4 (S3.1, S3.2.1, S.2.2) (cB c) 0)))
set_option maxRecDepth 100000 in
set_option maxHeartbeats 400000 in
theorem c_cdec {k : KX} {L : Nat → Option Sh} {S : StT} {n : Nat} {c : Bool} {co : Nat} {fo : Nat} {to : Nat} {nb : Nat} {m : Nat} (hC : CurveAt k L co fo c) (hto : PtAt k L to) (hnb : L nb = some (sI m)) (hm : m < 2 ^ 31) (hm2 : 57 ≤ m) :
    Cs k yX1_decode cX1_decode 5 (some .boolean) 5 0 0 [.ref (k_b k + (co)), .ref (k_b k + (to)), .ref (k_b k + (nb))] (inst k L S.1 S.2.1 S.2.2) n (Pi k L n (cdec_f c co fo to nb S)) := by
  refine cs_of (by decide) (Nat.le_of_ble_eq_true rfl) ?_
  intro X hXk C Rt hnm
  subst hXk
  have hC9 := hC
  obtain ⟨hC0, hF, hc1, hc2, hc3, hc4, hc5, hc6, hc7, hc8, hcr, hcd, hct, hff, hdg, hca, hbs, htb⟩ := hC9
  have hF9 := hF
  have hff9 := hff
  obtain ⟨hff0, hff1, hff2, hff3⟩ := hff9
  obtain ⟨hF0, hf1, hf2, hf3, hf4, hf5, hf6, hf7, hf8, hf9⟩ := hF9
  obtain ⟨hl1, hl2⟩ := fL_le c
  obtain ⟨hk1, hk2⟩ := cB_le c
  have hto9 := hto
  obtain ⟨hto0, hto1, hto2, hto3⟩ := hto9
  refine rn_lv [(0, .ref (k_b X.1 + (co))), (1, .ref (k_b X.1 + (to))), (2, .ref (k_b X.1 + (nb)))] (fun q h => h) ?_
  refine rn_aload_n C dX1_decode_0 rfl ?_
  refine rn_aload_n C dX1_decode_1 rfl ?_
  refine rs_get C dX1_decode_2 fl_X1_64 hC0 rfl ?_
  refine rn_iconst (v := nI 1) C dX1_decode_5 rfl ?_
  refine rn_isub C dX1_decode_6 (pk_sub (by omega)) ?_
  refine rs_iaload C dX1_decode_7 hnb rfl (by omega) hm ?_
  refine rn_sipush (v := nI 128) C dX1_decode_8 rfl ?_
  have K11_1 : Rn X 19 [(0, .ref (k_b X.1 + (co))), (1, .ref (k_b X.1 + (to))), (2, .ref (k_b X.1 + (nb)))] [.int (nI ((if (S.1 (nb) (cB c - 1)) < (nI (128)) then 0 else 1)))] (inst X.1 L S.1 S.2.1 S.2.2) n 0 0 := by
    refine rn_istore_n (lv' := [(0, _), (1, _), (2, _), (3, _)]) C dX1_decode_19 (by decide) rfl ?_
    refine rn_aload_n C dX1_decode_20 rfl ?_
    refine rs_get C dX1_decode_21 fl_X1_60 hC0 rfl ?_
    refine rn_aload_n C dX1_decode_24 rfl ?_
    refine rs_get C dX1_decode_25 fl_X1_35 hC0 rfl ?_
    refine rn_aload_n C dX1_decode_28 rfl ?_
    refine rs_vv C dX1_decode_29 mk_X3_read lv_X1_161 (c_fread hF hc2 hnb hm (by omega)) hF0 rfl rfl rfl rfl (by decide) (Nat.le_of_ble_eq_true rfl) (by decide) (by decide) ?_
    rw [show (fread_f c (co + 9) (nb) S).2.2 = S.2.2 from (fread_F c (co + 9) (nb) S)]
    rw [show (fread_f c (co + 9) (nb) S).1 = S.1 from fread_I c (co + 9) (nb) S]
    generalize hS2 : fread_f c (co + 9) (nb) S = S2
    refine rn_aload_n C dX1_decode_32 rfl ?_
    refine rn_aload_n C dX1_decode_33 rfl ?_
    refine rs_get C dX1_decode_34 fl_X1_26 hC0 rfl ?_
    refine rn_aload_n C dX1_decode_37 rfl ?_
    refine rs_get C dX1_decode_38 fl_X1_35 hC0 rfl ?_
    refine rn_iload_n C dX1_decode_41 rfl ?_
    refine rs_vv C dX1_decode_42 mk_X1_writeCode lv_X1_157 (c_cwc (S := (S.1, S2.2.1, S.2.2)) hC hca (by decide) (by omega) hc2) hC0 rfl rfl rfl rfl (by decide) (Nat.le_of_ble_eq_true rfl) (by decide) (by decide) ?_
    rw [show (cwc_f c (co) fo (co + 7) (co + 9) (nI ((if (S.1 (nb) (cB c - 1)) < (nI (128)) then 0 else 1))) (S.1, S2.2.1, S.2.2)).2.2 = S.2.2 from (cwc_F c (co) fo (co + 7) (co + 9) (nI ((if (S.1 (nb) (cB c - 1)) < (nI (128)) then 0 else 1))) (S.1, S2.2.1, S.2.2))]
    generalize hS3 : cwc_f c (co) fo (co + 7) (co + 9) (nI ((if (S.1 (nb) (cB c - 1)) < (nI (128)) then 0 else 1))) (S.1, S2.2.1, S.2.2) = S3
    refine rn_iconst (v := nI 0) C dX1_decode_45 rfl ?_
    refine rn_istore (lv' := [(0, _), (1, _), (2, _), (3, _), (4, _)]) C dX1_decode_46 (by decide) rfl ?_
    have lp48 : ∀ i48, i48 ≤ (cB c) → (cdec_s48 c co fo to nb S3 (if (S.1 (nb) (cB c - 1)) < (nI (128)) then 0 else 1) (S3.1, S3.2.1, S.2.2) (cB c) 0 = cdec_s48 c co fo to nb S3 (if (S.1 (nb) (cB c - 1)) < (nI (128)) then 0 else 1) (S3.1, S3.2.1, S.2.2) ((cB c) - i48) i48) → Rn X 48 [(0, .ref (k_b X.1 + (co))), (1, .ref (k_b X.1 + (to))), (2, .ref (k_b X.1 + (nb))), (3, .int (nI ((if (S.1 (nb) (cB c - 1)) < (nI (128)) then 0 else 1)))), (4, .int (nI (i48)))] [] (inst X.1 L S3.1 S3.2.1 S.2.2) n 0 0 := by
      refine upto _ _ (fun he48 => ?_) (fun i48 hi48 ih48 he48 => ?_)
      · skip
        rw [Nat.sub_self] at he48
        refine rn_iload C dX1_decode_48 rfl ?_
        refine rn_aload_n C dX1_decode_50 rfl ?_
        refine rs_get C dX1_decode_51 fl_X1_64 hC0 rfl ?_
        refine rs_ge (tgt := 79) C dX1_decode_54 (by decide) rfl rfl (by omega) (by omega) (fun _ => ?_) (fun q => absurd q (by omega))
        refine rn_aload_n C dX1_decode_79 rfl ?_
        refine rs_vz C dX1_decode_80 mk_X1_findX lv_X1_165 (c_cfx (S := (S3.1, S3.2.1, S.2.2)) hC ) hC0 rfl rfl rfl rfl (by decide) (Nat.le_of_ble_eq_true rfl) (by decide) (by decide) ?_
        rw [show (cfx_f c (co) fo  (S3.1, S3.2.1, S.2.2)).2.2.2 = S.2.2 from (cfx_F c (co) fo  (S3.1, S3.2.1, S.2.2))]
        rw [show (cfx_f c (co) fo  (S3.1, S3.2.1, S.2.2)).2.1 = (S3.1, S3.2.1, S.2.2).1 from cfx_I c (co) fo  (S3.1, S3.2.1, S.2.2)]
        generalize hr5 : cfx_f c (co) fo  (S3.1, S3.2.1, S.2.2) = r5
        refine rn_if_eq (tgt := 104) C dX1_decode_83 (by decide) (fun hb6 => ?_) (fun hb6 => ?_)
        · skip
          refine rn_iconst (v := nI 0) C dX1_decode_104 rfl ?_
          subst hr5
          subst hS3
          subst hS2
          exact rn_zret C Rt dX1_decode_105 (by first | rfl | exact rfl) (pi_of ((he48).trans (if_pos hb6))) (Nat.zero_le _) (Nat.zero_le _)
        · skip
          refine rn_iload_n C dX1_decode_86 rfl ?_
          refine rn_if_eq (tgt := 106) C dX1_decode_87 (by decide) (fun hb7 => ?_) (fun hb7 => ?_)
          · skip
            refine rn_aload_n C dX1_decode_106 rfl ?_
            refine rs_get C dX1_decode_107 fl_X1_60 hC0 rfl ?_
            refine rn_aload_n C dX1_decode_110 rfl ?_
            refine rs_get C dX1_decode_111 fl_X1_31 hC0 rfl ?_
            refine rs_vz C dX1_decode_114 mk_X3_isOdd lv_X1_154 (c_fisOdd (S := ((S3.1, S3.2.1, S.2.2).1, r5.2.2.1, S.2.2)) hF hc1) hF0 rfl rfl rfl rfl (by decide) (Nat.le_of_ble_eq_true rfl) (by decide) (by decide) ?_
            rw [show (fisOdd_f c (fo) (co + 8) ((S3.1, S3.2.1, S.2.2).1, r5.2.2.1, S.2.2)).2.2.2 = S.2.2 from (fisOdd_F c (fo) (co + 8) ((S3.1, S3.2.1, S.2.2).1, r5.2.2.1, S.2.2))]
            rw [show (fisOdd_f c (fo) (co + 8) ((S3.1, S3.2.1, S.2.2).1, r5.2.2.1, S.2.2)).2.1 = (S3.1, S3.2.1, S.2.2).1 from fisOdd_I c (fo) (co + 8) ((S3.1, S3.2.1, S.2.2).1, r5.2.2.1, S.2.2)]
            generalize hr8 : fisOdd_f c (fo) (co + 8) ((S3.1, S3.2.1, S.2.2).1, r5.2.2.1, S.2.2) = r8
            refine rn_iload_n C dX1_decode_117 rfl ?_
            have K118_11 : Rn X 136 [(0, .ref (k_b X.1 + (co))), (1, .ref (k_b X.1 + (to))), (2, .ref (k_b X.1 + (nb))), (3, .int (nI ((if (S.1 (nb) (cB c - 1)) < (nI (128)) then 0 else 1)))), (4, .int (nI ((cB c))))] [] (inst X.1 L (S3.1, S3.2.1, S.2.2).1 (if (r8.1) = (nI ((if (S.1 (nb) (cB c - 1)) < (nI (128)) then 0 else 1))) then ((S3.1, S3.2.1, S.2.2).1, r8.2.2.1, S.2.2) else (let S10 := fneg_f c (co + 8) (co + 8) ((S3.1, S3.2.1, S.2.2).1, r8.2.2.1, S.2.2); ((S3.1, S3.2.1, S.2.2).1, S10.2.1, S.2.2))).2.1 (S.2.2)) n 0 0 := by
              generalize hS11 : (if (r8.1) = (nI ((if (S.1 (nb) (cB c - 1)) < (nI (128)) then 0 else 1))) then ((S3.1, S3.2.1, S.2.2).1, r8.2.2.1, S.2.2) else (let S10 := fneg_f c (co + 8) (co + 8) ((S3.1, S3.2.1, S.2.2).1, r8.2.2.1, S.2.2); ((S3.1, S3.2.1, S.2.2).1, S10.2.1, S.2.2))) = S11
              refine rn_aload_n C dX1_decode_136 rfl ?_
              refine rs_get C dX1_decode_137 fl_X1_60 hC0 rfl ?_
              refine rn_aload_n C dX1_decode_140 rfl ?_
              refine rs_get C dX1_decode_141 fl_X1_90 hto0 rfl ?_
              refine rn_aload_n C dX1_decode_144 rfl ?_
              refine rs_get C dX1_decode_145 fl_X1_31 hC0 rfl ?_
              refine rs_vv C dX1_decode_148 mk_X3_copy lv_X1_97 (c_fcopy (S := ((S3.1, S3.2.1, S.2.2).1, S11.2.1, S.2.2)) hF hto1 hc1) hF0 rfl rfl rfl rfl (by decide) (Nat.le_of_ble_eq_true rfl) (by decide) (by decide) ?_
              rw [show (fcopy_f c (to + 1) (co + 8) ((S3.1, S3.2.1, S.2.2).1, S11.2.1, S.2.2)).2.2 = S.2.2 from (fcopy_F c (to + 1) (co + 8) ((S3.1, S3.2.1, S.2.2).1, S11.2.1, S.2.2))]
              rw [show (fcopy_f c (to + 1) (co + 8) ((S3.1, S3.2.1, S.2.2).1, S11.2.1, S.2.2)).1 = (S3.1, S3.2.1, S.2.2).1 from fcopy_I c (to + 1) (co + 8) ((S3.1, S3.2.1, S.2.2).1, S11.2.1, S.2.2)]
              generalize hS12 : fcopy_f c (to + 1) (co + 8) ((S3.1, S3.2.1, S.2.2).1, S11.2.1, S.2.2) = S12
              refine rn_aload_n C dX1_decode_151 rfl ?_
              refine rs_get C dX1_decode_152 fl_X1_60 hC0 rfl ?_
              refine rn_aload_n C dX1_decode_155 rfl ?_
              refine rs_get C dX1_decode_156 fl_X1_100 hto0 rfl ?_
              refine rn_aload_n C dX1_decode_159 rfl ?_
              refine rs_get C dX1_decode_160 fl_X1_35 hC0 rfl ?_
              refine rs_vv C dX1_decode_163 mk_X3_copy lv_X1_97 (c_fcopy (S := ((S3.1, S3.2.1, S.2.2).1, S12.2.1, S.2.2)) hF hto2 hc2) hF0 rfl rfl rfl rfl (by decide) (Nat.le_of_ble_eq_true rfl) (by decide) (by decide) ?_
              rw [show (fcopy_f c (to + 2) (co + 9) ((S3.1, S3.2.1, S.2.2).1, S12.2.1, S.2.2)).2.2 = S.2.2 from (fcopy_F c (to + 2) (co + 9) ((S3.1, S3.2.1, S.2.2).1, S12.2.1, S.2.2))]
              rw [show (fcopy_f c (to + 2) (co + 9) ((S3.1, S3.2.1, S.2.2).1, S12.2.1, S.2.2)).1 = (S3.1, S3.2.1, S.2.2).1 from fcopy_I c (to + 2) (co + 9) ((S3.1, S3.2.1, S.2.2).1, S12.2.1, S.2.2)]
              generalize hS13 : fcopy_f c (to + 2) (co + 9) ((S3.1, S3.2.1, S.2.2).1, S12.2.1, S.2.2) = S13
              refine rn_aload_n C dX1_decode_166 rfl ?_
              refine rs_get C dX1_decode_167 fl_X1_60 hC0 rfl ?_
              refine rn_aload_n C dX1_decode_170 rfl ?_
              refine rs_get C dX1_decode_171 fl_X1_110 hto0 rfl ?_
              refine rn_aload_n C dX1_decode_174 rfl ?_
              refine rs_get C dX1_decode_175 fl_X1_60 hC0 rfl ?_
              refine rs_get C dX1_decode_178 fl_X1_169 hF0 rfl ?_
              refine rs_vv C dX1_decode_181 mk_X3_copy lv_X1_97 (c_fcopy (S := ((S3.1, S3.2.1, S.2.2).1, S13.2.1, S.2.2)) hF hto3 hf1) hF0 rfl rfl rfl rfl (by decide) (Nat.le_of_ble_eq_true rfl) (by decide) (by decide) ?_
              rw [show (fcopy_f c (to + 3) (fo + 1) ((S3.1, S3.2.1, S.2.2).1, S13.2.1, S.2.2)).2.2 = S.2.2 from (fcopy_F c (to + 3) (fo + 1) ((S3.1, S3.2.1, S.2.2).1, S13.2.1, S.2.2))]
              rw [show (fcopy_f c (to + 3) (fo + 1) ((S3.1, S3.2.1, S.2.2).1, S13.2.1, S.2.2)).1 = (S3.1, S3.2.1, S.2.2).1 from fcopy_I c (to + 3) (fo + 1) ((S3.1, S3.2.1, S.2.2).1, S13.2.1, S.2.2)]
              generalize hS14 : fcopy_f c (to + 3) (fo + 1) ((S3.1, S3.2.1, S.2.2).1, S13.2.1, S.2.2) = S14
              refine rn_iconst (v := nI 1) C dX1_decode_184 rfl ?_
              subst hS14
              subst hS13
              subst hS12
              subst hS11
              subst hr8
              subst hr5
              subst hS3
              subst hS2
              exact rn_zret C Rt dX1_decode_185 (by first | rfl | exact rfl) (pi_of (((he48).trans (if_neg hb6)).trans (if_pos hb7))) (Nat.zero_le _) (Nat.zero_le _)
            refine rn_icmp_eq (tgt := 136) C dX1_decode_118 (by decide) (fun hb9 => ?_) (fun hb9 => ?_)
            · skip
              rw [if_pos hb9] at K118_11
              exact rn_ks [0, 1, 2, 3, 4] K118_11 rfl
            · skip
              refine rn_aload_n C dX1_decode_121 rfl ?_
              refine rs_get C dX1_decode_122 fl_X1_60 hC0 rfl ?_
              refine rn_aload_n C dX1_decode_125 rfl ?_
              refine rs_get C dX1_decode_126 fl_X1_31 hC0 rfl ?_
              refine rn_aload_n C dX1_decode_129 rfl ?_
              refine rs_get C dX1_decode_130 fl_X1_31 hC0 rfl ?_
              refine rs_vv C dX1_decode_133 mk_X3_negate lv_X1_83 (c_fneg (S := ((S3.1, S3.2.1, S.2.2).1, r8.2.2.1, S.2.2)) hF hc1 hc1) hF0 rfl rfl rfl rfl (by decide) (Nat.le_of_ble_eq_true rfl) (by decide) (by decide) ?_
              rw [show (fneg_f c (co + 8) (co + 8) ((S3.1, S3.2.1, S.2.2).1, r8.2.2.1, S.2.2)).2.2 = S.2.2 from (fneg_F c (co + 8) (co + 8) ((S3.1, S3.2.1, S.2.2).1, r8.2.2.1, S.2.2))]
              rw [show (fneg_f c (co + 8) (co + 8) ((S3.1, S3.2.1, S.2.2).1, r8.2.2.1, S.2.2)).1 = (S3.1, S3.2.1, S.2.2).1 from fneg_I c (co + 8) (co + 8) ((S3.1, S3.2.1, S.2.2).1, r8.2.2.1, S.2.2)]
              generalize hS10 : fneg_f c (co + 8) (co + 8) ((S3.1, S3.2.1, S.2.2).1, r8.2.2.1, S.2.2) = S10
              subst hS10
              rw [if_neg hb9] at K118_11
              exact rn_ks [0, 1, 2, 3, 4] K118_11 rfl
          · skip
            refine rn_aload_n C dX1_decode_90 rfl ?_
            refine rs_get C dX1_decode_91 fl_X1_60 hC0 rfl ?_
            refine rn_aload_n C dX1_decode_94 rfl ?_
            refine rs_get C dX1_decode_95 fl_X1_31 hC0 rfl ?_
            refine rs_vz C dX1_decode_98 mk_X3_isZero lv_X1_137 (c_fisZero (S := ((S3.1, S3.2.1, S.2.2).1, r5.2.2.1, S.2.2)) hF hc1) hF0 rfl rfl rfl rfl (by decide) (Nat.le_of_ble_eq_true rfl) (by decide) (by decide) ?_
            rw [show (fisZero_f c (fo) (co + 8) ((S3.1, S3.2.1, S.2.2).1, r5.2.2.1, S.2.2)).2.2.2 = S.2.2 from (fisZero_F c (fo) (co + 8) ((S3.1, S3.2.1, S.2.2).1, r5.2.2.1, S.2.2))]
            rw [show (fisZero_f c (fo) (co + 8) ((S3.1, S3.2.1, S.2.2).1, r5.2.2.1, S.2.2)).2.1 = (S3.1, S3.2.1, S.2.2).1 from fisZero_I c (fo) (co + 8) ((S3.1, S3.2.1, S.2.2).1, r5.2.2.1, S.2.2)]
            generalize hr15 : fisZero_f c (fo) (co + 8) ((S3.1, S3.2.1, S.2.2).1, r5.2.2.1, S.2.2) = r15
            refine rn_if_eq (tgt := 106) C dX1_decode_101 (by decide) (fun hb16 => ?_) (fun hb16 => ?_)
            · skip
              refine rn_aload_n C dX1_decode_106 rfl ?_
              refine rs_get C dX1_decode_107 fl_X1_60 hC0 rfl ?_
              refine rn_aload_n C dX1_decode_110 rfl ?_
              refine rs_get C dX1_decode_111 fl_X1_31 hC0 rfl ?_
              refine rs_vz C dX1_decode_114 mk_X3_isOdd lv_X1_154 (c_fisOdd (S := ((S3.1, S3.2.1, S.2.2).1, r15.2.2.1, S.2.2)) hF hc1) hF0 rfl rfl rfl rfl (by decide) (Nat.le_of_ble_eq_true rfl) (by decide) (by decide) ?_
              rw [show (fisOdd_f c (fo) (co + 8) ((S3.1, S3.2.1, S.2.2).1, r15.2.2.1, S.2.2)).2.2.2 = S.2.2 from (fisOdd_F c (fo) (co + 8) ((S3.1, S3.2.1, S.2.2).1, r15.2.2.1, S.2.2))]
              rw [show (fisOdd_f c (fo) (co + 8) ((S3.1, S3.2.1, S.2.2).1, r15.2.2.1, S.2.2)).2.1 = (S3.1, S3.2.1, S.2.2).1 from fisOdd_I c (fo) (co + 8) ((S3.1, S3.2.1, S.2.2).1, r15.2.2.1, S.2.2)]
              generalize hr17 : fisOdd_f c (fo) (co + 8) ((S3.1, S3.2.1, S.2.2).1, r15.2.2.1, S.2.2) = r17
              refine rn_iload_n C dX1_decode_117 rfl ?_
              have K118_20 : Rn X 136 [(0, .ref (k_b X.1 + (co))), (1, .ref (k_b X.1 + (to))), (2, .ref (k_b X.1 + (nb))), (3, .int (nI ((if (S.1 (nb) (cB c - 1)) < (nI (128)) then 0 else 1)))), (4, .int (nI ((cB c))))] [] (inst X.1 L (S3.1, S3.2.1, S.2.2).1 (if (r17.1) = (nI ((if (S.1 (nb) (cB c - 1)) < (nI (128)) then 0 else 1))) then ((S3.1, S3.2.1, S.2.2).1, r17.2.2.1, S.2.2) else (let S19 := fneg_f c (co + 8) (co + 8) ((S3.1, S3.2.1, S.2.2).1, r17.2.2.1, S.2.2); ((S3.1, S3.2.1, S.2.2).1, S19.2.1, S.2.2))).2.1 (S.2.2)) n 0 0 := by
                generalize hS20 : (if (r17.1) = (nI ((if (S.1 (nb) (cB c - 1)) < (nI (128)) then 0 else 1))) then ((S3.1, S3.2.1, S.2.2).1, r17.2.2.1, S.2.2) else (let S19 := fneg_f c (co + 8) (co + 8) ((S3.1, S3.2.1, S.2.2).1, r17.2.2.1, S.2.2); ((S3.1, S3.2.1, S.2.2).1, S19.2.1, S.2.2))) = S20
                refine rn_aload_n C dX1_decode_136 rfl ?_
                refine rs_get C dX1_decode_137 fl_X1_60 hC0 rfl ?_
                refine rn_aload_n C dX1_decode_140 rfl ?_
                refine rs_get C dX1_decode_141 fl_X1_90 hto0 rfl ?_
                refine rn_aload_n C dX1_decode_144 rfl ?_
                refine rs_get C dX1_decode_145 fl_X1_31 hC0 rfl ?_
                refine rs_vv C dX1_decode_148 mk_X3_copy lv_X1_97 (c_fcopy (S := ((S3.1, S3.2.1, S.2.2).1, S20.2.1, S.2.2)) hF hto1 hc1) hF0 rfl rfl rfl rfl (by decide) (Nat.le_of_ble_eq_true rfl) (by decide) (by decide) ?_
                rw [show (fcopy_f c (to + 1) (co + 8) ((S3.1, S3.2.1, S.2.2).1, S20.2.1, S.2.2)).2.2 = S.2.2 from (fcopy_F c (to + 1) (co + 8) ((S3.1, S3.2.1, S.2.2).1, S20.2.1, S.2.2))]
                rw [show (fcopy_f c (to + 1) (co + 8) ((S3.1, S3.2.1, S.2.2).1, S20.2.1, S.2.2)).1 = (S3.1, S3.2.1, S.2.2).1 from fcopy_I c (to + 1) (co + 8) ((S3.1, S3.2.1, S.2.2).1, S20.2.1, S.2.2)]
                generalize hS21 : fcopy_f c (to + 1) (co + 8) ((S3.1, S3.2.1, S.2.2).1, S20.2.1, S.2.2) = S21
                refine rn_aload_n C dX1_decode_151 rfl ?_
                refine rs_get C dX1_decode_152 fl_X1_60 hC0 rfl ?_
                refine rn_aload_n C dX1_decode_155 rfl ?_
                refine rs_get C dX1_decode_156 fl_X1_100 hto0 rfl ?_
                refine rn_aload_n C dX1_decode_159 rfl ?_
                refine rs_get C dX1_decode_160 fl_X1_35 hC0 rfl ?_
                refine rs_vv C dX1_decode_163 mk_X3_copy lv_X1_97 (c_fcopy (S := ((S3.1, S3.2.1, S.2.2).1, S21.2.1, S.2.2)) hF hto2 hc2) hF0 rfl rfl rfl rfl (by decide) (Nat.le_of_ble_eq_true rfl) (by decide) (by decide) ?_
                rw [show (fcopy_f c (to + 2) (co + 9) ((S3.1, S3.2.1, S.2.2).1, S21.2.1, S.2.2)).2.2 = S.2.2 from (fcopy_F c (to + 2) (co + 9) ((S3.1, S3.2.1, S.2.2).1, S21.2.1, S.2.2))]
                rw [show (fcopy_f c (to + 2) (co + 9) ((S3.1, S3.2.1, S.2.2).1, S21.2.1, S.2.2)).1 = (S3.1, S3.2.1, S.2.2).1 from fcopy_I c (to + 2) (co + 9) ((S3.1, S3.2.1, S.2.2).1, S21.2.1, S.2.2)]
                generalize hS22 : fcopy_f c (to + 2) (co + 9) ((S3.1, S3.2.1, S.2.2).1, S21.2.1, S.2.2) = S22
                refine rn_aload_n C dX1_decode_166 rfl ?_
                refine rs_get C dX1_decode_167 fl_X1_60 hC0 rfl ?_
                refine rn_aload_n C dX1_decode_170 rfl ?_
                refine rs_get C dX1_decode_171 fl_X1_110 hto0 rfl ?_
                refine rn_aload_n C dX1_decode_174 rfl ?_
                refine rs_get C dX1_decode_175 fl_X1_60 hC0 rfl ?_
                refine rs_get C dX1_decode_178 fl_X1_169 hF0 rfl ?_
                refine rs_vv C dX1_decode_181 mk_X3_copy lv_X1_97 (c_fcopy (S := ((S3.1, S3.2.1, S.2.2).1, S22.2.1, S.2.2)) hF hto3 hf1) hF0 rfl rfl rfl rfl (by decide) (Nat.le_of_ble_eq_true rfl) (by decide) (by decide) ?_
                rw [show (fcopy_f c (to + 3) (fo + 1) ((S3.1, S3.2.1, S.2.2).1, S22.2.1, S.2.2)).2.2 = S.2.2 from (fcopy_F c (to + 3) (fo + 1) ((S3.1, S3.2.1, S.2.2).1, S22.2.1, S.2.2))]
                rw [show (fcopy_f c (to + 3) (fo + 1) ((S3.1, S3.2.1, S.2.2).1, S22.2.1, S.2.2)).1 = (S3.1, S3.2.1, S.2.2).1 from fcopy_I c (to + 3) (fo + 1) ((S3.1, S3.2.1, S.2.2).1, S22.2.1, S.2.2)]
                generalize hS23 : fcopy_f c (to + 3) (fo + 1) ((S3.1, S3.2.1, S.2.2).1, S22.2.1, S.2.2) = S23
                refine rn_iconst (v := nI 1) C dX1_decode_184 rfl ?_
                subst hS23
                subst hS22
                subst hS21
                subst hS20
                subst hr17
                subst hr15
                subst hr5
                subst hS3
                subst hS2
                exact rn_zret C Rt dX1_decode_185 (by first | rfl | exact rfl) (pi_of ((((he48).trans (if_neg hb6)).trans (if_neg hb7)).trans (if_pos hb16))) (Nat.zero_le _) (Nat.zero_le _)
              refine rn_icmp_eq (tgt := 136) C dX1_decode_118 (by decide) (fun hb18 => ?_) (fun hb18 => ?_)
              · skip
                rw [if_pos hb18] at K118_20
                exact rn_ks [0, 1, 2, 3, 4] K118_20 rfl
              · skip
                refine rn_aload_n C dX1_decode_121 rfl ?_
                refine rs_get C dX1_decode_122 fl_X1_60 hC0 rfl ?_
                refine rn_aload_n C dX1_decode_125 rfl ?_
                refine rs_get C dX1_decode_126 fl_X1_31 hC0 rfl ?_
                refine rn_aload_n C dX1_decode_129 rfl ?_
                refine rs_get C dX1_decode_130 fl_X1_31 hC0 rfl ?_
                refine rs_vv C dX1_decode_133 mk_X3_negate lv_X1_83 (c_fneg (S := ((S3.1, S3.2.1, S.2.2).1, r17.2.2.1, S.2.2)) hF hc1 hc1) hF0 rfl rfl rfl rfl (by decide) (Nat.le_of_ble_eq_true rfl) (by decide) (by decide) ?_
                rw [show (fneg_f c (co + 8) (co + 8) ((S3.1, S3.2.1, S.2.2).1, r17.2.2.1, S.2.2)).2.2 = S.2.2 from (fneg_F c (co + 8) (co + 8) ((S3.1, S3.2.1, S.2.2).1, r17.2.2.1, S.2.2))]
                rw [show (fneg_f c (co + 8) (co + 8) ((S3.1, S3.2.1, S.2.2).1, r17.2.2.1, S.2.2)).1 = (S3.1, S3.2.1, S.2.2).1 from fneg_I c (co + 8) (co + 8) ((S3.1, S3.2.1, S.2.2).1, r17.2.2.1, S.2.2)]
                generalize hS19 : fneg_f c (co + 8) (co + 8) ((S3.1, S3.2.1, S.2.2).1, r17.2.2.1, S.2.2) = S19
                subst hS19
                rw [if_neg hb18] at K118_20
                exact rn_ks [0, 1, 2, 3, 4] K118_20 rfl
            · skip
              refine rn_iconst (v := nI 0) C dX1_decode_104 rfl ?_
              subst hr15
              subst hr5
              subst hS3
              subst hS2
              exact rn_zret C Rt dX1_decode_105 (by first | rfl | exact rfl) (pi_of ((((he48).trans (if_neg hb6)).trans (if_neg hb7)).trans (if_neg hb16))) (Nat.zero_le _) (Nat.zero_le _)
      · skip
        have hq48 : cdec_s48 c co fo to nb S3 (if (S.1 (nb) (cB c - 1)) < (nI (128)) then 0 else 1) (S3.1, S3.2.1, S.2.2) (cB c) 0 = cdec_s48 c co fo to nb S3 (if (S.1 (nb) (cB c - 1)) < (nI (128)) then 0 else 1) (S3.1, S3.2.1, S.2.2) ((cB c) - (i48 + 1) + 1) i48 := by rw [show (cB c) - (i48 + 1) + 1 = (cB c) - i48 from by omega]; exact he48
        refine rn_iload C dX1_decode_48 rfl ?_
        refine rn_aload_n C dX1_decode_50 rfl ?_
        refine rs_get C dX1_decode_51 fl_X1_64 hC0 rfl ?_
        refine rs_ge (tgt := 79) C dX1_decode_54 (by decide) rfl rfl (by omega) (by omega) (fun q => absurd q (by omega)) (fun _ => ?_)
        refine rn_aload_n C dX1_decode_57 rfl ?_
        refine rs_get C dX1_decode_58 fl_X1_26 hC0 rfl ?_
        refine rn_iload C dX1_decode_61 rfl ?_
        refine rs_iaload C dX1_decode_63 hca rfl (by omega) (by decide) ?_
        refine rn_aload_n C dX1_decode_64 rfl ?_
        refine rn_iload C dX1_decode_65 rfl ?_
        refine rs_iaload C dX1_decode_67 hnb rfl (by omega) hm ?_
        refine rn_icmp_eq (tgt := 73) C dX1_decode_68 (by decide) (fun hb24 => ?_) (fun hb24 => ?_)
        · skip
          refine rn_iinc (lv' := [(0, _), (1, _), (2, _), (3, _), (4, _)]) C dX1_decode_73 rfl (nI_inc _) (by decide) rfl ?_
          refine rn_goto (tgt := 48) C dX1_decode_76 (by decide) ?_
          exact rn_ks [0, 1, 2, 3, 4] (ih48 ((hq48).trans (if_pos hb24))) rfl
        · skip
          refine rn_iconst (v := nI 0) C dX1_decode_71 rfl ?_
          subst hS3
          subst hS2
          exact rn_zret C Rt dX1_decode_72 (by first | rfl | exact rfl) (pi_of ((hq48).trans (if_neg hb24))) (Nat.zero_le _) (Nat.zero_le _)
    exact lp48 0 (Nat.zero_le _) rfl
  refine rn_icmp_lt (tgt := 18) C dX1_decode_11 (by decide) (fun hb1 => ?_) (fun hb1 => ?_)
  · skip
    refine rn_iconst (v := nI 0) C dX1_decode_18 rfl ?_
    rw [if_pos hb1] at K11_1
    exact K11_1
  · skip
    refine rn_iconst (v := nI 1) C dX1_decode_14 rfl ?_
    refine rn_goto (tgt := 19) C dX1_decode_15 (by decide) ?_
    rw [if_neg hb1] at K11_1
    exact K11_1
def cwalk0_f (c : Bool) (co : Nat) (fo : Nat) (to : Nat) (cnt : Nat) (S : StT) : StT := (let S1 := ccopy_f c (co) fo (to) (co + 28 + 4 * (0)) S; (S.1, S1.2.1, S.2.2))
theorem cwalk0_F (c : Bool) (co : Nat) (fo : Nat) (to : Nat) (cnt : Nat) (S : StT) : (cwalk0_f c co fo to cnt S).2.2 = S.2.2 := by
  unfold cwalk0_f; first | rfl | ((repeat' split) <;> rfl) | (dsimp only; (repeat' split) <;> rfl)
theorem cwalk0_I (c : Bool) (co : Nat) (fo : Nat) (to : Nat) (cnt : Nat) (S : StT) : (cwalk0_f c co fo to cnt S).1 = S.1 := by
  unfold cwalk0_f; first | rfl | ((repeat' split) <;> rfl)
set_option maxRecDepth 100000 in
set_option maxHeartbeats 400000 in
theorem c_cwalk0 {k : KX} {L : Nat → Option Sh} {S : StT} {n : Nat} {c : Bool} {co : Nat} {fo : Nat} {to : Nat} {cnt : Nat} {wd : Nat} (hC : CurveAt k L co fo c) (hto : PtAt k L to) (hcnt : cnt ≤ 228) (hz : ∀ j, j < cnt → S.1 (co + 6) j = nI 0) :
    Cs k yX1_walk cX1_walk 7 none 3 0 0 [.ref (k_b k + (co)), .ref (k_b k + (to)), .int (nI (cnt)), .int (nI (wd))] (inst k L S.1 S.2.1 S.2.2) n (Pv k L n (cwalk0_f c co fo to cnt S)) := by
  refine cs_of (by decide) (Nat.le_of_ble_eq_true rfl) ?_
  intro X hXk C Rt hnm
  subst hXk
  have hC9 := hC
  obtain ⟨hC0, hF, hc1, hc2, hc3, hc4, hc5, hc6, hc7, hc8, hcr, hcd, hct, hff, hdg, hca, hbs, htb⟩ := hC9
  have hF9 := hF
  have hff9 := hff
  obtain ⟨hff0, hff1, hff2, hff3⟩ := hff9
  obtain ⟨hF0, hf1, hf2, hf3, hf4, hf5, hf6, hf7, hf8, hf9⟩ := hF9
  obtain ⟨hl1, hl2⟩ := fL_le c
  obtain ⟨hk1, hk2⟩ := cB_le c
  have hto9 := hto
  obtain ⟨hto0, hto1, hto2, hto3⟩ := hto9
  refine rn_lv [(0, .ref (k_b X.1 + (co))), (1, .ref (k_b X.1 + (to))), (2, .int (nI (cnt))), (3, .int (nI (wd)))] (fun q h => h) ?_
  refine rn_iload_n C dX1_walk_0 rfl ?_
  refine rn_istore (lv' := [(0, _), (1, _), (2, _), (3, _), (4, _)]) C dX1_walk_1 (by decide) rfl ?_
  have lp3 : ∀ i3, i3 ≤ cnt → Rn X 3 [(0, .ref (k_b X.1 + (co))), (1, .ref (k_b X.1 + (to))), (2, .int (nI (cnt))), (3, .int (nI (wd))), (4, .int (nI (cnt - i3)))] [] (inst X.1 L S.1 S.2.1 S.2.2) n 0 0 := by
    refine upto _ _ ?_ (fun i3 hi3 ih3 => ?_)
    · skip
      refine rn_iload C dX1_walk_3 rfl ?_
      refine rn_if_le (tgt := 26) C dX1_walk_5 (by decide) (fun _ => ?_) (fun qq_ => absurd (nI_le0 (by omega)) qq_)
      refine rn_aload_n C dX1_walk_26 rfl ?_
      refine rn_aload_n C dX1_walk_27 rfl ?_
      refine rn_aload_n C dX1_walk_28 rfl ?_
      refine rs_get C dX1_walk_29 fl_X1_13 hC0 rfl ?_
      refine rn_iload C dX1_walk_32 rfl ?_
      refine rn_if_le (tgt := 49) C dX1_walk_34 (by decide) (fun hb => ?_) (fun hb => absurd (nI_le0 (by omega)) hb)
      refine rn_iconst (v := nI 0) C dX1_walk_49 rfl ?_
      refine rs_aaload C dX1_walk_50 hct rfl rfl (by omega) (by decide) (if_pos (by omega)) ?_
      refine rs_vv C dX1_walk_51 mk_X1_copy lv_X1_145 (c_ccopy hC hto (htb (0) (by omega))) hC0 rfl rfl rfl rfl (by decide) (Nat.le_of_ble_eq_true rfl) (by decide) (by decide) ?_
      rw [show (ccopy_f c (co) fo (to) (co + 28 + 4 * (0)) S).2.2 = S.2.2 from (ccopy_F c (co) fo (to) (co + 28 + 4 * (0)) S)]
      rw [show (ccopy_f c (co) fo (to) (co + 28 + 4 * (0)) S).1 = S.1 from ccopy_I c (co) fo (to) (co + 28 + 4 * (0)) S]
      generalize hS1 : ccopy_f c (co) fo (to) (co + 28 + 4 * (0)) S = S1
      refine rn_iload C dX1_walk_54 rfl ?_
      refine rn_iconst (v := nI 2) C dX1_walk_56 rfl ?_
      refine rn_isub C dX1_walk_57 (by rw [Nat.sub_self]) ?_
      refine rn_istore (lv' := [(0, _), (1, _), (2, _), (3, _), (4, _), (5, _)]) C dX1_walk_58 (by decide) rfl ?_
      refine rn_iload C dX1_walk_60 rfl ?_
      refine rn_if_lt (tgt := 120) C dX1_walk_62 (by decide) (fun hb => ?_) (fun hb => absurd (by decide) hb)
      have hret : cwalk0_f c co fo to cnt S = (S.1, S1.2.1, S.2.2) := by
        subst hS1
        first | (dsimp only [cwalk0_f]; done) | (dsimp only [cwalk0_f]; exact rfl) | exact rfl
      exact rn_vret C Rt dX1_walk_120 (pv_of hret) (Nat.zero_le _) (Nat.zero_le _)
    · skip
      refine rn_iload C dX1_walk_3 rfl ?_
      refine rn_if_le (tgt := 26) C dX1_walk_5 (by decide) (fun qq_ => absurd qq_ (nI_nle0 (by omega) (by omega))) (fun _ => ?_)
      refine rn_aload_n C dX1_walk_8 rfl ?_
      refine rs_get C dX1_walk_9 fl_X1_22 hC0 rfl ?_
      refine rn_iload C dX1_walk_12 rfl ?_
      refine rn_iconst (v := nI 1) C dX1_walk_14 rfl ?_
      refine rn_isub C dX1_walk_15 (pk_sub (by omega)) ?_
      refine rs_iaload C dX1_walk_16 hdg rfl (by omega) (by decide) ?_
      rw [show S.1 (co + 6) (cnt - i3 - 1) = nI (0) from (hz _ (by omega))]
      refine rn_if_ne (tgt := 26) C dX1_walk_17 (by decide) (fun hb => absurd (show (nI (0)) = 0 from by decide) hb) (fun _ => ?_)
      refine rn_iinc (lv' := [(0, _), (1, _), (2, _), (3, _), (4, _)]) C dX1_walk_20 rfl (nI_decs (by omega)) (by decide) rfl ?_
      refine rn_goto (tgt := 3) C dX1_walk_23 (by decide) ?_
      exact rn_ks [0, 1, 2, 3, 4] ih3 rfl
  exact lp3 0 (Nat.zero_le _)
def cwalk1_l68 (c : Bool) (co : Nat) (fo : Nat) (to : Nat) (S : StT)  : Nat → (Nat → Nat → Int64)
  | 0 => S.2.1
  | i68 + 1 => let y68_0 := (cwalk1_l68 c co fo to S i68); (let S4 := ctwice_f c (co) fo (to) (to) (S.1, y68_0, S.2.2); S4.2.1)
def cwalk1_l60 (c : Bool) (co : Nat) (fo : Nat) (to : Nat) (wd : Nat) (lf : Nat) (dg : Nat → Nat) (S : StT)  : Nat → (Nat → Nat → Int64)
  | 0 => S.2.1
  | i60 + 1 => let y60_0 := (cwalk1_l60 c co fo to wd lf dg S i60); (if (nI (dg (lf - 1 - 1 - i60))) = 0 then (cwalk1_l68 c co fo to (S.1, y60_0, S.2.2) wd) else (let S3 := csum_f c (co) fo (to) (to) (co + 28 + 4 * (dg (lf - 1 - 1 - i60))) (S.1, (cwalk1_l68 c co fo to (S.1, y60_0, S.2.2) wd), S.2.2); S3.2.1))
def cwalk1_f (c : Bool) (co : Nat) (fo : Nat) (to : Nat) (wd : Nat) (lf : Nat) (dg : Nat → Nat) (S : StT) : StT := (let S1 := ccopy_f c (co) fo (to) (co + 28 + 4 * (dg (lf - 1))) S; (S.1, (cwalk1_l60 c co fo to wd lf dg (S.1, S1.2.1, S.2.2) (lf - 1)), S.2.2))
theorem cwalk1_F (c : Bool) (co : Nat) (fo : Nat) (to : Nat) (wd : Nat) (lf : Nat) (dg : Nat → Nat) (S : StT) : (cwalk1_f c co fo to wd lf dg S).2.2 = S.2.2 := by
  unfold cwalk1_f; first | rfl | ((repeat' split) <;> rfl) | (dsimp only; (repeat' split) <;> rfl)
theorem cwalk1_I (c : Bool) (co : Nat) (fo : Nat) (to : Nat) (wd : Nat) (lf : Nat) (dg : Nat → Nat) (S : StT) : (cwalk1_f c co fo to wd lf dg S).1 = S.1 := by
  unfold cwalk1_f; first | rfl | ((repeat' split) <;> rfl)
set_option maxRecDepth 100000 in
set_option maxHeartbeats 400000 in
theorem c_cwalk1 {k : KX} {L : Nat → Option Sh} {S : StT} {n : Nat} {c : Bool} {co : Nat} {fo : Nat} {to : Nat} {cnt : Nat} {wd : Nat} {lf : Nat} {dg : Nat → Nat} (hC : CurveAt k L co fo c) (hto : PtAt k L to) (hcnt : cnt ≤ 228) (hwd : wd ≤ 4) (hlf1 : 1 ≤ lf) (hlf : lf ≤ cnt) (hz : ∀ j, lf ≤ j → j < cnt → S.1 (co + 6) j = nI 0) (hd : ∀ j, j < lf → S.1 (co + 6) j = nI (dg j) ∧ dg j < 16) (hnz : dg (lf - 1) ≠ 0) :
    Cs k yX1_walk cX1_walk 7 none 3 0 0 [.ref (k_b k + (co)), .ref (k_b k + (to)), .int (nI (cnt)), .int (nI (wd))] (inst k L S.1 S.2.1 S.2.2) n (Pv k L n (cwalk1_f c co fo to wd lf dg S)) := by
  refine cs_of (by decide) (Nat.le_of_ble_eq_true rfl) ?_
  intro X hXk C Rt hnm
  subst hXk
  have hC9 := hC
  obtain ⟨hC0, hF, hc1, hc2, hc3, hc4, hc5, hc6, hc7, hc8, hcr, hcd, hct, hff, hdg, hca, hbs, htb⟩ := hC9
  have hF9 := hF
  have hff9 := hff
  obtain ⟨hff0, hff1, hff2, hff3⟩ := hff9
  obtain ⟨hF0, hf1, hf2, hf3, hf4, hf5, hf6, hf7, hf8, hf9⟩ := hF9
  obtain ⟨hl1, hl2⟩ := fL_le c
  obtain ⟨hk1, hk2⟩ := cB_le c
  have hto9 := hto
  obtain ⟨hto0, hto1, hto2, hto3⟩ := hto9
  have hdt := (hd (lf - 1) (by omega)).2
  refine rn_lv [(0, .ref (k_b X.1 + (co))), (1, .ref (k_b X.1 + (to))), (2, .int (nI (cnt))), (3, .int (nI (wd)))] (fun q h => h) ?_
  refine rn_iload_n C dX1_walk_0 rfl ?_
  refine rn_istore (lv' := [(0, _), (1, _), (2, _), (3, _), (4, _)]) C dX1_walk_1 (by decide) rfl ?_
  have lp3 : ∀ i3, i3 ≤ cnt - lf → Rn X 3 [(0, .ref (k_b X.1 + (co))), (1, .ref (k_b X.1 + (to))), (2, .int (nI (cnt))), (3, .int (nI (wd))), (4, .int (nI (cnt - i3)))] [] (inst X.1 L S.1 S.2.1 S.2.2) n 0 0 := by
    refine upto _ _ ?_ (fun i3 hi3 ih3 => ?_)
    · skip
      rw [show nI (cnt - (cnt - lf)) = nI (lf) from nI_is (by omega)]
      refine rn_iload C dX1_walk_3 rfl ?_
      refine rn_if_le (tgt := 26) C dX1_walk_5 (by decide) (fun qq_ => absurd qq_ (nI_nle0 (by omega) (by omega))) (fun _ => ?_)
      refine rn_aload_n C dX1_walk_8 rfl ?_
      refine rs_get C dX1_walk_9 fl_X1_22 hC0 rfl ?_
      refine rn_iload C dX1_walk_12 rfl ?_
      refine rn_iconst (v := nI 1) C dX1_walk_14 rfl ?_
      refine rn_isub C dX1_walk_15 (pk_sub (by omega)) ?_
      refine rs_iaload C dX1_walk_16 hdg rfl (by omega) (by decide) ?_
      refine rn_if_ne (tgt := 26) C dX1_walk_17 (by decide) (fun _ => ?_) (fun qq_ => absurd qq_ (by rw [(hd _ (by omega)).1]; exact nI_nz (by omega) hnz))
      refine rn_aload_n C dX1_walk_26 rfl ?_
      refine rn_aload_n C dX1_walk_27 rfl ?_
      refine rn_aload_n C dX1_walk_28 rfl ?_
      refine rs_get C dX1_walk_29 fl_X1_13 hC0 rfl ?_
      refine rn_iload C dX1_walk_32 rfl ?_
      refine rn_if_le (tgt := 49) C dX1_walk_34 (by decide) (fun hb => absurd hb (nI_nle0 (by omega) (by omega))) (fun hb => ?_)
      refine rn_aload_n C dX1_walk_37 rfl ?_
      refine rs_get C dX1_walk_38 fl_X1_22 hC0 rfl ?_
      refine rn_iload C dX1_walk_41 rfl ?_
      refine rn_iconst (v := nI 1) C dX1_walk_43 rfl ?_
      refine rn_isub C dX1_walk_44 (pk_sub (by omega)) ?_
      refine rs_iaload C dX1_walk_45 hdg rfl (by omega) (by decide) ?_
      rw [show S.1 (co + 6) (lf - 1) = nI (dg (lf - 1)) from (hd _ (by omega)).1]
      refine rn_goto (tgt := 50) C dX1_walk_46 (by decide) ?_
      refine rs_aaload C dX1_walk_50 hct rfl rfl (by omega) (by decide) (if_pos (by omega)) ?_
      refine rs_vv C dX1_walk_51 mk_X1_copy lv_X1_145 (c_ccopy hC hto (htb (dg (lf - 1)) (by omega))) hC0 rfl rfl rfl rfl (by decide) (Nat.le_of_ble_eq_true rfl) (by decide) (by decide) ?_
      rw [show (ccopy_f c (co) fo (to) (co + 28 + 4 * (dg (lf - 1))) S).2.2 = S.2.2 from (ccopy_F c (co) fo (to) (co + 28 + 4 * (dg (lf - 1))) S)]
      rw [show (ccopy_f c (co) fo (to) (co + 28 + 4 * (dg (lf - 1))) S).1 = S.1 from ccopy_I c (co) fo (to) (co + 28 + 4 * (dg (lf - 1))) S]
      generalize hS1 : ccopy_f c (co) fo (to) (co + 28 + 4 * (dg (lf - 1))) S = S1
      refine rn_iload C dX1_walk_54 rfl ?_
      refine rn_iconst (v := nI 2) C dX1_walk_56 rfl ?_
      refine rn_isub C dX1_walk_57 (dn_sub2 (by omega)) ?_
      refine rn_istore (lv' := [(0, _), (1, _), (2, _), (3, _), (4, _), (5, _)]) C dX1_walk_58 (by decide) rfl ?_
      have lp60 : ∀ i60, i60 ≤ lf - 1 → Rn X 60 [(0, .ref (k_b X.1 + (co))), (1, .ref (k_b X.1 + (to))), (2, .int (nI (cnt))), (3, .int (nI (wd))), (4, .int (nI (lf))), (5, .int (dn ((lf - 1) - i60)))] [] (inst X.1 L S.1 (cwalk1_l60 c co fo to wd lf dg (S.1, S1.2.1, S.2.2) i60) S.2.2) n 0 0 := by
        refine upto _ _ ?_ (fun i60 hi60 ih60 => ?_)
        · skip
          rw [dn_end]
          refine rn_iload C dX1_walk_60 rfl ?_
          refine rn_if_lt (tgt := 120) C dX1_walk_62 (by decide) (fun _ => ?_) (fun q => absurd (by decide) q)
          have hret : cwalk1_f c co fo to wd lf dg S = (S.1, (cwalk1_l60 c co fo to wd lf dg (S.1, S1.2.1, S.2.2) (lf - 1)), S.2.2) := by
            subst hS1
            first | (dsimp only [cwalk1_f]; done) | (dsimp only [cwalk1_f]; exact rfl) | exact rfl
          exact rn_vret C Rt dX1_walk_120 (pv_of hret) (Nat.zero_le _) (Nat.zero_le _)
        · skip
          have hdi := (hd (lf - 1 - 1 - i60) (by omega)).2
          rw [dn_at hi60]
          refine rn_iload C dX1_walk_60 rfl ?_
          refine rs_lt0 (tgt := 120) C dX1_walk_62 (by decide) rfl (by omega) ?_
          refine rn_iconst (v := nI 0) C dX1_walk_65 rfl ?_
          refine rn_istore (lv' := [(0, _), (1, _), (2, _), (3, _), (4, _), (5, _), (6, _)]) C dX1_walk_66 (by decide) rfl ?_
          have lp68 : ∀ i68, i68 ≤ wd → Rn X 68 [(0, .ref (k_b X.1 + (co))), (1, .ref (k_b X.1 + (to))), (2, .int (nI (cnt))), (3, .int (nI (wd))), (4, .int (nI (lf))), (5, .int (nI ((lf - 1) - 1 - i60))), (6, .int (nI (i68)))] [] (inst X.1 L (S.1, S1.2.1, S.2.2).1 (cwalk1_l68 c co fo to ((S.1, S1.2.1, S.2.2).1, (cwalk1_l60 c co fo to wd lf dg (S.1, S1.2.1, S.2.2) i60), S.2.2) i68) S.2.2) n 0 0 := by
            refine upto _ _ ?_ (fun i68 hi68 ih68 => ?_)
            · skip
              refine rn_iload C dX1_walk_68 rfl ?_
              refine rn_iload_n C dX1_walk_70 rfl ?_
              refine rs_ge (tgt := 86) C dX1_walk_71 (by decide) rfl rfl (by omega) (by omega) (fun _ => ?_) (fun q => absurd q (by omega))
              refine rn_aload_n C dX1_walk_86 rfl ?_
              refine rs_get C dX1_walk_87 fl_X1_22 hC0 rfl ?_
              refine rn_iload C dX1_walk_90 rfl ?_
              refine rs_iaload C dX1_walk_92 hdg rfl (by omega) (by decide) ?_
              rw [show (S.1, S1.2.1, S.2.2).1 (co + 6) ((lf - 1) - 1 - i60) = nI (dg (lf - 1 - 1 - i60)) from (hd _ (by omega)).1]
              refine rn_if_eq (tgt := 114) C dX1_walk_93 (by decide) (fun hb2 => ?_) (fun hb2 => ?_)
              · skip
                refine rn_iinc (lv' := [(0, _), (1, _), (2, _), (3, _), (4, _), (5, _), (6, _)]) C dX1_walk_114 rfl (dn_dec hi60) (by decide) rfl ?_
                refine rn_goto (tgt := 60) C dX1_walk_117 (by decide) ?_
                have he60 : cwalk1_l60 c co fo to wd lf dg (S.1, S1.2.1, S.2.2) (i60 + 1) = (cwalk1_l68 c co fo to ((S.1, S1.2.1, S.2.2).1, (cwalk1_l60 c co fo to wd lf dg (S.1, S1.2.1, S.2.2) i60), S.2.2) wd) := by
                  first | (dsimp only [cwalk1_l60]; done) | (dsimp only [cwalk1_l60]; exact (if_pos hb2)) | exact (if_pos hb2)
                rw [he60] at ih60
                exact rn_ks [0, 1, 2, 3, 4, 5] ih60 rfl
              · skip
                refine rn_aload_n C dX1_walk_96 rfl ?_
                refine rn_aload_n C dX1_walk_97 rfl ?_
                refine rn_aload_n C dX1_walk_98 rfl ?_
                refine rn_aload_n C dX1_walk_99 rfl ?_
                refine rs_get C dX1_walk_100 fl_X1_13 hC0 rfl ?_
                refine rn_aload_n C dX1_walk_103 rfl ?_
                refine rs_get C dX1_walk_104 fl_X1_22 hC0 rfl ?_
                refine rn_iload C dX1_walk_107 rfl ?_
                refine rs_iaload C dX1_walk_109 hdg rfl (by omega) (by decide) ?_
                rw [show (S.1, S1.2.1, S.2.2).1 (co + 6) ((lf - 1) - 1 - i60) = nI (dg (lf - 1 - 1 - i60)) from (hd _ (by omega)).1]
                refine rs_aaload C dX1_walk_110 hct rfl rfl (by omega) (by decide) (if_pos (by omega)) ?_
                refine rs_vv C dX1_walk_111 mk_X1_sum lv_X1_179 (c_csum (S := ((S.1, S1.2.1, S.2.2).1, (cwalk1_l68 c co fo to ((S.1, S1.2.1, S.2.2).1, (cwalk1_l60 c co fo to wd lf dg (S.1, S1.2.1, S.2.2) i60), S.2.2) wd), S.2.2)) hC hto hto (htb (dg (lf - 1 - 1 - i60)) (by omega))) hC0 rfl rfl rfl rfl (by decide) (Nat.le_of_ble_eq_true rfl) (by decide) (by decide) ?_
                rw [show (csum_f c (co) fo (to) (to) (co + 28 + 4 * (dg (lf - 1 - 1 - i60))) ((S.1, S1.2.1, S.2.2).1, (cwalk1_l68 c co fo to ((S.1, S1.2.1, S.2.2).1, (cwalk1_l60 c co fo to wd lf dg (S.1, S1.2.1, S.2.2) i60), S.2.2) wd), S.2.2)).2.2 = S.2.2 from (csum_F c (co) fo (to) (to) (co + 28 + 4 * (dg (lf - 1 - 1 - i60))) ((S.1, S1.2.1, S.2.2).1, (cwalk1_l68 c co fo to ((S.1, S1.2.1, S.2.2).1, (cwalk1_l60 c co fo to wd lf dg (S.1, S1.2.1, S.2.2) i60), S.2.2) wd), S.2.2))]
                rw [show (csum_f c (co) fo (to) (to) (co + 28 + 4 * (dg (lf - 1 - 1 - i60))) ((S.1, S1.2.1, S.2.2).1, (cwalk1_l68 c co fo to ((S.1, S1.2.1, S.2.2).1, (cwalk1_l60 c co fo to wd lf dg (S.1, S1.2.1, S.2.2) i60), S.2.2) wd), S.2.2)).1 = (S.1, S1.2.1, S.2.2).1 from csum_I c (co) fo (to) (to) (co + 28 + 4 * (dg (lf - 1 - 1 - i60))) ((S.1, S1.2.1, S.2.2).1, (cwalk1_l68 c co fo to ((S.1, S1.2.1, S.2.2).1, (cwalk1_l60 c co fo to wd lf dg (S.1, S1.2.1, S.2.2) i60), S.2.2) wd), S.2.2)]
                generalize hS3 : csum_f c (co) fo (to) (to) (co + 28 + 4 * (dg (lf - 1 - 1 - i60))) ((S.1, S1.2.1, S.2.2).1, (cwalk1_l68 c co fo to ((S.1, S1.2.1, S.2.2).1, (cwalk1_l60 c co fo to wd lf dg (S.1, S1.2.1, S.2.2) i60), S.2.2) wd), S.2.2) = S3
                refine rn_iinc (lv' := [(0, _), (1, _), (2, _), (3, _), (4, _), (5, _), (6, _)]) C dX1_walk_114 rfl (dn_dec hi60) (by decide) rfl ?_
                refine rn_goto (tgt := 60) C dX1_walk_117 (by decide) ?_
                have he60 : cwalk1_l60 c co fo to wd lf dg (S.1, S1.2.1, S.2.2) (i60 + 1) = S3.2.1 := by
                  subst hS3
                  first | (dsimp only [cwalk1_l60]; done) | (dsimp only [cwalk1_l60]; exact (if_neg hb2)) | exact (if_neg hb2)
                rw [he60] at ih60
                exact rn_ks [0, 1, 2, 3, 4, 5] ih60 rfl
            · skip
              refine rn_iload C dX1_walk_68 rfl ?_
              refine rn_iload_n C dX1_walk_70 rfl ?_
              refine rs_ge (tgt := 86) C dX1_walk_71 (by decide) rfl rfl (by omega) (by omega) (fun q => absurd q (by omega)) (fun _ => ?_)
              refine rn_aload_n C dX1_walk_74 rfl ?_
              refine rn_aload_n C dX1_walk_75 rfl ?_
              refine rn_aload_n C dX1_walk_76 rfl ?_
              refine rs_vv C dX1_walk_77 mk_X1_twice lv_X1_126 (c_ctwice (S := (((S.1, S1.2.1, S.2.2).1, (cwalk1_l60 c co fo to wd lf dg (S.1, S1.2.1, S.2.2) i60), S.2.2).1, (cwalk1_l68 c co fo to ((S.1, S1.2.1, S.2.2).1, (cwalk1_l60 c co fo to wd lf dg (S.1, S1.2.1, S.2.2) i60), S.2.2) i68), S.2.2)) hC hto hto) hC0 rfl rfl rfl rfl (by decide) (Nat.le_of_ble_eq_true rfl) (by decide) (by decide) ?_
              rw [show (ctwice_f c (co) fo (to) (to) (((S.1, S1.2.1, S.2.2).1, (cwalk1_l60 c co fo to wd lf dg (S.1, S1.2.1, S.2.2) i60), S.2.2).1, (cwalk1_l68 c co fo to ((S.1, S1.2.1, S.2.2).1, (cwalk1_l60 c co fo to wd lf dg (S.1, S1.2.1, S.2.2) i60), S.2.2) i68), S.2.2)).2.2 = S.2.2 from (ctwice_F c (co) fo (to) (to) (((S.1, S1.2.1, S.2.2).1, (cwalk1_l60 c co fo to wd lf dg (S.1, S1.2.1, S.2.2) i60), S.2.2).1, (cwalk1_l68 c co fo to ((S.1, S1.2.1, S.2.2).1, (cwalk1_l60 c co fo to wd lf dg (S.1, S1.2.1, S.2.2) i60), S.2.2) i68), S.2.2))]
              rw [show (ctwice_f c (co) fo (to) (to) (((S.1, S1.2.1, S.2.2).1, (cwalk1_l60 c co fo to wd lf dg (S.1, S1.2.1, S.2.2) i60), S.2.2).1, (cwalk1_l68 c co fo to ((S.1, S1.2.1, S.2.2).1, (cwalk1_l60 c co fo to wd lf dg (S.1, S1.2.1, S.2.2) i60), S.2.2) i68), S.2.2)).1 = ((S.1, S1.2.1, S.2.2).1, (cwalk1_l60 c co fo to wd lf dg (S.1, S1.2.1, S.2.2) i60), S.2.2).1 from ctwice_I c (co) fo (to) (to) (((S.1, S1.2.1, S.2.2).1, (cwalk1_l60 c co fo to wd lf dg (S.1, S1.2.1, S.2.2) i60), S.2.2).1, (cwalk1_l68 c co fo to ((S.1, S1.2.1, S.2.2).1, (cwalk1_l60 c co fo to wd lf dg (S.1, S1.2.1, S.2.2) i60), S.2.2) i68), S.2.2)]
              generalize hS4 : ctwice_f c (co) fo (to) (to) (((S.1, S1.2.1, S.2.2).1, (cwalk1_l60 c co fo to wd lf dg (S.1, S1.2.1, S.2.2) i60), S.2.2).1, (cwalk1_l68 c co fo to ((S.1, S1.2.1, S.2.2).1, (cwalk1_l60 c co fo to wd lf dg (S.1, S1.2.1, S.2.2) i60), S.2.2) i68), S.2.2) = S4
              refine rn_iinc (lv' := [(0, _), (1, _), (2, _), (3, _), (4, _), (5, _), (6, _)]) C dX1_walk_80 rfl (nI_inc _) (by decide) rfl ?_
              refine rn_goto (tgt := 68) C dX1_walk_83 (by decide) ?_
              have he68 : cwalk1_l68 c co fo to ((S.1, S1.2.1, S.2.2).1, (cwalk1_l60 c co fo to wd lf dg (S.1, S1.2.1, S.2.2) i60), S.2.2) (i68 + 1) = S4.2.1 := by
                subst hS4
                first | (dsimp only [cwalk1_l68]; done) | (dsimp only [cwalk1_l68]; exact rfl) | exact rfl
              rw [he68] at ih68
              exact rn_ks [0, 1, 2, 3, 4, 5, 6] ih68 rfl
          exact lp68 0 (Nat.zero_le _)
      exact lp60 0 (Nat.zero_le _)
    · skip
      refine rn_iload C dX1_walk_3 rfl ?_
      refine rn_if_le (tgt := 26) C dX1_walk_5 (by decide) (fun qq_ => absurd qq_ (nI_nle0 (by omega) (by omega))) (fun _ => ?_)
      refine rn_aload_n C dX1_walk_8 rfl ?_
      refine rs_get C dX1_walk_9 fl_X1_22 hC0 rfl ?_
      refine rn_iload C dX1_walk_12 rfl ?_
      refine rn_iconst (v := nI 1) C dX1_walk_14 rfl ?_
      refine rn_isub C dX1_walk_15 (pk_sub (by omega)) ?_
      refine rs_iaload C dX1_walk_16 hdg rfl (by omega) (by decide) ?_
      refine rn_if_ne (tgt := 26) C dX1_walk_17 (by decide) (fun qq_ => absurd (hz _ (by omega) (by omega)) qq_) (fun _ => ?_)
      refine rn_iinc (lv' := [(0, _), (1, _), (2, _), (3, _), (4, _)]) C dX1_walk_20 rfl (nI_decs (by omega)) (by decide) rfl ?_
      refine rn_goto (tgt := 3) C dX1_walk_23 (by decide) ?_
      exact rn_ks [0, 1, 2, 3, 4] ih3 rfl
  exact lp3 0 (Nat.zero_le _)
/-- the walk: digits from the highest on that is not 0 -/
def cwalk_f (c : Bool) (co fo to cnt wd : Nat) (dg : Nat → Nat) (S : StT) : StT := if lfN dg cnt = 0 then cwalk0_f c co fo to cnt S else cwalk1_f c co fo to wd (lfN dg cnt) dg S
theorem cwalk_F (c : Bool) (co fo to cnt wd : Nat) (dg : Nat → Nat) (S : StT) : (cwalk_f c co fo to cnt wd dg S).2.2 = S.2.2 := by
  unfold cwalk_f
  split
  · exact cwalk0_F _ _ _ _ _ _
  · exact cwalk1_F _ _ _ _ _ _ _ _
theorem cwalk_I (c : Bool) (co fo to cnt wd : Nat) (dg : Nat → Nat) (S : StT) : (cwalk_f c co fo to cnt wd dg S).1 = S.1 := by
  unfold cwalk_f
  split
  · exact cwalk0_I _ _ _ _ _ _
  · exact cwalk1_I _ _ _ _ _ _ _ _
theorem c_cwalk {k : KX} {L : Nat → Option Sh} {S : StT} {n : Nat} {c : Bool} {co fo to cnt wd : Nat} {dg : Nat → Nat} (hC : CurveAt k L co fo c) (hto : PtAt k L to) (hcnt : cnt ≤ 228) (hwd : wd ≤ 4) (hd : ∀ j, j < cnt → S.1 (co + 6) j = nI (dg j) ∧ dg j < 16) :
    Cs k yX1_walk cX1_walk 7 none 3 0 0 [.ref (k_b k + (co)), .ref (k_b k + (to)), .int (nI (cnt)), .int (nI (wd))] (inst k L S.1 S.2.1 S.2.2) n (Pv k L n (cwalk_f c co fo to cnt wd dg S)) := by
  unfold cwalk_f
  by_cases h : lfN dg cnt = 0
  · rw [if_pos h]
    exact c_cwalk0 hC hto hcnt (fun j hj => by rw [(hd j hj).1, lfN_z dg cnt j (by omega) hj])
  · rw [if_neg h]
    exact c_cwalk1 hC hto hcnt hwd (by omega) (lfN_le dg cnt) (fun j h1 h2 => by rw [(hd j h2).1, lfN_z dg cnt j h1 h2]) (fun j hj => hd j (by have := lfN_le dg cnt; omega)) (lfN_n dg cnt (by omega))
def cmult_l41 (co : Nat) (nb : Nat) (S : StT)  : Nat → (Nat → Nat → Int32)
  | 0 => S.1
  | i41 + 1 => let y41_0 := (cmult_l41 co nb S i41); (let I5 := va_up y41_0 (co + 6) (upd (y41_0 (co + 6)) (i41) (((y41_0 (nb) (i41 / 2 ^ 1)) >>> ((nI (4 * (i41 % 2 ^ 1))) &&& 31)) &&& (nI (15)))); I5)
def cmult_f (c : Bool) (co : Nat) (fo : Nat) (to : Nat) (nb : Nat) (p : Nat) (S : StT) : StT := (let S1 := ctwice_f c (co) fo (co + 2) (p) S; (let S2 := ctwice_f c (co) fo (co + 2) (co + 2) (S.1, S1.2.1, S.2.2); (let S3 := cfill_f c (co) fo (p) (co + 2) (S.1, S2.2.1, S.2.2); (let S4 := cwalk_f c (co) fo (to) (2 * (cB c)) (4) (dg4 (S.1 nb)) ((cmult_l41 co nb (S.1, S3.2.1, S.2.2) (2 * cB c)), S3.2.1, S.2.2); ((cmult_l41 co nb (S.1, S3.2.1, S.2.2) (2 * cB c)), S4.2.1, S.2.2)))))
theorem cmult_dg (co nb : Nat) (S : StT) (h : nb ≠ co + 6) : ∀ i, (cmult_l41 co nb S i) nb = S.1 nb ∧ ∀ j, j < i → (cmult_l41 co nb S i) (co + 6) j = nI (dg4 (S.1 nb) j) := by
  intro i
  induction i with
  | zero => exact ⟨rfl, fun j hj => absurd hj (Nat.not_lt_zero _)⟩
  | succ i ih =>
    obtain ⟨ih1, ih2⟩ := ih
    unfold cmult_l41
    dsimp only
    refine ⟨by rw [vu_n h]; exact ih1, fun j hj => ?_⟩
    rw [vu_s]
    by_cases e : j = i
    · subst e
      rw [pk_us, ih1]
      exact lowb_and 4 (by decide) _
    · rw [pk_un e]
      exact ih2 j (by omega)
theorem cmult_F (c : Bool) (co : Nat) (fo : Nat) (to : Nat) (nb : Nat) (p : Nat) (S : StT) : (cmult_f c co fo to nb p S).2.2 = S.2.2 := by
  unfold cmult_f; first | rfl | ((repeat' split) <;> rfl) | (dsimp only; (repeat' split) <;> rfl)
set_option maxRecDepth 100000 in
set_option maxHeartbeats 400000 in
theorem c_cmult {k : KX} {L : Nat → Option Sh} {S : StT} {n : Nat} {c : Bool} {co : Nat} {fo : Nat} {to : Nat} {nb : Nat} {m : Nat} {p : Nat} (hC : CurveAt k L co fo c) (hto : PtAt k L to) (hnb : L nb = some (sI m)) (hm : m < 2 ^ 31) (hm2 : 57 ≤ m) (hnb6 : nb ≠ co + 6) (hp : PtAt k L p) :
    Cs k yX1_multiply cX1_multiply 6 none 4 0 0 [.ref (k_b k + (co)), .ref (k_b k + (to)), .ref (k_b k + (nb)), .ref (k_b k + (p))] (inst k L S.1 S.2.1 S.2.2) n (Pv k L n (cmult_f c co fo to nb p S)) := by
  refine cs_of (by decide) (Nat.le_of_ble_eq_true rfl) ?_
  intro X hXk C Rt hnm
  subst hXk
  have hC9 := hC
  obtain ⟨hC0, hF, hc1, hc2, hc3, hc4, hc5, hc6, hc7, hc8, hcr, hcd, hct, hff, hdg, hca, hbs, htb⟩ := hC9
  have hF9 := hF
  have hff9 := hff
  obtain ⟨hff0, hff1, hff2, hff3⟩ := hff9
  obtain ⟨hF0, hf1, hf2, hf3, hf4, hf5, hf6, hf7, hf8, hf9⟩ := hF9
  obtain ⟨hl1, hl2⟩ := fL_le c
  obtain ⟨hk1, hk2⟩ := cB_le c
  have hto9 := hto
  obtain ⟨hto0, hto1, hto2, hto3⟩ := hto9
  have hp9 := hp
  obtain ⟨hp0, hp1, hp2, hp3⟩ := hp9
  refine rn_lv [(0, .ref (k_b X.1 + (co))), (1, .ref (k_b X.1 + (to))), (2, .ref (k_b X.1 + (nb))), (3, .ref (k_b X.1 + (p)))] (fun q h => h) ?_
  refine rn_aload_n C dX1_multiply_0 rfl ?_
  refine rn_aload_n C dX1_multiply_1 rfl ?_
  refine rs_get C dX1_multiply_2 fl_X1_18 hC0 rfl ?_
  refine rn_aload_n C dX1_multiply_5 rfl ?_
  refine rs_vv C dX1_multiply_6 mk_X1_twice lv_X1_126 (c_ctwice hC hff hp) hC0 rfl rfl rfl rfl (by decide) (Nat.le_of_ble_eq_true rfl) (by decide) (by decide) ?_
  rw [show (ctwice_f c (co) fo (co + 2) (p) S).2.2 = S.2.2 from (ctwice_F c (co) fo (co + 2) (p) S)]
  rw [show (ctwice_f c (co) fo (co + 2) (p) S).1 = S.1 from ctwice_I c (co) fo (co + 2) (p) S]
  generalize hS1 : ctwice_f c (co) fo (co + 2) (p) S = S1
  refine rn_aload_n C dX1_multiply_9 rfl ?_
  refine rn_aload_n C dX1_multiply_10 rfl ?_
  refine rs_get C dX1_multiply_11 fl_X1_18 hC0 rfl ?_
  refine rn_aload_n C dX1_multiply_14 rfl ?_
  refine rs_get C dX1_multiply_15 fl_X1_18 hC0 rfl ?_
  refine rs_vv C dX1_multiply_18 mk_X1_twice lv_X1_126 (c_ctwice (S := (S.1, S1.2.1, S.2.2)) hC hff hff) hC0 rfl rfl rfl rfl (by decide) (Nat.le_of_ble_eq_true rfl) (by decide) (by decide) ?_
  rw [show (ctwice_f c (co) fo (co + 2) (co + 2) (S.1, S1.2.1, S.2.2)).2.2 = S.2.2 from (ctwice_F c (co) fo (co + 2) (co + 2) (S.1, S1.2.1, S.2.2))]
  rw [show (ctwice_f c (co) fo (co + 2) (co + 2) (S.1, S1.2.1, S.2.2)).1 = S.1 from ctwice_I c (co) fo (co + 2) (co + 2) (S.1, S1.2.1, S.2.2)]
  generalize hS2 : ctwice_f c (co) fo (co + 2) (co + 2) (S.1, S1.2.1, S.2.2) = S2
  refine rn_aload_n C dX1_multiply_21 rfl ?_
  refine rn_aload_n C dX1_multiply_22 rfl ?_
  refine rn_aload_n C dX1_multiply_23 rfl ?_
  refine rs_get C dX1_multiply_24 fl_X1_18 hC0 rfl ?_
  refine rs_vv C dX1_multiply_27 mk_X1_fillTable lv_X1_130 (c_cfill (S := (S.1, S2.2.1, S.2.2)) hC hp hff) hC0 rfl rfl rfl rfl (by decide) (Nat.le_of_ble_eq_true rfl) (by decide) (by decide) ?_
  rw [show (cfill_f c (co) fo (p) (co + 2) (S.1, S2.2.1, S.2.2)).2.2 = S.2.2 from (cfill_F c (co) fo (p) (co + 2) (S.1, S2.2.1, S.2.2))]
  rw [show (cfill_f c (co) fo (p) (co + 2) (S.1, S2.2.1, S.2.2)).1 = S.1 from cfill_I c (co) fo (p) (co + 2) (S.1, S2.2.1, S.2.2)]
  generalize hS3 : cfill_f c (co) fo (p) (co + 2) (S.1, S2.2.1, S.2.2) = S3
  refine rn_iconst (v := nI 2) C dX1_multiply_30 rfl ?_
  refine rn_aload_n C dX1_multiply_31 rfl ?_
  refine rs_get C dX1_multiply_32 fl_X1_64 hC0 rfl ?_
  refine rn_imul C dX1_multiply_35 (pk_mul _ _) ?_
  refine rn_istore (lv' := [(0, _), (1, _), (2, _), (3, _), (4, _)]) C dX1_multiply_36 (by decide) rfl ?_
  refine rn_iconst (v := nI 0) C dX1_multiply_38 rfl ?_
  refine rn_istore (lv' := [(0, _), (1, _), (2, _), (3, _), (4, _), (5, _)]) C dX1_multiply_39 (by decide) rfl ?_
  have lp41 : ∀ i41, i41 ≤ 2 * cB c → Rn X 41 [(0, .ref (k_b X.1 + (co))), (1, .ref (k_b X.1 + (to))), (2, .ref (k_b X.1 + (nb))), (3, .ref (k_b X.1 + (p))), (4, .int (nI (2 * (cB c)))), (5, .int (nI (i41)))] [] (inst X.1 L (cmult_l41 co nb (S.1, S3.2.1, S.2.2) i41) S3.2.1 S.2.2) n 0 0 := by
    refine upto _ _ ?_ (fun i41 hi41 ih41 => ?_)
    · skip
      refine rn_iload C dX1_multiply_41 rfl ?_
      refine rn_iload C dX1_multiply_43 rfl ?_
      refine rs_ge (tgt := 77) C dX1_multiply_45 (by decide) rfl rfl (by omega) (by omega) (fun _ => ?_) (fun q => absurd q (by omega))
      refine rn_aload_n C dX1_multiply_77 rfl ?_
      refine rn_aload_n C dX1_multiply_78 rfl ?_
      refine rn_iload C dX1_multiply_79 rfl ?_
      refine rn_iconst (v := nI 4) C dX1_multiply_81 rfl ?_
      refine rs_vv C dX1_multiply_82 mk_X1_walk lv_X1_133 (c_cwalk (S := ((cmult_l41 co nb (S.1, S3.2.1, S.2.2) (2 * cB c)), S3.2.1, S.2.2)) (dg := (dg4 (S.1 nb))) hC hto (by omega) (by omega) (fun j hj => ⟨(cmult_dg _ _ _ hnb6 _).2 j hj, lowb_lt 4 _⟩)) hC0 rfl rfl rfl rfl (by decide) (Nat.le_of_ble_eq_true rfl) (by decide) (by decide) ?_
      rw [show (cwalk_f c (co) fo (to) (2 * (cB c)) (4) (dg4 (S.1 nb)) ((cmult_l41 co nb (S.1, S3.2.1, S.2.2) (2 * cB c)), S3.2.1, S.2.2)).2.2 = S.2.2 from (cwalk_F c (co) fo (to) (2 * (cB c)) (4) (dg4 (S.1 nb)) ((cmult_l41 co nb (S.1, S3.2.1, S.2.2) (2 * cB c)), S3.2.1, S.2.2))]
      rw [show (cwalk_f c (co) fo (to) (2 * (cB c)) (4) (dg4 (S.1 nb)) ((cmult_l41 co nb (S.1, S3.2.1, S.2.2) (2 * cB c)), S3.2.1, S.2.2)).1 = (cmult_l41 co nb (S.1, S3.2.1, S.2.2) (2 * cB c)) from cwalk_I c (co) fo (to) (2 * (cB c)) (4) (dg4 (S.1 nb)) ((cmult_l41 co nb (S.1, S3.2.1, S.2.2) (2 * cB c)), S3.2.1, S.2.2)]
      generalize hS4 : cwalk_f c (co) fo (to) (2 * (cB c)) (4) (dg4 (S.1 nb)) ((cmult_l41 co nb (S.1, S3.2.1, S.2.2) (2 * cB c)), S3.2.1, S.2.2) = S4
      have hret : cmult_f c co fo to nb p S = ((cmult_l41 co nb (S.1, S3.2.1, S.2.2) (2 * cB c)), S4.2.1, S.2.2) := by
        subst hS4
        subst hS3
        subst hS2
        subst hS1
        first | (dsimp only [cmult_f]; done) | (dsimp only [cmult_f]; exact rfl) | exact rfl
      exact rn_vret C Rt dX1_multiply_85 (pv_of hret) (Nat.zero_le _) (Nat.zero_le _)
    · skip
      refine rn_iload C dX1_multiply_41 rfl ?_
      refine rn_iload C dX1_multiply_43 rfl ?_
      refine rs_ge (tgt := 77) C dX1_multiply_45 (by decide) rfl rfl (by omega) (by omega) (fun q => absurd q (by omega)) (fun _ => ?_)
      refine rn_aload_n C dX1_multiply_48 rfl ?_
      refine rs_get C dX1_multiply_49 fl_X1_22 hC0 rfl ?_
      refine rn_iload C dX1_multiply_52 rfl ?_
      refine rn_aload_n C dX1_multiply_54 rfl ?_
      refine rn_iload C dX1_multiply_55 rfl ?_
      refine rn_iconst (v := nI 1) C dX1_multiply_57 rfl ?_
      refine rn_ishr C dX1_multiply_58 (pk_shrN (by omega) _ 1 (by decide)) ?_
      refine rs_iaload C dX1_multiply_59 hnb rfl (by omega) hm ?_
      refine rn_iconst (v := nI 4) C dX1_multiply_60 rfl ?_
      refine rn_iload C dX1_multiply_61 rfl ?_
      refine rn_iconst (v := nI 1) C dX1_multiply_63 rfl ?_
      refine rn_iand C dX1_multiply_64 (pk_andN (by omega) 1 (by decide)) ?_
      refine rn_imul C dX1_multiply_65 (pk_mul _ _) ?_
      refine rn_ishr C dX1_multiply_66 rfl ?_
      refine rn_bipush (v := nI 15) C dX1_multiply_67 rfl ?_
      refine rn_iand C dX1_multiply_69 rfl ?_
      refine rs_iastore C dX1_multiply_70 hdg rfl (by omega) (by decide) ?_
      refine rn_iinc (lv' := [(0, _), (1, _), (2, _), (3, _), (4, _), (5, _)]) C dX1_multiply_71 rfl (nI_inc _) (by decide) rfl ?_
      refine rn_goto (tgt := 41) C dX1_multiply_74 (by decide) ?_
      have he41 : cmult_l41 co nb (S.1, S3.2.1, S.2.2) (i41 + 1) = (va_up (cmult_l41 co nb (S.1, S3.2.1, S.2.2) i41) (co + 6) (upd ((cmult_l41 co nb (S.1, S3.2.1, S.2.2) i41) (co + 6)) (i41) ((((cmult_l41 co nb (S.1, S3.2.1, S.2.2) i41) (nb) (i41 / 2 ^ 1)) >>> ((nI (4 * (i41 % 2 ^ 1))) &&& 31)) &&& (nI (15))))) := by
        first | (dsimp only [cmult_l41]; done) | (dsimp only [cmult_l41]; exact rfl) | exact rfl
      rw [he41] at ih41
      exact rn_ks [0, 1, 2, 3, 4, 5] ih41 rfl
  exact lp41 0 (Nat.zero_le _)
def cmul2_l18 (co : Nat) (m_ : Nat) (n_ : Nat) (S : StT)  : Nat → (Nat → Nat → Int32)
  | 0 => S.1
  | i18 + 1 => let y18_0 := (cmul2_l18 co m_ n_ S i18); (let I3 := va_up y18_0 (co + 6) (upd (y18_0 (co + 6)) (i18) ((((y18_0 (m_) (i18 / 2 ^ 2)) >>> ((nI (2 * (i18 % 2 ^ 2))) &&& 31)) &&& (nI (3))) + ((nI (4)) * (((y18_0 (n_) (i18 / 2 ^ 2)) >>> ((nI (2 * (i18 % 2 ^ 2))) &&& 31)) &&& (nI (3)))))); I3)
def cmul2_f (c : Bool) (co : Nat) (fo : Nat) (to : Nat) (m_ : Nat) (p : Nat) (n_ : Nat) (q : Nat) (S : StT) : StT := (let S1 := cfill_f c (co) fo (p) (q) S; (let S2 := cwalk_f c (co) fo (to) (4 * (cB c)) (2) (dg2 (S.1 m_) (S.1 n_)) ((cmul2_l18 co m_ n_ (S.1, S1.2.1, S.2.2) (4 * cB c)), S1.2.1, S.2.2); ((cmul2_l18 co m_ n_ (S.1, S1.2.1, S.2.2) (4 * cB c)), S2.2.1, S.2.2)))
theorem cmul2_dg (co m_ n_ : Nat) (S : StT) (h1 : m_ ≠ co + 6) (h2 : n_ ≠ co + 6) : ∀ i, (cmul2_l18 co m_ n_ S i) m_ = S.1 m_ ∧ (cmul2_l18 co m_ n_ S i) n_ = S.1 n_ ∧ ∀ j, j < i → (cmul2_l18 co m_ n_ S i) (co + 6) j = nI (dg2 (S.1 m_) (S.1 n_) j) := by
  intro i
  induction i with
  | zero => exact ⟨rfl, rfl, fun j hj => absurd hj (Nat.not_lt_zero _)⟩
  | succ i ih =>
    obtain ⟨ih1, ih3, ih2⟩ := ih
    unfold cmul2_l18
    dsimp only
    refine ⟨by rw [vu_n h1]; exact ih1, by rw [vu_n h2]; exact ih3, fun j hj => ?_⟩
    rw [vu_s]
    by_cases e : j = i
    · subst e
      rw [pk_us, ih1, ih3]
      have a1 := lowb_and 2 (by decide) (S.1 m_ (j / 2 ^ 2) >>> (nI (2 * (j % 2 ^ 2)) &&& 31))
      have a2 := lowb_and 2 (by decide) (S.1 n_ (j / 2 ^ 2) >>> (nI (2 * (j % 2 ^ 2)) &&& 31))
      have a3 : nI (2 ^ 2 - 1) = nI 3 := rfl
      rw [a3] at a1 a2
      rw [a1, a2, pk_mul, nI_add]
      rfl
    · rw [pk_un e]
      exact ih2 j (by omega)
theorem cmul2_F (c : Bool) (co : Nat) (fo : Nat) (to : Nat) (m_ : Nat) (p : Nat) (n_ : Nat) (q : Nat) (S : StT) : (cmul2_f c co fo to m_ p n_ q S).2.2 = S.2.2 := by
  unfold cmul2_f; first | rfl | ((repeat' split) <;> rfl) | (dsimp only; (repeat' split) <;> rfl)
set_option maxRecDepth 100000 in
set_option maxHeartbeats 400000 in
theorem c_cmul2 {k : KX} {L : Nat → Option Sh} {S : StT} {n : Nat} {c : Bool} {co : Nat} {fo : Nat} {to : Nat} {m_ : Nat} {ma : Nat} {p : Nat} {n_ : Nat} {mb : Nat} {q : Nat} (hC : CurveAt k L co fo c) (hto : PtAt k L to) (hm_ : L m_ = some (sI ma)) (hma : ma < 2 ^ 31) (hma2 : 57 ≤ ma) (hm6 : m_ ≠ co + 6) (hp : PtAt k L p) (hn_ : L n_ = some (sI mb)) (hmb : mb < 2 ^ 31) (hmb2 : 57 ≤ mb) (hn6 : n_ ≠ co + 6) (hq : PtAt k L q) :
    Cs k yX1_multiplyTwo cX1_multiplyTwo 9 none 4 0 0 [.ref (k_b k + (co)), .ref (k_b k + (to)), .ref (k_b k + (m_)), .ref (k_b k + (p)), .ref (k_b k + (n_)), .ref (k_b k + (q))] (inst k L S.1 S.2.1 S.2.2) n (Pv k L n (cmul2_f c co fo to m_ p n_ q S)) := by
  refine cs_of (by decide) (Nat.le_of_ble_eq_true rfl) ?_
  intro X hXk C Rt hnm
  subst hXk
  have hC9 := hC
  obtain ⟨hC0, hF, hc1, hc2, hc3, hc4, hc5, hc6, hc7, hc8, hcr, hcd, hct, hff, hdg, hca, hbs, htb⟩ := hC9
  have hF9 := hF
  have hff9 := hff
  obtain ⟨hff0, hff1, hff2, hff3⟩ := hff9
  obtain ⟨hF0, hf1, hf2, hf3, hf4, hf5, hf6, hf7, hf8, hf9⟩ := hF9
  obtain ⟨hl1, hl2⟩ := fL_le c
  obtain ⟨hk1, hk2⟩ := cB_le c
  have hto9 := hto
  obtain ⟨hto0, hto1, hto2, hto3⟩ := hto9
  have hp9 := hp
  obtain ⟨hp0, hp1, hp2, hp3⟩ := hp9
  have hq9 := hq
  obtain ⟨hq0, hq1, hq2, hq3⟩ := hq9
  refine rn_lv [(0, .ref (k_b X.1 + (co))), (1, .ref (k_b X.1 + (to))), (2, .ref (k_b X.1 + (m_))), (3, .ref (k_b X.1 + (p))), (4, .ref (k_b X.1 + (n_))), (5, .ref (k_b X.1 + (q)))] (fun q h => h) ?_
  refine rn_aload_n C dX1_multiplyTwo_0 rfl ?_
  refine rn_aload_n C dX1_multiplyTwo_1 rfl ?_
  refine rn_aload C dX1_multiplyTwo_2 rfl ?_
  refine rs_vv C dX1_multiplyTwo_4 mk_X1_fillTable lv_X1_130 (c_cfill hC hp hq) hC0 rfl rfl rfl rfl (by decide) (Nat.le_of_ble_eq_true rfl) (by decide) (by decide) ?_
  rw [show (cfill_f c (co) fo (p) (q) S).2.2 = S.2.2 from (cfill_F c (co) fo (p) (q) S)]
  rw [show (cfill_f c (co) fo (p) (q) S).1 = S.1 from cfill_I c (co) fo (p) (q) S]
  generalize hS1 : cfill_f c (co) fo (p) (q) S = S1
  refine rn_iconst (v := nI 4) C dX1_multiplyTwo_7 rfl ?_
  refine rn_aload_n C dX1_multiplyTwo_8 rfl ?_
  refine rs_get C dX1_multiplyTwo_9 fl_X1_64 hC0 rfl ?_
  refine rn_imul C dX1_multiplyTwo_12 (pk_mul _ _) ?_
  refine rn_istore (lv' := [(0, _), (1, _), (2, _), (3, _), (4, _), (5, _), (6, _)]) C dX1_multiplyTwo_13 (by decide) rfl ?_
  refine rn_iconst (v := nI 0) C dX1_multiplyTwo_15 rfl ?_
  refine rn_istore (lv' := [(0, _), (1, _), (2, _), (3, _), (4, _), (5, _), (6, _), (7, _)]) C dX1_multiplyTwo_16 (by decide) rfl ?_
  have lp18 : ∀ i18, i18 ≤ 4 * cB c → Rn X 18 [(0, .ref (k_b X.1 + (co))), (1, .ref (k_b X.1 + (to))), (2, .ref (k_b X.1 + (m_))), (3, .ref (k_b X.1 + (p))), (4, .ref (k_b X.1 + (n_))), (5, .ref (k_b X.1 + (q))), (6, .int (nI (4 * (cB c)))), (7, .int (nI (i18)))] [] (inst X.1 L (cmul2_l18 co m_ n_ (S.1, S1.2.1, S.2.2) i18) S1.2.1 S.2.2) n 0 0 := by
    refine upto _ _ ?_ (fun i18 hi18 ih18 => ?_)
    · skip
      refine rn_iload C dX1_multiplyTwo_18 rfl ?_
      refine rn_iload C dX1_multiplyTwo_20 rfl ?_
      refine rs_ge (tgt := 72) C dX1_multiplyTwo_22 (by decide) rfl rfl (by omega) (by omega) (fun _ => ?_) (fun q => absurd q (by omega))
      refine rn_aload_n C dX1_multiplyTwo_72 rfl ?_
      refine rn_aload_n C dX1_multiplyTwo_73 rfl ?_
      refine rn_iload C dX1_multiplyTwo_74 rfl ?_
      refine rn_iconst (v := nI 2) C dX1_multiplyTwo_76 rfl ?_
      refine rs_vv C dX1_multiplyTwo_77 mk_X1_walk lv_X1_133 (c_cwalk (S := ((cmul2_l18 co m_ n_ (S.1, S1.2.1, S.2.2) (4 * cB c)), S1.2.1, S.2.2)) (dg := (dg2 (S.1 m_) (S.1 n_))) hC hto (by omega) (by omega) (fun j hj => ⟨(cmul2_dg _ _ _ _ hm6 hn6 _).2.2 j hj, dg2_lt _ _ _⟩)) hC0 rfl rfl rfl rfl (by decide) (Nat.le_of_ble_eq_true rfl) (by decide) (by decide) ?_
      rw [show (cwalk_f c (co) fo (to) (4 * (cB c)) (2) (dg2 (S.1 m_) (S.1 n_)) ((cmul2_l18 co m_ n_ (S.1, S1.2.1, S.2.2) (4 * cB c)), S1.2.1, S.2.2)).2.2 = S.2.2 from (cwalk_F c (co) fo (to) (4 * (cB c)) (2) (dg2 (S.1 m_) (S.1 n_)) ((cmul2_l18 co m_ n_ (S.1, S1.2.1, S.2.2) (4 * cB c)), S1.2.1, S.2.2))]
      rw [show (cwalk_f c (co) fo (to) (4 * (cB c)) (2) (dg2 (S.1 m_) (S.1 n_)) ((cmul2_l18 co m_ n_ (S.1, S1.2.1, S.2.2) (4 * cB c)), S1.2.1, S.2.2)).1 = (cmul2_l18 co m_ n_ (S.1, S1.2.1, S.2.2) (4 * cB c)) from cwalk_I c (co) fo (to) (4 * (cB c)) (2) (dg2 (S.1 m_) (S.1 n_)) ((cmul2_l18 co m_ n_ (S.1, S1.2.1, S.2.2) (4 * cB c)), S1.2.1, S.2.2)]
      generalize hS2 : cwalk_f c (co) fo (to) (4 * (cB c)) (2) (dg2 (S.1 m_) (S.1 n_)) ((cmul2_l18 co m_ n_ (S.1, S1.2.1, S.2.2) (4 * cB c)), S1.2.1, S.2.2) = S2
      have hret : cmul2_f c co fo to m_ p n_ q S = ((cmul2_l18 co m_ n_ (S.1, S1.2.1, S.2.2) (4 * cB c)), S2.2.1, S.2.2) := by
        subst hS2
        subst hS1
        first | (dsimp only [cmul2_f]; done) | (dsimp only [cmul2_f]; exact rfl) | exact rfl
      exact rn_vret C Rt dX1_multiplyTwo_80 (pv_of hret) (Nat.zero_le _) (Nat.zero_le _)
    · skip
      refine rn_iload C dX1_multiplyTwo_18 rfl ?_
      refine rn_iload C dX1_multiplyTwo_20 rfl ?_
      refine rs_ge (tgt := 72) C dX1_multiplyTwo_22 (by decide) rfl rfl (by omega) (by omega) (fun q => absurd q (by omega)) (fun _ => ?_)
      refine rn_iconst (v := nI 2) C dX1_multiplyTwo_25 rfl ?_
      refine rn_iload C dX1_multiplyTwo_26 rfl ?_
      refine rn_iconst (v := nI 3) C dX1_multiplyTwo_28 rfl ?_
      refine rn_iand C dX1_multiplyTwo_29 (pk_andN (by omega) 2 (by decide)) ?_
      refine rn_imul C dX1_multiplyTwo_30 (pk_mul _ _) ?_
      refine rn_istore (lv' := [(0, _), (1, _), (2, _), (3, _), (4, _), (5, _), (6, _), (7, _), (8, _)]) C dX1_multiplyTwo_31 (by decide) rfl ?_
      refine rn_aload_n C dX1_multiplyTwo_33 rfl ?_
      refine rs_get C dX1_multiplyTwo_34 fl_X1_22 hC0 rfl ?_
      refine rn_iload C dX1_multiplyTwo_37 rfl ?_
      refine rn_aload_n C dX1_multiplyTwo_39 rfl ?_
      refine rn_iload C dX1_multiplyTwo_40 rfl ?_
      refine rn_iconst (v := nI 2) C dX1_multiplyTwo_42 rfl ?_
      refine rn_ishr C dX1_multiplyTwo_43 (pk_shrN (by omega) _ 2 (by decide)) ?_
      refine rs_iaload C dX1_multiplyTwo_44 hm_ rfl (by omega) hma ?_
      refine rn_iload C dX1_multiplyTwo_45 rfl ?_
      refine rn_ishr C dX1_multiplyTwo_47 rfl ?_
      refine rn_iconst (v := nI 3) C dX1_multiplyTwo_48 rfl ?_
      refine rn_iand C dX1_multiplyTwo_49 rfl ?_
      refine rn_iconst (v := nI 4) C dX1_multiplyTwo_50 rfl ?_
      refine rn_aload C dX1_multiplyTwo_51 rfl ?_
      refine rn_iload C dX1_multiplyTwo_53 rfl ?_
      refine rn_iconst (v := nI 2) C dX1_multiplyTwo_55 rfl ?_
      refine rn_ishr C dX1_multiplyTwo_56 (pk_shrN (by omega) _ 2 (by decide)) ?_
      refine rs_iaload C dX1_multiplyTwo_57 hn_ rfl (by omega) hmb ?_
      refine rn_iload C dX1_multiplyTwo_58 rfl ?_
      refine rn_ishr C dX1_multiplyTwo_60 rfl ?_
      refine rn_iconst (v := nI 3) C dX1_multiplyTwo_61 rfl ?_
      refine rn_iand C dX1_multiplyTwo_62 rfl ?_
      refine rn_imul C dX1_multiplyTwo_63 rfl ?_
      refine rn_iadd C dX1_multiplyTwo_64 rfl ?_
      refine rs_iastore C dX1_multiplyTwo_65 hdg rfl (by omega) (by decide) ?_
      refine rn_iinc (lv' := [(0, _), (1, _), (2, _), (3, _), (4, _), (5, _), (6, _), (7, _), (8, _)]) C dX1_multiplyTwo_66 rfl (nI_inc _) (by decide) rfl ?_
      refine rn_goto (tgt := 18) C dX1_multiplyTwo_69 (by decide) ?_
      have he18 : cmul2_l18 co m_ n_ (S.1, S1.2.1, S.2.2) (i18 + 1) = (va_up (cmul2_l18 co m_ n_ (S.1, S1.2.1, S.2.2) i18) (co + 6) (upd ((cmul2_l18 co m_ n_ (S.1, S1.2.1, S.2.2) i18) (co + 6)) (i18) (((((cmul2_l18 co m_ n_ (S.1, S1.2.1, S.2.2) i18) (m_) (i18 / 2 ^ 2)) >>> ((nI (2 * (i18 % 2 ^ 2))) &&& 31)) &&& (nI (3))) + ((nI (4)) * ((((cmul2_l18 co m_ n_ (S.1, S1.2.1, S.2.2) i18) (n_) (i18 / 2 ^ 2)) >>> ((nI (2 * (i18 % 2 ^ 2))) &&& 31)) &&& (nI (3))))))) := by
        first | (dsimp only [cmul2_l18]; done) | (dsimp only [cmul2_l18]; exact rfl) | exact rfl
      rw [he18] at ih18
      exact rn_ks [0, 1, 2, 3, 4, 5, 6, 7] ih18 rfl
  exact lp18 0 (Nat.zero_le _)
def csmall_f (c : Bool) (co : Nat) (fo : Nat) (p : Nat) (S : StT) : Int32 × StT := (let S1 := ccopy_f c (co) fo (co + 2) (p) S; (let r2 := cisN_f c (co) fo (co + 2) (S.1, S1.2.1, S.2.2); (if (r2.1) = 0 then (let S4 := ctwice_f c (co) fo (co + 2) (co + 2) (S.1, r2.2.2.1, S.2.2); (let r5 := cisN_f c (co) fo (co + 2) (S.1, S4.2.1, S.2.2); (if (r5.1) = 0 then (let S7 := ctwice_f c (co) fo (co + 2) (co + 2) (S.1, r5.2.2.1, S.2.2); (let r8 := cisN_f c (co) fo (co + 2) (S.1, S7.2.1, S.2.2); (if (r8.1) = 0 then (let S10 := ctwice_f c (co) fo (co + 2) (co + 2) (S.1, r8.2.2.1, S.2.2); (let r11 := cisN_f c (co) fo (co + 2) (S.1, S10.2.1, S.2.2); (if (r11.1) = 0 then (let S13 := ctwice_f c (co) fo (co + 2) (co + 2) (S.1, r11.2.2.1, S.2.2); (nI (0), (S.1, S13.2.1, S.2.2))) else (nI (((1 * 2) * 2) * 2), (S.1, r11.2.2.1, S.2.2))))) else (nI ((1 * 2) * 2), (S.1, r8.2.2.1, S.2.2))))) else (nI (1 * 2), (S.1, r5.2.2.1, S.2.2))))) else (nI (1), (S.1, r2.2.2.1, S.2.2)))))
set_option maxRecDepth 100000 in
set_option maxHeartbeats 400000 in
theorem c_csmall {k : KX} {L : Nat → Option Sh} {S : StT} {n : Nat} {c : Bool} {co : Nat} {fo : Nat} {p : Nat} (hC : CurveAt k L co fo c) (hp : PtAt k L p) :
    Cs k yX1_smallOrder cX1_smallOrder 3 (some .int) 5 0 0 [.ref (k_b k + (co)), .ref (k_b k + (p))] (inst k L S.1 S.2.1 S.2.2) n (Pi k L n (csmall_f c co fo p S)) := by
  refine cs_of (by decide) (Nat.le_of_ble_eq_true rfl) ?_
  intro X hXk C Rt hnm
  subst hXk
  have hC9 := hC
  obtain ⟨hC0, hF, hc1, hc2, hc3, hc4, hc5, hc6, hc7, hc8, hcr, hcd, hct, hff, hdg, hca, hbs, htb⟩ := hC9
  have hF9 := hF
  have hff9 := hff
  obtain ⟨hff0, hff1, hff2, hff3⟩ := hff9
  obtain ⟨hF0, hf1, hf2, hf3, hf4, hf5, hf6, hf7, hf8, hf9⟩ := hF9
  obtain ⟨hl1, hl2⟩ := fL_le c
  obtain ⟨hk1, hk2⟩ := cB_le c
  have hp9 := hp
  obtain ⟨hp0, hp1, hp2, hp3⟩ := hp9
  refine rn_lv [(0, .ref (k_b X.1 + (co))), (1, .ref (k_b X.1 + (p)))] (fun q h => h) ?_
  refine rn_aload_n C dX1_smallOrder_0 rfl ?_
  refine rn_aload_n C dX1_smallOrder_1 rfl ?_
  refine rs_get C dX1_smallOrder_2 fl_X1_18 hC0 rfl ?_
  refine rn_aload_n C dX1_smallOrder_5 rfl ?_
  refine rs_vv C dX1_smallOrder_6 mk_X1_copy lv_X1_145 (c_ccopy hC hff hp) hC0 rfl rfl rfl rfl (by decide) (Nat.le_of_ble_eq_true rfl) (by decide) (by decide) ?_
  rw [show (ccopy_f c (co) fo (co + 2) (p) S).2.2 = S.2.2 from (ccopy_F c (co) fo (co + 2) (p) S)]
  rw [show (ccopy_f c (co) fo (co + 2) (p) S).1 = S.1 from ccopy_I c (co) fo (co + 2) (p) S]
  generalize hS1 : ccopy_f c (co) fo (co + 2) (p) S = S1
  refine rn_iconst (v := nI 1) C dX1_smallOrder_9 rfl ?_
  refine rn_istore_n (lv' := [(0, _), (1, _), (2, _)]) C dX1_smallOrder_10 (by decide) rfl ?_
  refine rn_iload_n C dX1_smallOrder_11 rfl ?_
  refine rn_bipush (v := nI 8) C dX1_smallOrder_12 rfl ?_
  refine rn_icmp_gt (tgt := 49) C dX1_smallOrder_14 (by decide) (fun hb => absurd hb (show ¬ (nI (8)) < (nI (1)) from by decide)) (fun hb => ?_)
  refine rn_aload_n C dX1_smallOrder_17 rfl ?_
  refine rn_aload_n C dX1_smallOrder_18 rfl ?_
  refine rs_get C dX1_smallOrder_19 fl_X1_18 hC0 rfl ?_
  refine rs_vz C dX1_smallOrder_22 mk_X1_isNeutral lv_X1_147 (c_cisN (S := (S.1, S1.2.1, S.2.2)) hC hff) hC0 rfl rfl rfl rfl (by decide) (Nat.le_of_ble_eq_true rfl) (by decide) (by decide) ?_
  rw [show (cisN_f c (co) fo (co + 2) (S.1, S1.2.1, S.2.2)).2.2.2 = S.2.2 from (cisN_F c (co) fo (co + 2) (S.1, S1.2.1, S.2.2))]
  rw [show (cisN_f c (co) fo (co + 2) (S.1, S1.2.1, S.2.2)).2.1 = S.1 from cisN_I c (co) fo (co + 2) (S.1, S1.2.1, S.2.2)]
  generalize hr2 : cisN_f c (co) fo (co + 2) (S.1, S1.2.1, S.2.2) = r2
  refine rn_if_eq (tgt := 30) C dX1_smallOrder_25 (by decide) (fun hb3 => ?_) (fun hb3 => ?_)
  · skip
    refine rn_aload_n C dX1_smallOrder_30 rfl ?_
    refine rn_aload_n C dX1_smallOrder_31 rfl ?_
    refine rs_get C dX1_smallOrder_32 fl_X1_18 hC0 rfl ?_
    refine rn_aload_n C dX1_smallOrder_35 rfl ?_
    refine rs_get C dX1_smallOrder_36 fl_X1_18 hC0 rfl ?_
    refine rs_vv C dX1_smallOrder_39 mk_X1_twice lv_X1_126 (c_ctwice (S := (S.1, r2.2.2.1, S.2.2)) hC hff hff) hC0 rfl rfl rfl rfl (by decide) (Nat.le_of_ble_eq_true rfl) (by decide) (by decide) ?_
    rw [show (ctwice_f c (co) fo (co + 2) (co + 2) (S.1, r2.2.2.1, S.2.2)).2.2 = S.2.2 from (ctwice_F c (co) fo (co + 2) (co + 2) (S.1, r2.2.2.1, S.2.2))]
    rw [show (ctwice_f c (co) fo (co + 2) (co + 2) (S.1, r2.2.2.1, S.2.2)).1 = S.1 from ctwice_I c (co) fo (co + 2) (co + 2) (S.1, r2.2.2.1, S.2.2)]
    generalize hS4 : ctwice_f c (co) fo (co + 2) (co + 2) (S.1, r2.2.2.1, S.2.2) = S4
    refine rn_iload_n C dX1_smallOrder_42 rfl ?_
    refine rn_iconst (v := nI 2) C dX1_smallOrder_43 rfl ?_
    refine rn_imul C dX1_smallOrder_44 (pk_mul _ _) ?_
    refine rn_istore_n (lv' := [(0, _), (1, _), (2, _)]) C dX1_smallOrder_45 (by decide) rfl ?_
    refine rn_goto (tgt := 11) C dX1_smallOrder_46 (by decide) ?_
    refine rn_iload_n C dX1_smallOrder_11 rfl ?_
    refine rn_bipush (v := nI 8) C dX1_smallOrder_12 rfl ?_
    refine rn_icmp_gt (tgt := 49) C dX1_smallOrder_14 (by decide) (fun hb => absurd hb (show ¬ (nI (8)) < (nI (1 * 2)) from by decide)) (fun hb => ?_)
    refine rn_aload_n C dX1_smallOrder_17 rfl ?_
    refine rn_aload_n C dX1_smallOrder_18 rfl ?_
    refine rs_get C dX1_smallOrder_19 fl_X1_18 hC0 rfl ?_
    refine rs_vz C dX1_smallOrder_22 mk_X1_isNeutral lv_X1_147 (c_cisN (S := (S.1, S4.2.1, S.2.2)) hC hff) hC0 rfl rfl rfl rfl (by decide) (Nat.le_of_ble_eq_true rfl) (by decide) (by decide) ?_
    rw [show (cisN_f c (co) fo (co + 2) (S.1, S4.2.1, S.2.2)).2.2.2 = S.2.2 from (cisN_F c (co) fo (co + 2) (S.1, S4.2.1, S.2.2))]
    rw [show (cisN_f c (co) fo (co + 2) (S.1, S4.2.1, S.2.2)).2.1 = S.1 from cisN_I c (co) fo (co + 2) (S.1, S4.2.1, S.2.2)]
    generalize hr5 : cisN_f c (co) fo (co + 2) (S.1, S4.2.1, S.2.2) = r5
    refine rn_if_eq (tgt := 30) C dX1_smallOrder_25 (by decide) (fun hb6 => ?_) (fun hb6 => ?_)
    · skip
      refine rn_aload_n C dX1_smallOrder_30 rfl ?_
      refine rn_aload_n C dX1_smallOrder_31 rfl ?_
      refine rs_get C dX1_smallOrder_32 fl_X1_18 hC0 rfl ?_
      refine rn_aload_n C dX1_smallOrder_35 rfl ?_
      refine rs_get C dX1_smallOrder_36 fl_X1_18 hC0 rfl ?_
      refine rs_vv C dX1_smallOrder_39 mk_X1_twice lv_X1_126 (c_ctwice (S := (S.1, r5.2.2.1, S.2.2)) hC hff hff) hC0 rfl rfl rfl rfl (by decide) (Nat.le_of_ble_eq_true rfl) (by decide) (by decide) ?_
      rw [show (ctwice_f c (co) fo (co + 2) (co + 2) (S.1, r5.2.2.1, S.2.2)).2.2 = S.2.2 from (ctwice_F c (co) fo (co + 2) (co + 2) (S.1, r5.2.2.1, S.2.2))]
      rw [show (ctwice_f c (co) fo (co + 2) (co + 2) (S.1, r5.2.2.1, S.2.2)).1 = S.1 from ctwice_I c (co) fo (co + 2) (co + 2) (S.1, r5.2.2.1, S.2.2)]
      generalize hS7 : ctwice_f c (co) fo (co + 2) (co + 2) (S.1, r5.2.2.1, S.2.2) = S7
      refine rn_iload_n C dX1_smallOrder_42 rfl ?_
      refine rn_iconst (v := nI 2) C dX1_smallOrder_43 rfl ?_
      refine rn_imul C dX1_smallOrder_44 (pk_mul _ _) ?_
      refine rn_istore_n (lv' := [(0, _), (1, _), (2, _)]) C dX1_smallOrder_45 (by decide) rfl ?_
      refine rn_goto (tgt := 11) C dX1_smallOrder_46 (by decide) ?_
      refine rn_iload_n C dX1_smallOrder_11 rfl ?_
      refine rn_bipush (v := nI 8) C dX1_smallOrder_12 rfl ?_
      refine rn_icmp_gt (tgt := 49) C dX1_smallOrder_14 (by decide) (fun hb => absurd hb (show ¬ (nI (8)) < (nI ((1 * 2) * 2)) from by decide)) (fun hb => ?_)
      refine rn_aload_n C dX1_smallOrder_17 rfl ?_
      refine rn_aload_n C dX1_smallOrder_18 rfl ?_
      refine rs_get C dX1_smallOrder_19 fl_X1_18 hC0 rfl ?_
      refine rs_vz C dX1_smallOrder_22 mk_X1_isNeutral lv_X1_147 (c_cisN (S := (S.1, S7.2.1, S.2.2)) hC hff) hC0 rfl rfl rfl rfl (by decide) (Nat.le_of_ble_eq_true rfl) (by decide) (by decide) ?_
      rw [show (cisN_f c (co) fo (co + 2) (S.1, S7.2.1, S.2.2)).2.2.2 = S.2.2 from (cisN_F c (co) fo (co + 2) (S.1, S7.2.1, S.2.2))]
      rw [show (cisN_f c (co) fo (co + 2) (S.1, S7.2.1, S.2.2)).2.1 = S.1 from cisN_I c (co) fo (co + 2) (S.1, S7.2.1, S.2.2)]
      generalize hr8 : cisN_f c (co) fo (co + 2) (S.1, S7.2.1, S.2.2) = r8
      refine rn_if_eq (tgt := 30) C dX1_smallOrder_25 (by decide) (fun hb9 => ?_) (fun hb9 => ?_)
      · skip
        refine rn_aload_n C dX1_smallOrder_30 rfl ?_
        refine rn_aload_n C dX1_smallOrder_31 rfl ?_
        refine rs_get C dX1_smallOrder_32 fl_X1_18 hC0 rfl ?_
        refine rn_aload_n C dX1_smallOrder_35 rfl ?_
        refine rs_get C dX1_smallOrder_36 fl_X1_18 hC0 rfl ?_
        refine rs_vv C dX1_smallOrder_39 mk_X1_twice lv_X1_126 (c_ctwice (S := (S.1, r8.2.2.1, S.2.2)) hC hff hff) hC0 rfl rfl rfl rfl (by decide) (Nat.le_of_ble_eq_true rfl) (by decide) (by decide) ?_
        rw [show (ctwice_f c (co) fo (co + 2) (co + 2) (S.1, r8.2.2.1, S.2.2)).2.2 = S.2.2 from (ctwice_F c (co) fo (co + 2) (co + 2) (S.1, r8.2.2.1, S.2.2))]
        rw [show (ctwice_f c (co) fo (co + 2) (co + 2) (S.1, r8.2.2.1, S.2.2)).1 = S.1 from ctwice_I c (co) fo (co + 2) (co + 2) (S.1, r8.2.2.1, S.2.2)]
        generalize hS10 : ctwice_f c (co) fo (co + 2) (co + 2) (S.1, r8.2.2.1, S.2.2) = S10
        refine rn_iload_n C dX1_smallOrder_42 rfl ?_
        refine rn_iconst (v := nI 2) C dX1_smallOrder_43 rfl ?_
        refine rn_imul C dX1_smallOrder_44 (pk_mul _ _) ?_
        refine rn_istore_n (lv' := [(0, _), (1, _), (2, _)]) C dX1_smallOrder_45 (by decide) rfl ?_
        refine rn_goto (tgt := 11) C dX1_smallOrder_46 (by decide) ?_
        refine rn_iload_n C dX1_smallOrder_11 rfl ?_
        refine rn_bipush (v := nI 8) C dX1_smallOrder_12 rfl ?_
        refine rn_icmp_gt (tgt := 49) C dX1_smallOrder_14 (by decide) (fun hb => absurd hb (show ¬ (nI (8)) < (nI (((1 * 2) * 2) * 2)) from by decide)) (fun hb => ?_)
        refine rn_aload_n C dX1_smallOrder_17 rfl ?_
        refine rn_aload_n C dX1_smallOrder_18 rfl ?_
        refine rs_get C dX1_smallOrder_19 fl_X1_18 hC0 rfl ?_
        refine rs_vz C dX1_smallOrder_22 mk_X1_isNeutral lv_X1_147 (c_cisN (S := (S.1, S10.2.1, S.2.2)) hC hff) hC0 rfl rfl rfl rfl (by decide) (Nat.le_of_ble_eq_true rfl) (by decide) (by decide) ?_
        rw [show (cisN_f c (co) fo (co + 2) (S.1, S10.2.1, S.2.2)).2.2.2 = S.2.2 from (cisN_F c (co) fo (co + 2) (S.1, S10.2.1, S.2.2))]
        rw [show (cisN_f c (co) fo (co + 2) (S.1, S10.2.1, S.2.2)).2.1 = S.1 from cisN_I c (co) fo (co + 2) (S.1, S10.2.1, S.2.2)]
        generalize hr11 : cisN_f c (co) fo (co + 2) (S.1, S10.2.1, S.2.2) = r11
        refine rn_if_eq (tgt := 30) C dX1_smallOrder_25 (by decide) (fun hb12 => ?_) (fun hb12 => ?_)
        · skip
          refine rn_aload_n C dX1_smallOrder_30 rfl ?_
          refine rn_aload_n C dX1_smallOrder_31 rfl ?_
          refine rs_get C dX1_smallOrder_32 fl_X1_18 hC0 rfl ?_
          refine rn_aload_n C dX1_smallOrder_35 rfl ?_
          refine rs_get C dX1_smallOrder_36 fl_X1_18 hC0 rfl ?_
          refine rs_vv C dX1_smallOrder_39 mk_X1_twice lv_X1_126 (c_ctwice (S := (S.1, r11.2.2.1, S.2.2)) hC hff hff) hC0 rfl rfl rfl rfl (by decide) (Nat.le_of_ble_eq_true rfl) (by decide) (by decide) ?_
          rw [show (ctwice_f c (co) fo (co + 2) (co + 2) (S.1, r11.2.2.1, S.2.2)).2.2 = S.2.2 from (ctwice_F c (co) fo (co + 2) (co + 2) (S.1, r11.2.2.1, S.2.2))]
          rw [show (ctwice_f c (co) fo (co + 2) (co + 2) (S.1, r11.2.2.1, S.2.2)).1 = S.1 from ctwice_I c (co) fo (co + 2) (co + 2) (S.1, r11.2.2.1, S.2.2)]
          generalize hS13 : ctwice_f c (co) fo (co + 2) (co + 2) (S.1, r11.2.2.1, S.2.2) = S13
          refine rn_iload_n C dX1_smallOrder_42 rfl ?_
          refine rn_iconst (v := nI 2) C dX1_smallOrder_43 rfl ?_
          refine rn_imul C dX1_smallOrder_44 (pk_mul _ _) ?_
          refine rn_istore_n (lv' := [(0, _), (1, _), (2, _)]) C dX1_smallOrder_45 (by decide) rfl ?_
          refine rn_goto (tgt := 11) C dX1_smallOrder_46 (by decide) ?_
          refine rn_iload_n C dX1_smallOrder_11 rfl ?_
          refine rn_bipush (v := nI 8) C dX1_smallOrder_12 rfl ?_
          refine rn_icmp_gt (tgt := 49) C dX1_smallOrder_14 (by decide) (fun hb => ?_) (fun hb => absurd (show (nI (8)) < (nI ((((1 * 2) * 2) * 2) * 2)) from by decide) hb)
          refine rn_iconst (v := nI 0) C dX1_smallOrder_49 rfl ?_
          have hret : csmall_f c co fo p S = (nI (0), (S.1, S13.2.1, S.2.2)) := by
            subst hS13
            subst hr11
            subst hS10
            subst hr8
            subst hS7
            subst hr5
            subst hS4
            subst hr2
            subst hS1
            first | (dsimp only [csmall_f]; done) | (dsimp only [csmall_f]; exact ((((if_pos hb3).trans (if_pos hb6)).trans (if_pos hb9)).trans (if_pos hb12))) | exact ((((if_pos hb3).trans (if_pos hb6)).trans (if_pos hb9)).trans (if_pos hb12))
          exact rn_iret C Rt dX1_smallOrder_50 (pi_of hret) (Nat.zero_le _) (Nat.zero_le _)
        · skip
          refine rn_iload_n C dX1_smallOrder_28 rfl ?_
          have hret : csmall_f c co fo p S = (nI (((1 * 2) * 2) * 2), (S.1, r11.2.2.1, S.2.2)) := by
            subst hr11
            subst hS10
            subst hr8
            subst hS7
            subst hr5
            subst hS4
            subst hr2
            subst hS1
            first | (dsimp only [csmall_f]; done) | (dsimp only [csmall_f]; exact ((((if_pos hb3).trans (if_pos hb6)).trans (if_pos hb9)).trans (if_neg hb12))) | exact ((((if_pos hb3).trans (if_pos hb6)).trans (if_pos hb9)).trans (if_neg hb12))
          exact rn_iret C Rt dX1_smallOrder_29 (pi_of hret) (Nat.zero_le _) (Nat.zero_le _)
      · skip
        refine rn_iload_n C dX1_smallOrder_28 rfl ?_
        have hret : csmall_f c co fo p S = (nI ((1 * 2) * 2), (S.1, r8.2.2.1, S.2.2)) := by
          subst hr8
          subst hS7
          subst hr5
          subst hS4
          subst hr2
          subst hS1
          first | (dsimp only [csmall_f]; done) | (dsimp only [csmall_f]; exact (((if_pos hb3).trans (if_pos hb6)).trans (if_neg hb9))) | exact (((if_pos hb3).trans (if_pos hb6)).trans (if_neg hb9))
        exact rn_iret C Rt dX1_smallOrder_29 (pi_of hret) (Nat.zero_le _) (Nat.zero_le _)
    · skip
      refine rn_iload_n C dX1_smallOrder_28 rfl ?_
      have hret : csmall_f c co fo p S = (nI (1 * 2), (S.1, r5.2.2.1, S.2.2)) := by
        subst hr5
        subst hS4
        subst hr2
        subst hS1
        first | (dsimp only [csmall_f]; done) | (dsimp only [csmall_f]; exact ((if_pos hb3).trans (if_neg hb6))) | exact ((if_pos hb3).trans (if_neg hb6))
      exact rn_iret C Rt dX1_smallOrder_29 (pi_of hret) (Nat.zero_le _) (Nat.zero_le _)
  · skip
    refine rn_iload_n C dX1_smallOrder_28 rfl ?_
    have hret : csmall_f c co fo p S = (nI (1), (S.1, r2.2.2.1, S.2.2)) := by
      subst hr2
      subst hS1
      first | (dsimp only [csmall_f]; done) | (dsimp only [csmall_f]; exact (if_neg hb3)) | exact (if_neg hb3)
    exact rn_iret C Rt dX1_smallOrder_29 (pi_of hret) (Nat.zero_le _) (Nat.zero_le _)
def astart_f (c : Bool) (ao : Nat) (fo : Nat) (nb : Nat) (S : StT) : StT := (let S1 := fread_f c (ao + 2) (nb) S; (S.1, S1.2.1, S.2.2))
theorem astart_F (c : Bool) (ao : Nat) (fo : Nat) (nb : Nat) (S : StT) : (astart_f c ao fo nb S).2.2 = S.2.2 := by
  unfold astart_f; first | rfl | ((repeat' split) <;> rfl) | (dsimp only; (repeat' split) <;> rfl)
theorem astart_I (c : Bool) (ao : Nat) (fo : Nat) (nb : Nat) (S : StT) : (astart_f c ao fo nb S).1 = S.1 := by
  unfold astart_f; first | rfl | ((repeat' split) <;> rfl)
set_option maxRecDepth 100000 in
set_option maxHeartbeats 400000 in
theorem c_astart {k : KX} {L : Nat → Option Sh} {S : StT} {n : Nat} {c : Bool} {ao : Nat} {fo : Nat} {nb : Nat} {m : Nat} (hA : AgreeAt k L ao fo c) (hnb : L nb = some (sI m)) (hm : m < 2 ^ 31) (hm2 : 57 ≤ m) :
    Cs k yX0_startFrom cX0_startFrom 2 none 3 0 0 [.ref (k_b k + (ao)), .ref (k_b k + (nb))] (inst k L S.1 S.2.1 S.2.2) n (Pv k L n (astart_f c ao fo nb S)) := by
  refine cs_of (by decide) (Nat.le_of_ble_eq_true rfl) ?_
  intro X hXk C Rt hnm
  subst hXk
  have hA9 := hA
  obtain ⟨hA0, hF, ha1, ha2, ha3, ha4, ha5, ha6, ha7, ha8, ha9, ha10, ha11⟩ := hA9
  have hF9 := hF
  obtain ⟨hF0, hf1, hf2, hf3, hf4, hf5, hf6, hf7, hf8, hf9⟩ := hF9
  obtain ⟨hl1, hl2⟩ := fL_le c
  have hB1 : 32 ≤ fB c ∧ fB c ≤ 56 := by cases c <;> decide
  have hld : 255 ≤ ldN c ∧ ldN c ≤ 448 := by cases c <;> decide
  refine rn_lv [(0, .ref (k_b X.1 + (ao))), (1, .ref (k_b X.1 + (nb)))] (fun q h => h) ?_
  refine rn_aload_n C dX0_startFrom_0 rfl ?_
  refine rs_get C dX0_startFrom_1 fl_X0_52 hA0 rfl ?_
  refine rn_aload_n C dX0_startFrom_4 rfl ?_
  refine rs_get C dX0_startFrom_5 fl_X0_17 hA0 rfl ?_
  refine rn_aload_n C dX0_startFrom_8 rfl ?_
  refine rs_vv C dX0_startFrom_9 mk_X3_read lv_X0_70 (c_fread hF ha2 hnb hm (by omega)) hF0 rfl rfl rfl rfl (by decide) (Nat.le_of_ble_eq_true rfl) (by decide) (by decide) ?_
  rw [show (fread_f c (ao + 2) (nb) S).2.2 = S.2.2 from (fread_F c (ao + 2) (nb) S)]
  rw [show (fread_f c (ao + 2) (nb) S).1 = S.1 from fread_I c (ao + 2) (nb) S]
  generalize hS1 : fread_f c (ao + 2) (nb) S = S1
  have hret : astart_f c ao fo nb S = (S.1, S1.2.1, S.2.2) := by
    subst hS1
    first | (dsimp only [astart_f]; done) | (dsimp only [astart_f]; exact rfl) | exact rfl
  exact rn_vret C Rt dX0_startFrom_12 (pv_of hret) (Nat.zero_le _) (Nat.zero_le _)
def aclimb_l81 (c : Bool) (ao : Nat) (fo : Nat) (S : StT)  : Nat → (Nat → Nat → Int64)
  | 0 => S.2.1
  | i81 + 1 => let y81_0 := (aclimb_l81 c ao fo S i81); (if (((S.1 (ao + 1) (((ldN c) - 1 - i81) / 2 ^ 3)) >>> ((nI (((ldN c) - 1 - i81) % 2 ^ 3)) &&& 31)) &&& (nI (1))) ≠ 0 then (let S13 := astep_f c (ao) fo (ao + 5) (ao + 6) (ao + 3) (ao + 4) (S.1, y81_0, S.2.2); S13.2.1) else (let S14 := astep_f c (ao) fo (ao + 3) (ao + 4) (ao + 5) (ao + 6) (S.1, y81_0, S.2.2); S14.2.1))
def aclimb_f (c : Bool) (ao : Nat) (fo : Nat) (to : Nat) (sc : Nat) (S : StT) : Int32 × StT := (let S1 := aload_f c (ao) fo (sc) S; (let S2 := fcopy_f c (ao + 3) (fo + 1) (S1.1, S1.2.1, S.2.2); (let S3 := fill_f (ao + 4) (16) (0) (S1.1, S2.2.1, S.2.2); (let S4 := fcopy_f c (ao + 5) (ao + 2) (S1.1, S3.2.1, S.2.2); (let S5 := fcopy_f c (ao + 6) (fo + 1) (S1.1, S4.2.1, S.2.2); (let S7 := finv_f c (fo) (ao + 4) (ao + 4) (S1.1, (aclimb_l81 c ao fo (S1.1, S5.2.1, S.2.2) (ldN c)), S.2.2); (let S8 := mul_f c (fo) (ao + 3) (ao + 3) (ao + 4) (S1.1, S7.2.1, S.2.2); (let S9 := fwrite_f c (fo) (to) (ao + 3) (S1.1, S8.2.1, S.2.2); (let r10 := fisZero_f c (fo) (ao + 3) (S9.1, S9.2.1, S.2.2); (if (r10.1) ≠ 0 then (nI (0), (S9.1, r10.2.2.1, S.2.2)) else (nI (1), (S9.1, r10.2.2.1, S.2.2))))))))))))
theorem aclimb_F (c : Bool) (ao : Nat) (fo : Nat) (to : Nat) (sc : Nat) (S : StT) : (aclimb_f c ao fo to sc S).2.2.2 = S.2.2 := by
  unfold aclimb_f; first | rfl | ((repeat' split) <;> rfl) | (dsimp only; (repeat' split) <;> rfl)
set_option maxRecDepth 100000 in
set_option maxHeartbeats 400000 in
theorem c_aclimb {k : KX} {L : Nat → Option Sh} {S : StT} {n : Nat} {c : Bool} {ao : Nat} {fo : Nat} {to : Nat} {m : Nat} {sc : Nat} (hA : AgreeAt k L ao fo c) (hto : L to = some (sI m)) (hm : m < 2 ^ 31) (hm2 : 57 ≤ m) (hsc : L sc = some (sI 57)) :
    Cs k yX0_climb cX0_climb 4 (some .boolean) 4 0 0 [.ref (k_b k + (ao)), .ref (k_b k + (to)), .ref (k_b k + (sc))] (inst k L S.1 S.2.1 S.2.2) n (Pi k L n (aclimb_f c ao fo to sc S)) := by
  refine cs_of (by decide) (Nat.le_of_ble_eq_true rfl) ?_
  intro X hXk C Rt hnm
  subst hXk
  have hA9 := hA
  obtain ⟨hA0, hF, ha1, ha2, ha3, ha4, ha5, ha6, ha7, ha8, ha9, ha10, ha11⟩ := hA9
  have hF9 := hF
  obtain ⟨hF0, hf1, hf2, hf3, hf4, hf5, hf6, hf7, hf8, hf9⟩ := hF9
  obtain ⟨hl1, hl2⟩ := fL_le c
  have hB1 : 32 ≤ fB c ∧ fB c ≤ 56 := by cases c <;> decide
  have hld : 255 ≤ ldN c ∧ ldN c ≤ 448 := by cases c <;> decide
  refine rn_lv [(0, .ref (k_b X.1 + (ao))), (1, .ref (k_b X.1 + (to))), (2, .ref (k_b X.1 + (sc)))] (fun q h => h) ?_
  refine rn_aload_n C dX0_climb_0 rfl ?_
  refine rn_aload_n C dX0_climb_1 rfl ?_
  refine rs_vv C dX0_climb_2 mk_X0_loadScalar lv_X0_76 (c_aload hA hsc) hA0 rfl rfl rfl rfl (by decide) (Nat.le_of_ble_eq_true rfl) (by decide) (by decide) ?_
  rw [show (aload_f c (ao) fo (sc) S).2.2 = S.2.2 from (aload_F c (ao) fo (sc) S)]
  generalize hS1 : aload_f c (ao) fo (sc) S = S1
  refine rn_aload_n C dX0_climb_5 rfl ?_
  refine rs_get C dX0_climb_6 fl_X0_52 hA0 rfl ?_
  refine rn_aload_n C dX0_climb_9 rfl ?_
  refine rs_get C dX0_climb_10 fl_X0_21 hA0 rfl ?_
  refine rn_aload_n C dX0_climb_13 rfl ?_
  refine rs_get C dX0_climb_14 fl_X0_52 hA0 rfl ?_
  refine rs_get C dX0_climb_17 fl_X0_80 hF0 rfl ?_
  refine rs_vv C dX0_climb_20 mk_X3_copy lv_X0_83 (c_fcopy (S := (S1.1, S1.2.1, S.2.2)) hF ha3 hf1) hF0 rfl rfl rfl rfl (by decide) (Nat.le_of_ble_eq_true rfl) (by decide) (by decide) ?_
  rw [show (fcopy_f c (ao + 3) (fo + 1) (S1.1, S1.2.1, S.2.2)).2.2 = S.2.2 from (fcopy_F c (ao + 3) (fo + 1) (S1.1, S1.2.1, S.2.2))]
  rw [show (fcopy_f c (ao + 3) (fo + 1) (S1.1, S1.2.1, S.2.2)).1 = S1.1 from fcopy_I c (ao + 3) (fo + 1) (S1.1, S1.2.1, S.2.2)]
  generalize hS2 : fcopy_f c (ao + 3) (fo + 1) (S1.1, S1.2.1, S.2.2) = S2
  refine rn_aload_n C dX0_climb_23 rfl ?_
  refine rs_get C dX0_climb_24 fl_X0_24 hA0 rfl ?_
  refine rn_lconst (v := 0) C dX0_climb_27 rfl ?_
  refine rs_sv C dX0_climb_28 mk_J7_fill_d0a16 ls_X0_60 (c_fill (S := (S1.1, S2.2.1, S.2.2)) ha4 (by decide)) rfl rfl (by decide) (Nat.le_of_ble_eq_true rfl) (by decide) (by decide) ?_
  rw [show (fill_f (ao + 4) (16) (0) (S1.1, S2.2.1, S.2.2)).2.2 = S.2.2 from (fill_F (ao + 4) (16) (0) (S1.1, S2.2.1, S.2.2))]
  rw [show (fill_f (ao + 4) (16) (0) (S1.1, S2.2.1, S.2.2)).1 = S1.1 from fill_I (ao + 4) (16) (0) (S1.1, S2.2.1, S.2.2)]
  generalize hS3 : fill_f (ao + 4) (16) (0) (S1.1, S2.2.1, S.2.2) = S3
  refine rn_aload_n C dX0_climb_31 rfl ?_
  refine rs_get C dX0_climb_32 fl_X0_52 hA0 rfl ?_
  refine rn_aload_n C dX0_climb_35 rfl ?_
  refine rs_get C dX0_climb_36 fl_X0_27 hA0 rfl ?_
  refine rn_aload_n C dX0_climb_39 rfl ?_
  refine rs_get C dX0_climb_40 fl_X0_17 hA0 rfl ?_
  refine rs_vv C dX0_climb_43 mk_X3_copy lv_X0_83 (c_fcopy (S := (S1.1, S3.2.1, S.2.2)) hF ha5 ha2) hF0 rfl rfl rfl rfl (by decide) (Nat.le_of_ble_eq_true rfl) (by decide) (by decide) ?_
  rw [show (fcopy_f c (ao + 5) (ao + 2) (S1.1, S3.2.1, S.2.2)).2.2 = S.2.2 from (fcopy_F c (ao + 5) (ao + 2) (S1.1, S3.2.1, S.2.2))]
  rw [show (fcopy_f c (ao + 5) (ao + 2) (S1.1, S3.2.1, S.2.2)).1 = S1.1 from fcopy_I c (ao + 5) (ao + 2) (S1.1, S3.2.1, S.2.2)]
  generalize hS4 : fcopy_f c (ao + 5) (ao + 2) (S1.1, S3.2.1, S.2.2) = S4
  refine rn_aload_n C dX0_climb_46 rfl ?_
  refine rs_get C dX0_climb_47 fl_X0_52 hA0 rfl ?_
  refine rn_aload_n C dX0_climb_50 rfl ?_
  refine rs_get C dX0_climb_51 fl_X0_30 hA0 rfl ?_
  refine rn_aload_n C dX0_climb_54 rfl ?_
  refine rs_get C dX0_climb_55 fl_X0_52 hA0 rfl ?_
  refine rs_get C dX0_climb_58 fl_X0_80 hF0 rfl ?_
  refine rs_vv C dX0_climb_61 mk_X3_copy lv_X0_83 (c_fcopy (S := (S1.1, S4.2.1, S.2.2)) hF ha6 hf1) hF0 rfl rfl rfl rfl (by decide) (Nat.le_of_ble_eq_true rfl) (by decide) (by decide) ?_
  rw [show (fcopy_f c (ao + 6) (fo + 1) (S1.1, S4.2.1, S.2.2)).2.2 = S.2.2 from (fcopy_F c (ao + 6) (fo + 1) (S1.1, S4.2.1, S.2.2))]
  rw [show (fcopy_f c (ao + 6) (fo + 1) (S1.1, S4.2.1, S.2.2)).1 = S1.1 from fcopy_I c (ao + 6) (fo + 1) (S1.1, S4.2.1, S.2.2)]
  generalize hS5 : fcopy_f c (ao + 6) (fo + 1) (S1.1, S4.2.1, S.2.2) = S5
  refine rn_aload_n C dX0_climb_64 rfl ?_
  refine rs_get C dX0_climb_65 fl_X0_48 hA0 rfl ?_
  have K68_6 : Rn X 80 [(0, .ref (k_b X.1 + (ao))), (1, .ref (k_b X.1 + (to))), (2, .ref (k_b X.1 + (sc)))] [.int (nI ((if (bI c) = 0 then 254 else 447)))] (inst X.1 L S1.1 S5.2.1 S.2.2) n 0 0 := by
    rw [show nI ((if (bI c) = 0 then 254 else 447)) = nI (ldN c - 1) from (by cases c <;> rfl)]
    refine rn_istore_n (lv' := [(0, _), (1, _), (2, _), (3, _)]) C dX0_climb_80 (by decide) rfl ?_
    have lp81 : ∀ i81, i81 ≤ ldN c → Rn X 81 [(0, .ref (k_b X.1 + (ao))), (1, .ref (k_b X.1 + (to))), (2, .ref (k_b X.1 + (sc))), (3, .int (dn ((ldN c) - i81)))] [] (inst X.1 L S1.1 (aclimb_l81 c ao fo (S1.1, S5.2.1, S.2.2) i81) S.2.2) n 0 0 := by
      refine upto _ _ ?_ (fun i81 hi81 ih81 => ?_)
      · skip
        rw [dn_end]
        refine rn_iload_n C dX0_climb_81 rfl ?_
        refine rn_if_lt (tgt := 152) C dX0_climb_82 (by decide) (fun _ => ?_) (fun q => absurd (by decide) q)
        refine rn_aload_n C dX0_climb_152 rfl ?_
        refine rs_get C dX0_climb_153 fl_X0_52 hA0 rfl ?_
        refine rn_aload_n C dX0_climb_156 rfl ?_
        refine rs_get C dX0_climb_157 fl_X0_24 hA0 rfl ?_
        refine rn_aload_n C dX0_climb_160 rfl ?_
        refine rs_get C dX0_climb_161 fl_X0_24 hA0 rfl ?_
        refine rs_vv C dX0_climb_164 mk_X3_invert lv_X0_91 (c_finv (S := (S1.1, (aclimb_l81 c ao fo (S1.1, S5.2.1, S.2.2) (ldN c)), S.2.2)) hF ha4 ha4) hF0 rfl rfl rfl rfl (by decide) (Nat.le_of_ble_eq_true rfl) (by decide) (by decide) ?_
        rw [show (finv_f c (fo) (ao + 4) (ao + 4) (S1.1, (aclimb_l81 c ao fo (S1.1, S5.2.1, S.2.2) (ldN c)), S.2.2)).2.2 = S.2.2 from (finv_F c (fo) (ao + 4) (ao + 4) (S1.1, (aclimb_l81 c ao fo (S1.1, S5.2.1, S.2.2) (ldN c)), S.2.2))]
        rw [show (finv_f c (fo) (ao + 4) (ao + 4) (S1.1, (aclimb_l81 c ao fo (S1.1, S5.2.1, S.2.2) (ldN c)), S.2.2)).1 = S1.1 from finv_I c (fo) (ao + 4) (ao + 4) (S1.1, (aclimb_l81 c ao fo (S1.1, S5.2.1, S.2.2) (ldN c)), S.2.2)]
        generalize hS7 : finv_f c (fo) (ao + 4) (ao + 4) (S1.1, (aclimb_l81 c ao fo (S1.1, S5.2.1, S.2.2) (ldN c)), S.2.2) = S7
        refine rn_aload_n C dX0_climb_167 rfl ?_
        refine rs_get C dX0_climb_168 fl_X0_52 hA0 rfl ?_
        refine rn_aload_n C dX0_climb_171 rfl ?_
        refine rs_get C dX0_climb_172 fl_X0_21 hA0 rfl ?_
        refine rn_aload_n C dX0_climb_175 rfl ?_
        refine rs_get C dX0_climb_176 fl_X0_21 hA0 rfl ?_
        refine rn_aload_n C dX0_climb_179 rfl ?_
        refine rs_get C dX0_climb_180 fl_X0_24 hA0 rfl ?_
        refine rs_vv C dX0_climb_183 mk_X3_multiply lv_X0_94 (c_mul (S := (S1.1, S7.2.1, S.2.2)) hF ha3 ha3 ha4) hF0 rfl rfl rfl rfl (by decide) (Nat.le_of_ble_eq_true rfl) (by decide) (by decide) ?_
        rw [show (mul_f c (fo) (ao + 3) (ao + 3) (ao + 4) (S1.1, S7.2.1, S.2.2)).2.2 = S.2.2 from (mul_F c (fo) (ao + 3) (ao + 3) (ao + 4) (S1.1, S7.2.1, S.2.2))]
        rw [show (mul_f c (fo) (ao + 3) (ao + 3) (ao + 4) (S1.1, S7.2.1, S.2.2)).1 = S1.1 from mul_I c (fo) (ao + 3) (ao + 3) (ao + 4) (S1.1, S7.2.1, S.2.2)]
        generalize hS8 : mul_f c (fo) (ao + 3) (ao + 3) (ao + 4) (S1.1, S7.2.1, S.2.2) = S8
        refine rn_aload_n C dX0_climb_186 rfl ?_
        refine rs_get C dX0_climb_187 fl_X0_52 hA0 rfl ?_
        refine rn_aload_n C dX0_climb_190 rfl ?_
        refine rn_aload_n C dX0_climb_191 rfl ?_
        refine rs_get C dX0_climb_192 fl_X0_21 hA0 rfl ?_
        refine rs_vv C dX0_climb_195 mk_X3_write lv_X0_98 (c_fwrite (S := (S1.1, S8.2.1, S.2.2)) hF hto hm (by omega) ha3) hF0 rfl rfl rfl rfl (by decide) (Nat.le_of_ble_eq_true rfl) (by decide) (by decide) ?_
        rw [show (fwrite_f c (fo) (to) (ao + 3) (S1.1, S8.2.1, S.2.2)).2.2 = S.2.2 from (fwrite_F c (fo) (to) (ao + 3) (S1.1, S8.2.1, S.2.2))]
        generalize hS9 : fwrite_f c (fo) (to) (ao + 3) (S1.1, S8.2.1, S.2.2) = S9
        refine rn_aload_n C dX0_climb_198 rfl ?_
        refine rs_get C dX0_climb_199 fl_X0_52 hA0 rfl ?_
        refine rn_aload_n C dX0_climb_202 rfl ?_
        refine rs_get C dX0_climb_203 fl_X0_21 hA0 rfl ?_
        refine rs_vz C dX0_climb_206 mk_X3_isZero lv_X0_102 (c_fisZero (S := (S9.1, S9.2.1, S.2.2)) hF ha3) hF0 rfl rfl rfl rfl (by decide) (Nat.le_of_ble_eq_true rfl) (by decide) (by decide) ?_
        rw [show (fisZero_f c (fo) (ao + 3) (S9.1, S9.2.1, S.2.2)).2.2.2 = S.2.2 from (fisZero_F c (fo) (ao + 3) (S9.1, S9.2.1, S.2.2))]
        rw [show (fisZero_f c (fo) (ao + 3) (S9.1, S9.2.1, S.2.2)).2.1 = S9.1 from fisZero_I c (fo) (ao + 3) (S9.1, S9.2.1, S.2.2)]
        generalize hr10 : fisZero_f c (fo) (ao + 3) (S9.1, S9.2.1, S.2.2) = r10
        refine rn_if_ne (tgt := 216) C dX0_climb_209 (by decide) (fun hb11 => ?_) (fun hb11 => ?_)
        · skip
          refine rn_iconst (v := nI 0) C dX0_climb_216 rfl ?_
          have hret : aclimb_f c ao fo to sc S = (nI (0), (S9.1, r10.2.2.1, S.2.2)) := by
            subst hr10
            subst hS9
            subst hS8
            subst hS7
            subst hS5
            subst hS4
            subst hS3
            subst hS2
            subst hS1
            first | (dsimp only [aclimb_f]; done) | (dsimp only [aclimb_f]; exact (if_pos hb11)) | exact (if_pos hb11)
          exact rn_zret C Rt dX0_climb_217 (by first | rfl | exact rfl) (pi_of hret) (Nat.zero_le _) (Nat.zero_le _)
        · skip
          refine rn_iconst (v := nI 1) C dX0_climb_212 rfl ?_
          refine rn_goto (tgt := 217) C dX0_climb_213 (by decide) ?_
          have hret : aclimb_f c ao fo to sc S = (nI (1), (S9.1, r10.2.2.1, S.2.2)) := by
            subst hr10
            subst hS9
            subst hS8
            subst hS7
            subst hS5
            subst hS4
            subst hS3
            subst hS2
            subst hS1
            first | (dsimp only [aclimb_f]; done) | (dsimp only [aclimb_f]; exact (if_neg (fun q => q hb11))) | exact (if_neg (fun q => q hb11))
          exact rn_zret C Rt dX0_climb_217 (by first | rfl | exact rfl) (pi_of hret) (Nat.zero_le _) (Nat.zero_le _)
      · skip
        rw [dn_at hi81]
        refine rn_iload_n C dX0_climb_81 rfl ?_
        refine rs_lt0 (tgt := 152) C dX0_climb_82 (by decide) rfl (by omega) ?_
        refine rn_aload_n C dX0_climb_85 rfl ?_
        refine rs_get C dX0_climb_86 fl_X0_9 hA0 rfl ?_
        refine rn_iload_n C dX0_climb_89 rfl ?_
        refine rn_iconst (v := nI 3) C dX0_climb_90 rfl ?_
        refine rn_ishr C dX0_climb_91 (pk_shrN (by omega) _ 3 (by decide)) ?_
        refine rs_iaload C dX0_climb_92 ha1 rfl (by omega) (by decide) ?_
        refine rn_iload_n C dX0_climb_93 rfl ?_
        refine rn_bipush (v := nI 7) C dX0_climb_94 rfl ?_
        refine rn_iand C dX0_climb_96 (pk_andN (by omega) 3 (by decide)) ?_
        refine rn_ishr C dX0_climb_97 rfl ?_
        refine rn_iconst (v := nI 1) C dX0_climb_98 rfl ?_
        refine rn_iand C dX0_climb_99 rfl ?_
        refine rn_if_ne (tgt := 126) C dX0_climb_100 (by decide) (fun hb12 => ?_) (fun hb12 => ?_)
        · skip
          refine rn_aload_n C dX0_climb_126 rfl ?_
          refine rn_aload_n C dX0_climb_127 rfl ?_
          refine rs_get C dX0_climb_128 fl_X0_27 hA0 rfl ?_
          refine rn_aload_n C dX0_climb_131 rfl ?_
          refine rs_get C dX0_climb_132 fl_X0_30 hA0 rfl ?_
          refine rn_aload_n C dX0_climb_135 rfl ?_
          refine rs_get C dX0_climb_136 fl_X0_21 hA0 rfl ?_
          refine rn_aload_n C dX0_climb_139 rfl ?_
          refine rs_get C dX0_climb_140 fl_X0_24 hA0 rfl ?_
          refine rs_vv C dX0_climb_143 mk_X0_step lv_X0_87 (c_astep (S := ((S1.1, S5.2.1, S.2.2).1, (aclimb_l81 c ao fo (S1.1, S5.2.1, S.2.2) i81), S.2.2)) hA ha5 ha6 ha3 ha4) hA0 rfl rfl rfl rfl (by decide) (Nat.le_of_ble_eq_true rfl) (by decide) (by decide) ?_
          rw [show (astep_f c (ao) fo (ao + 5) (ao + 6) (ao + 3) (ao + 4) ((S1.1, S5.2.1, S.2.2).1, (aclimb_l81 c ao fo (S1.1, S5.2.1, S.2.2) i81), S.2.2)).2.2 = S.2.2 from (astep_F c (ao) fo (ao + 5) (ao + 6) (ao + 3) (ao + 4) ((S1.1, S5.2.1, S.2.2).1, (aclimb_l81 c ao fo (S1.1, S5.2.1, S.2.2) i81), S.2.2))]
          rw [show (astep_f c (ao) fo (ao + 5) (ao + 6) (ao + 3) (ao + 4) ((S1.1, S5.2.1, S.2.2).1, (aclimb_l81 c ao fo (S1.1, S5.2.1, S.2.2) i81), S.2.2)).1 = (S1.1, S5.2.1, S.2.2).1 from astep_I c (ao) fo (ao + 5) (ao + 6) (ao + 3) (ao + 4) ((S1.1, S5.2.1, S.2.2).1, (aclimb_l81 c ao fo (S1.1, S5.2.1, S.2.2) i81), S.2.2)]
          generalize hS13 : astep_f c (ao) fo (ao + 5) (ao + 6) (ao + 3) (ao + 4) ((S1.1, S5.2.1, S.2.2).1, (aclimb_l81 c ao fo (S1.1, S5.2.1, S.2.2) i81), S.2.2) = S13
          refine rn_iinc (lv' := [(0, _), (1, _), (2, _), (3, _)]) C dX0_climb_146 rfl (dn_dec hi81) (by decide) rfl ?_
          refine rn_goto (tgt := 81) C dX0_climb_149 (by decide) ?_
          have he81 : aclimb_l81 c ao fo (S1.1, S5.2.1, S.2.2) (i81 + 1) = S13.2.1 := by
            subst hS13
            first | (dsimp only [aclimb_l81]; done) | (dsimp only [aclimb_l81]; exact (if_pos hb12)) | exact (if_pos hb12)
          rw [he81] at ih81
          exact rn_ks [0, 1, 2, 3] ih81 rfl
        · skip
          refine rn_aload_n C dX0_climb_103 rfl ?_
          refine rn_aload_n C dX0_climb_104 rfl ?_
          refine rs_get C dX0_climb_105 fl_X0_21 hA0 rfl ?_
          refine rn_aload_n C dX0_climb_108 rfl ?_
          refine rs_get C dX0_climb_109 fl_X0_24 hA0 rfl ?_
          refine rn_aload_n C dX0_climb_112 rfl ?_
          refine rs_get C dX0_climb_113 fl_X0_27 hA0 rfl ?_
          refine rn_aload_n C dX0_climb_116 rfl ?_
          refine rs_get C dX0_climb_117 fl_X0_30 hA0 rfl ?_
          refine rs_vv C dX0_climb_120 mk_X0_step lv_X0_87 (c_astep (S := ((S1.1, S5.2.1, S.2.2).1, (aclimb_l81 c ao fo (S1.1, S5.2.1, S.2.2) i81), S.2.2)) hA ha3 ha4 ha5 ha6) hA0 rfl rfl rfl rfl (by decide) (Nat.le_of_ble_eq_true rfl) (by decide) (by decide) ?_
          rw [show (astep_f c (ao) fo (ao + 3) (ao + 4) (ao + 5) (ao + 6) ((S1.1, S5.2.1, S.2.2).1, (aclimb_l81 c ao fo (S1.1, S5.2.1, S.2.2) i81), S.2.2)).2.2 = S.2.2 from (astep_F c (ao) fo (ao + 3) (ao + 4) (ao + 5) (ao + 6) ((S1.1, S5.2.1, S.2.2).1, (aclimb_l81 c ao fo (S1.1, S5.2.1, S.2.2) i81), S.2.2))]
          rw [show (astep_f c (ao) fo (ao + 3) (ao + 4) (ao + 5) (ao + 6) ((S1.1, S5.2.1, S.2.2).1, (aclimb_l81 c ao fo (S1.1, S5.2.1, S.2.2) i81), S.2.2)).1 = (S1.1, S5.2.1, S.2.2).1 from astep_I c (ao) fo (ao + 3) (ao + 4) (ao + 5) (ao + 6) ((S1.1, S5.2.1, S.2.2).1, (aclimb_l81 c ao fo (S1.1, S5.2.1, S.2.2) i81), S.2.2)]
          generalize hS14 : astep_f c (ao) fo (ao + 3) (ao + 4) (ao + 5) (ao + 6) ((S1.1, S5.2.1, S.2.2).1, (aclimb_l81 c ao fo (S1.1, S5.2.1, S.2.2) i81), S.2.2) = S14
          refine rn_goto (tgt := 146) C dX0_climb_123 (by decide) ?_
          refine rn_iinc (lv' := [(0, _), (1, _), (2, _), (3, _)]) C dX0_climb_146 rfl (dn_dec hi81) (by decide) rfl ?_
          refine rn_goto (tgt := 81) C dX0_climb_149 (by decide) ?_
          have he81 : aclimb_l81 c ao fo (S1.1, S5.2.1, S.2.2) (i81 + 1) = S14.2.1 := by
            subst hS14
            first | (dsimp only [aclimb_l81]; done) | (dsimp only [aclimb_l81]; exact (if_neg (fun q => q hb12))) | exact (if_neg (fun q => q hb12))
          rw [he81] at ih81
          exact rn_ks [0, 1, 2, 3] ih81 rfl
    have hz81 := lp81 0 (Nat.zero_le _)
    rw [dn_at (N := ldN c) (i := 0) (by omega)] at hz81
    exact hz81
  refine rn_if_eq (tgt := 77) C dX0_climb_68 (by decide) (fun hb6 => ?_) (fun hb6 => ?_)
  · skip
    refine rn_sipush (v := nI 254) C dX0_climb_77 rfl ?_
    rw [if_pos hb6] at K68_6
    exact K68_6
  · skip
    refine rn_sipush (v := nI 447) C dX0_climb_71 rfl ?_
    refine rn_goto (tgt := 80) C dX0_climb_74 (by decide) ?_
    rw [if_neg hb6] at K68_6
    exact K68_6
def swrite_f (c : Bool) (so : Nat) (to : Nat) (fr : Nat) (x : Nat) (S : StT) : StT := (let S1 := lto_f (to) (fr) (cB c) (x) (28) S; (S1.1, S1.2.1, S.2.2))
theorem swrite_F (c : Bool) (so : Nat) (to : Nat) (fr : Nat) (x : Nat) (S : StT) : (swrite_f c so to fr x S).2.2 = S.2.2 := by
  unfold swrite_f; first | rfl | ((repeat' split) <;> rfl) | (dsimp only; (repeat' split) <;> rfl)
set_option maxRecDepth 100000 in
set_option maxHeartbeats 400000 in
theorem c_swrite {k : KX} {L : Nat → Option Sh} {S : StT} {n : Nat} {c : Bool} {so : Nat} {to : Nat} {m : Nat} {fr : Nat} {x : Nat} (hS : ScAt k L so c) (hto : L to = some (sI m)) (hm : m < 2 ^ 31) (hfr : fr + cB c ≤ m) (hx : L x = some (sJ 16)) :
    Cs k yX7_write cX7_write 4 none 1 0 0 [.ref (k_b k + (so)), .ref (k_b k + (to)), .int (nI (fr)), .ref (k_b k + (x))] (inst k L S.1 S.2.1 S.2.2) n (Pv k L n (swrite_f c so to fr x S)) := by
  refine cs_of (by decide) (Nat.le_of_ble_eq_true rfl) ?_
  intro X hXk C Rt hnm
  subst hXk
  have hS9 := hS
  obtain ⟨hS0, hs1, hs2, hs3, hs4⟩ := hS9
  obtain ⟨hl1, hl2⟩ := sL_le c
  obtain ⟨hb1, hb2⟩ := cB_le c
  refine rn_lv [(0, .ref (k_b X.1 + (so))), (1, .ref (k_b X.1 + (to))), (2, .int (nI (fr))), (3, .ref (k_b X.1 + (x)))] (fun q h => h) ?_
  refine rn_aload_n C dX7_write_0 rfl ?_
  refine rn_iload_n C dX7_write_1 rfl ?_
  refine rn_aload_n C dX7_write_2 rfl ?_
  refine rs_get C dX7_write_3 fl_X7_20 hS0 rfl ?_
  refine rn_aload_n C dX7_write_6 rfl ?_
  refine rn_bipush (v := nI 28) C dX7_write_7 rfl ?_
  refine rs_sv C dX7_write_9 mk_X4_toBytes ls_X7_35 (c_lto hto hm (by omega) (by omega) hx (by omega) (by omega)) rfl rfl (by decide) (Nat.le_of_ble_eq_true rfl) (by decide) (by decide) ?_
  rw [show (lto_f (to) (fr) (cB c) (x) (28) S).2.2 = S.2.2 from (lto_F (to) (fr) (cB c) (x) (28) S)]
  generalize hS1 : lto_f (to) (fr) (cB c) (x) (28) S = S1
  have hret : swrite_f c so to fr x S = (S1.1, S1.2.1, S.2.2) := by
    subst hS1
    first | (dsimp only [swrite_f]; done) | (dsimp only [swrite_f]; exact rfl) | exact rfl
  exact rn_vret C Rt dX7_write_12 (pv_of hret) (Nat.zero_le _) (Nat.zero_le _)
