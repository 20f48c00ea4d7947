/-! CurveSuiteModel: methods as functions of the contents, by program (dc.py, spec_model.py) -/
def zero28_l2 (mo : Nat) (a : Nat) (S : StT)  : Nat → (Nat → Nat → Int32)
  | 0 => S.1
  | i2 + 1 => let y2_0 := (zero28_l2 mo a S i2); va_up y2_0 (mo + 7) (upd (y2_0 (mo + 7)) (32 * a + i2) (nI (0)))
def zero28_f (mo : Nat) (a : Nat) (S : StT) : StT := ((zero28_l2 mo a S 32), S.2.1, S.2.2)
theorem zero28_F (mo : Nat) (a : Nat) (S : StT) : (zero28_f mo a S).2.2 = S.2.2 := by
  unfold zero28_f; first | rfl | (simp only [true_and]; done) | ((repeat' split) <;> first | rfl | (simp only [true_and]; done))
set_option maxRecDepth 100000 in
set_option maxHeartbeats 4000000 in
theorem c_zero28 {k : KX} {L : Nat → Option Sh} {S : StT} {n : Nat} {mo : Nat} {a : Nat} (hM : ModelAt k L mo) (ha : a < 64) :
    Cs k yX12_zero28 cX12_zero28 3 none 0 0 0 [.ref (k_b k + (mo)), .int (nI (a))] (inst k L S.1 S.2.1 S.2.2) n (Pv k L n (zero28_f mo a S)) := by
  refine cs_of (by decide) (Nat.le_of_ble_eq_true rfl) ?_
  intro X hXk C Rt hnm
  subst hXk
  have hM9 := hM
  obtain ⟨hM0, hm1, hm2, hm3, hm4, hm5, hm6, hm7, hm8, hm9, hm10, hm11, hm12, hm13, hm14, hm15, hm16, hm17, hm18, hm19, hm20, hm21, hm22, hm23, hm24, hm25, hm26, hm27⟩ := hM9
  refine rn_lv [(0, .ref (k_b X.1 + (mo))), (1, .int (nI (a)))] (fun q h => h) ?_
  refine rn_iconst (v := nI 0) C dX12_zero28_0 rfl ?_
  refine rn_istore_n (lv' := [(0, _), (1, _), (2, _)]) C dX12_zero28_1 (by decide) rfl ?_
  have lp2 : ∀ i2, i2 ≤ 32 → Rn X 2 [(0, .ref (k_b X.1 + (mo))), (1, .int (nI (a))), (2, .int (nI (i2)))] [] (inst X.1 L (zero28_l2 mo a S i2) S.2.1 S.2.2) n 0 0 := by
    refine upto _ _ ?_ (fun i2 hi2 ih2 => ?_)
    · skip
      refine rn_iload_n C dX12_zero28_2 rfl ?_
      refine rn_bipush (v := nI 32) C dX12_zero28_3 rfl ?_
      refine rs_ge (tgt := 26) C dX12_zero28_5 (by decide) rfl rfl (by omega) (by omega) (fun _ => ?_) (fun q => absurd q (by omega))
      exact rn_vret C Rt dX12_zero28_26 (pv_of rfl) (Nat.zero_le _) (Nat.zero_le _)
    · skip
      refine rn_iload_n C dX12_zero28_2 rfl ?_
      refine rn_bipush (v := nI 32) C dX12_zero28_3 rfl ?_
      refine rs_ge (tgt := 26) C dX12_zero28_5 (by decide) rfl rfl (by omega) (by omega) (fun q => absurd q (by omega)) (fun _ => ?_)
      refine rn_aload_n C dX12_zero28_8 rfl ?_
      refine rs_get C dX12_zero28_9 fl_X12_41 hM0 rfl ?_
      refine rn_bipush (v := nI 32) C dX12_zero28_12 rfl ?_
      refine rn_iload_n C dX12_zero28_14 rfl ?_
      refine rn_imul C dX12_zero28_15 (pk_mul _ _) ?_
      refine rn_iload_n C dX12_zero28_16 rfl ?_
      refine rn_iadd C dX12_zero28_17 (nI_add _ _) ?_
      refine rn_iconst (v := nI 0) C dX12_zero28_18 rfl ?_
      refine rs_iastore C dX12_zero28_19 hm7 rfl (by omega) (by decide) ?_
      refine rn_iinc (lv' := [(0, _), (1, _), (2, _)]) C dX12_zero28_20 rfl (nI_inc _) (by decide) rfl ?_
      refine rn_goto (tgt := 2) C dX12_zero28_23 (by decide) ?_
      exact rn_ks [0, 1, 2] ih2 rfl
  exact lp2 0 (Nat.zero_le _)
def mzero_f (mo : Nat) (a : Nat) (S : StT) : StT := zero28_f (mo) (a) S
theorem mzero_F (mo : Nat) (a : Nat) (S : StT) : (mzero_f mo a S).2.2 = S.2.2 := by
  unfold mzero_f; first | rfl | (simp only [zero28_F]; done) | ((repeat' split) <;> first | rfl | (simp only [zero28_F]; done))
set_option maxRecDepth 100000 in
set_option maxHeartbeats 4000000 in
theorem c_mzero {k : KX} {L : Nat → Option Sh} {S : StT} {n : Nat} {mo : Nat} {a : Nat} (hM : ModelAt k L mo) (ha : a < 64) :
    Cs k yX12_zero cX12_zero 2 none 1 0 0 [.ref (k_b k + (mo)), .int (nI (a))] (inst k L S.1 S.2.1 S.2.2) n (Pv k L n (mzero_f mo a S)) := by
  refine cs_of (by decide) (Nat.le_of_ble_eq_true rfl) ?_
  intro X hXk C Rt hnm
  subst hXk
  have hM9 := hM
  obtain ⟨hM0, hm1, hm2, hm3, hm4, hm5, hm6, hm7, hm8, hm9, hm10, hm11, hm12, hm13, hm14, hm15, hm16, hm17, hm18, hm19, hm20, hm21, hm22, hm23, hm24, hm25, hm26, hm27⟩ := hM9
  refine rn_lv [(0, .ref (k_b X.1 + (mo))), (1, .int (nI (a)))] (fun q h => h) ?_
  refine rn_aload_n C dX12_zero_0 rfl ?_
  refine rn_iload_n C dX12_zero_1 rfl ?_
  refine rs_vv C dX12_zero_2 mk_X12_zero28 lv_X12_168 (c_zero28 hM (by omega)) hM0 rfl rfl rfl rfl (by decide) (by decide) (by decide) (by decide) ?_
  exact rn_vret C Rt dX12_zero_5 (pv_of rfl) (Nat.zero_le _) (Nat.zero_le _)
def msmall_f (mo : Nat) (a : Nat) (v : Int32) (S : StT) : StT := (let I1 := va_up (zero28_f (mo) (a) S).1 (mo + 7) (upd ((zero28_f (mo) (a) S).1 (mo + 7)) (32 * a) ((v) &&& (65535))); (let I2 := va_up I1 (mo + 7) (upd (I1 (mo + 7)) (32 * a + 1) (((v).toUInt32 >>> ((nI (16)).toUInt32 &&& Int32.toUInt32 31)).toInt32)); (I2, (zero28_f (mo) (a) S).2.1, (zero28_f (mo) (a) S).2.2)))
theorem msmall_F (mo : Nat) (a : Nat) (v : Int32) (S : StT) : (msmall_f mo a v S).2.2 = S.2.2 := by
  unfold msmall_f; first | rfl | (simp only [zero28_F, mzero_F]; done) | ((repeat' split) <;> first | rfl | (simp only [zero28_F, mzero_F]; done))
set_option maxRecDepth 100000 in
set_option maxHeartbeats 4000000 in
theorem c_msmall {k : KX} {L : Nat → Option Sh} {S : StT} {n : Nat} {mo : Nat} {a : Nat} {v : Int32} (hM : ModelAt k L mo) (ha : a < 64) :
    Cs k yX12_small cX12_small 3 none 1 0 0 [.ref (k_b k + (mo)), .int (nI (a)), .int (v)] (inst k L S.1 S.2.1 S.2.2) n (Pv k L n (msmall_f mo a v S)) := by
  refine cs_of (by decide) (Nat.le_of_ble_eq_true rfl) ?_
  intro X hXk C Rt hnm
  subst hXk
  have hM9 := hM
  obtain ⟨hM0, hm1, hm2, hm3, hm4, hm5, hm6, hm7, hm8, hm9, hm10, hm11, hm12, hm13, hm14, hm15, hm16, hm17, hm18, hm19, hm20, hm21, hm22, hm23, hm24, hm25, hm26, hm27⟩ := hM9
  refine rn_lv [(0, .ref (k_b X.1 + (mo))), (1, .int (nI (a))), (2, .int (v))] (fun q h => h) ?_
  refine rn_aload_n C dX12_small_0 rfl ?_
  refine rn_iload_n C dX12_small_1 rfl ?_
  refine rs_vv C dX12_small_2 mk_X12_zero28 lv_X12_168 (c_zero28 hM (by omega)) hM0 rfl rfl rfl rfl (by decide) (by decide) (by decide) (by decide) ?_
  refine rn_aload_n C dX12_small_5 rfl ?_
  refine rs_get C dX12_small_6 fl_X12_41 hM0 rfl ?_
  refine rn_bipush (v := nI 32) C dX12_small_9 rfl ?_
  refine rn_iload_n C dX12_small_11 rfl ?_
  refine rn_imul C dX12_small_12 (pk_mul _ _) ?_
  refine rn_iload_n C dX12_small_13 rfl ?_
  refine rn_ldc C dX12_small_14 lc_X12_117 ?_
  refine rn_iand C dX12_small_16 rfl ?_
  refine rs_iastore C dX12_small_17 hm7 rfl (by omega) (by decide) ?_
  refine rn_aload_n C dX12_small_18 rfl ?_
  refine rs_get C dX12_small_19 fl_X12_41 hM0 rfl ?_
  refine rn_bipush (v := nI 32) C dX12_small_22 rfl ?_
  refine rn_iload_n C dX12_small_24 rfl ?_
  refine rn_imul C dX12_small_25 (pk_mul _ _) ?_
  refine rn_iconst (v := nI 1) C dX12_small_26 rfl ?_
  refine rn_iadd C dX12_small_27 (nI_add _ _) ?_
  refine rn_iload_n C dX12_small_28 rfl ?_
  refine rn_bipush (v := nI 16) C dX12_small_29 rfl ?_
  refine rn_iushr C dX12_small_31 rfl ?_
  refine rs_iastore C dX12_small_32 hm7 rfl (by omega) (by decide) ?_
  exact rn_vret C Rt dX12_small_33 (pv_of rfl) (Nat.zero_le _) (Nat.zero_le _)
def mcopy_l2 (mo : Nat) (d : Nat) (a : Nat) (S : StT)  : Nat → (Nat → Nat → Int32)
  | 0 => S.1
  | i2 + 1 => let y2_0 := (mcopy_l2 mo d a S i2); va_up y2_0 (mo + 7) (upd (y2_0 (mo + 7)) (32 * d + i2) (y2_0 (mo + 7) (32 * a + i2)))
def mcopy_f (mo : Nat) (d : Nat) (a : Nat) (S : StT) : StT := ((mcopy_l2 mo d a S 32), S.2.1, S.2.2)
theorem mcopy_F (mo : Nat) (d : Nat) (a : Nat) (S : StT) : (mcopy_f mo d a S).2.2 = S.2.2 := by
  unfold mcopy_f; first | rfl | (simp only [zero28_F, mzero_F, msmall_F]; done) | ((repeat' split) <;> first | rfl | (simp only [zero28_F, mzero_F, msmall_F]; done))
set_option maxRecDepth 100000 in
set_option maxHeartbeats 4000000 in
theorem c_mcopy {k : KX} {L : Nat → Option Sh} {S : StT} {n : Nat} {mo : Nat} {d : Nat} {a : Nat} (hM : ModelAt k L mo) (hd : d < 64) (ha : a < 64) :
    Cs k yX12_copy cX12_copy 4 none 0 0 0 [.ref (k_b k + (mo)), .int (nI (d)), .int (nI (a))] (inst k L S.1 S.2.1 S.2.2) n (Pv k L n (mcopy_f mo d a S)) := by
  refine cs_of (by decide) (Nat.le_of_ble_eq_true rfl) ?_
  intro X hXk C Rt hnm
  subst hXk
  have hM9 := hM
  obtain ⟨hM0, hm1, hm2, hm3, hm4, hm5, hm6, hm7, hm8, hm9, hm10, hm11, hm12, hm13, hm14, hm15, hm16, hm17, hm18, hm19, hm20, hm21, hm22, hm23, hm24, hm25, hm26, hm27⟩ := hM9
  refine rn_lv [(0, .ref (k_b X.1 + (mo))), (1, .int (nI (d))), (2, .int (nI (a)))] (fun q h => h) ?_
  refine rn_iconst (v := nI 0) C dX12_copy_0 rfl ?_
  refine rn_istore_n (lv' := [(0, _), (1, _), (2, _), (3, _)]) C dX12_copy_1 (by decide) rfl ?_
  have lp2 : ∀ i2, i2 ≤ 32 → Rn X 2 [(0, .ref (k_b X.1 + (mo))), (1, .int (nI (d))), (2, .int (nI (a))), (3, .int (nI (i2)))] [] (inst X.1 L (mcopy_l2 mo d a S i2) S.2.1 S.2.2) n 0 0 := by
    refine upto _ _ ?_ (fun i2 hi2 ih2 => ?_)
    · skip
      refine rn_iload_n C dX12_copy_2 rfl ?_
      refine rn_bipush (v := nI 32) C dX12_copy_3 rfl ?_
      refine rs_ge (tgt := 36) C dX12_copy_5 (by decide) rfl rfl (by omega) (by omega) (fun _ => ?_) (fun q => absurd q (by omega))
      exact rn_vret C Rt dX12_copy_36 (pv_of rfl) (Nat.zero_le _) (Nat.zero_le _)
    · skip
      refine rn_iload_n C dX12_copy_2 rfl ?_
      refine rn_bipush (v := nI 32) C dX12_copy_3 rfl ?_
      refine rs_ge (tgt := 36) C dX12_copy_5 (by decide) rfl rfl (by omega) (by omega) (fun q => absurd q (by omega)) (fun _ => ?_)
      refine rn_aload_n C dX12_copy_8 rfl ?_
      refine rs_get C dX12_copy_9 fl_X12_41 hM0 rfl ?_
      refine rn_bipush (v := nI 32) C dX12_copy_12 rfl ?_
      refine rn_iload_n C dX12_copy_14 rfl ?_
      refine rn_imul C dX12_copy_15 (pk_mul _ _) ?_
      refine rn_iload_n C dX12_copy_16 rfl ?_
      refine rn_iadd C dX12_copy_17 (nI_add _ _) ?_
      refine rn_aload_n C dX12_copy_18 rfl ?_
      refine rs_get C dX12_copy_19 fl_X12_41 hM0 rfl ?_
      refine rn_bipush (v := nI 32) C dX12_copy_22 rfl ?_
      refine rn_iload_n C dX12_copy_24 rfl ?_
      refine rn_imul C dX12_copy_25 (pk_mul _ _) ?_
      refine rn_iload_n C dX12_copy_26 rfl ?_
      refine rn_iadd C dX12_copy_27 (nI_add _ _) ?_
      refine rs_iaload C dX12_copy_28 hm7 rfl (by omega) (by decide) ?_
      refine rs_iastore C dX12_copy_29 hm7 rfl (by omega) (by decide) ?_
      refine rn_iinc (lv' := [(0, _), (1, _), (2, _), (3, _)]) C dX12_copy_30 rfl (nI_inc _) (by decide) rfl ?_
      refine rn_goto (tgt := 2) C dX12_copy_33 (by decide) ?_
      exact rn_ks [0, 1, 2, 3] ih2 rfl
  exact lp2 0 (Nat.zero_le _)
def atLeast_s3 (mo : Nat) (a : Nat) (b : Nat) (S : StT) : Nat → Nat → Int32 × StT
  | 0, i3 => (nI (1), S)
  | f3 + 1, i3 => (if (S.1 (mo + 7) (32 * a + (28 - 1 - i3))) = (S.1 (mo + 7) (32 * b + (28 - 1 - i3))) then atLeast_s3 mo a b S f3 (i3 + 1) else (if (S.1 (mo + 7) (32 * a + (28 - 1 - i3))) ≤ (S.1 (mo + 7) (32 * b + (28 - 1 - i3))) then (nI (0), S) else (nI (1), S)))
def atLeast_f (mo : Nat) (a : Nat) (b : Nat) (S : StT) : Int32 × StT := atLeast_s3 mo a b S 28 0
set_option maxRecDepth 100000 in
set_option maxHeartbeats 4000000 in
theorem c_atLeast {k : KX} {L : Nat → Option Sh} {S : StT} {n : Nat} {mo : Nat} {a : Nat} {b : Nat} (hM : ModelAt k L mo) (ha : a < 64) (hb : b < 64) :
    Cs k yX12_atLeast cX12_atLeast 4 (some .boolean) 0 0 0 [.ref (k_b k + (mo)), .int (nI (a)), .int (nI (b))] (inst k L S.1 S.2.1 S.2.2) n (Pi k L n (atLeast_f mo a b S)) := by
  refine cs_of (by decide) (Nat.le_of_ble_eq_true rfl) ?_
  intro X hXk C Rt hnm
  subst hXk
  have hM9 := hM
  obtain ⟨hM0, hm1, hm2, hm3, hm4, hm5, hm6, hm7, hm8, hm9, hm10, hm11, hm12, hm13, hm14, hm15, hm16, hm17, hm18, hm19, hm20, hm21, hm22, hm23, hm24, hm25, hm26, hm27⟩ := hM9
  refine rn_lv [(0, .ref (k_b X.1 + (mo))), (1, .int (nI (a))), (2, .int (nI (b)))] (fun q h => h) ?_
  refine rn_bipush (v := nI 27) C dX12_atLeast_0 rfl ?_
  refine rn_istore_n (lv' := [(0, _), (1, _), (2, _), (3, _)]) C dX12_atLeast_2 (by decide) rfl ?_
  have lp3 : ∀ i3, i3 ≤ 28 → (atLeast_s3 mo a b S 28 0 = atLeast_s3 mo a b S (28 - i3) i3) → Rn X 3 [(0, .ref (k_b X.1 + (mo))), (1, .int (nI (a))), (2, .int (nI (b))), (3, .int (dn (28 - i3)))] [] (inst X.1 L S.1 S.2.1 S.2.2) n 0 0 := by
    refine upto _ _ (fun he3 => ?_) (fun i3 hi3 ih3 he3 => ?_)
    · skip
      rw [Nat.sub_self] at he3
      rw [dn_end]
      refine rn_iload_n C dX12_atLeast_3 rfl ?_
      refine rn_if_lt (tgt := 69) C dX12_atLeast_4 (by decide) (fun _ => ?_) (fun q => absurd (by decide) q)
      refine rn_iconst (v := nI 1) C dX12_atLeast_69 rfl ?_
      exact rn_zret C Rt dX12_atLeast_70 (by first | rfl | exact rfl) (pi_of (he3)) (Nat.zero_le _) (Nat.zero_le _)
    · skip
      have hq3 : atLeast_s3 mo a b S 28 0 = atLeast_s3 mo a b S (28 - (i3 + 1) + 1) i3 := by rw [show 28 - (i3 + 1) + 1 = 28 - i3 from by omega]; exact he3
      rw [dn_at hi3]
      refine rn_iload_n C dX12_atLeast_3 rfl ?_
      refine rs_lt0 (tgt := 69) C dX12_atLeast_4 (by decide) rfl (by omega) ?_
      refine rn_aload_n C dX12_atLeast_7 rfl ?_
      refine rs_get C dX12_atLeast_8 fl_X12_41 hM0 rfl ?_
      refine rn_bipush (v := nI 32) C dX12_atLeast_11 rfl ?_
      refine rn_iload_n C dX12_atLeast_13 rfl ?_
      refine rn_imul C dX12_atLeast_14 (pk_mul _ _) ?_
      refine rn_iload_n C dX12_atLeast_15 rfl ?_
      refine rn_iadd C dX12_atLeast_16 (nI_add _ _) ?_
      refine rs_iaload C dX12_atLeast_17 hm7 rfl (by omega) (by decide) ?_
      refine rn_aload_n C dX12_atLeast_18 rfl ?_
      refine rs_get C dX12_atLeast_19 fl_X12_41 hM0 rfl ?_
      refine rn_bipush (v := nI 32) C dX12_atLeast_22 rfl ?_
      refine rn_iload_n C dX12_atLeast_24 rfl ?_
      refine rn_imul C dX12_atLeast_25 (pk_mul _ _) ?_
      refine rn_iload_n C dX12_atLeast_26 rfl ?_
      refine rn_iadd C dX12_atLeast_27 (nI_add _ _) ?_
      refine rs_iaload C dX12_atLeast_28 hm7 rfl (by omega) (by decide) ?_
      refine rn_icmp_eq (tgt := 63) C dX12_atLeast_29 (by decide) (fun hb1 => ?_) (fun hb1 => ?_)
      · skip
        refine rn_iinc (lv' := [(0, _), (1, _), (2, _), (3, _)]) C dX12_atLeast_63 rfl (dn_dec hi3) (by decide) rfl ?_
        refine rn_goto (tgt := 3) C dX12_atLeast_66 (by decide) ?_
        exact rn_ks [0, 1, 2, 3] (ih3 ((hq3).trans (if_pos hb1))) rfl
      · skip
        refine rn_aload_n C dX12_atLeast_32 rfl ?_
        refine rs_get C dX12_atLeast_33 fl_X12_41 hM0 rfl ?_
        refine rn_bipush (v := nI 32) C dX12_atLeast_36 rfl ?_
        refine rn_iload_n C dX12_atLeast_38 rfl ?_
        refine rn_imul C dX12_atLeast_39 (pk_mul _ _) ?_
        refine rn_iload_n C dX12_atLeast_40 rfl ?_
        refine rn_iadd C dX12_atLeast_41 (nI_add _ _) ?_
        refine rs_iaload C dX12_atLeast_42 hm7 rfl (by omega) (by decide) ?_
        refine rn_aload_n C dX12_atLeast_43 rfl ?_
        refine rs_get C dX12_atLeast_44 fl_X12_41 hM0 rfl ?_
        refine rn_bipush (v := nI 32) C dX12_atLeast_47 rfl ?_
        refine rn_iload_n C dX12_atLeast_49 rfl ?_
        refine rn_imul C dX12_atLeast_50 (pk_mul _ _) ?_
        refine rn_iload_n C dX12_atLeast_51 rfl ?_
        refine rn_iadd C dX12_atLeast_52 (nI_add _ _) ?_
        refine rs_iaload C dX12_atLeast_53 hm7 rfl (by omega) (by decide) ?_
        refine rn_icmp_le (tgt := 61) C dX12_atLeast_54 (by decide) (fun hb2 => ?_) (fun hb2 => ?_)
        · skip
          refine rn_iconst (v := nI 0) C dX12_atLeast_61 rfl ?_
          exact rn_zret C Rt dX12_atLeast_62 (by first | rfl | exact rfl) (pi_of (((hq3).trans (if_neg hb1)).trans (if_pos hb2))) (Nat.zero_le _) (Nat.zero_le _)
        · skip
          refine rn_iconst (v := nI 1) C dX12_atLeast_57 rfl ?_
          refine rn_goto (tgt := 62) C dX12_atLeast_58 (by decide) ?_
          exact rn_zret C Rt dX12_atLeast_62 (by first | rfl | exact rfl) (pi_of (((hq3).trans (if_neg hb1)).trans (if_neg hb2))) (Nat.zero_le _) (Nat.zero_le _)
  exact lp3 0 (Nat.zero_le _) rfl
def mequal_s2 (mo : Nat) (a : Nat) (b : Nat) (S : StT) : Nat → Nat → Int32 × StT
  | 0, i2 => (nI (1), S)
  | f2 + 1, i2 => (if (S.1 (mo + 7) (32 * a + i2)) = (S.1 (mo + 7) (32 * b + i2)) then mequal_s2 mo a b S f2 (i2 + 1) else (nI (0), S))
def mequal_f (mo : Nat) (a : Nat) (b : Nat) (S : StT) : Int32 × StT := mequal_s2 mo a b S 28 0
set_option maxRecDepth 100000 in
set_option maxHeartbeats 4000000 in
theorem c_mequal {k : KX} {L : Nat → Option Sh} {S : StT} {n : Nat} {mo : Nat} {a : Nat} {b : Nat} (hM : ModelAt k L mo) (ha : a < 64) (hb : b < 64) :
    Cs k yX12_equal cX12_equal 4 (some .boolean) 0 0 0 [.ref (k_b k + (mo)), .int (nI (a)), .int (nI (b))] (inst k L S.1 S.2.1 S.2.2) n (Pi k L n (mequal_f mo a b S)) := by
  refine cs_of (by decide) (Nat.le_of_ble_eq_true rfl) ?_
  intro X hXk C Rt hnm
  subst hXk
  have hM9 := hM
  obtain ⟨hM0, hm1, hm2, hm3, hm4, hm5, hm6, hm7, hm8, hm9, hm10, hm11, hm12, hm13, hm14, hm15, hm16, hm17, hm18, hm19, hm20, hm21, hm22, hm23, hm24, hm25, hm26, hm27⟩ := hM9
  refine rn_lv [(0, .ref (k_b X.1 + (mo))), (1, .int (nI (a))), (2, .int (nI (b)))] (fun q h => h) ?_
  refine rn_iconst (v := nI 0) C dX12_equal_0 rfl ?_
  refine rn_istore_n (lv' := [(0, _), (1, _), (2, _), (3, _)]) C dX12_equal_1 (by decide) rfl ?_
  have lp2 : ∀ i2, i2 ≤ 28 → (mequal_s2 mo a b S 28 0 = mequal_s2 mo a b S (28 - i2) i2) → Rn X 2 [(0, .ref (k_b X.1 + (mo))), (1, .int (nI (a))), (2, .int (nI (b))), (3, .int (nI (i2)))] [] (inst X.1 L S.1 S.2.1 S.2.2) n 0 0 := by
    refine upto _ _ (fun he2 => ?_) (fun i2 hi2 ih2 he2 => ?_)
    · skip
      rw [Nat.sub_self] at he2
      refine rn_iload_n C dX12_equal_2 rfl ?_
      refine rn_bipush (v := nI 28) C dX12_equal_3 rfl ?_
      refine rs_ge (tgt := 41) C dX12_equal_5 (by decide) rfl rfl (by omega) (by omega) (fun _ => ?_) (fun q => absurd q (by omega))
      refine rn_iconst (v := nI 1) C dX12_equal_41 rfl ?_
      exact rn_zret C Rt dX12_equal_42 (by first | rfl | exact rfl) (pi_of (he2)) (Nat.zero_le _) (Nat.zero_le _)
    · skip
      have hq2 : mequal_s2 mo a b S 28 0 = mequal_s2 mo a b S (28 - (i2 + 1) + 1) i2 := by rw [show 28 - (i2 + 1) + 1 = 28 - i2 from by omega]; exact he2
      refine rn_iload_n C dX12_equal_2 rfl ?_
      refine rn_bipush (v := nI 28) C dX12_equal_3 rfl ?_
      refine rs_ge (tgt := 41) C dX12_equal_5 (by decide) rfl rfl (by omega) (by omega) (fun q => absurd q (by omega)) (fun _ => ?_)
      refine rn_aload_n C dX12_equal_8 rfl ?_
      refine rs_get C dX12_equal_9 fl_X12_41 hM0 rfl ?_
      refine rn_bipush (v := nI 32) C dX12_equal_12 rfl ?_
      refine rn_iload_n C dX12_equal_14 rfl ?_
      refine rn_imul C dX12_equal_15 (pk_mul _ _) ?_
      refine rn_iload_n C dX12_equal_16 rfl ?_
      refine rn_iadd C dX12_equal_17 (nI_add _ _) ?_
      refine rs_iaload C dX12_equal_18 hm7 rfl (by omega) (by decide) ?_
      refine rn_aload_n C dX12_equal_19 rfl ?_
      refine rs_get C dX12_equal_20 fl_X12_41 hM0 rfl ?_
      refine rn_bipush (v := nI 32) C dX12_equal_23 rfl ?_
      refine rn_iload_n C dX12_equal_25 rfl ?_
      refine rn_imul C dX12_equal_26 (pk_mul _ _) ?_
      refine rn_iload_n C dX12_equal_27 rfl ?_
      refine rn_iadd C dX12_equal_28 (nI_add _ _) ?_
      refine rs_iaload C dX12_equal_29 hm7 rfl (by omega) (by decide) ?_
      refine rn_icmp_eq (tgt := 35) C dX12_equal_30 (by decide) (fun hb1 => ?_) (fun hb1 => ?_)
      · skip
        refine rn_iinc (lv' := [(0, _), (1, _), (2, _), (3, _)]) C dX12_equal_35 rfl (nI_inc _) (by decide) rfl ?_
        refine rn_goto (tgt := 2) C dX12_equal_38 (by decide) ?_
        exact rn_ks [0, 1, 2, 3] (ih2 ((hq2).trans (if_pos hb1))) rfl
      · skip
        refine rn_iconst (v := nI 0) C dX12_equal_33 rfl ?_
        exact rn_zret C Rt dX12_equal_34 (by first | rfl | exact rfl) (pi_of ((hq2).trans (if_neg hb1))) (Nat.zero_le _) (Nat.zero_le _)
  exact lp2 0 (Nat.zero_le _) rfl
def misZero_s2 (mo : Nat) (a : Nat) (S : StT) : Nat → Nat → Int32 × StT
  | 0, i2 => (nI (1), S)
  | f2 + 1, i2 => (if (S.1 (mo + 7) (32 * a + i2)) = 0 then misZero_s2 mo a S f2 (i2 + 1) else (nI (0), S))
def misZero_f (mo : Nat) (a : Nat) (S : StT) : Int32 × StT := misZero_s2 mo a S 28 0
set_option maxRecDepth 100000 in
set_option maxHeartbeats 4000000 in
theorem c_misZero {k : KX} {L : Nat → Option Sh} {S : StT} {n : Nat} {mo : Nat} {a : Nat} (hM : ModelAt k L mo) (ha : a < 64) :
    Cs k yX12_isZero cX12_isZero 3 (some .boolean) 0 0 0 [.ref (k_b k + (mo)), .int (nI (a))] (inst k L S.1 S.2.1 S.2.2) n (Pi k L n (misZero_f mo a S)) := by
  refine cs_of (by decide) (Nat.le_of_ble_eq_true rfl) ?_
  intro X hXk C Rt hnm
  subst hXk
  have hM9 := hM
  obtain ⟨hM0, hm1, hm2, hm3, hm4, hm5, hm6, hm7, hm8, hm9, hm10, hm11, hm12, hm13, hm14, hm15, hm16, hm17, hm18, hm19, hm20, hm21, hm22, hm23, hm24, hm25, hm26, hm27⟩ := hM9
  refine rn_lv [(0, .ref (k_b X.1 + (mo))), (1, .int (nI (a)))] (fun q h => h) ?_
  refine rn_iconst (v := nI 0) C dX12_isZero_0 rfl ?_
  refine rn_istore_n (lv' := [(0, _), (1, _), (2, _)]) C dX12_isZero_1 (by decide) rfl ?_
  have lp2 : ∀ i2, i2 ≤ 28 → (misZero_s2 mo a S 28 0 = misZero_s2 mo a S (28 - i2) i2) → Rn X 2 [(0, .ref (k_b X.1 + (mo))), (1, .int (nI (a))), (2, .int (nI (i2)))] [] (inst X.1 L S.1 S.2.1 S.2.2) n 0 0 := by
    refine upto _ _ (fun he2 => ?_) (fun i2 hi2 ih2 he2 => ?_)
    · skip
      rw [Nat.sub_self] at he2
      refine rn_iload_n C dX12_isZero_2 rfl ?_
      refine rn_bipush (v := nI 28) C dX12_isZero_3 rfl ?_
      refine rs_ge (tgt := 30) C dX12_isZero_5 (by decide) rfl rfl (by omega) (by omega) (fun _ => ?_) (fun q => absurd q (by omega))
      refine rn_iconst (v := nI 1) C dX12_isZero_30 rfl ?_
      exact rn_zret C Rt dX12_isZero_31 (by first | rfl | exact rfl) (pi_of (he2)) (Nat.zero_le _) (Nat.zero_le _)
    · skip
      have hq2 : misZero_s2 mo a S 28 0 = misZero_s2 mo a S (28 - (i2 + 1) + 1) i2 := by rw [show 28 - (i2 + 1) + 1 = 28 - i2 from by omega]; exact he2
      refine rn_iload_n C dX12_isZero_2 rfl ?_
      refine rn_bipush (v := nI 28) C dX12_isZero_3 rfl ?_
      refine rs_ge (tgt := 30) C dX12_isZero_5 (by decide) rfl rfl (by omega) (by omega) (fun q => absurd q (by omega)) (fun _ => ?_)
      refine rn_aload_n C dX12_isZero_8 rfl ?_
      refine rs_get C dX12_isZero_9 fl_X12_41 hM0 rfl ?_
      refine rn_bipush (v := nI 32) C dX12_isZero_12 rfl ?_
      refine rn_iload_n C dX12_isZero_14 rfl ?_
      refine rn_imul C dX12_isZero_15 (pk_mul _ _) ?_
      refine rn_iload_n C dX12_isZero_16 rfl ?_
      refine rn_iadd C dX12_isZero_17 (nI_add _ _) ?_
      refine rs_iaload C dX12_isZero_18 hm7 rfl (by omega) (by decide) ?_
      refine rn_if_eq (tgt := 24) C dX12_isZero_19 (by decide) (fun hb1 => ?_) (fun hb1 => ?_)
      · skip
        refine rn_iinc (lv' := [(0, _), (1, _), (2, _)]) C dX12_isZero_24 rfl (nI_inc _) (by decide) rfl ?_
        refine rn_goto (tgt := 2) C dX12_isZero_27 (by decide) ?_
        exact rn_ks [0, 1, 2] (ih2 ((hq2).trans (if_pos hb1))) rfl
      · skip
        refine rn_iconst (v := nI 0) C dX12_isZero_22 rfl ?_
        exact rn_zret C Rt dX12_isZero_23 (by first | rfl | exact rfl) (pi_of ((hq2).trans (if_neg hb1))) (Nat.zero_le _) (Nat.zero_le _)
  exact lp2 0 (Nat.zero_le _) rfl
def takeOff_l5 (mo : Nat) (a : Nat) (b : Nat) (S : StT) (z3 : Nat) : Nat → Nat × (Nat → Nat → Int32)
  | 0 => (z3, S.1)
  | i5 + 1 => let y5_0 := (takeOff_l5 mo a b S z3 i5).1; let y5_1 := (takeOff_l5 mo a b S z3 i5).2; (if 0 ≤ (((y5_1 (mo + 7) (32 * a + i5)) - (y5_1 (mo + 7) (32 * b + i5))) - (nI (y5_0))) then (let I2 := va_up y5_1 (mo + 7) (upd (y5_1 (mo + 7)) (32 * a + i5) ((((y5_1 (mo + 7) (32 * a + i5)) - (y5_1 (mo + 7) (32 * b + i5))) - (nI (y5_0))) &&& (65535))); (0, I2)) else (let I3 := va_up y5_1 (mo + 7) (upd (y5_1 (mo + 7)) (32 * a + i5) ((((y5_1 (mo + 7) (32 * a + i5)) - (y5_1 (mo + 7) (32 * b + i5))) - (nI (y5_0))) &&& (65535))); (1, I3)))
def takeOff_f (mo : Nat) (a : Nat) (b : Nat) (S : StT) : StT := ((takeOff_l5 mo a b S 0 28).2, S.2.1, S.2.2)
theorem takeOff_F (mo : Nat) (a : Nat) (b : Nat) (S : StT) : (takeOff_f mo a b S).2.2 = S.2.2 := by
  unfold takeOff_f; first | rfl | (simp only [zero28_F, mzero_F, msmall_F, mcopy_F]; done) | ((repeat' split) <;> first | rfl | (simp only [zero28_F, mzero_F, msmall_F, mcopy_F]; done))
set_option maxRecDepth 100000 in
set_option maxHeartbeats 4000000 in
theorem c_takeOff {k : KX} {L : Nat → Option Sh} {S : StT} {n : Nat} {mo : Nat} {a : Nat} {b : Nat} (hM : ModelAt k L mo) (ha : a < 64) (hb : b < 64) :
    Cs k yX12_takeOff cX12_takeOff 6 none 0 0 0 [.ref (k_b k + (mo)), .int (nI (a)), .int (nI (b))] (inst k L S.1 S.2.1 S.2.2) n (Pv k L n (takeOff_f mo a b S)) := by
  refine cs_of (by decide) (Nat.le_of_ble_eq_true rfl) ?_
  intro X hXk C Rt hnm
  subst hXk
  have hM9 := hM
  obtain ⟨hM0, hm1, hm2, hm3, hm4, hm5, hm6, hm7, hm8, hm9, hm10, hm11, hm12, hm13, hm14, hm15, hm16, hm17, hm18, hm19, hm20, hm21, hm22, hm23, hm24, hm25, hm26, hm27⟩ := hM9
  refine rn_lv [(0, .ref (k_b X.1 + (mo))), (1, .int (nI (a))), (2, .int (nI (b)))] (fun q h => h) ?_
  refine rn_iconst (v := nI 0) C dX12_takeOff_0 rfl ?_
  refine rn_istore_n (lv' := [(0, _), (1, _), (2, _), (3, _)]) C dX12_takeOff_1 (by decide) rfl ?_
  refine rn_iconst (v := nI 0) C dX12_takeOff_2 rfl ?_
  refine rn_istore (lv' := [(0, _), (1, _), (2, _), (3, _), (4, _)]) C dX12_takeOff_3 (by decide) rfl ?_
  have lp5 : ∀ i5, i5 ≤ 28 → Rn X 5 [(0, .ref (k_b X.1 + (mo))), (1, .int (nI (a))), (2, .int (nI (b))), (3, .int (nI ((takeOff_l5 mo a b S 0 i5).1))), (4, .int (nI (i5)))] [] (inst X.1 L (takeOff_l5 mo a b S 0 i5).2 S.2.1 S.2.2) n 0 0 := by
    refine upto _ _ ?_ (fun i5 hi5 ih5 => ?_)
    · skip
      refine rn_iload C dX12_takeOff_5 rfl ?_
      refine rn_bipush (v := nI 28) C dX12_takeOff_7 rfl ?_
      refine rs_ge (tgt := 75) C dX12_takeOff_9 (by decide) rfl rfl (by omega) (by omega) (fun _ => ?_) (fun q => absurd q (by omega))
      exact rn_vret C Rt dX12_takeOff_75 (pv_of rfl) (Nat.zero_le _) (Nat.zero_le _)
    · skip
      refine rn_iload C dX12_takeOff_5 rfl ?_
      refine rn_bipush (v := nI 28) C dX12_takeOff_7 rfl ?_
      refine rs_ge (tgt := 75) C dX12_takeOff_9 (by decide) rfl rfl (by omega) (by omega) (fun q => absurd q (by omega)) (fun _ => ?_)
      refine rn_aload_n C dX12_takeOff_12 rfl ?_
      refine rs_get C dX12_takeOff_13 fl_X12_41 hM0 rfl ?_
      refine rn_bipush (v := nI 32) C dX12_takeOff_16 rfl ?_
      refine rn_iload_n C dX12_takeOff_18 rfl ?_
      refine rn_imul C dX12_takeOff_19 (pk_mul _ _) ?_
      refine rn_iload C dX12_takeOff_20 rfl ?_
      refine rn_iadd C dX12_takeOff_22 (nI_add _ _) ?_
      refine rs_iaload C dX12_takeOff_23 hm7 rfl (by omega) (by decide) ?_
      refine rn_aload_n C dX12_takeOff_24 rfl ?_
      refine rs_get C dX12_takeOff_25 fl_X12_41 hM0 rfl ?_
      refine rn_bipush (v := nI 32) C dX12_takeOff_28 rfl ?_
      refine rn_iload_n C dX12_takeOff_30 rfl ?_
      refine rn_imul C dX12_takeOff_31 (pk_mul _ _) ?_
      refine rn_iload C dX12_takeOff_32 rfl ?_
      refine rn_iadd C dX12_takeOff_34 (nI_add _ _) ?_
      refine rs_iaload C dX12_takeOff_35 hm7 rfl (by omega) (by decide) ?_
      refine rn_isub C dX12_takeOff_36 rfl ?_
      refine rn_iload_n C dX12_takeOff_37 rfl ?_
      refine rn_isub C dX12_takeOff_38 rfl ?_
      refine rn_istore (lv' := [(0, _), (1, _), (2, _), (3, _), (4, _), (5, _)]) C dX12_takeOff_39 (by decide) rfl ?_
      refine rn_iload C dX12_takeOff_41 rfl ?_
      refine rn_if_ge (tgt := 50) C dX12_takeOff_43 (by decide) (fun hb1 => ?_) (fun hb1 => ?_)
      · skip
        refine rn_iconst (v := nI 0) C dX12_takeOff_50 rfl ?_
        refine rn_istore_n (lv' := [(0, _), (1, _), (2, _), (3, _), (4, _), (5, _)]) C dX12_takeOff_51 (by decide) rfl ?_
        refine rn_aload_n C dX12_takeOff_52 rfl ?_
        refine rs_get C dX12_takeOff_53 fl_X12_41 hM0 rfl ?_
        refine rn_bipush (v := nI 32) C dX12_takeOff_56 rfl ?_
        refine rn_iload_n C dX12_takeOff_58 rfl ?_
        refine rn_imul C dX12_takeOff_59 (pk_mul _ _) ?_
        refine rn_iload C dX12_takeOff_60 rfl ?_
        refine rn_iadd C dX12_takeOff_62 (nI_add _ _) ?_
        refine rn_iload C dX12_takeOff_63 rfl ?_
        refine rn_ldc C dX12_takeOff_65 lc_X12_117 ?_
        refine rn_iand C dX12_takeOff_67 rfl ?_
        refine rs_iastore C dX12_takeOff_68 hm7 rfl (by omega) (by decide) ?_
        refine rn_iinc (lv' := [(0, _), (1, _), (2, _), (3, _), (4, _), (5, _)]) C dX12_takeOff_69 rfl (nI_inc _) (by decide) rfl ?_
        refine rn_goto (tgt := 5) C dX12_takeOff_72 (by decide) ?_
        rw [show takeOff_l5 mo a b S 0 (i5 + 1) = _ from (if_pos hb1)] at ih5
        exact rn_ks [0, 1, 2, 3, 4] ih5 rfl
      · skip
        refine rn_iconst (v := nI 1) C dX12_takeOff_46 rfl ?_
        refine rn_goto (tgt := 51) C dX12_takeOff_47 (by decide) ?_
        refine rn_istore_n (lv' := [(0, _), (1, _), (2, _), (3, _), (4, _), (5, _)]) C dX12_takeOff_51 (by decide) rfl ?_
        refine rn_aload_n C dX12_takeOff_52 rfl ?_
        refine rs_get C dX12_takeOff_53 fl_X12_41 hM0 rfl ?_
        refine rn_bipush (v := nI 32) C dX12_takeOff_56 rfl ?_
        refine rn_iload_n C dX12_takeOff_58 rfl ?_
        refine rn_imul C dX12_takeOff_59 (pk_mul _ _) ?_
        refine rn_iload C dX12_takeOff_60 rfl ?_
        refine rn_iadd C dX12_takeOff_62 (nI_add _ _) ?_
        refine rn_iload C dX12_takeOff_63 rfl ?_
        refine rn_ldc C dX12_takeOff_65 lc_X12_117 ?_
        refine rn_iand C dX12_takeOff_67 rfl ?_
        refine rs_iastore C dX12_takeOff_68 hm7 rfl (by omega) (by decide) ?_
        refine rn_iinc (lv' := [(0, _), (1, _), (2, _), (3, _), (4, _), (5, _)]) C dX12_takeOff_69 rfl (nI_inc _) (by decide) rfl ?_
        refine rn_goto (tgt := 5) C dX12_takeOff_72 (by decide) ?_
        rw [show takeOff_l5 mo a b S 0 (i5 + 1) = _ from (if_neg hb1)] at ih5
        exact rn_ks [0, 1, 2, 3, 4] ih5 rfl
  exact lp5 0 (Nat.zero_le _)
