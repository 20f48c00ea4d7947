/-! CurveSuiteModel: methods as functions of the contents, by program (dc.py, spec_model.py) -/
def zero28_l2 (mo : Nat) (a : Nat) (S : StT)  : Nat → (Nat → Nat → Int32)
  | 0 => S.1
  | i2 + 1 => let y2_0 := (zero28_l2 mo a S i2); va_up y2_0 (mo + 7) (upd (y2_0 (mo + 7)) (32 * a + i2) (nI (0)))
def zero28_f (mo : Nat) (a : Nat) (S : StT) : StT := ((zero28_l2 mo a S 32), S.2.1, S.2.2)
theorem zero28_F (mo : Nat) (a : Nat) (S : StT) : (zero28_f mo a S).2.2 = S.2.2 := by
  unfold zero28_f; first | rfl | (simp only [true_and]; done) | ((repeat' split) <;> first | rfl | (simp only [true_and]; done))
set_option maxRecDepth 100000 in
set_option maxHeartbeats 4000000 in
theorem c_zero28 {k : KX} {L : Nat → Option Sh} {S : StT} {n : Nat} {mo : Nat} {a : Nat} (hM : ModelAt k L mo) (ha : a < 64) :
    Cs k yX12_zero28 cX12_zero28 3 none 0 0 0 [.ref (k_b k + (mo)), .int (nI (a))] (inst k L S.1 S.2.1 S.2.2) n (Pv k L n (zero28_f mo a S)) := by
  refine cs_of (by decide) (Nat.le_of_ble_eq_true rfl) ?_
  intro X hXk C Rt hnm
  subst hXk
  have hM9 := hM
  obtain ⟨hM0, hm1, hm2, hm3, hm4, hm5, hm6, hm7, hm8, hm9, hm10, hm11, hm12, hm13, hm14, hm15, hm16, hm17, hm18, hm19, hm20, hm21, hm22, hm23, hm24, hm25, hm26, hm27⟩ := hM9
  refine rn_lv [(0, .ref (k_b X.1 + (mo))), (1, .int (nI (a)))] (fun q h => h) ?_
  refine rn_iconst (v := nI 0) C dX12_zero28_0 rfl ?_
  refine rn_istore_n (lv' := [(0, _), (1, _), (2, _)]) C dX12_zero28_1 (by decide) rfl ?_
  have lp2 : ∀ i2, i2 ≤ 32 → Rn X 2 [(0, .ref (k_b X.1 + (mo))), (1, .int (nI (a))), (2, .int (nI (i2)))] [] (inst X.1 L (zero28_l2 mo a S i2) S.2.1 S.2.2) n 0 0 := by
    refine upto _ _ ?_ (fun i2 hi2 ih2 => ?_)
    · skip
      refine rn_iload_n C dX12_zero28_2 rfl ?_
      refine rn_bipush (v := nI 32) C dX12_zero28_3 rfl ?_
      refine rs_ge (tgt := 26) C dX12_zero28_5 (by decide) rfl rfl (by omega) (by omega) (fun _ => ?_) (fun q => absurd q (by omega))
      exact rn_vret C Rt dX12_zero28_26 (pv_of rfl) (Nat.zero_le _) (Nat.zero_le _)
    · skip
      refine rn_iload_n C dX12_zero28_2 rfl ?_
      refine rn_bipush (v := nI 32) C dX12_zero28_3 rfl ?_
      refine rs_ge (tgt := 26) C dX12_zero28_5 (by decide) rfl rfl (by omega) (by omega) (fun q => absurd q (by omega)) (fun _ => ?_)
      refine rn_aload_n C dX12_zero28_8 rfl ?_
      refine rs_get C dX12_zero28_9 fl_X12_41 hM0 rfl ?_
      refine rn_bipush (v := nI 32) C dX12_zero28_12 rfl ?_
      refine rn_iload_n C dX12_zero28_14 rfl ?_
      refine rn_imul C dX12_zero28_15 (pk_mul _ _) ?_
      refine rn_iload_n C dX12_zero28_16 rfl ?_
      refine rn_iadd C dX12_zero28_17 (nI_add _ _) ?_
      refine rn_iconst (v := nI 0) C dX12_zero28_18 rfl ?_
      refine rs_iastore C dX12_zero28_19 hm7 rfl (by omega) (by decide) ?_
      refine rn_iinc (lv' := [(0, _), (1, _), (2, _)]) C dX12_zero28_20 rfl (nI_inc _) (by decide) rfl ?_
      refine rn_goto (tgt := 2) C dX12_zero28_23 (by decide) ?_
      exact rn_ks [0, 1, 2] ih2 rfl
  exact lp2 0 (Nat.zero_le _)
def mzero_f (mo : Nat) (a : Nat) (S : StT) : StT := zero28_f (mo) (a) S
theorem mzero_F (mo : Nat) (a : Nat) (S : StT) : (mzero_f mo a S).2.2 = S.2.2 := by
  unfold mzero_f; first | rfl | (simp only [zero28_F]; done) | ((repeat' split) <;> first | rfl | (simp only [zero28_F]; done))
set_option maxRecDepth 100000 in
set_option maxHeartbeats 4000000 in
theorem c_mzero {k : KX} {L : Nat → Option Sh} {S : StT} {n : Nat} {mo : Nat} {a : Nat} (hM : ModelAt k L mo) (ha : a < 64) :
    Cs k yX12_zero cX12_zero 2 none 1 0 0 [.ref (k_b k + (mo)), .int (nI (a))] (inst k L S.1 S.2.1 S.2.2) n (Pv k L n (mzero_f mo a S)) := by
  refine cs_of (by decide) (Nat.le_of_ble_eq_true rfl) ?_
  intro X hXk C Rt hnm
  subst hXk
  have hM9 := hM
  obtain ⟨hM0, hm1, hm2, hm3, hm4, hm5, hm6, hm7, hm8, hm9, hm10, hm11, hm12, hm13, hm14, hm15, hm16, hm17, hm18, hm19, hm20, hm21, hm22, hm23, hm24, hm25, hm26, hm27⟩ := hM9
  refine rn_lv [(0, .ref (k_b X.1 + (mo))), (1, .int (nI (a)))] (fun q h => h) ?_
  refine rn_aload_n C dX12_zero_0 rfl ?_
  refine rn_iload_n C dX12_zero_1 rfl ?_
  refine rs_vv C dX12_zero_2 mk_X12_zero28 lv_X12_168 (c_zero28 hM (by omega)) hM0 rfl rfl rfl rfl (by decide) (Nat.le_of_ble_eq_true rfl) (by decide) (by decide) ?_
  exact rn_vret C Rt dX12_zero_5 (pv_of (tup _)) (Nat.zero_le _) (Nat.zero_le _)
def msmall_f (mo : Nat) (a : Nat) (v : Int32) (S : StT) : StT := (let I1 := va_up (zero28_f (mo) (a) S).1 (mo + 7) (upd ((zero28_f (mo) (a) S).1 (mo + 7)) (32 * a) ((v) &&& (65535))); (let I2 := va_up I1 (mo + 7) (upd (I1 (mo + 7)) (32 * a + 1) (((v).toUInt32 >>> ((nI (16)).toUInt32 &&& Int32.toUInt32 31)).toInt32)); (I2, (zero28_f (mo) (a) S).2.1, (zero28_f (mo) (a) S).2.2)))
theorem msmall_F (mo : Nat) (a : Nat) (v : Int32) (S : StT) : (msmall_f mo a v S).2.2 = S.2.2 := by
  unfold msmall_f; first | rfl | (simp only [zero28_F, mzero_F]; done) | ((repeat' split) <;> first | rfl | (simp only [zero28_F, mzero_F]; done))
set_option maxRecDepth 100000 in
set_option maxHeartbeats 4000000 in
theorem c_msmall {k : KX} {L : Nat → Option Sh} {S : StT} {n : Nat} {mo : Nat} {a : Nat} {v : Int32} (hM : ModelAt k L mo) (ha : a < 64) :
    Cs k yX12_small cX12_small 3 none 1 0 0 [.ref (k_b k + (mo)), .int (nI (a)), .int (v)] (inst k L S.1 S.2.1 S.2.2) n (Pv k L n (msmall_f mo a v S)) := by
  refine cs_of (by decide) (Nat.le_of_ble_eq_true rfl) ?_
  intro X hXk C Rt hnm
  subst hXk
  have hM9 := hM
  obtain ⟨hM0, hm1, hm2, hm3, hm4, hm5, hm6, hm7, hm8, hm9, hm10, hm11, hm12, hm13, hm14, hm15, hm16, hm17, hm18, hm19, hm20, hm21, hm22, hm23, hm24, hm25, hm26, hm27⟩ := hM9
  refine rn_lv [(0, .ref (k_b X.1 + (mo))), (1, .int (nI (a))), (2, .int (v))] (fun q h => h) ?_
  refine rn_aload_n C dX12_small_0 rfl ?_
  refine rn_iload_n C dX12_small_1 rfl ?_
  refine rs_vv C dX12_small_2 mk_X12_zero28 lv_X12_168 (c_zero28 hM (by omega)) hM0 rfl rfl rfl rfl (by decide) (Nat.le_of_ble_eq_true rfl) (by decide) (by decide) ?_
  refine rn_aload_n C dX12_small_5 rfl ?_
  refine rs_get C dX12_small_6 fl_X12_41 hM0 rfl ?_
  refine rn_bipush (v := nI 32) C dX12_small_9 rfl ?_
  refine rn_iload_n C dX12_small_11 rfl ?_
  refine rn_imul C dX12_small_12 (pk_mul _ _) ?_
  refine rn_iload_n C dX12_small_13 rfl ?_
  refine rn_ldc C dX12_small_14 lc_X12_117 ?_
  refine rn_iand C dX12_small_16 rfl ?_
  refine rs_iastore C dX12_small_17 hm7 rfl (by omega) (by decide) ?_
  refine rn_aload_n C dX12_small_18 rfl ?_
  refine rs_get C dX12_small_19 fl_X12_41 hM0 rfl ?_
  refine rn_bipush (v := nI 32) C dX12_small_22 rfl ?_
  refine rn_iload_n C dX12_small_24 rfl ?_
  refine rn_imul C dX12_small_25 (pk_mul _ _) ?_
  refine rn_iconst (v := nI 1) C dX12_small_26 rfl ?_
  refine rn_iadd C dX12_small_27 (nI_add _ _) ?_
  refine rn_iload_n C dX12_small_28 rfl ?_
  refine rn_bipush (v := nI 16) C dX12_small_29 rfl ?_
  refine rn_iushr C dX12_small_31 rfl ?_
  refine rs_iastore C dX12_small_32 hm7 rfl (by omega) (by decide) ?_
  exact rn_vret C Rt dX12_small_33 (pv_of rfl) (Nat.zero_le _) (Nat.zero_le _)
def mcopy_l2 (mo : Nat) (d : Nat) (a : Nat) (S : StT)  : Nat → (Nat → Nat → Int32)
  | 0 => S.1
  | i2 + 1 => let y2_0 := (mcopy_l2 mo d a S i2); va_up y2_0 (mo + 7) (upd (y2_0 (mo + 7)) (32 * d + i2) (y2_0 (mo + 7) (32 * a + i2)))
def mcopy_f (mo : Nat) (d : Nat) (a : Nat) (S : StT) : StT := ((mcopy_l2 mo d a S 32), S.2.1, S.2.2)
theorem mcopy_F (mo : Nat) (d : Nat) (a : Nat) (S : StT) : (mcopy_f mo d a S).2.2 = S.2.2 := by
  unfold mcopy_f; first | rfl | (simp only [zero28_F, mzero_F, msmall_F]; done) | ((repeat' split) <;> first | rfl | (simp only [zero28_F, mzero_F, msmall_F]; done))
set_option maxRecDepth 100000 in
set_option maxHeartbeats 4000000 in
theorem c_mcopy {k : KX} {L : Nat → Option Sh} {S : StT} {n : Nat} {mo : Nat} {d : Nat} {a : Nat} (hM : ModelAt k L mo) (hd : d < 64) (ha : a < 64) :
    Cs k yX12_copy cX12_copy 4 none 0 0 0 [.ref (k_b k + (mo)), .int (nI (d)), .int (nI (a))] (inst k L S.1 S.2.1 S.2.2) n (Pv k L n (mcopy_f mo d a S)) := by
  refine cs_of (by decide) (Nat.le_of_ble_eq_true rfl) ?_
  intro X hXk C Rt hnm
  subst hXk
  have hM9 := hM
  obtain ⟨hM0, hm1, hm2, hm3, hm4, hm5, hm6, hm7, hm8, hm9, hm10, hm11, hm12, hm13, hm14, hm15, hm16, hm17, hm18, hm19, hm20, hm21, hm22, hm23, hm24, hm25, hm26, hm27⟩ := hM9
  refine rn_lv [(0, .ref (k_b X.1 + (mo))), (1, .int (nI (d))), (2, .int (nI (a)))] (fun q h => h) ?_
  refine rn_iconst (v := nI 0) C dX12_copy_0 rfl ?_
  refine rn_istore_n (lv' := [(0, _), (1, _), (2, _), (3, _)]) C dX12_copy_1 (by decide) rfl ?_
  have lp2 : ∀ i2, i2 ≤ 32 → Rn X 2 [(0, .ref (k_b X.1 + (mo))), (1, .int (nI (d))), (2, .int (nI (a))), (3, .int (nI (i2)))] [] (inst X.1 L (mcopy_l2 mo d a S i2) S.2.1 S.2.2) n 0 0 := by
    refine upto _ _ ?_ (fun i2 hi2 ih2 => ?_)
    · skip
      refine rn_iload_n C dX12_copy_2 rfl ?_
      refine rn_bipush (v := nI 32) C dX12_copy_3 rfl ?_
      refine rs_ge (tgt := 36) C dX12_copy_5 (by decide) rfl rfl (by omega) (by omega) (fun _ => ?_) (fun q => absurd q (by omega))
      exact rn_vret C Rt dX12_copy_36 (pv_of rfl) (Nat.zero_le _) (Nat.zero_le _)
    · skip
      refine rn_iload_n C dX12_copy_2 rfl ?_
      refine rn_bipush (v := nI 32) C dX12_copy_3 rfl ?_
      refine rs_ge (tgt := 36) C dX12_copy_5 (by decide) rfl rfl (by omega) (by omega) (fun q => absurd q (by omega)) (fun _ => ?_)
      refine rn_aload_n C dX12_copy_8 rfl ?_
      refine rs_get C dX12_copy_9 fl_X12_41 hM0 rfl ?_
      refine rn_bipush (v := nI 32) C dX12_copy_12 rfl ?_
      refine rn_iload_n C dX12_copy_14 rfl ?_
      refine rn_imul C dX12_copy_15 (pk_mul _ _) ?_
      refine rn_iload_n C dX12_copy_16 rfl ?_
      refine rn_iadd C dX12_copy_17 (nI_add _ _) ?_
      refine rn_aload_n C dX12_copy_18 rfl ?_
      refine rs_get C dX12_copy_19 fl_X12_41 hM0 rfl ?_
      refine rn_bipush (v := nI 32) C dX12_copy_22 rfl ?_
      refine rn_iload_n C dX12_copy_24 rfl ?_
      refine rn_imul C dX12_copy_25 (pk_mul _ _) ?_
      refine rn_iload_n C dX12_copy_26 rfl ?_
      refine rn_iadd C dX12_copy_27 (nI_add _ _) ?_
      refine rs_iaload C dX12_copy_28 hm7 rfl (by omega) (by decide) ?_
      refine rs_iastore C dX12_copy_29 hm7 rfl (by omega) (by decide) ?_
      refine rn_iinc (lv' := [(0, _), (1, _), (2, _), (3, _)]) C dX12_copy_30 rfl (nI_inc _) (by decide) rfl ?_
      refine rn_goto (tgt := 2) C dX12_copy_33 (by decide) ?_
      exact rn_ks [0, 1, 2, 3] ih2 rfl
  exact lp2 0 (Nat.zero_le _)
def atLeast_s3 (mo : Nat) (a : Nat) (b : Nat) (S : StT) : Nat → Nat → Int32 × StT
  | 0, i3 => (nI (1), S)
  | f3 + 1, i3 => (if (S.1 (mo + 7) (32 * a + (28 - 1 - i3))) = (S.1 (mo + 7) (32 * b + (28 - 1 - i3))) then atLeast_s3 mo a b S f3 (i3 + 1) else (if (S.1 (mo + 7) (32 * a + (28 - 1 - i3))) ≤ (S.1 (mo + 7) (32 * b + (28 - 1 - i3))) then (nI (0), S) else (nI (1), S)))
def atLeast_f (mo : Nat) (a : Nat) (b : Nat) (S : StT) : Int32 × StT := atLeast_s3 mo a b S 28 0
set_option maxRecDepth 100000 in
set_option maxHeartbeats 4000000 in
theorem c_atLeast {k : KX} {L : Nat → Option Sh} {S : StT} {n : Nat} {mo : Nat} {a : Nat} {b : Nat} (hM : ModelAt k L mo) (ha : a < 64) (hb : b < 64) :
    Cs k yX12_atLeast cX12_atLeast 4 (some .boolean) 0 0 0 [.ref (k_b k + (mo)), .int (nI (a)), .int (nI (b))] (inst k L S.1 S.2.1 S.2.2) n (Pi k L n (atLeast_f mo a b S)) := by
  refine cs_of (by decide) (Nat.le_of_ble_eq_true rfl) ?_
  intro X hXk C Rt hnm
  subst hXk
  have hM9 := hM
  obtain ⟨hM0, hm1, hm2, hm3, hm4, hm5, hm6, hm7, hm8, hm9, hm10, hm11, hm12, hm13, hm14, hm15, hm16, hm17, hm18, hm19, hm20, hm21, hm22, hm23, hm24, hm25, hm26, hm27⟩ := hM9
  refine rn_lv [(0, .ref (k_b X.1 + (mo))), (1, .int (nI (a))), (2, .int (nI (b)))] (fun q h => h) ?_
  refine rn_bipush (v := nI 27) C dX12_atLeast_0 rfl ?_
  refine rn_istore_n (lv' := [(0, _), (1, _), (2, _), (3, _)]) C dX12_atLeast_2 (by decide) rfl ?_
  have lp3 : ∀ i3, i3 ≤ 28 → (atLeast_s3 mo a b S 28 0 = atLeast_s3 mo a b S (28 - i3) i3) → Rn X 3 [(0, .ref (k_b X.1 + (mo))), (1, .int (nI (a))), (2, .int (nI (b))), (3, .int (dn (28 - i3)))] [] (inst X.1 L S.1 S.2.1 S.2.2) n 0 0 := by
    refine upto _ _ (fun he3 => ?_) (fun i3 hi3 ih3 he3 => ?_)
    · skip
      rw [Nat.sub_self] at he3
      rw [dn_end]
      refine rn_iload_n C dX12_atLeast_3 rfl ?_
      refine rn_if_lt (tgt := 69) C dX12_atLeast_4 (by decide) (fun _ => ?_) (fun q => absurd (by decide) q)
      refine rn_iconst (v := nI 1) C dX12_atLeast_69 rfl ?_
      exact rn_zret C Rt dX12_atLeast_70 (by first | rfl | exact rfl) (pi_of (he3)) (Nat.zero_le _) (Nat.zero_le _)
    · skip
      have hq3 : atLeast_s3 mo a b S 28 0 = atLeast_s3 mo a b S (28 - (i3 + 1) + 1) i3 := by rw [show 28 - (i3 + 1) + 1 = 28 - i3 from by omega]; exact he3
      rw [dn_at hi3]
      refine rn_iload_n C dX12_atLeast_3 rfl ?_
      refine rs_lt0 (tgt := 69) C dX12_atLeast_4 (by decide) rfl (by omega) ?_
      refine rn_aload_n C dX12_atLeast_7 rfl ?_
      refine rs_get C dX12_atLeast_8 fl_X12_41 hM0 rfl ?_
      refine rn_bipush (v := nI 32) C dX12_atLeast_11 rfl ?_
      refine rn_iload_n C dX12_atLeast_13 rfl ?_
      refine rn_imul C dX12_atLeast_14 (pk_mul _ _) ?_
      refine rn_iload_n C dX12_atLeast_15 rfl ?_
      refine rn_iadd C dX12_atLeast_16 (nI_add _ _) ?_
      refine rs_iaload C dX12_atLeast_17 hm7 rfl (by omega) (by decide) ?_
      refine rn_aload_n C dX12_atLeast_18 rfl ?_
      refine rs_get C dX12_atLeast_19 fl_X12_41 hM0 rfl ?_
      refine rn_bipush (v := nI 32) C dX12_atLeast_22 rfl ?_
      refine rn_iload_n C dX12_atLeast_24 rfl ?_
      refine rn_imul C dX12_atLeast_25 (pk_mul _ _) ?_
      refine rn_iload_n C dX12_atLeast_26 rfl ?_
      refine rn_iadd C dX12_atLeast_27 (nI_add _ _) ?_
      refine rs_iaload C dX12_atLeast_28 hm7 rfl (by omega) (by decide) ?_
      refine rn_icmp_eq (tgt := 63) C dX12_atLeast_29 (by decide) (fun hb1 => ?_) (fun hb1 => ?_)
      · skip
        refine rn_iinc (lv' := [(0, _), (1, _), (2, _), (3, _)]) C dX12_atLeast_63 rfl (dn_dec hi3) (by decide) rfl ?_
        refine rn_goto (tgt := 3) C dX12_atLeast_66 (by decide) ?_
        exact rn_ks [0, 1, 2, 3] (ih3 ((hq3).trans (if_pos hb1))) rfl
      · skip
        refine rn_aload_n C dX12_atLeast_32 rfl ?_
        refine rs_get C dX12_atLeast_33 fl_X12_41 hM0 rfl ?_
        refine rn_bipush (v := nI 32) C dX12_atLeast_36 rfl ?_
        refine rn_iload_n C dX12_atLeast_38 rfl ?_
        refine rn_imul C dX12_atLeast_39 (pk_mul _ _) ?_
        refine rn_iload_n C dX12_atLeast_40 rfl ?_
        refine rn_iadd C dX12_atLeast_41 (nI_add _ _) ?_
        refine rs_iaload C dX12_atLeast_42 hm7 rfl (by omega) (by decide) ?_
        refine rn_aload_n C dX12_atLeast_43 rfl ?_
        refine rs_get C dX12_atLeast_44 fl_X12_41 hM0 rfl ?_
        refine rn_bipush (v := nI 32) C dX12_atLeast_47 rfl ?_
        refine rn_iload_n C dX12_atLeast_49 rfl ?_
        refine rn_imul C dX12_atLeast_50 (pk_mul _ _) ?_
        refine rn_iload_n C dX12_atLeast_51 rfl ?_
        refine rn_iadd C dX12_atLeast_52 (nI_add _ _) ?_
        refine rs_iaload C dX12_atLeast_53 hm7 rfl (by omega) (by decide) ?_
        refine rn_icmp_le (tgt := 61) C dX12_atLeast_54 (by decide) (fun hb2 => ?_) (fun hb2 => ?_)
        · skip
          refine rn_iconst (v := nI 0) C dX12_atLeast_61 rfl ?_
          exact rn_zret C Rt dX12_atLeast_62 (by first | rfl | exact rfl) (pi_of (((hq3).trans (if_neg hb1)).trans (if_pos hb2))) (Nat.zero_le _) (Nat.zero_le _)
        · skip
          refine rn_iconst (v := nI 1) C dX12_atLeast_57 rfl ?_
          refine rn_goto (tgt := 62) C dX12_atLeast_58 (by decide) ?_
          exact rn_zret C Rt dX12_atLeast_62 (by first | rfl | exact rfl) (pi_of (((hq3).trans (if_neg hb1)).trans (if_neg hb2))) (Nat.zero_le _) (Nat.zero_le _)
  exact lp3 0 (Nat.zero_le _) rfl
theorem atLeast_s3_S (mo : Nat) (a : Nat) (b : Nat) (S : StT) : ∀ f i, (atLeast_s3 mo a b S f i).2 = S := by
  intro f
  induction f with
  | zero => intro i; rfl
  | succ f ih =>
    intro i
    unfold atLeast_s3
    (repeat' split) <;> first | rfl | exact ih _
theorem atLeast_S (mo : Nat) (a : Nat) (b : Nat) (S : StT) : (atLeast_f mo a b S).2 = S := atLeast_s3_S mo a b S _ _
theorem cp_atLeast {k : KX} {L : Nat → Option Sh} {S : StT} {n : Nat} {mo : Nat} {a : Nat} {b : Nat} (hM : ModelAt k L mo) (ha : a < 64) (hb : b < 64) :
    Cs k yX12_atLeast cX12_atLeast 4 (some .boolean) 0 0 0 [.ref (k_b k + (mo)), .int (nI (a)), .int (nI (b))] (inst k L S.1 S.2.1 S.2.2) n (Pi k L n ((atLeast_f mo a b S).1, S)) := by
  have h := c_atLeast (k := k) (L := L) (S := S) (n := n) (mo := mo) (a := a) (b := b) hM ha hb
  have e : atLeast_f mo a b S = ((atLeast_f mo a b S).1, S) := Prod.ext rfl (atLeast_S mo a b S)
  rwa [e] at h
def mequal_s2 (mo : Nat) (a : Nat) (b : Nat) (S : StT) : Nat → Nat → Int32 × StT
  | 0, i2 => (nI (1), S)
  | f2 + 1, i2 => (if (S.1 (mo + 7) (32 * a + i2)) = (S.1 (mo + 7) (32 * b + i2)) then mequal_s2 mo a b S f2 (i2 + 1) else (nI (0), S))
def mequal_f (mo : Nat) (a : Nat) (b : Nat) (S : StT) : Int32 × StT := mequal_s2 mo a b S 28 0
set_option maxRecDepth 100000 in
set_option maxHeartbeats 4000000 in
theorem c_mequal {k : KX} {L : Nat → Option Sh} {S : StT} {n : Nat} {mo : Nat} {a : Nat} {b : Nat} (hM : ModelAt k L mo) (ha : a < 64) (hb : b < 64) :
    Cs k yX12_equal cX12_equal 4 (some .boolean) 0 0 0 [.ref (k_b k + (mo)), .int (nI (a)), .int (nI (b))] (inst k L S.1 S.2.1 S.2.2) n (Pi k L n (mequal_f mo a b S)) := by
  refine cs_of (by decide) (Nat.le_of_ble_eq_true rfl) ?_
  intro X hXk C Rt hnm
  subst hXk
  have hM9 := hM
  obtain ⟨hM0, hm1, hm2, hm3, hm4, hm5, hm6, hm7, hm8, hm9, hm10, hm11, hm12, hm13, hm14, hm15, hm16, hm17, hm18, hm19, hm20, hm21, hm22, hm23, hm24, hm25, hm26, hm27⟩ := hM9
  refine rn_lv [(0, .ref (k_b X.1 + (mo))), (1, .int (nI (a))), (2, .int (nI (b)))] (fun q h => h) ?_
  refine rn_iconst (v := nI 0) C dX12_equal_0 rfl ?_
  refine rn_istore_n (lv' := [(0, _), (1, _), (2, _), (3, _)]) C dX12_equal_1 (by decide) rfl ?_
  have lp2 : ∀ i2, i2 ≤ 28 → (mequal_s2 mo a b S 28 0 = mequal_s2 mo a b S (28 - i2) i2) → Rn X 2 [(0, .ref (k_b X.1 + (mo))), (1, .int (nI (a))), (2, .int (nI (b))), (3, .int (nI (i2)))] [] (inst X.1 L S.1 S.2.1 S.2.2) n 0 0 := by
    refine upto _ _ (fun he2 => ?_) (fun i2 hi2 ih2 he2 => ?_)
    · skip
      rw [Nat.sub_self] at he2
      refine rn_iload_n C dX12_equal_2 rfl ?_
      refine rn_bipush (v := nI 28) C dX12_equal_3 rfl ?_
      refine rs_ge (tgt := 41) C dX12_equal_5 (by decide) rfl rfl (by omega) (by omega) (fun _ => ?_) (fun q => absurd q (by omega))
      refine rn_iconst (v := nI 1) C dX12_equal_41 rfl ?_
      exact rn_zret C Rt dX12_equal_42 (by first | rfl | exact rfl) (pi_of (he2)) (Nat.zero_le _) (Nat.zero_le _)
    · skip
      have hq2 : mequal_s2 mo a b S 28 0 = mequal_s2 mo a b S (28 - (i2 + 1) + 1) i2 := by rw [show 28 - (i2 + 1) + 1 = 28 - i2 from by omega]; exact he2
      refine rn_iload_n C dX12_equal_2 rfl ?_
      refine rn_bipush (v := nI 28) C dX12_equal_3 rfl ?_
      refine rs_ge (tgt := 41) C dX12_equal_5 (by decide) rfl rfl (by omega) (by omega) (fun q => absurd q (by omega)) (fun _ => ?_)
      refine rn_aload_n C dX12_equal_8 rfl ?_
      refine rs_get C dX12_equal_9 fl_X12_41 hM0 rfl ?_
      refine rn_bipush (v := nI 32) C dX12_equal_12 rfl ?_
      refine rn_iload_n C dX12_equal_14 rfl ?_
      refine rn_imul C dX12_equal_15 (pk_mul _ _) ?_
      refine rn_iload_n C dX12_equal_16 rfl ?_
      refine rn_iadd C dX12_equal_17 (nI_add _ _) ?_
      refine rs_iaload C dX12_equal_18 hm7 rfl (by omega) (by decide) ?_
      refine rn_aload_n C dX12_equal_19 rfl ?_
      refine rs_get C dX12_equal_20 fl_X12_41 hM0 rfl ?_
      refine rn_bipush (v := nI 32) C dX12_equal_23 rfl ?_
      refine rn_iload_n C dX12_equal_25 rfl ?_
      refine rn_imul C dX12_equal_26 (pk_mul _ _) ?_
      refine rn_iload_n C dX12_equal_27 rfl ?_
      refine rn_iadd C dX12_equal_28 (nI_add _ _) ?_
      refine rs_iaload C dX12_equal_29 hm7 rfl (by omega) (by decide) ?_
      refine rn_icmp_eq (tgt := 35) C dX12_equal_30 (by decide) (fun hb1 => ?_) (fun hb1 => ?_)
      · skip
        refine rn_iinc (lv' := [(0, _), (1, _), (2, _), (3, _)]) C dX12_equal_35 rfl (nI_inc _) (by decide) rfl ?_
        refine rn_goto (tgt := 2) C dX12_equal_38 (by decide) ?_
        exact rn_ks [0, 1, 2, 3] (ih2 ((hq2).trans (if_pos hb1))) rfl
      · skip
        refine rn_iconst (v := nI 0) C dX12_equal_33 rfl ?_
        exact rn_zret C Rt dX12_equal_34 (by first | rfl | exact rfl) (pi_of ((hq2).trans (if_neg hb1))) (Nat.zero_le _) (Nat.zero_le _)
  exact lp2 0 (Nat.zero_le _) rfl
theorem mequal_s2_S (mo : Nat) (a : Nat) (b : Nat) (S : StT) : ∀ f i, (mequal_s2 mo a b S f i).2 = S := by
  intro f
  induction f with
  | zero => intro i; rfl
  | succ f ih =>
    intro i
    unfold mequal_s2
    (repeat' split) <;> first | rfl | exact ih _
theorem mequal_S (mo : Nat) (a : Nat) (b : Nat) (S : StT) : (mequal_f mo a b S).2 = S := mequal_s2_S mo a b S _ _
theorem cp_mequal {k : KX} {L : Nat → Option Sh} {S : StT} {n : Nat} {mo : Nat} {a : Nat} {b : Nat} (hM : ModelAt k L mo) (ha : a < 64) (hb : b < 64) :
    Cs k yX12_equal cX12_equal 4 (some .boolean) 0 0 0 [.ref (k_b k + (mo)), .int (nI (a)), .int (nI (b))] (inst k L S.1 S.2.1 S.2.2) n (Pi k L n ((mequal_f mo a b S).1, S)) := by
  have h := c_mequal (k := k) (L := L) (S := S) (n := n) (mo := mo) (a := a) (b := b) hM ha hb
  have e : mequal_f mo a b S = ((mequal_f mo a b S).1, S) := Prod.ext rfl (mequal_S mo a b S)
  rwa [e] at h
def misZero_s2 (mo : Nat) (a : Nat) (S : StT) : Nat → Nat → Int32 × StT
  | 0, i2 => (nI (1), S)
  | f2 + 1, i2 => (if (S.1 (mo + 7) (32 * a + i2)) = 0 then misZero_s2 mo a S f2 (i2 + 1) else (nI (0), S))
def misZero_f (mo : Nat) (a : Nat) (S : StT) : Int32 × StT := misZero_s2 mo a S 28 0
set_option maxRecDepth 100000 in
set_option maxHeartbeats 4000000 in
theorem c_misZero {k : KX} {L : Nat → Option Sh} {S : StT} {n : Nat} {mo : Nat} {a : Nat} (hM : ModelAt k L mo) (ha : a < 64) :
    Cs k yX12_isZero cX12_isZero 3 (some .boolean) 0 0 0 [.ref (k_b k + (mo)), .int (nI (a))] (inst k L S.1 S.2.1 S.2.2) n (Pi k L n (misZero_f mo a S)) := by
  refine cs_of (by decide) (Nat.le_of_ble_eq_true rfl) ?_
  intro X hXk C Rt hnm
  subst hXk
  have hM9 := hM
  obtain ⟨hM0, hm1, hm2, hm3, hm4, hm5, hm6, hm7, hm8, hm9, hm10, hm11, hm12, hm13, hm14, hm15, hm16, hm17, hm18, hm19, hm20, hm21, hm22, hm23, hm24, hm25, hm26, hm27⟩ := hM9
  refine rn_lv [(0, .ref (k_b X.1 + (mo))), (1, .int (nI (a)))] (fun q h => h) ?_
  refine rn_iconst (v := nI 0) C dX12_isZero_0 rfl ?_
  refine rn_istore_n (lv' := [(0, _), (1, _), (2, _)]) C dX12_isZero_1 (by decide) rfl ?_
  have lp2 : ∀ i2, i2 ≤ 28 → (misZero_s2 mo a S 28 0 = misZero_s2 mo a S (28 - i2) i2) → Rn X 2 [(0, .ref (k_b X.1 + (mo))), (1, .int (nI (a))), (2, .int (nI (i2)))] [] (inst X.1 L S.1 S.2.1 S.2.2) n 0 0 := by
    refine upto _ _ (fun he2 => ?_) (fun i2 hi2 ih2 he2 => ?_)
    · skip
      rw [Nat.sub_self] at he2
      refine rn_iload_n C dX12_isZero_2 rfl ?_
      refine rn_bipush (v := nI 28) C dX12_isZero_3 rfl ?_
      refine rs_ge (tgt := 30) C dX12_isZero_5 (by decide) rfl rfl (by omega) (by omega) (fun _ => ?_) (fun q => absurd q (by omega))
      refine rn_iconst (v := nI 1) C dX12_isZero_30 rfl ?_
      exact rn_zret C Rt dX12_isZero_31 (by first | rfl | exact rfl) (pi_of (he2)) (Nat.zero_le _) (Nat.zero_le _)
    · skip
      have hq2 : misZero_s2 mo a S 28 0 = misZero_s2 mo a S (28 - (i2 + 1) + 1) i2 := by rw [show 28 - (i2 + 1) + 1 = 28 - i2 from by omega]; exact he2
      refine rn_iload_n C dX12_isZero_2 rfl ?_
      refine rn_bipush (v := nI 28) C dX12_isZero_3 rfl ?_
      refine rs_ge (tgt := 30) C dX12_isZero_5 (by decide) rfl rfl (by omega) (by omega) (fun q => absurd q (by omega)) (fun _ => ?_)
      refine rn_aload_n C dX12_isZero_8 rfl ?_
      refine rs_get C dX12_isZero_9 fl_X12_41 hM0 rfl ?_
      refine rn_bipush (v := nI 32) C dX12_isZero_12 rfl ?_
      refine rn_iload_n C dX12_isZero_14 rfl ?_
      refine rn_imul C dX12_isZero_15 (pk_mul _ _) ?_
      refine rn_iload_n C dX12_isZero_16 rfl ?_
      refine rn_iadd C dX12_isZero_17 (nI_add _ _) ?_
      refine rs_iaload C dX12_isZero_18 hm7 rfl (by omega) (by decide) ?_
      refine rn_if_eq (tgt := 24) C dX12_isZero_19 (by decide) (fun hb1 => ?_) (fun hb1 => ?_)
      · skip
        refine rn_iinc (lv' := [(0, _), (1, _), (2, _)]) C dX12_isZero_24 rfl (nI_inc _) (by decide) rfl ?_
        refine rn_goto (tgt := 2) C dX12_isZero_27 (by decide) ?_
        exact rn_ks [0, 1, 2] (ih2 ((hq2).trans (if_pos hb1))) rfl
      · skip
        refine rn_iconst (v := nI 0) C dX12_isZero_22 rfl ?_
        exact rn_zret C Rt dX12_isZero_23 (by first | rfl | exact rfl) (pi_of ((hq2).trans (if_neg hb1))) (Nat.zero_le _) (Nat.zero_le _)
  exact lp2 0 (Nat.zero_le _) rfl
theorem misZero_s2_S (mo : Nat) (a : Nat) (S : StT) : ∀ f i, (misZero_s2 mo a S f i).2 = S := by
  intro f
  induction f with
  | zero => intro i; rfl
  | succ f ih =>
    intro i
    unfold misZero_s2
    (repeat' split) <;> first | rfl | exact ih _
theorem misZero_S (mo : Nat) (a : Nat) (S : StT) : (misZero_f mo a S).2 = S := misZero_s2_S mo a S _ _
theorem cp_misZero {k : KX} {L : Nat → Option Sh} {S : StT} {n : Nat} {mo : Nat} {a : Nat} (hM : ModelAt k L mo) (ha : a < 64) :
    Cs k yX12_isZero cX12_isZero 3 (some .boolean) 0 0 0 [.ref (k_b k + (mo)), .int (nI (a))] (inst k L S.1 S.2.1 S.2.2) n (Pi k L n ((misZero_f mo a S).1, S)) := by
  have h := c_misZero (k := k) (L := L) (S := S) (n := n) (mo := mo) (a := a) hM ha
  have e : misZero_f mo a S = ((misZero_f mo a S).1, S) := Prod.ext rfl (misZero_S mo a S)
  rwa [e] at h
def takeOff_l5 (mo : Nat) (a : Nat) (b : Nat) (S : StT) (z3 : Nat) : Nat → Nat × (Nat → Nat → Int32)
  | 0 => (z3, S.1)
  | i5 + 1 => let y5_0 := (takeOff_l5 mo a b S z3 i5).1; let y5_1 := (takeOff_l5 mo a b S z3 i5).2; (let I2 := va_up y5_1 (mo + 7) (upd (y5_1 (mo + 7)) (32 * a + i5) ((((y5_1 (mo + 7) (32 * a + i5)) - (y5_1 (mo + 7) (32 * b + i5))) - (nI (y5_0))) &&& (65535))); ((if 0 ≤ (((y5_1 (mo + 7) (32 * a + i5)) - (y5_1 (mo + 7) (32 * b + i5))) - (nI (y5_0))) then 0 else 1), I2))
def takeOff_f (mo : Nat) (a : Nat) (b : Nat) (S : StT) : StT := ((takeOff_l5 mo a b S 0 28).2, S.2.1, S.2.2)
theorem takeOff_F (mo : Nat) (a : Nat) (b : Nat) (S : StT) : (takeOff_f mo a b S).2.2 = S.2.2 := by
  unfold takeOff_f; first | rfl | (simp only [zero28_F, mzero_F, msmall_F, mcopy_F]; done) | ((repeat' split) <;> first | rfl | (simp only [zero28_F, mzero_F, msmall_F, mcopy_F]; done))
set_option maxRecDepth 100000 in
set_option maxHeartbeats 4000000 in
theorem c_takeOff {k : KX} {L : Nat → Option Sh} {S : StT} {n : Nat} {mo : Nat} {a : Nat} {b : Nat} (hM : ModelAt k L mo) (ha : a < 64) (hb : b < 64) :
    Cs k yX12_takeOff cX12_takeOff 6 none 0 0 0 [.ref (k_b k + (mo)), .int (nI (a)), .int (nI (b))] (inst k L S.1 S.2.1 S.2.2) n (Pv k L n (takeOff_f mo a b S)) := by
  refine cs_of (by decide) (Nat.le_of_ble_eq_true rfl) ?_
  intro X hXk C Rt hnm
  subst hXk
  have hM9 := hM
  obtain ⟨hM0, hm1, hm2, hm3, hm4, hm5, hm6, hm7, hm8, hm9, hm10, hm11, hm12, hm13, hm14, hm15, hm16, hm17, hm18, hm19, hm20, hm21, hm22, hm23, hm24, hm25, hm26, hm27⟩ := hM9
  refine rn_lv [(0, .ref (k_b X.1 + (mo))), (1, .int (nI (a))), (2, .int (nI (b)))] (fun q h => h) ?_
  refine rn_iconst (v := nI 0) C dX12_takeOff_0 rfl ?_
  refine rn_istore_n (lv' := [(0, _), (1, _), (2, _), (3, _)]) C dX12_takeOff_1 (by decide) rfl ?_
  refine rn_iconst (v := nI 0) C dX12_takeOff_2 rfl ?_
  refine rn_istore (lv' := [(0, _), (1, _), (2, _), (3, _), (4, _)]) C dX12_takeOff_3 (by decide) rfl ?_
  have lp5 : ∀ i5, i5 ≤ 28 → Rn X 5 [(0, .ref (k_b X.1 + (mo))), (1, .int (nI (a))), (2, .int (nI (b))), (3, .int (nI ((takeOff_l5 mo a b S 0 i5).1))), (4, .int (nI (i5)))] [] (inst X.1 L (takeOff_l5 mo a b S 0 i5).2 S.2.1 S.2.2) n 0 0 := by
    refine upto _ _ ?_ (fun i5 hi5 ih5 => ?_)
    · skip
      refine rn_iload C dX12_takeOff_5 rfl ?_
      refine rn_bipush (v := nI 28) C dX12_takeOff_7 rfl ?_
      refine rs_ge (tgt := 75) C dX12_takeOff_9 (by decide) rfl rfl (by omega) (by omega) (fun _ => ?_) (fun q => absurd q (by omega))
      exact rn_vret C Rt dX12_takeOff_75 (pv_of rfl) (Nat.zero_le _) (Nat.zero_le _)
    · skip
      refine rn_iload C dX12_takeOff_5 rfl ?_
      refine rn_bipush (v := nI 28) C dX12_takeOff_7 rfl ?_
      refine rs_ge (tgt := 75) C dX12_takeOff_9 (by decide) rfl rfl (by omega) (by omega) (fun q => absurd q (by omega)) (fun _ => ?_)
      refine rn_aload_n C dX12_takeOff_12 rfl ?_
      refine rs_get C dX12_takeOff_13 fl_X12_41 hM0 rfl ?_
      refine rn_bipush (v := nI 32) C dX12_takeOff_16 rfl ?_
      refine rn_iload_n C dX12_takeOff_18 rfl ?_
      refine rn_imul C dX12_takeOff_19 (pk_mul _ _) ?_
      refine rn_iload C dX12_takeOff_20 rfl ?_
      refine rn_iadd C dX12_takeOff_22 (nI_add _ _) ?_
      refine rs_iaload C dX12_takeOff_23 hm7 rfl (by omega) (by decide) ?_
      refine rn_aload_n C dX12_takeOff_24 rfl ?_
      refine rs_get C dX12_takeOff_25 fl_X12_41 hM0 rfl ?_
      refine rn_bipush (v := nI 32) C dX12_takeOff_28 rfl ?_
      refine rn_iload_n C dX12_takeOff_30 rfl ?_
      refine rn_imul C dX12_takeOff_31 (pk_mul _ _) ?_
      refine rn_iload C dX12_takeOff_32 rfl ?_
      refine rn_iadd C dX12_takeOff_34 (nI_add _ _) ?_
      refine rs_iaload C dX12_takeOff_35 hm7 rfl (by omega) (by decide) ?_
      refine rn_isub C dX12_takeOff_36 rfl ?_
      refine rn_iload_n C dX12_takeOff_37 rfl ?_
      refine rn_isub C dX12_takeOff_38 rfl ?_
      refine rn_istore (lv' := [(0, _), (1, _), (2, _), (3, _), (4, _), (5, _)]) C dX12_takeOff_39 (by decide) rfl ?_
      refine rn_iload C dX12_takeOff_41 rfl ?_
      have K43_1 : Rn X 51 [(0, .ref (k_b X.1 + (mo))), (1, .int (nI (a))), (2, .int (nI (b))), (3, .int (nI ((takeOff_l5 mo a b S 0 i5).1))), (4, .int (nI (i5))), (5, .int ((((takeOff_l5 mo a b S 0 i5).2 (mo + 7) (32 * a + i5)) - ((takeOff_l5 mo a b S 0 i5).2 (mo + 7) (32 * b + i5))) - (nI ((takeOff_l5 mo a b S 0 i5).1))))] [.int (nI ((if 0 ≤ ((((takeOff_l5 mo a b S 0 i5).2 (mo + 7) (32 * a + i5)) - ((takeOff_l5 mo a b S 0 i5).2 (mo + 7) (32 * b + i5))) - (nI ((takeOff_l5 mo a b S 0 i5).1))) then 0 else 1)))] (inst X.1 L (takeOff_l5 mo a b S 0 i5).2 S.2.1 S.2.2) n 0 0 := by
        refine rn_istore_n (lv' := [(0, _), (1, _), (2, _), (3, _), (4, _), (5, _)]) C dX12_takeOff_51 (by decide) rfl ?_
        refine rn_aload_n C dX12_takeOff_52 rfl ?_
        refine rs_get C dX12_takeOff_53 fl_X12_41 hM0 rfl ?_
        refine rn_bipush (v := nI 32) C dX12_takeOff_56 rfl ?_
        refine rn_iload_n C dX12_takeOff_58 rfl ?_
        refine rn_imul C dX12_takeOff_59 (pk_mul _ _) ?_
        refine rn_iload C dX12_takeOff_60 rfl ?_
        refine rn_iadd C dX12_takeOff_62 (nI_add _ _) ?_
        refine rn_iload C dX12_takeOff_63 rfl ?_
        refine rn_ldc C dX12_takeOff_65 lc_X12_117 ?_
        refine rn_iand C dX12_takeOff_67 rfl ?_
        refine rs_iastore C dX12_takeOff_68 hm7 rfl (by omega) (by decide) ?_
        refine rn_iinc (lv' := [(0, _), (1, _), (2, _), (3, _), (4, _), (5, _)]) C dX12_takeOff_69 rfl (nI_inc _) (by decide) rfl ?_
        refine rn_goto (tgt := 5) C dX12_takeOff_72 (by decide) ?_
        exact rn_ks [0, 1, 2, 3, 4] ih5 rfl
      refine rn_if_ge (tgt := 50) C dX12_takeOff_43 (by decide) (fun hb1 => ?_) (fun hb1 => ?_)
      · skip
        refine rn_iconst (v := nI 0) C dX12_takeOff_50 rfl ?_
        rw [if_pos hb1] at K43_1
        exact K43_1
      · skip
        refine rn_iconst (v := nI 1) C dX12_takeOff_46 rfl ?_
        refine rn_goto (tgt := 51) C dX12_takeOff_47 (by decide) ?_
        rw [if_neg hb1] at K43_1
        exact K43_1
  exact lp5 0 (Nat.zero_le _)
def mfold_w249 (c : Bool) (mo : Nat) (d : Nat) (S1 : StT) (S : StT) : Nat → Nat → StT → StT
  | 0, _, w249 => w249
  | f249 + 1, i249, w249 => let y249_0 := w249; (if ((atLeast_f (mo) (d) (9 + (bN c)) y249_0).1) = 0 then w249 else mfold_w249 c mo d S1 S f249 (i249 + 1) (takeOff_f (mo) (d) (9 + (bN c)) y249_0))
def mfold_l214 (c : Bool) (mo : Nat) (d : Nat) (S1 : StT) (S : StT)  : Nat → (Nat → Nat → Int32)
  | 0 => S.1
  | i214 + 1 => let y214_0 := (mfold_l214 c mo d S1 S i214); (let I3 := va_up y214_0 (mo + 7) (upd (y214_0 (mo + 7)) (32 * d + i214) ((S.2.1 (mo + 8) (i214)).toInt32)); I3)
def mfold_l116 (c : Bool) (mo : Nat) (d : Nat) (i98 : Nat) (y98_0 : Int64) (y98_1 : (Nat → Nat → Int64)) (S : StT) (z3 : Int64) : Nat → Int64 × (Nat → Nat → Int64)
  | 0 => (z3, S.2.1)
  | i116 + 1 => let y116_0 := (mfold_l116 c mo d i98 y98_0 y98_1 S z3 i116).1; let y116_1 := (mfold_l116 c mo d i98 y98_0 y98_1 S z3 i116).2; (let J9 := va_up y116_1 (mo + 8) (vp_updL (y116_1 (mo + 8)) (i116) ((y116_0 + (y116_1 (mo + 8) (i116))) &&& 65535)); ((y116_0 + (y116_1 (mo + 8) (i116))) >>> ((nI (16)).toInt64 &&& 63), J9))
def mfold_w98 (c : Bool) (mo : Nat) (d : Nat) (S : StT) : Nat → Nat → (Int64 × (Nat → Nat → Int64)) → Int64 × (Nat → Nat → Int64)
  | 0, _, w98 => w98
  | f98 + 1, i98, w98 => let y98_0 := w98.1; let y98_1 := w98.2; (if (lg_cmp (y98_0) (0)) = 0 then w98 else (if (nI (bN c)) ≠ 0 then (let J6 := va_up (mfold_l116 c mo d i98 y98_0 y98_1 (S.1, y98_1, S.2.2) 0 (pN c)).2 (mo + 8) (vp_updL ((mfold_l116 c mo d i98 y98_0 y98_1 (S.1, y98_1, S.2.2) 0 (pN c)).2 (mo + 8)) (0) (((mfold_l116 c mo d i98 y98_0 y98_1 (S.1, y98_1, S.2.2) 0 (pN c)).2 (mo + 8) (0)) + (mfold_l116 c mo d i98 y98_0 y98_1 (S.1, y98_1, S.2.2) 0 (pN c)).1)); (let J7 := va_up J6 (mo + 8) (vp_updL (J6 (mo + 8)) (14) ((J6 (mo + 8) (14)) + (mfold_l116 c mo d i98 y98_0 y98_1 (S.1, y98_1, S.2.2) 0 (pN c)).1)); mfold_w98 c mo d S f98 (i98 + 1) ((mfold_l116 c mo d i98 y98_0 y98_1 (S.1, y98_1, S.2.2) 0 (pN c)).1, J7))) else (let J8 := va_up (mfold_l116 c mo d i98 y98_0 y98_1 (S.1, y98_1, S.2.2) 0 (pN c)).2 (mo + 8) (vp_updL ((mfold_l116 c mo d i98 y98_0 y98_1 (S.1, y98_1, S.2.2) 0 (pN c)).2 (mo + 8)) (0) (((mfold_l116 c mo d i98 y98_0 y98_1 (S.1, y98_1, S.2.2) 0 (pN c)).2 (mo + 8) (0)) + (38 * (mfold_l116 c mo d i98 y98_0 y98_1 (S.1, y98_1, S.2.2) 0 (pN c)).1))); mfold_w98 c mo d S f98 (i98 + 1) ((mfold_l116 c mo d i98 y98_0 y98_1 (S.1, y98_1, S.2.2) 0 (pN c)).1, J8))))
def mfold_l11 (c : Bool) (mo : Nat) (d : Nat) (S : StT)  : Nat → (Nat → Nat → Int64)
  | 0 => S.2.1
  | i11 + 1 => let y11_0 := (mfold_l11 c mo d S i11); (if (nI (bN c)) ≠ 0 then (let J11 := va_up (va_up y11_0 (mo + 8) (vp_updL (y11_0 (mo + 8)) ((2 * pN c - 1) - i11) (0))) (mo + 8) (vp_updL ((va_up y11_0 (mo + 8) (vp_updL (y11_0 (mo + 8)) ((2 * pN c - 1) - i11) (0))) (mo + 8)) ((2 * pN c - 1) - i11 - 28) (((va_up y11_0 (mo + 8) (vp_updL (y11_0 (mo + 8)) ((2 * pN c - 1) - i11) (0))) (mo + 8) ((2 * pN c - 1) - i11 - 28)) + (y11_0 (mo + 8) ((2 * pN c - 1) - i11)))); (let J12 := va_up J11 (mo + 8) (vp_updL (J11 (mo + 8)) ((2 * pN c - 1) - i11 - 14) ((J11 (mo + 8) ((2 * pN c - 1) - i11 - 14)) + (y11_0 (mo + 8) ((2 * pN c - 1) - i11)))); J12)) else (let J13 := va_up (va_up y11_0 (mo + 8) (vp_updL (y11_0 (mo + 8)) ((2 * pN c - 1) - i11) (0))) (mo + 8) (vp_updL ((va_up y11_0 (mo + 8) (vp_updL (y11_0 (mo + 8)) ((2 * pN c - 1) - i11) (0))) (mo + 8)) ((2 * pN c - 1) - i11 - 16) (((va_up y11_0 (mo + 8) (vp_updL (y11_0 (mo + 8)) ((2 * pN c - 1) - i11) (0))) (mo + 8) ((2 * pN c - 1) - i11 - 16)) + (38 * (y11_0 (mo + 8) ((2 * pN c - 1) - i11))))); J13))
def mfold_f (c : Bool) (mo : Nat) (d : Nat) (S : StT) : StT := (let S1 := zero28_f (mo) (d) (S.1, (mfold_w98 c mo d (S.1, (mfold_l11 c mo d S (pN c)), S.2.2) 10 0 (1, (mfold_l11 c mo d S (pN c)))).2, S.2.2); (mfold_w249 c mo d S1 ((mfold_l214 c mo d S1 S1 (pN c)), S1.2.1, S1.2.2) 4 0 ((mfold_l214 c mo d S1 S1 (pN c)), S1.2.1, S1.2.2)))
theorem mfold_w249_F (c : Bool) (mo d : Nat) (S1 S : StT) : ∀ f i w, (mfold_w249 c mo d S1 S f i w).2.2 = w.2.2 := by
  intro f
  induction f with
  | zero => intro i w; rfl
  | succ f ih =>
    intro i w
    unfold mfold_w249
    dsimp only
    split
    · rfl
    · rw [ih, takeOff_F]
theorem mfold_F (c : Bool) (mo : Nat) (d : Nat) (S : StT) : (mfold_f c mo d S).2.2 = S.2.2 := by
  unfold mfold_f; simp only [mfold_w249_F, zero28_F]
set_option maxRecDepth 100000 in
set_option maxHeartbeats 4000000 in
theorem c_mfold {k : KX} {L : Nat → Option Sh} {S : StT} {n : Nat} {c : Bool} {mo : Nat} {d : Nat} (hM : ModelAt k L mo) (hd : d < 64) (hcn : S.2.2 mo 13 = nI (bN c)) (hpc : S.2.2 mo 14 = nI (pN c)) :
    Cs k yX12_fold cX12_fold 7 none 1 0 0 [.ref (k_b k + (mo)), .int (nI (d))] (inst k L S.1 S.2.1 S.2.2) n (Pv k L n (mfold_f c mo d S)) := by
  refine cs_of (by decide) (Nat.le_of_ble_eq_true rfl) ?_
  intro X hXk C Rt hnm
  subst hXk
  have hM9 := hM
  obtain ⟨hM0, hm1, hm2, hm3, hm4, hm5, hm6, hm7, hm8, hm9, hm10, hm11, hm12, hm13, hm14, hm15, hm16, hm17, hm18, hm19, hm20, hm21, hm22, hm23, hm24, hm25, hm26, hm27⟩ := hM9
  obtain ⟨hp1, hp2⟩ := pN_le c
  have hbn := bN_le c
  refine rn_lv [(0, .ref (k_b X.1 + (mo))), (1, .int (nI (d)))] (fun q h => h) ?_
  refine rn_aload_n C dX12_fold_0 rfl ?_
  refine rs_getFe C dX12_fold_1 fl_X12_54 hM0 rfl hpc ?_
  refine rn_istore_n (lv' := [(0, _), (1, _), (2, _)]) C dX12_fold_4 (by decide) rfl ?_
  refine rn_iconst (v := nI 2) C dX12_fold_5 rfl ?_
  refine rn_iload_n C dX12_fold_6 rfl ?_
  refine rn_imul C dX12_fold_7 (pk_mul _ _) ?_
  refine rn_iconst (v := nI 1) C dX12_fold_8 rfl ?_
  refine rn_isub C dX12_fold_9 (pk_sub (by omega)) ?_
  refine rn_istore_n (lv' := [(0, _), (1, _), (2, _), (3, _)]) C dX12_fold_10 (by decide) rfl ?_
  have lp11 : ∀ i11, i11 ≤ pN c → Rn X 11 [(0, .ref (k_b X.1 + (mo))), (1, .int (nI (d))), (2, .int (nI (pN c))), (3, .int (nI ((2 * pN c - 1) - i11)))] [] (inst X.1 L S.1 (mfold_l11 c mo d S i11) S.2.2) n 0 0 := by
    refine upto _ _ ?_ (fun i11 hi11 ih11 => ?_)
    · skip
      refine rn_iload_n C dX12_fold_11 rfl ?_
      refine rn_iload_n C dX12_fold_12 rfl ?_
      refine rs_lt (tgt := 93) C dX12_fold_13 (by decide) rfl rfl (by omega) (by omega) (fun _ => ?_) (fun q => absurd q (by omega))
      refine rn_lconst (v := 1) C dX12_fold_93 rfl ?_
      refine rn_lstore_n (lv' := [(0, _), (1, _), (2, _), (3, _)]) C dX12_fold_94 (by decide) rfl ?_
      refine rn_iconst (v := nI 0) C dX12_fold_95 rfl ?_
      refine rn_istore (lv' := [(0, _), (1, _), (2, _), (3, _), (5, _)]) C dX12_fold_96 (by decide) rfl ?_
      have rs98 : Rn X 206 [(0, .ref (k_b X.1 + (mo))), (1, .int (nI (d))), (2, .int (nI (pN c)))] [] (inst X.1 L S.1 (mfold_w98 c mo d (S.1, (mfold_l11 c mo d S (pN c)), S.2.2) 10 0 (1, (mfold_l11 c mo d S (pN c)))).2 S.2.2) n 0 0 := by
        refine rn_aload_n C dX12_fold_206 rfl ?_
        refine rn_iload_n C dX12_fold_207 rfl ?_
        refine rs_vv C dX12_fold_208 mk_X12_zero28 lv_X12_168 (c_zero28 (S := (S.1, (mfold_w98 c mo d (S.1, (mfold_l11 c mo d S (pN c)), S.2.2) 10 0 (1, (mfold_l11 c mo d S (pN c)))).2, S.2.2)) hM (by omega)) hM0 rfl rfl rfl rfl (by decide) (Nat.le_of_ble_eq_true rfl) (by decide) (by decide) ?_
        refine rn_iconst (v := nI 0) C dX12_fold_211 rfl ?_
        refine rn_istore (lv' := [(0, _), (1, _), (2, _), (5, _)]) C dX12_fold_212 (by decide) rfl ?_
        have lp214 : ∀ i214, i214 ≤ pN c → Rn X 214 [(0, .ref (k_b X.1 + (mo))), (1, .int (nI (d))), (2, .int (nI (pN c))), (5, .int (nI (i214)))] [] (inst X.1 L (mfold_l214 c mo d (zero28_f (mo) (d) (S.1, (mfold_w98 c mo d (S.1, (mfold_l11 c mo d S (pN c)), S.2.2) 10 0 (1, (mfold_l11 c mo d S (pN c)))).2, S.2.2)) (zero28_f (mo) (d) (S.1, (mfold_w98 c mo d (S.1, (mfold_l11 c mo d S (pN c)), S.2.2) 10 0 (1, (mfold_l11 c mo d S (pN c)))).2, S.2.2)) i214) (zero28_f (mo) (d) (S.1, (mfold_w98 c mo d (S.1, (mfold_l11 c mo d S (pN c)), S.2.2) 10 0 (1, (mfold_l11 c mo d S (pN c)))).2, S.2.2)).2.1 (zero28_f (mo) (d) (S.1, (mfold_w98 c mo d (S.1, (mfold_l11 c mo d S (pN c)), S.2.2) 10 0 (1, (mfold_l11 c mo d S (pN c)))).2, S.2.2)).2.2) n 0 0 := by
          refine upto _ _ ?_ (fun i214 hi214 ih214 => ?_)
          · skip
            refine rn_iload C dX12_fold_214 rfl ?_
            refine rn_iload_n C dX12_fold_216 rfl ?_
            refine rs_ge (tgt := 246) C dX12_fold_217 (by decide) rfl rfl (by omega) (by omega) (fun _ => ?_) (fun q => absurd q (by omega))
            refine rn_iconst (v := nI 0) C dX12_fold_246 rfl ?_
            refine rn_istore (lv' := [(0, _), (1, _), (2, _), (5, _)]) C dX12_fold_247 (by decide) rfl ?_
            have rs249 : Rn X 288 [(0, .ref (k_b X.1 + (mo)))] [] (inst X.1 L (mfold_w249 c mo d (zero28_f (mo) (d) (S.1, (mfold_w98 c mo d (S.1, (mfold_l11 c mo d S (pN c)), S.2.2) 10 0 (1, (mfold_l11 c mo d S (pN c)))).2, S.2.2)) ((mfold_l214 c mo d (zero28_f (mo) (d) (S.1, (mfold_w98 c mo d (S.1, (mfold_l11 c mo d S (pN c)), S.2.2) 10 0 (1, (mfold_l11 c mo d S (pN c)))).2, S.2.2)) (zero28_f (mo) (d) (S.1, (mfold_w98 c mo d (S.1, (mfold_l11 c mo d S (pN c)), S.2.2) 10 0 (1, (mfold_l11 c mo d S (pN c)))).2, S.2.2)) (pN c)), (zero28_f (mo) (d) (S.1, (mfold_w98 c mo d (S.1, (mfold_l11 c mo d S (pN c)), S.2.2) 10 0 (1, (mfold_l11 c mo d S (pN c)))).2, S.2.2)).2.1, (zero28_f (mo) (d) (S.1, (mfold_w98 c mo d (S.1, (mfold_l11 c mo d S (pN c)), S.2.2) 10 0 (1, (mfold_l11 c mo d S (pN c)))).2, S.2.2)).2.2) 4 0 ((mfold_l214 c mo d (zero28_f (mo) (d) (S.1, (mfold_w98 c mo d (S.1, (mfold_l11 c mo d S (pN c)), S.2.2) 10 0 (1, (mfold_l11 c mo d S (pN c)))).2, S.2.2)) (zero28_f (mo) (d) (S.1, (mfold_w98 c mo d (S.1, (mfold_l11 c mo d S (pN c)), S.2.2) 10 0 (1, (mfold_l11 c mo d S (pN c)))).2, S.2.2)) (pN c)), (zero28_f (mo) (d) (S.1, (mfold_w98 c mo d (S.1, (mfold_l11 c mo d S (pN c)), S.2.2) 10 0 (1, (mfold_l11 c mo d S (pN c)))).2, S.2.2)).2.1, (zero28_f (mo) (d) (S.1, (mfold_w98 c mo d (S.1, (mfold_l11 c mo d S (pN c)), S.2.2) 10 0 (1, (mfold_l11 c mo d S (pN c)))).2, S.2.2)).2.2)).1 (mfold_w249 c mo d (zero28_f (mo) (d) (S.1, (mfold_w98 c mo d (S.1, (mfold_l11 c mo d S (pN c)), S.2.2) 10 0 (1, (mfold_l11 c mo d S (pN c)))).2, S.2.2)) ((mfold_l214 c mo d (zero28_f (mo) (d) (S.1, (mfold_w98 c mo d (S.1, (mfold_l11 c mo d S (pN c)), S.2.2) 10 0 (1, (mfold_l11 c mo d S (pN c)))).2, S.2.2)) (zero28_f (mo) (d) (S.1, (mfold_w98 c mo d (S.1, (mfold_l11 c mo d S (pN c)), S.2.2) 10 0 (1, (mfold_l11 c mo d S (pN c)))).2, S.2.2)) (pN c)), (zero28_f (mo) (d) (S.1, (mfold_w98 c mo d (S.1, (mfold_l11 c mo d S (pN c)), S.2.2) 10 0 (1, (mfold_l11 c mo d S (pN c)))).2, S.2.2)).2.1, (zero28_f (mo) (d) (S.1, (mfold_w98 c mo d (S.1, (mfold_l11 c mo d S (pN c)), S.2.2) 10 0 (1, (mfold_l11 c mo d S (pN c)))).2, S.2.2)).2.2) 4 0 ((mfold_l214 c mo d (zero28_f (mo) (d) (S.1, (mfold_w98 c mo d (S.1, (mfold_l11 c mo d S (pN c)), S.2.2) 10 0 (1, (mfold_l11 c mo d S (pN c)))).2, S.2.2)) (zero28_f (mo) (d) (S.1, (mfold_w98 c mo d (S.1, (mfold_l11 c mo d S (pN c)), S.2.2) 10 0 (1, (mfold_l11 c mo d S (pN c)))).2, S.2.2)) (pN c)), (zero28_f (mo) (d) (S.1, (mfold_w98 c mo d (S.1, (mfold_l11 c mo d S (pN c)), S.2.2) 10 0 (1, (mfold_l11 c mo d S (pN c)))).2, S.2.2)).2.1, (zero28_f (mo) (d) (S.1, (mfold_w98 c mo d (S.1, (mfold_l11 c mo d S (pN c)), S.2.2) 10 0 (1, (mfold_l11 c mo d S (pN c)))).2, S.2.2)).2.2)).2.1 (mfold_w249 c mo d (zero28_f (mo) (d) (S.1, (mfold_w98 c mo d (S.1, (mfold_l11 c mo d S (pN c)), S.2.2) 10 0 (1, (mfold_l11 c mo d S (pN c)))).2, S.2.2)) ((mfold_l214 c mo d (zero28_f (mo) (d) (S.1, (mfold_w98 c mo d (S.1, (mfold_l11 c mo d S (pN c)), S.2.2) 10 0 (1, (mfold_l11 c mo d S (pN c)))).2, S.2.2)) (zero28_f (mo) (d) (S.1, (mfold_w98 c mo d (S.1, (mfold_l11 c mo d S (pN c)), S.2.2) 10 0 (1, (mfold_l11 c mo d S (pN c)))).2, S.2.2)) (pN c)), (zero28_f (mo) (d) (S.1, (mfold_w98 c mo d (S.1, (mfold_l11 c mo d S (pN c)), S.2.2) 10 0 (1, (mfold_l11 c mo d S (pN c)))).2, S.2.2)).2.1, (zero28_f (mo) (d) (S.1, (mfold_w98 c mo d (S.1, (mfold_l11 c mo d S (pN c)), S.2.2) 10 0 (1, (mfold_l11 c mo d S (pN c)))).2, S.2.2)).2.2) 4 0 ((mfold_l214 c mo d (zero28_f (mo) (d) (S.1, (mfold_w98 c mo d (S.1, (mfold_l11 c mo d S (pN c)), S.2.2) 10 0 (1, (mfold_l11 c mo d S (pN c)))).2, S.2.2)) (zero28_f (mo) (d) (S.1, (mfold_w98 c mo d (S.1, (mfold_l11 c mo d S (pN c)), S.2.2) 10 0 (1, (mfold_l11 c mo d S (pN c)))).2, S.2.2)) (pN c)), (zero28_f (mo) (d) (S.1, (mfold_w98 c mo d (S.1, (mfold_l11 c mo d S (pN c)), S.2.2) 10 0 (1, (mfold_l11 c mo d S (pN c)))).2, S.2.2)).2.1, (zero28_f (mo) (d) (S.1, (mfold_w98 c mo d (S.1, (mfold_l11 c mo d S (pN c)), S.2.2) 10 0 (1, (mfold_l11 c mo d S (pN c)))).2, S.2.2)).2.2)).2.2) n 0 0 := by
              exact rn_vret C Rt dX12_fold_288 (pv_of (tup _)) (Nat.zero_le _) (Nat.zero_le _)
            have lp249 : ∀ i249, i249 ≤ 4 → ∀ w249 : StT, mfold_w249 c mo d (zero28_f (mo) (d) (S.1, (mfold_w98 c mo d (S.1, (mfold_l11 c mo d S (pN c)), S.2.2) 10 0 (1, (mfold_l11 c mo d S (pN c)))).2, S.2.2)) ((mfold_l214 c mo d (zero28_f (mo) (d) (S.1, (mfold_w98 c mo d (S.1, (mfold_l11 c mo d S (pN c)), S.2.2) 10 0 (1, (mfold_l11 c mo d S (pN c)))).2, S.2.2)) (zero28_f (mo) (d) (S.1, (mfold_w98 c mo d (S.1, (mfold_l11 c mo d S (pN c)), S.2.2) 10 0 (1, (mfold_l11 c mo d S (pN c)))).2, S.2.2)) (pN c)), (zero28_f (mo) (d) (S.1, (mfold_w98 c mo d (S.1, (mfold_l11 c mo d S (pN c)), S.2.2) 10 0 (1, (mfold_l11 c mo d S (pN c)))).2, S.2.2)).2.1, (zero28_f (mo) (d) (S.1, (mfold_w98 c mo d (S.1, (mfold_l11 c mo d S (pN c)), S.2.2) 10 0 (1, (mfold_l11 c mo d S (pN c)))).2, S.2.2)).2.2) 4 0 ((mfold_l214 c mo d (zero28_f (mo) (d) (S.1, (mfold_w98 c mo d (S.1, (mfold_l11 c mo d S (pN c)), S.2.2) 10 0 (1, (mfold_l11 c mo d S (pN c)))).2, S.2.2)) (zero28_f (mo) (d) (S.1, (mfold_w98 c mo d (S.1, (mfold_l11 c mo d S (pN c)), S.2.2) 10 0 (1, (mfold_l11 c mo d S (pN c)))).2, S.2.2)) (pN c)), (zero28_f (mo) (d) (S.1, (mfold_w98 c mo d (S.1, (mfold_l11 c mo d S (pN c)), S.2.2) 10 0 (1, (mfold_l11 c mo d S (pN c)))).2, S.2.2)).2.1, (zero28_f (mo) (d) (S.1, (mfold_w98 c mo d (S.1, (mfold_l11 c mo d S (pN c)), S.2.2) 10 0 (1, (mfold_l11 c mo d S (pN c)))).2, S.2.2)).2.2) = mfold_w249 c mo d (zero28_f (mo) (d) (S.1, (mfold_w98 c mo d (S.1, (mfold_l11 c mo d S (pN c)), S.2.2) 10 0 (1, (mfold_l11 c mo d S (pN c)))).2, S.2.2)) ((mfold_l214 c mo d (zero28_f (mo) (d) (S.1, (mfold_w98 c mo d (S.1, (mfold_l11 c mo d S (pN c)), S.2.2) 10 0 (1, (mfold_l11 c mo d S (pN c)))).2, S.2.2)) (zero28_f (mo) (d) (S.1, (mfold_w98 c mo d (S.1, (mfold_l11 c mo d S (pN c)), S.2.2) 10 0 (1, (mfold_l11 c mo d S (pN c)))).2, S.2.2)) (pN c)), (zero28_f (mo) (d) (S.1, (mfold_w98 c mo d (S.1, (mfold_l11 c mo d S (pN c)), S.2.2) 10 0 (1, (mfold_l11 c mo d S (pN c)))).2, S.2.2)).2.1, (zero28_f (mo) (d) (S.1, (mfold_w98 c mo d (S.1, (mfold_l11 c mo d S (pN c)), S.2.2) 10 0 (1, (mfold_l11 c mo d S (pN c)))).2, S.2.2)).2.2) (4 - i249) i249 w249 → w249.2.2 = ((mfold_l214 c mo d (zero28_f (mo) (d) (S.1, (mfold_w98 c mo d (S.1, (mfold_l11 c mo d S (pN c)), S.2.2) 10 0 (1, (mfold_l11 c mo d S (pN c)))).2, S.2.2)) (zero28_f (mo) (d) (S.1, (mfold_w98 c mo d (S.1, (mfold_l11 c mo d S (pN c)), S.2.2) 10 0 (1, (mfold_l11 c mo d S (pN c)))).2, S.2.2)) (pN c)), (zero28_f (mo) (d) (S.1, (mfold_w98 c mo d (S.1, (mfold_l11 c mo d S (pN c)), S.2.2) 10 0 (1, (mfold_l11 c mo d S (pN c)))).2, S.2.2)).2.1, (zero28_f (mo) (d) (S.1, (mfold_w98 c mo d (S.1, (mfold_l11 c mo d S (pN c)), S.2.2) 10 0 (1, (mfold_l11 c mo d S (pN c)))).2, S.2.2)).2.2).2.2 → Rn X 249 [(0, .ref (k_b X.1 + (mo))), (1, .int (nI (d))), (2, .int (nI (pN c))), (5, .int (nI (i249)))] [] (inst X.1 L w249.1 w249.2.1 w249.2.2) n 0 0 := by
              refine upto _ _ (fun w249 he249 hw249 => ?_) (fun i249 hi249 ih249 w249 he249 hw249 => ?_)
              · skip
                rw [Nat.sub_self] at he249
                refine rn_iload C dX12_fold_249 rfl ?_
                refine rn_iconst (v := nI 4) C dX12_fold_251 rfl ?_
                refine rs_ge (tgt := 288) C dX12_fold_252 (by decide) rfl rfl (by omega) (by omega) (fun _ => ?_) (fun q => absurd q (by omega))
                have hx249 : mfold_w249 c mo d (zero28_f (mo) (d) (S.1, (mfold_w98 c mo d (S.1, (mfold_l11 c mo d S (pN c)), S.2.2) 10 0 (1, (mfold_l11 c mo d S (pN c)))).2, S.2.2)) ((mfold_l214 c mo d (zero28_f (mo) (d) (S.1, (mfold_w98 c mo d (S.1, (mfold_l11 c mo d S (pN c)), S.2.2) 10 0 (1, (mfold_l11 c mo d S (pN c)))).2, S.2.2)) (zero28_f (mo) (d) (S.1, (mfold_w98 c mo d (S.1, (mfold_l11 c mo d S (pN c)), S.2.2) 10 0 (1, (mfold_l11 c mo d S (pN c)))).2, S.2.2)) (pN c)), (zero28_f (mo) (d) (S.1, (mfold_w98 c mo d (S.1, (mfold_l11 c mo d S (pN c)), S.2.2) 10 0 (1, (mfold_l11 c mo d S (pN c)))).2, S.2.2)).2.1, (zero28_f (mo) (d) (S.1, (mfold_w98 c mo d (S.1, (mfold_l11 c mo d S (pN c)), S.2.2) 10 0 (1, (mfold_l11 c mo d S (pN c)))).2, S.2.2)).2.2) 4 0 ((mfold_l214 c mo d (zero28_f (mo) (d) (S.1, (mfold_w98 c mo d (S.1, (mfold_l11 c mo d S (pN c)), S.2.2) 10 0 (1, (mfold_l11 c mo d S (pN c)))).2, S.2.2)) (zero28_f (mo) (d) (S.1, (mfold_w98 c mo d (S.1, (mfold_l11 c mo d S (pN c)), S.2.2) 10 0 (1, (mfold_l11 c mo d S (pN c)))).2, S.2.2)) (pN c)), (zero28_f (mo) (d) (S.1, (mfold_w98 c mo d (S.1, (mfold_l11 c mo d S (pN c)), S.2.2) 10 0 (1, (mfold_l11 c mo d S (pN c)))).2, S.2.2)).2.1, (zero28_f (mo) (d) (S.1, (mfold_w98 c mo d (S.1, (mfold_l11 c mo d S (pN c)), S.2.2) 10 0 (1, (mfold_l11 c mo d S (pN c)))).2, S.2.2)).2.2) = w249 := (he249)
                subst hx249
                exact rn_ks [0] rs249 rfl
              · skip
                have hq249 : mfold_w249 c mo d (zero28_f (mo) (d) (S.1, (mfold_w98 c mo d (S.1, (mfold_l11 c mo d S (pN c)), S.2.2) 10 0 (1, (mfold_l11 c mo d S (pN c)))).2, S.2.2)) ((mfold_l214 c mo d (zero28_f (mo) (d) (S.1, (mfold_w98 c mo d (S.1, (mfold_l11 c mo d S (pN c)), S.2.2) 10 0 (1, (mfold_l11 c mo d S (pN c)))).2, S.2.2)) (zero28_f (mo) (d) (S.1, (mfold_w98 c mo d (S.1, (mfold_l11 c mo d S (pN c)), S.2.2) 10 0 (1, (mfold_l11 c mo d S (pN c)))).2, S.2.2)) (pN c)), (zero28_f (mo) (d) (S.1, (mfold_w98 c mo d (S.1, (mfold_l11 c mo d S (pN c)), S.2.2) 10 0 (1, (mfold_l11 c mo d S (pN c)))).2, S.2.2)).2.1, (zero28_f (mo) (d) (S.1, (mfold_w98 c mo d (S.1, (mfold_l11 c mo d S (pN c)), S.2.2) 10 0 (1, (mfold_l11 c mo d S (pN c)))).2, S.2.2)).2.2) 4 0 ((mfold_l214 c mo d (zero28_f (mo) (d) (S.1, (mfold_w98 c mo d (S.1, (mfold_l11 c mo d S (pN c)), S.2.2) 10 0 (1, (mfold_l11 c mo d S (pN c)))).2, S.2.2)) (zero28_f (mo) (d) (S.1, (mfold_w98 c mo d (S.1, (mfold_l11 c mo d S (pN c)), S.2.2) 10 0 (1, (mfold_l11 c mo d S (pN c)))).2, S.2.2)) (pN c)), (zero28_f (mo) (d) (S.1, (mfold_w98 c mo d (S.1, (mfold_l11 c mo d S (pN c)), S.2.2) 10 0 (1, (mfold_l11 c mo d S (pN c)))).2, S.2.2)).2.1, (zero28_f (mo) (d) (S.1, (mfold_w98 c mo d (S.1, (mfold_l11 c mo d S (pN c)), S.2.2) 10 0 (1, (mfold_l11 c mo d S (pN c)))).2, S.2.2)).2.2) = mfold_w249 c mo d (zero28_f (mo) (d) (S.1, (mfold_w98 c mo d (S.1, (mfold_l11 c mo d S (pN c)), S.2.2) 10 0 (1, (mfold_l11 c mo d S (pN c)))).2, S.2.2)) ((mfold_l214 c mo d (zero28_f (mo) (d) (S.1, (mfold_w98 c mo d (S.1, (mfold_l11 c mo d S (pN c)), S.2.2) 10 0 (1, (mfold_l11 c mo d S (pN c)))).2, S.2.2)) (zero28_f (mo) (d) (S.1, (mfold_w98 c mo d (S.1, (mfold_l11 c mo d S (pN c)), S.2.2) 10 0 (1, (mfold_l11 c mo d S (pN c)))).2, S.2.2)) (pN c)), (zero28_f (mo) (d) (S.1, (mfold_w98 c mo d (S.1, (mfold_l11 c mo d S (pN c)), S.2.2) 10 0 (1, (mfold_l11 c mo d S (pN c)))).2, S.2.2)).2.1, (zero28_f (mo) (d) (S.1, (mfold_w98 c mo d (S.1, (mfold_l11 c mo d S (pN c)), S.2.2) 10 0 (1, (mfold_l11 c mo d S (pN c)))).2, S.2.2)).2.2) (4 - (i249 + 1) + 1) i249 w249 := by rw [show 4 - (i249 + 1) + 1 = 4 - i249 from by omega]; exact he249
                refine rn_iload C dX12_fold_249 rfl ?_
                refine rn_iconst (v := nI 4) C dX12_fold_251 rfl ?_
                refine rs_ge (tgt := 288) C dX12_fold_252 (by decide) rfl rfl (by omega) (by omega) (fun q => absurd q (by omega)) (fun _ => ?_)
                refine rn_aload_n C dX12_fold_255 rfl ?_
                refine rn_iload_n C dX12_fold_256 rfl ?_
                refine rn_bipush (v := nI 9) C dX12_fold_257 rfl ?_
                refine rn_aload_n C dX12_fold_259 rfl ?_
                refine rs_getFe C dX12_fold_260 fl_X12_51 hM0 rfl (by first | (simp only [zero28_F, mzero_F, msmall_F, mcopy_F, takeOff_F, hw249]; with_reducible exact hcn) | with_reducible exact hcn | exact hcn) ?_
                refine rn_iadd C dX12_fold_263 (nI_add _ _) ?_
                refine rs_vz C dX12_fold_264 mk_X12_atLeast lv_X12_183 (cp_atLeast hM (by omega) (by omega)) hM0 rfl rfl rfl rfl (by decide) (Nat.le_of_ble_eq_true rfl) (by decide) (by decide) ?_
                refine rn_if_eq (tgt := 288) C dX12_fold_267 (by decide) (fun hb2 => ?_) (fun hb2 => ?_)
                · skip
                  have hx249 : mfold_w249 c mo d (zero28_f (mo) (d) (S.1, (mfold_w98 c mo d (S.1, (mfold_l11 c mo d S (pN c)), S.2.2) 10 0 (1, (mfold_l11 c mo d S (pN c)))).2, S.2.2)) ((mfold_l214 c mo d (zero28_f (mo) (d) (S.1, (mfold_w98 c mo d (S.1, (mfold_l11 c mo d S (pN c)), S.2.2) 10 0 (1, (mfold_l11 c mo d S (pN c)))).2, S.2.2)) (zero28_f (mo) (d) (S.1, (mfold_w98 c mo d (S.1, (mfold_l11 c mo d S (pN c)), S.2.2) 10 0 (1, (mfold_l11 c mo d S (pN c)))).2, S.2.2)) (pN c)), (zero28_f (mo) (d) (S.1, (mfold_w98 c mo d (S.1, (mfold_l11 c mo d S (pN c)), S.2.2) 10 0 (1, (mfold_l11 c mo d S (pN c)))).2, S.2.2)).2.1, (zero28_f (mo) (d) (S.1, (mfold_w98 c mo d (S.1, (mfold_l11 c mo d S (pN c)), S.2.2) 10 0 (1, (mfold_l11 c mo d S (pN c)))).2, S.2.2)).2.2) 4 0 ((mfold_l214 c mo d (zero28_f (mo) (d) (S.1, (mfold_w98 c mo d (S.1, (mfold_l11 c mo d S (pN c)), S.2.2) 10 0 (1, (mfold_l11 c mo d S (pN c)))).2, S.2.2)) (zero28_f (mo) (d) (S.1, (mfold_w98 c mo d (S.1, (mfold_l11 c mo d S (pN c)), S.2.2) 10 0 (1, (mfold_l11 c mo d S (pN c)))).2, S.2.2)) (pN c)), (zero28_f (mo) (d) (S.1, (mfold_w98 c mo d (S.1, (mfold_l11 c mo d S (pN c)), S.2.2) 10 0 (1, (mfold_l11 c mo d S (pN c)))).2, S.2.2)).2.1, (zero28_f (mo) (d) (S.1, (mfold_w98 c mo d (S.1, (mfold_l11 c mo d S (pN c)), S.2.2) 10 0 (1, (mfold_l11 c mo d S (pN c)))).2, S.2.2)).2.2) = w249 := ((hq249).trans (if_pos hb2))
                  subst hx249
                  exact rn_ks [0] rs249 rfl
                · skip
                  refine rn_aload_n C dX12_fold_270 rfl ?_
                  refine rn_iload_n C dX12_fold_271 rfl ?_
                  refine rn_bipush (v := nI 9) C dX12_fold_272 rfl ?_
                  refine rn_aload_n C dX12_fold_274 rfl ?_
                  refine rs_getFe C dX12_fold_275 fl_X12_51 hM0 rfl (by first | (simp only [zero28_F, mzero_F, msmall_F, mcopy_F, takeOff_F, hw249]; with_reducible exact hcn) | with_reducible exact hcn | exact hcn) ?_
                  refine rn_iadd C dX12_fold_278 (nI_add _ _) ?_
                  refine rs_vv C dX12_fold_279 mk_X12_takeOff lv_X12_186 (c_takeOff hM (by omega) (by omega)) hM0 rfl rfl rfl rfl (by decide) (Nat.le_of_ble_eq_true rfl) (by decide) (by decide) ?_
                  refine rn_iinc (lv' := [(0, _), (1, _), (2, _), (5, _)]) C dX12_fold_282 rfl (nI_inc _) (by decide) rfl ?_
                  refine rn_goto (tgt := 249) C dX12_fold_285 (by decide) ?_
                  exact rn_ks [0, 1, 2, 5] (ih249 _ ((hq249).trans (if_neg hb2)) (by first | (simp only [zero28_F, mzero_F, msmall_F, mcopy_F, takeOff_F, hw249]; done) | with_reducible exact hw249 | exact hw249)) rfl
            exact lp249 0 (Nat.zero_le _) ((mfold_l214 c mo d (zero28_f (mo) (d) (S.1, (mfold_w98 c mo d (S.1, (mfold_l11 c mo d S (pN c)), S.2.2) 10 0 (1, (mfold_l11 c mo d S (pN c)))).2, S.2.2)) (zero28_f (mo) (d) (S.1, (mfold_w98 c mo d (S.1, (mfold_l11 c mo d S (pN c)), S.2.2) 10 0 (1, (mfold_l11 c mo d S (pN c)))).2, S.2.2)) (pN c)), (zero28_f (mo) (d) (S.1, (mfold_w98 c mo d (S.1, (mfold_l11 c mo d S (pN c)), S.2.2) 10 0 (1, (mfold_l11 c mo d S (pN c)))).2, S.2.2)).2.1, (zero28_f (mo) (d) (S.1, (mfold_w98 c mo d (S.1, (mfold_l11 c mo d S (pN c)), S.2.2) 10 0 (1, (mfold_l11 c mo d S (pN c)))).2, S.2.2)).2.2) rfl rfl
          · skip
            refine rn_iload C dX12_fold_214 rfl ?_
            refine rn_iload_n C dX12_fold_216 rfl ?_
            refine rs_ge (tgt := 246) C dX12_fold_217 (by decide) rfl rfl (by omega) (by omega) (fun q => absurd q (by omega)) (fun _ => ?_)
            refine rn_aload_n C dX12_fold_220 rfl ?_
            refine rs_get C dX12_fold_221 fl_X12_41 hM0 rfl ?_
            refine rn_bipush (v := nI 32) C dX12_fold_224 rfl ?_
            refine rn_iload_n C dX12_fold_226 rfl ?_
            refine rn_imul C dX12_fold_227 (pk_mul _ _) ?_
            refine rn_iload C dX12_fold_228 rfl ?_
            refine rn_iadd C dX12_fold_230 (nI_add _ _) ?_
            refine rn_aload_n C dX12_fold_231 rfl ?_
            refine rs_get C dX12_fold_232 fl_X12_44 hM0 rfl ?_
            refine rn_iload C dX12_fold_235 rfl ?_
            refine rs_laload C dX12_fold_237 hm8 rfl (by omega) (by decide) ?_
            refine rn_l2i C dX12_fold_238 rfl ?_
            refine rs_iastore C dX12_fold_239 hm7 rfl (by omega) (by decide) ?_
            refine rn_iinc (lv' := [(0, _), (1, _), (2, _), (5, _)]) C dX12_fold_240 rfl (nI_inc _) (by decide) rfl ?_
            refine rn_goto (tgt := 214) C dX12_fold_243 (by decide) ?_
            exact rn_ks [0, 1, 2, 5] ih214 rfl
        exact lp214 0 (Nat.zero_le _)
      have lp98 : ∀ i98, i98 ≤ 10 → ∀ w98 : Int64 × (Nat → Nat → Int64), mfold_w98 c mo d (S.1, (mfold_l11 c mo d S (pN c)), S.2.2) 10 0 (1, (mfold_l11 c mo d S (pN c))) = mfold_w98 c mo d (S.1, (mfold_l11 c mo d S (pN c)), S.2.2) (10 - i98) i98 w98 → Rn X 98 [(0, .ref (k_b X.1 + (mo))), (1, .int (nI (d))), (2, .int (nI (pN c))), (3, .long (w98.1)), (5, .int (nI (i98)))] [] (inst X.1 L S.1 w98.2 S.2.2) n 0 0 := by
        refine upto _ _ (fun w98 he98 => ?_) (fun i98 hi98 ih98 w98 he98 => ?_)
        · skip
          rw [Nat.sub_self] at he98
          refine rn_iload C dX12_fold_98 rfl ?_
          refine rn_bipush (v := nI 10) C dX12_fold_100 rfl ?_
          refine rs_ge (tgt := 206) C dX12_fold_102 (by decide) rfl rfl (by omega) (by omega) (fun _ => ?_) (fun q => absurd q (by omega))
          have hx98 : mfold_w98 c mo d (S.1, (mfold_l11 c mo d S (pN c)), S.2.2) 10 0 (1, (mfold_l11 c mo d S (pN c))) = w98 := (he98)
          subst hx98
          exact rn_ks [0, 1, 2] rs98 rfl
        · skip
          have hq98 : mfold_w98 c mo d (S.1, (mfold_l11 c mo d S (pN c)), S.2.2) 10 0 (1, (mfold_l11 c mo d S (pN c))) = mfold_w98 c mo d (S.1, (mfold_l11 c mo d S (pN c)), S.2.2) (10 - (i98 + 1) + 1) i98 w98 := by rw [show 10 - (i98 + 1) + 1 = 10 - i98 from by omega]; exact he98
          refine rn_iload C dX12_fold_98 rfl ?_
          refine rn_bipush (v := nI 10) C dX12_fold_100 rfl ?_
          refine rs_ge (tgt := 206) C dX12_fold_102 (by decide) rfl rfl (by omega) (by omega) (fun q => absurd q (by omega)) (fun _ => ?_)
          refine rn_lload_n C dX12_fold_105 rfl ?_
          refine rn_lconst (v := 0) C dX12_fold_106 rfl ?_
          refine rn_lcmp C dX12_fold_107 ?_
          refine rn_if_eq (tgt := 206) C dX12_fold_108 (by decide) (fun hb4 => ?_) (fun hb4 => ?_)
          · skip
            have hx98 : mfold_w98 c mo d (S.1, (mfold_l11 c mo d S (pN c)), S.2.2) 10 0 (1, (mfold_l11 c mo d S (pN c))) = w98 := ((hq98).trans (if_pos hb4))
            subst hx98
            exact rn_ks [0, 1, 2] rs98 rfl
          · skip
            refine rn_lconst (v := 0) C dX12_fold_111 rfl ?_
            refine rn_lstore_n (lv' := [(0, _), (1, _), (2, _), (3, _), (5, _)]) C dX12_fold_112 (by decide) rfl ?_
            refine rn_iconst (v := nI 0) C dX12_fold_113 rfl ?_
            refine rn_istore (lv' := [(0, _), (1, _), (2, _), (3, _), (5, _), (6, _)]) C dX12_fold_114 (by decide) rfl ?_
            have lp116 : ∀ i116, i116 ≤ pN c → Rn X 116 [(0, .ref (k_b X.1 + (mo))), (1, .int (nI (d))), (2, .int (nI (pN c))), (3, .long ((mfold_l116 c mo d i98 w98.1 w98.2 ((S.1, (mfold_l11 c mo d S (pN c)), S.2.2).1, w98.2, (S.1, (mfold_l11 c mo d S (pN c)), S.2.2).2.2) 0 i116).1)), (5, .int (nI (i98))), (6, .int (nI (i116)))] [] (inst X.1 L (S.1, (mfold_l11 c mo d S (pN c)), S.2.2).1 (mfold_l116 c mo d i98 w98.1 w98.2 ((S.1, (mfold_l11 c mo d S (pN c)), S.2.2).1, w98.2, (S.1, (mfold_l11 c mo d S (pN c)), S.2.2).2.2) 0 i116).2 (S.1, (mfold_l11 c mo d S (pN c)), S.2.2).2.2) n 0 0 := by
              refine upto _ _ ?_ (fun i116 hi116 ih116 => ?_)
              · skip
                refine rn_iload C dX12_fold_116 rfl ?_
                refine rn_iload_n C dX12_fold_118 rfl ?_
                refine rs_ge (tgt := 155) C dX12_fold_119 (by decide) rfl rfl (by omega) (by omega) (fun _ => ?_) (fun q => absurd q (by omega))
                refine rn_aload_n C dX12_fold_155 rfl ?_
                refine rs_getFe C dX12_fold_156 fl_X12_51 hM0 rfl (by first | (simp only [zero28_F, mzero_F, msmall_F, mcopy_F, takeOff_F]; with_reducible exact hcn) | with_reducible exact hcn | exact hcn) ?_
                refine rn_if_ne (tgt := 179) C dX12_fold_159 (by decide) (fun hb5 => ?_) (fun hb5 => ?_)
                · skip
                  refine rn_aload_n C dX12_fold_179 rfl ?_
                  refine rs_get C dX12_fold_180 fl_X12_44 hM0 rfl ?_
                  refine rn_iconst (v := nI 0) C dX12_fold_183 rfl ?_
                  refine rn_dup2 C dX12_fold_184 rfl rfl ?_
                  refine rs_laload C dX12_fold_185 hm8 rfl (by omega) (by decide) ?_
                  refine rn_lload_n C dX12_fold_186 rfl ?_
                  refine rn_ladd C dX12_fold_187 rfl ?_
                  refine rs_lastore C dX12_fold_188 hm8 rfl (by omega) (by decide) ?_
                  refine rn_aload_n C dX12_fold_189 rfl ?_
                  refine rs_get C dX12_fold_190 fl_X12_44 hM0 rfl ?_
                  refine rn_bipush (v := nI 14) C dX12_fold_193 rfl ?_
                  refine rn_dup2 C dX12_fold_195 rfl rfl ?_
                  refine rs_laload C dX12_fold_196 hm8 rfl (by omega) (by decide) ?_
                  refine rn_lload_n C dX12_fold_197 rfl ?_
                  refine rn_ladd C dX12_fold_198 rfl ?_
                  refine rs_lastore C dX12_fold_199 hm8 rfl (by omega) (by decide) ?_
                  refine rn_iinc (lv' := [(0, _), (1, _), (2, _), (3, _), (5, _), (6, _)]) C dX12_fold_200 rfl (nI_inc _) (by decide) rfl ?_
                  refine rn_goto (tgt := 98) C dX12_fold_203 (by decide) ?_
                  exact rn_ks [0, 1, 2, 3, 5] (ih98 _ (((hq98).trans (if_neg hb4)).trans (if_pos hb5))) rfl
                · skip
                  refine rn_aload_n C dX12_fold_162 rfl ?_
                  refine rs_get C dX12_fold_163 fl_X12_44 hM0 rfl ?_
                  refine rn_iconst (v := nI 0) C dX12_fold_166 rfl ?_
                  refine rn_dup2 C dX12_fold_167 rfl rfl ?_
                  refine rs_laload C dX12_fold_168 hm8 rfl (by omega) (by decide) ?_
                  refine rn_ldc2 C dX12_fold_169 lc_X12_179 ?_
                  refine rn_lload_n C dX12_fold_172 rfl ?_
                  refine rn_lmul C dX12_fold_173 rfl ?_
                  refine rn_ladd C dX12_fold_174 rfl ?_
                  refine rs_lastore C dX12_fold_175 hm8 rfl (by omega) (by decide) ?_
                  refine rn_goto (tgt := 200) C dX12_fold_176 (by decide) ?_
                  refine rn_iinc (lv' := [(0, _), (1, _), (2, _), (3, _), (5, _), (6, _)]) C dX12_fold_200 rfl (nI_inc _) (by decide) rfl ?_
                  refine rn_goto (tgt := 98) C dX12_fold_203 (by decide) ?_
                  exact rn_ks [0, 1, 2, 3, 5] (ih98 _ (((hq98).trans (if_neg hb4)).trans (if_neg (fun q => q hb5)))) rfl
              · skip
                refine rn_iload C dX12_fold_116 rfl ?_
                refine rn_iload_n C dX12_fold_118 rfl ?_
                refine rs_ge (tgt := 155) C dX12_fold_119 (by decide) rfl rfl (by omega) (by omega) (fun q => absurd q (by omega)) (fun _ => ?_)
                refine rn_lload_n C dX12_fold_122 rfl ?_
                refine rn_aload_n C dX12_fold_123 rfl ?_
                refine rs_get C dX12_fold_124 fl_X12_44 hM0 rfl ?_
                refine rn_iload C dX12_fold_127 rfl ?_
                refine rs_laload C dX12_fold_129 hm8 rfl (by omega) (by decide) ?_
                refine rn_ladd C dX12_fold_130 rfl ?_
                refine rn_lstore_n (lv' := [(0, _), (1, _), (2, _), (3, _), (5, _), (6, _)]) C dX12_fold_131 (by decide) rfl ?_
                refine rn_aload_n C dX12_fold_132 rfl ?_
                refine rs_get C dX12_fold_133 fl_X12_44 hM0 rfl ?_
                refine rn_iload C dX12_fold_136 rfl ?_
                refine rn_lload_n C dX12_fold_138 rfl ?_
                refine rn_ldc2 C dX12_fold_139 lc_X12_181 ?_
                refine rn_land C dX12_fold_142 rfl ?_
                refine rs_lastore C dX12_fold_143 hm8 rfl (by omega) (by decide) ?_
                refine rn_lload_n C dX12_fold_144 rfl ?_
                refine rn_bipush (v := nI 16) C dX12_fold_145 rfl ?_
                refine rn_lshr C dX12_fold_147 rfl ?_
                refine rn_lstore_n (lv' := [(0, _), (1, _), (2, _), (3, _), (5, _), (6, _)]) C dX12_fold_148 (by decide) rfl ?_
                refine rn_iinc (lv' := [(0, _), (1, _), (2, _), (3, _), (5, _), (6, _)]) C dX12_fold_149 rfl (nI_inc _) (by decide) rfl ?_
                refine rn_goto (tgt := 116) C dX12_fold_152 (by decide) ?_
                exact rn_ks [0, 1, 2, 3, 5, 6] ih116 rfl
            exact lp116 0 (Nat.zero_le _)
      exact lp98 0 (Nat.zero_le _) (1, (mfold_l11 c mo d S (pN c))) rfl
    · skip
      refine rn_iload_n C dX12_fold_11 rfl ?_
      refine rn_iload_n C dX12_fold_12 rfl ?_
      refine rs_lt (tgt := 93) C dX12_fold_13 (by decide) rfl rfl (by omega) (by omega) (fun q => absurd q (by omega)) (fun _ => ?_)
      refine rn_aload_n C dX12_fold_16 rfl ?_
      refine rs_get C dX12_fold_17 fl_X12_44 hM0 rfl ?_
      refine rn_iload_n C dX12_fold_20 rfl ?_
      refine rs_laload C dX12_fold_21 hm8 rfl (by omega) (by decide) ?_
      refine rn_lstore (lv' := [(0, _), (1, _), (2, _), (3, _), (4, _)]) C dX12_fold_22 (by decide) rfl ?_
      refine rn_aload_n C dX12_fold_24 rfl ?_
      refine rs_get C dX12_fold_25 fl_X12_44 hM0 rfl ?_
      refine rn_iload_n C dX12_fold_28 rfl ?_
      refine rn_lconst (v := 0) C dX12_fold_29 rfl ?_
      refine rs_lastore C dX12_fold_30 hm8 rfl (by omega) (by decide) ?_
      refine rn_aload_n C dX12_fold_31 rfl ?_
      refine rs_getFe C dX12_fold_32 fl_X12_51 hM0 rfl hcn ?_
      refine rn_if_ne (tgt := 59) C dX12_fold_35 (by decide) (fun hb10 => ?_) (fun hb10 => ?_)
      · skip
        have hc : c = true := bN_t hb10
        have hp : pN c = 28 := by rw [hc]; rfl
        refine rn_aload_n C dX12_fold_59 rfl ?_
        refine rs_get C dX12_fold_60 fl_X12_44 hM0 rfl ?_
        refine rn_iload_n C dX12_fold_63 rfl ?_
        refine rn_bipush (v := nI 28) C dX12_fold_64 rfl ?_
        refine rn_isub C dX12_fold_66 (pk_sub (by omega)) ?_
        refine rn_dup2 C dX12_fold_67 rfl rfl ?_
        refine rs_laload C dX12_fold_68 hm8 rfl (by omega) (by decide) ?_
        refine rn_lload C dX12_fold_69 rfl ?_
        refine rn_ladd C dX12_fold_71 rfl ?_
        refine rs_lastore C dX12_fold_72 hm8 rfl (by omega) (by decide) ?_
        refine rn_aload_n C dX12_fold_73 rfl ?_
        refine rs_get C dX12_fold_74 fl_X12_44 hM0 rfl ?_
        refine rn_iload_n C dX12_fold_77 rfl ?_
        refine rn_bipush (v := nI 14) C dX12_fold_78 rfl ?_
        refine rn_isub C dX12_fold_80 (pk_sub (by omega)) ?_
        refine rn_dup2 C dX12_fold_81 rfl rfl ?_
        refine rs_laload C dX12_fold_82 hm8 rfl (by omega) (by decide) ?_
        refine rn_lload C dX12_fold_83 rfl ?_
        refine rn_ladd C dX12_fold_85 rfl ?_
        refine rs_lastore C dX12_fold_86 hm8 rfl (by omega) (by decide) ?_
        refine rn_iinc (lv' := [(0, _), (1, _), (2, _), (3, _), (4, _)]) C dX12_fold_87 rfl (nI_decs (by omega)) (by decide) rfl ?_
        refine rn_goto (tgt := 11) C dX12_fold_90 (by decide) ?_
        rw [show mfold_l11 c mo d S (i11 + 1) = _ from (if_pos hb10)] at ih11
        exact rn_ks [0, 1, 2, 3] ih11 rfl
      · skip
        have hc : c = false := bN_f hb10
        have hp : pN c = 16 := by rw [hc]; rfl
        refine rn_aload_n C dX12_fold_38 rfl ?_
        refine rs_get C dX12_fold_39 fl_X12_44 hM0 rfl ?_
        refine rn_iload_n C dX12_fold_42 rfl ?_
        refine rn_bipush (v := nI 16) C dX12_fold_43 rfl ?_
        refine rn_isub C dX12_fold_45 (pk_sub (by omega)) ?_
        refine rn_dup2 C dX12_fold_46 rfl rfl ?_
        refine rs_laload C dX12_fold_47 hm8 rfl (by omega) (by decide) ?_
        refine rn_ldc2 C dX12_fold_48 lc_X12_179 ?_
        refine rn_lload C dX12_fold_51 rfl ?_
        refine rn_lmul C dX12_fold_53 rfl ?_
        refine rn_ladd C dX12_fold_54 rfl ?_
        refine rs_lastore C dX12_fold_55 hm8 rfl (by omega) (by decide) ?_
        refine rn_goto (tgt := 87) C dX12_fold_56 (by decide) ?_
        refine rn_iinc (lv' := [(0, _), (1, _), (2, _), (3, _), (4, _)]) C dX12_fold_87 rfl (nI_decs (by omega)) (by decide) rfl ?_
        refine rn_goto (tgt := 11) C dX12_fold_90 (by decide) ?_
        rw [show mfold_l11 c mo d S (i11 + 1) = _ from (if_neg (fun q => q hb10))] at ih11
        exact rn_ks [0, 1, 2, 3] ih11 rfl
  exact lp11 0 (Nat.zero_le _)
def mmul_l54 (c : Bool) (mo : Nat) (d : Nat) (a : Nat) (b : Nat) (i27 : Nat) (y27_0 : (Nat → Nat → Int64)) (v2 : Int64) (S : StT)  : Nat → (Nat → Nat → Int64)
  | 0 => S.2.1
  | i54 + 1 => let y54_0 := (mmul_l54 c mo d a b i27 y27_0 v2 S i54); (let J3 := va_up y54_0 (mo + 8) (vp_updL (y54_0 (mo + 8)) (i27 + i54) ((y54_0 (mo + 8) (i27 + i54)) + (v2 * ((S.1 (mo + 7) (32 * b + i54)).toInt64)))); J3)
def mmul_l27 (c : Bool) (mo : Nat) (d : Nat) (a : Nat) (b : Nat) (S : StT)  : Nat → (Nat → Nat → Int64)
  | 0 => S.2.1
  | i27 + 1 => let y27_0 := (mmul_l27 c mo d a b S i27); (let v2 := (S.1 (mo + 7) (32 * a + i27)).toInt64; (mmul_l54 c mo d a b i27 y27_0 v2 (S.1, y27_0, S.2.2) (pN c)))
def mmul_l3 (c : Bool) (mo : Nat) (d : Nat) (a : Nat) (b : Nat) (S : StT)  : Nat → (Nat → Nat → Int64)
  | 0 => S.2.1
  | i3 + 1 => let y3_0 := (mmul_l3 c mo d a b S i3); va_up y3_0 (mo + 8) (vp_updL (y3_0 (mo + 8)) (i3) (0))
def mmul_f (c : Bool) (mo : Nat) (d : Nat) (a : Nat) (b : Nat) (S : StT) : StT := (let S1 := mfold_f c (mo) (d) (S.1, (mmul_l27 c mo d a b (S.1, (mmul_l3 c mo d a b S 64), S.2.2) (pN c)), S.2.2); S1)
theorem mmul_F (c : Bool) (mo : Nat) (d : Nat) (a : Nat) (b : Nat) (S : StT) : (mmul_f c mo d a b S).2.2 = S.2.2 := by
  unfold mmul_f; simp only [mfold_F]
set_option maxRecDepth 100000 in
set_option maxHeartbeats 4000000 in
theorem c_mmul {k : KX} {L : Nat → Option Sh} {S : StT} {n : Nat} {c : Bool} {mo : Nat} {d : Nat} {a : Nat} {b : Nat} (hM : ModelAt k L mo) (hd : d < 64) (ha : a < 64) (hb : b < 64) (hcn : S.2.2 mo 13 = nI (bN c)) (hpc : S.2.2 mo 14 = nI (pN c)) :
    Cs k yX12_mul cX12_mul 8 none 2 0 0 [.ref (k_b k + (mo)), .int (nI (d)), .int (nI (a)), .int (nI (b))] (inst k L S.1 S.2.1 S.2.2) n (Pv k L n (mmul_f c mo d a b S)) := by
  refine cs_of (by decide) (Nat.le_of_ble_eq_true rfl) ?_
  intro X hXk C Rt hnm
  subst hXk
  have hM9 := hM
  obtain ⟨hM0, hm1, hm2, hm3, hm4, hm5, hm6, hm7, hm8, hm9, hm10, hm11, hm12, hm13, hm14, hm15, hm16, hm17, hm18, hm19, hm20, hm21, hm22, hm23, hm24, hm25, hm26, hm27⟩ := hM9
  obtain ⟨hp1, hp2⟩ := pN_le c
  have hbn := bN_le c
  refine rn_lv [(0, .ref (k_b X.1 + (mo))), (1, .int (nI (d))), (2, .int (nI (a))), (3, .int (nI (b)))] (fun q h => h) ?_
  refine rn_iconst (v := nI 0) C dX12_mul_0 rfl ?_
  refine rn_istore (lv' := [(0, _), (1, _), (2, _), (3, _), (4, _)]) C dX12_mul_1 (by decide) rfl ?_
  have lp3 : ∀ i3, i3 ≤ 64 → Rn X 3 [(0, .ref (k_b X.1 + (mo))), (1, .int (nI (d))), (2, .int (nI (a))), (3, .int (nI (b))), (4, .int (nI (i3)))] [] (inst X.1 L S.1 (mmul_l3 c mo d a b S i3) S.2.2) n 0 0 := by
    refine upto _ _ ?_ (fun i3 hi3 ih3 => ?_)
    · skip
      refine rn_iload C dX12_mul_3 rfl ?_
      refine rn_bipush (v := nI 64) C dX12_mul_5 rfl ?_
      refine rs_ge (tgt := 24) C dX12_mul_7 (by decide) rfl rfl (by omega) (by omega) (fun _ => ?_) (fun q => absurd q (by omega))
      refine rn_iconst (v := nI 0) C dX12_mul_24 rfl ?_
      refine rn_istore (lv' := [(0, _), (1, _), (2, _), (3, _), (4, _)]) C dX12_mul_25 (by decide) rfl ?_
      have lp27 : ∀ i27, i27 ≤ pN c → Rn X 27 [(0, .ref (k_b X.1 + (mo))), (1, .int (nI (d))), (2, .int (nI (a))), (3, .int (nI (b))), (4, .int (nI (i27)))] [] (inst X.1 L S.1 (mmul_l27 c mo d a b (S.1, (mmul_l3 c mo d a b S 64), S.2.2) i27) S.2.2) n 0 0 := by
        refine upto _ _ ?_ (fun i27 hi27 ih27 => ?_)
        · skip
          refine rn_iload C dX12_mul_27 rfl ?_
          refine rn_aload_n C dX12_mul_29 rfl ?_
          refine rs_getFe C dX12_mul_30 fl_X12_54 hM0 rfl hpc ?_
          refine rs_ge (tgt := 104) C dX12_mul_33 (by decide) rfl rfl (by omega) (by omega) (fun _ => ?_) (fun q => absurd q (by omega))
          refine rn_aload_n C dX12_mul_104 rfl ?_
          refine rn_iload_n C dX12_mul_105 rfl ?_
          refine rs_vv C dX12_mul_106 mk_X12_fold lv_X12_189 (c_mfold (S := (S.1, (mmul_l27 c mo d a b (S.1, (mmul_l3 c mo d a b S 64), S.2.2) (pN c)), S.2.2)) hM (by omega) hcn hpc) hM0 rfl rfl rfl rfl (by decide) (Nat.le_of_ble_eq_true rfl) (by decide) (by decide) ?_
          exact rn_vret C Rt dX12_mul_109 (pv_of (tup _)) (Nat.zero_le _) (Nat.zero_le _)
        · skip
          refine rn_iload C dX12_mul_27 rfl ?_
          refine rn_aload_n C dX12_mul_29 rfl ?_
          refine rs_getFe C dX12_mul_30 fl_X12_54 hM0 rfl (by first | (simp only [zero28_F, mzero_F, msmall_F, mcopy_F, takeOff_F, mfold_F]; with_reducible exact hpc) | with_reducible exact hpc | exact hpc) ?_
          refine rs_ge (tgt := 104) C dX12_mul_33 (by decide) rfl rfl (by omega) (by omega) (fun q => absurd q (by omega)) (fun _ => ?_)
          refine rn_aload_n C dX12_mul_36 rfl ?_
          refine rs_get C dX12_mul_37 fl_X12_41 hM0 rfl ?_
          refine rn_bipush (v := nI 32) C dX12_mul_40 rfl ?_
          refine rn_iload_n C dX12_mul_42 rfl ?_
          refine rn_imul C dX12_mul_43 (pk_mul _ _) ?_
          refine rn_iload C dX12_mul_44 rfl ?_
          refine rn_iadd C dX12_mul_46 (nI_add _ _) ?_
          refine rs_iaload C dX12_mul_47 hm7 rfl (by omega) (by decide) ?_
          refine rn_i2l C dX12_mul_48 rfl ?_
          refine rn_lstore (lv' := [(0, _), (1, _), (2, _), (3, _), (4, _), (5, _)]) C dX12_mul_49 (by decide) rfl ?_
          refine rn_iconst (v := nI 0) C dX12_mul_51 rfl ?_
          refine rn_istore (lv' := [(0, _), (1, _), (2, _), (3, _), (4, _), (5, _), (7, _)]) C dX12_mul_52 (by decide) rfl ?_
          have lp54 : ∀ i54, i54 ≤ pN c → Rn X 54 [(0, .ref (k_b X.1 + (mo))), (1, .int (nI (d))), (2, .int (nI (a))), (3, .int (nI (b))), (4, .int (nI (i27))), (5, .long ((((S.1, (mmul_l3 c mo d a b S 64), S.2.2).1 (mo + 7) (32 * a + i27)).toInt64))), (7, .int (nI (i54)))] [] (inst X.1 L (S.1, (mmul_l3 c mo d a b S 64), S.2.2).1 (mmul_l54 c mo d a b i27 (mmul_l27 c mo d a b (S.1, (mmul_l3 c mo d a b S 64), S.2.2) i27) (((S.1, (mmul_l3 c mo d a b S 64), S.2.2).1 (mo + 7) (32 * a + i27)).toInt64) ((S.1, (mmul_l3 c mo d a b S 64), S.2.2).1, (mmul_l27 c mo d a b (S.1, (mmul_l3 c mo d a b S 64), S.2.2) i27), (S.1, (mmul_l3 c mo d a b S 64), S.2.2).2.2) i54) (S.1, (mmul_l3 c mo d a b S 64), S.2.2).2.2) n 0 0 := by
            refine upto _ _ ?_ (fun i54 hi54 ih54 => ?_)
            · skip
              refine rn_iload C dX12_mul_54 rfl ?_
              refine rn_aload_n C dX12_mul_56 rfl ?_
              refine rs_getFe C dX12_mul_57 fl_X12_54 hM0 rfl (by first | (simp only [zero28_F, mzero_F, msmall_F, mcopy_F, takeOff_F, mfold_F]; with_reducible exact hpc) | with_reducible exact hpc | exact hpc) ?_
              refine rs_ge (tgt := 98) C dX12_mul_60 (by decide) rfl rfl (by omega) (by omega) (fun _ => ?_) (fun q => absurd q (by omega))
              refine rn_iinc (lv' := [(0, _), (1, _), (2, _), (3, _), (4, _), (5, _), (7, _)]) C dX12_mul_98 rfl (nI_inc _) (by decide) rfl ?_
              refine rn_goto (tgt := 27) C dX12_mul_101 (by decide) ?_
              exact rn_ks [0, 1, 2, 3, 4] ih27 rfl
            · skip
              refine rn_iload C dX12_mul_54 rfl ?_
              refine rn_aload_n C dX12_mul_56 rfl ?_
              refine rs_getFe C dX12_mul_57 fl_X12_54 hM0 rfl (by first | (simp only [zero28_F, mzero_F, msmall_F, mcopy_F, takeOff_F, mfold_F]; with_reducible exact hpc) | with_reducible exact hpc | exact hpc) ?_
              refine rs_ge (tgt := 98) C dX12_mul_60 (by decide) rfl rfl (by omega) (by omega) (fun q => absurd q (by omega)) (fun _ => ?_)
              refine rn_aload_n C dX12_mul_63 rfl ?_
              refine rs_get C dX12_mul_64 fl_X12_44 hM0 rfl ?_
              refine rn_iload C dX12_mul_67 rfl ?_
              refine rn_iload C dX12_mul_69 rfl ?_
              refine rn_iadd C dX12_mul_71 (nI_add _ _) ?_
              refine rn_dup2 C dX12_mul_72 rfl rfl ?_
              refine rs_laload C dX12_mul_73 hm8 rfl (by omega) (by decide) ?_
              refine rn_lload C dX12_mul_74 rfl ?_
              refine rn_aload_n C dX12_mul_76 rfl ?_
              refine rs_get C dX12_mul_77 fl_X12_41 hM0 rfl ?_
              refine rn_bipush (v := nI 32) C dX12_mul_80 rfl ?_
              refine rn_iload_n C dX12_mul_82 rfl ?_
              refine rn_imul C dX12_mul_83 (pk_mul _ _) ?_
              refine rn_iload C dX12_mul_84 rfl ?_
              refine rn_iadd C dX12_mul_86 (nI_add _ _) ?_
              refine rs_iaload C dX12_mul_87 hm7 rfl (by omega) (by decide) ?_
              refine rn_i2l C dX12_mul_88 rfl ?_
              refine rn_lmul C dX12_mul_89 rfl ?_
              refine rn_ladd C dX12_mul_90 rfl ?_
              refine rs_lastore C dX12_mul_91 hm8 rfl (by omega) (by decide) ?_
              refine rn_iinc (lv' := [(0, _), (1, _), (2, _), (3, _), (4, _), (5, _), (7, _)]) C dX12_mul_92 rfl (nI_inc _) (by decide) rfl ?_
              refine rn_goto (tgt := 54) C dX12_mul_95 (by decide) ?_
              exact rn_ks [0, 1, 2, 3, 4, 5, 7] ih54 rfl
          exact lp54 0 (Nat.zero_le _)
      exact lp27 0 (Nat.zero_le _)
    · skip
      refine rn_iload C dX12_mul_3 rfl ?_
      refine rn_bipush (v := nI 64) C dX12_mul_5 rfl ?_
      refine rs_ge (tgt := 24) C dX12_mul_7 (by decide) rfl rfl (by omega) (by omega) (fun q => absurd q (by omega)) (fun _ => ?_)
      refine rn_aload_n C dX12_mul_10 rfl ?_
      refine rs_get C dX12_mul_11 fl_X12_44 hM0 rfl ?_
      refine rn_iload C dX12_mul_14 rfl ?_
      refine rn_lconst (v := 0) C dX12_mul_16 rfl ?_
      refine rs_lastore C dX12_mul_17 hm8 rfl (by omega) (by decide) ?_
      refine rn_iinc (lv' := [(0, _), (1, _), (2, _), (3, _), (4, _)]) C dX12_mul_18 rfl (nI_inc _) (by decide) rfl ?_
      refine rn_goto (tgt := 3) C dX12_mul_21 (by decide) ?_
      exact rn_ks [0, 1, 2, 3, 4] ih3 rfl
  exact lp3 0 (Nat.zero_le _)
def mplus_l3 (c : Bool) (mo : Nat) (d : Nat) (a : Nat) (b : Nat) (S : StT)  : Nat → (Nat → Nat → Int64)
  | 0 => S.2.1
  | i3 + 1 => let y3_0 := (mplus_l3 c mo d a b S i3); (let J2 := va_up y3_0 (mo + 8) (vp_updL (y3_0 (mo + 8)) (i3) ((if (nI (pN c)) ≤ (nI (i3)) then 0 else ((S.1 (mo + 7) (32 * a + i3)) + (S.1 (mo + 7) (32 * b + i3))).toInt64))); J2)
def mplus_f (c : Bool) (mo : Nat) (d : Nat) (a : Nat) (b : Nat) (S : StT) : StT := mfold_f c (mo) (d) (S.1, (mplus_l3 c mo d a b S 64), S.2.2)
theorem mplus_F (c : Bool) (mo : Nat) (d : Nat) (a : Nat) (b : Nat) (S : StT) : (mplus_f c mo d a b S).2.2 = S.2.2 := by
  unfold mplus_f; simp only [mfold_F]
set_option maxRecDepth 100000 in
set_option maxHeartbeats 4000000 in
theorem c_mplus {k : KX} {L : Nat → Option Sh} {S : StT} {n : Nat} {c : Bool} {mo : Nat} {d : Nat} {a : Nat} {b : Nat} (hM : ModelAt k L mo) (hd : d < 64) (ha : a < 64) (hb : b < 64) (hcn : S.2.2 mo 13 = nI (bN c)) (hpc : S.2.2 mo 14 = nI (pN c)) :
    Cs k yX12_plus cX12_plus 5 none 2 0 0 [.ref (k_b k + (mo)), .int (nI (d)), .int (nI (a)), .int (nI (b))] (inst k L S.1 S.2.1 S.2.2) n (Pv k L n (mplus_f c mo d a b S)) := by
  refine cs_of (by decide) (Nat.le_of_ble_eq_true rfl) ?_
  intro X hXk C Rt hnm
  subst hXk
  have hM9 := hM
  obtain ⟨hM0, hm1, hm2, hm3, hm4, hm5, hm6, hm7, hm8, hm9, hm10, hm11, hm12, hm13, hm14, hm15, hm16, hm17, hm18, hm19, hm20, hm21, hm22, hm23, hm24, hm25, hm26, hm27⟩ := hM9
  obtain ⟨hp1, hp2⟩ := pN_le c
  have hbn := bN_le c
  refine rn_lv [(0, .ref (k_b X.1 + (mo))), (1, .int (nI (d))), (2, .int (nI (a))), (3, .int (nI (b)))] (fun q h => h) ?_
  refine rn_iconst (v := nI 0) C dX12_plus_0 rfl ?_
  refine rn_istore (lv' := [(0, _), (1, _), (2, _), (3, _), (4, _)]) C dX12_plus_1 (by decide) rfl ?_
  have lp3 : ∀ i3, i3 ≤ 64 → Rn X 3 [(0, .ref (k_b X.1 + (mo))), (1, .int (nI (d))), (2, .int (nI (a))), (3, .int (nI (b))), (4, .int (nI (i3)))] [] (inst X.1 L S.1 (mplus_l3 c mo d a b S i3) S.2.2) n 0 0 := by
    refine upto _ _ ?_ (fun i3 hi3 ih3 => ?_)
    · skip
      refine rn_iload C dX12_plus_3 rfl ?_
      refine rn_bipush (v := nI 64) C dX12_plus_5 rfl ?_
      refine rs_ge (tgt := 62) C dX12_plus_7 (by decide) rfl rfl (by omega) (by omega) (fun _ => ?_) (fun q => absurd q (by omega))
      refine rn_aload_n C dX12_plus_62 rfl ?_
      refine rn_iload_n C dX12_plus_63 rfl ?_
      refine rs_vv C dX12_plus_64 mk_X12_fold lv_X12_189 (c_mfold (S := (S.1, (mplus_l3 c mo d a b S 64), S.2.2)) hM (by omega) hcn hpc) hM0 rfl rfl rfl rfl (by decide) (Nat.le_of_ble_eq_true rfl) (by decide) (by decide) ?_
      exact rn_vret C Rt dX12_plus_67 (pv_of (tup _)) (Nat.zero_le _) (Nat.zero_le _)
    · skip
      refine rn_iload C dX12_plus_3 rfl ?_
      refine rn_bipush (v := nI 64) C dX12_plus_5 rfl ?_
      refine rs_ge (tgt := 62) C dX12_plus_7 (by decide) rfl rfl (by omega) (by omega) (fun q => absurd q (by omega)) (fun _ => ?_)
      refine rn_aload_n C dX12_plus_10 rfl ?_
      refine rs_get C dX12_plus_11 fl_X12_44 hM0 rfl ?_
      refine rn_iload C dX12_plus_14 rfl ?_
      refine rn_iload C dX12_plus_16 rfl ?_
      refine rn_aload_n C dX12_plus_18 rfl ?_
      refine rs_getFe C dX12_plus_19 fl_X12_54 hM0 rfl hpc ?_
      have K22_1 : Rn X 55 [(0, .ref (k_b X.1 + (mo))), (1, .int (nI (d))), (2, .int (nI (a))), (3, .int (nI (b))), (4, .int (nI (i3)))] [.long ((if (nI (pN c)) ≤ (nI (i3)) then 0 else ((S.1 (mo + 7) (32 * a + i3)) + (S.1 (mo + 7) (32 * b + i3))).toInt64)), .int (nI (i3)), .ref (k_b X.1 + (mo + 8))] (inst X.1 L S.1 (mplus_l3 c mo d a b S i3) S.2.2) n 0 0 := by
        refine rs_lastore C dX12_plus_55 hm8 rfl (by omega) (by decide) ?_
        refine rn_iinc (lv' := [(0, _), (1, _), (2, _), (3, _), (4, _)]) C dX12_plus_56 rfl (nI_inc _) (by decide) rfl ?_
        refine rn_goto (tgt := 3) C dX12_plus_59 (by decide) ?_
        exact rn_ks [0, 1, 2, 3, 4] ih3 rfl
      refine rn_icmp_ge (tgt := 54) C dX12_plus_22 (by decide) (fun hb1 => ?_) (fun hb1 => ?_)
      · skip
        refine rn_lconst (v := 0) C dX12_plus_54 rfl ?_
        rw [if_pos hb1] at K22_1
        exact K22_1
      · skip
        have hlt : i3 < pN c := Nat.not_le.mp (fun q => hb1 (nI_le q (by omega)))
        refine rn_aload_n C dX12_plus_25 rfl ?_
        refine rs_get C dX12_plus_26 fl_X12_41 hM0 rfl ?_
        refine rn_bipush (v := nI 32) C dX12_plus_29 rfl ?_
        refine rn_iload_n C dX12_plus_31 rfl ?_
        refine rn_imul C dX12_plus_32 (pk_mul _ _) ?_
        refine rn_iload C dX12_plus_33 rfl ?_
        refine rn_iadd C dX12_plus_35 (nI_add _ _) ?_
        refine rs_iaload C dX12_plus_36 hm7 rfl (by omega) (by decide) ?_
        refine rn_aload_n C dX12_plus_37 rfl ?_
        refine rs_get C dX12_plus_38 fl_X12_41 hM0 rfl ?_
        refine rn_bipush (v := nI 32) C dX12_plus_41 rfl ?_
        refine rn_iload_n C dX12_plus_43 rfl ?_
        refine rn_imul C dX12_plus_44 (pk_mul _ _) ?_
        refine rn_iload C dX12_plus_45 rfl ?_
        refine rn_iadd C dX12_plus_47 (nI_add _ _) ?_
        refine rs_iaload C dX12_plus_48 hm7 rfl (by omega) (by decide) ?_
        refine rn_iadd C dX12_plus_49 rfl ?_
        refine rn_i2l C dX12_plus_50 rfl ?_
        refine rn_goto (tgt := 55) C dX12_plus_51 (by decide) ?_
        rw [if_neg hb1] at K22_1
        exact K22_1
  exact lp3 0 (Nat.zero_le _)
def mminus_l12 (c : Bool) (mo : Nat) (d : Nat) (a : Nat) (b : Nat) (S : StT)  : Nat → (Nat → Nat → Int64)
  | 0 => S.2.1
  | i12 + 1 => let y12_0 := (mminus_l12 c mo d a b S i12); (let J2 := va_up y12_0 (mo + 8) (vp_updL (y12_0 (mo + 8)) (i12) ((if (nI (pN c)) ≤ (nI (i12)) then 0 else (((S.1 (mo + 7) (32 * a + i12)).toInt64) + (2 * ((S.1 (mo + 7) (32 * (9 + (bN c)) + i12)).toInt64))) - ((S.1 (mo + 7) (32 * b + i12)).toInt64)))); J2)
def mminus_f (c : Bool) (mo : Nat) (d : Nat) (a : Nat) (b : Nat) (S : StT) : StT := mfold_f c (mo) (d) (S.1, (mminus_l12 c mo d a b S 64), S.2.2)
theorem mminus_F (c : Bool) (mo : Nat) (d : Nat) (a : Nat) (b : Nat) (S : StT) : (mminus_f c mo d a b S).2.2 = S.2.2 := by
  unfold mminus_f; simp only [mfold_F]
set_option maxRecDepth 100000 in
set_option maxHeartbeats 4000000 in
theorem c_mminus {k : KX} {L : Nat → Option Sh} {S : StT} {n : Nat} {c : Bool} {mo : Nat} {d : Nat} {a : Nat} {b : Nat} (hM : ModelAt k L mo) (hd : d < 64) (ha : a < 64) (hb : b < 64) (hcn : S.2.2 mo 13 = nI (bN c)) (hpc : S.2.2 mo 14 = nI (pN c)) :
    Cs k yX12_minus cX12_minus 6 none 2 0 0 [.ref (k_b k + (mo)), .int (nI (d)), .int (nI (a)), .int (nI (b))] (inst k L S.1 S.2.1 S.2.2) n (Pv k L n (mminus_f c mo d a b S)) := by
  refine cs_of (by decide) (Nat.le_of_ble_eq_true rfl) ?_
  intro X hXk C Rt hnm
  subst hXk
  have hM9 := hM
  obtain ⟨hM0, hm1, hm2, hm3, hm4, hm5, hm6, hm7, hm8, hm9, hm10, hm11, hm12, hm13, hm14, hm15, hm16, hm17, hm18, hm19, hm20, hm21, hm22, hm23, hm24, hm25, hm26, hm27⟩ := hM9
  obtain ⟨hp1, hp2⟩ := pN_le c
  have hbn := bN_le c
  refine rn_lv [(0, .ref (k_b X.1 + (mo))), (1, .int (nI (d))), (2, .int (nI (a))), (3, .int (nI (b)))] (fun q h => h) ?_
  refine rn_bipush (v := nI 9) C dX12_minus_0 rfl ?_
  refine rn_aload_n C dX12_minus_2 rfl ?_
  refine rs_getFe C dX12_minus_3 fl_X12_51 hM0 rfl hcn ?_
  refine rn_iadd C dX12_minus_6 (nI_add _ _) ?_
  refine rn_istore (lv' := [(0, _), (1, _), (2, _), (3, _), (4, _)]) C dX12_minus_7 (by decide) rfl ?_
  refine rn_iconst (v := nI 0) C dX12_minus_9 rfl ?_
  refine rn_istore (lv' := [(0, _), (1, _), (2, _), (3, _), (4, _), (5, _)]) C dX12_minus_10 (by decide) rfl ?_
  have lp12 : ∀ i12, i12 ≤ 64 → Rn X 12 [(0, .ref (k_b X.1 + (mo))), (1, .int (nI (d))), (2, .int (nI (a))), (3, .int (nI (b))), (4, .int (nI (9 + (bN c)))), (5, .int (nI (i12)))] [] (inst X.1 L S.1 (mminus_l12 c mo d a b S i12) S.2.2) n 0 0 := by
    refine upto _ _ ?_ (fun i12 hi12 ih12 => ?_)
    · skip
      refine rn_iload C dX12_minus_12 rfl ?_
      refine rn_bipush (v := nI 64) C dX12_minus_14 rfl ?_
      refine rs_ge (tgt := 91) C dX12_minus_16 (by decide) rfl rfl (by omega) (by omega) (fun _ => ?_) (fun q => absurd q (by omega))
      refine rn_aload_n C dX12_minus_91 rfl ?_
      refine rn_iload_n C dX12_minus_92 rfl ?_
      refine rs_vv C dX12_minus_93 mk_X12_fold lv_X12_189 (c_mfold (S := (S.1, (mminus_l12 c mo d a b S 64), S.2.2)) hM (by omega) hcn hpc) hM0 rfl rfl rfl rfl (by decide) (Nat.le_of_ble_eq_true rfl) (by decide) (by decide) ?_
      exact rn_vret C Rt dX12_minus_96 (pv_of (tup _)) (Nat.zero_le _) (Nat.zero_le _)
    · skip
      refine rn_iload C dX12_minus_12 rfl ?_
      refine rn_bipush (v := nI 64) C dX12_minus_14 rfl ?_
      refine rs_ge (tgt := 91) C dX12_minus_16 (by decide) rfl rfl (by omega) (by omega) (fun q => absurd q (by omega)) (fun _ => ?_)
      refine rn_aload_n C dX12_minus_19 rfl ?_
      refine rs_get C dX12_minus_20 fl_X12_44 hM0 rfl ?_
      refine rn_iload C dX12_minus_23 rfl ?_
      refine rn_iload C dX12_minus_25 rfl ?_
      refine rn_aload_n C dX12_minus_27 rfl ?_
      refine rs_getFe C dX12_minus_28 fl_X12_54 hM0 rfl hpc ?_
      have K31_1 : Rn X 84 [(0, .ref (k_b X.1 + (mo))), (1, .int (nI (d))), (2, .int (nI (a))), (3, .int (nI (b))), (4, .int (nI (9 + (bN c)))), (5, .int (nI (i12)))] [.long ((if (nI (pN c)) ≤ (nI (i12)) then 0 else (((S.1 (mo + 7) (32 * a + i12)).toInt64) + (2 * ((S.1 (mo + 7) (32 * (9 + (bN c)) + i12)).toInt64))) - ((S.1 (mo + 7) (32 * b + i12)).toInt64))), .int (nI (i12)), .ref (k_b X.1 + (mo + 8))] (inst X.1 L S.1 (mminus_l12 c mo d a b S i12) S.2.2) n 0 0 := by
        refine rs_lastore C dX12_minus_84 hm8 rfl (by omega) (by decide) ?_
        refine rn_iinc (lv' := [(0, _), (1, _), (2, _), (3, _), (4, _), (5, _)]) C dX12_minus_85 rfl (nI_inc _) (by decide) rfl ?_
        refine rn_goto (tgt := 12) C dX12_minus_88 (by decide) ?_
        exact rn_ks [0, 1, 2, 3, 4, 5] ih12 rfl
      refine rn_icmp_ge (tgt := 83) C dX12_minus_31 (by decide) (fun hb1 => ?_) (fun hb1 => ?_)
      · skip
        refine rn_lconst (v := 0) C dX12_minus_83 rfl ?_
        rw [if_pos hb1] at K31_1
        exact K31_1
      · skip
        have hlt : i12 < pN c := Nat.not_le.mp (fun q => hb1 (nI_le q (by omega)))
        refine rn_aload_n C dX12_minus_34 rfl ?_
        refine rs_get C dX12_minus_35 fl_X12_41 hM0 rfl ?_
        refine rn_bipush (v := nI 32) C dX12_minus_38 rfl ?_
        refine rn_iload_n C dX12_minus_40 rfl ?_
        refine rn_imul C dX12_minus_41 (pk_mul _ _) ?_
        refine rn_iload C dX12_minus_42 rfl ?_
        refine rn_iadd C dX12_minus_44 (nI_add _ _) ?_
        refine rs_iaload C dX12_minus_45 hm7 rfl (by omega) (by decide) ?_
        refine rn_i2l C dX12_minus_46 rfl ?_
        refine rn_ldc2 C dX12_minus_47 lc_X12_192 ?_
        refine rn_aload_n C dX12_minus_50 rfl ?_
        refine rs_get C dX12_minus_51 fl_X12_41 hM0 rfl ?_
        refine rn_bipush (v := nI 32) C dX12_minus_54 rfl ?_
        refine rn_iload C dX12_minus_56 rfl ?_
        refine rn_imul C dX12_minus_58 (pk_mul _ _) ?_
        refine rn_iload C dX12_minus_59 rfl ?_
        refine rn_iadd C dX12_minus_61 (nI_add _ _) ?_
        refine rs_iaload C dX12_minus_62 hm7 rfl (by omega) (by decide) ?_
        refine rn_i2l C dX12_minus_63 rfl ?_
        refine rn_lmul C dX12_minus_64 rfl ?_
        refine rn_ladd C dX12_minus_65 rfl ?_
        refine rn_aload_n C dX12_minus_66 rfl ?_
        refine rs_get C dX12_minus_67 fl_X12_41 hM0 rfl ?_
        refine rn_bipush (v := nI 32) C dX12_minus_70 rfl ?_
        refine rn_iload_n C dX12_minus_72 rfl ?_
        refine rn_imul C dX12_minus_73 (pk_mul _ _) ?_
        refine rn_iload C dX12_minus_74 rfl ?_
        refine rn_iadd C dX12_minus_76 (nI_add _ _) ?_
        refine rs_iaload C dX12_minus_77 hm7 rfl (by omega) (by decide) ?_
        refine rn_i2l C dX12_minus_78 rfl ?_
        refine rn_lsub C dX12_minus_79 rfl ?_
        refine rn_goto (tgt := 84) C dX12_minus_80 (by decide) ?_
        rw [if_neg hb1] at K31_1
        exact K31_1
  exact lp12 0 (Nat.zero_le _)
def mpow_l90 (c : Bool) (mo : Nat) (d : Nat) (a : Nat) (more : Int32) (sh : Nat) (S1 : StT) (v2 : Int32) (S : StT)  : Nat → StT
  | 0 => S
  | i90 + 1 => let y90_0 := (mpow_l90 c mo d a more sh S1 v2 S i90); (if ((((mmul_f c (mo) (24) (24) (24) y90_0).1 (mo + 9) (((16 * pN c) - 1 - i90) / 2 ^ 4)) >>> ((nI (((16 * pN c) - 1 - i90) % 2 ^ 4)) &&& 31)) &&& (nI (1))) ≠ (nI (1)) then mmul_f c (mo) (24) (24) (24) y90_0 else mmul_f c (mo) (24) (24) (23) (mmul_f c (mo) (24) (24) (24) y90_0))
theorem mpow_l90_F (c : Bool) (mo : Nat) (d : Nat) (a : Nat) (more : Int32) (sh : Nat) (S1 : StT) (v2 : Int32) (S : StT)  : ∀ i, (mpow_l90 c mo d a more sh S1 v2 S i).2.2 = S.2.2 := by
  intro i
  induction i with
  | zero => rfl
  | succ i ih =>
    unfold mpow_l90
    dsimp only
    (repeat' split) <;> simp only [zero28_F, mzero_F, msmall_F, mcopy_F, takeOff_F, mfold_F, mmul_F, mplus_F, mminus_F, ih]
def mpow_l15 (c : Bool) (mo : Nat) (d : Nat) (a : Nat) (more : Int32) (sh : Nat) (S : StT) (z6 : Int32) : Nat → Int32 × (Nat → Nat → Int32)
  | 0 => (z6, S.1)
  | i15 + 1 => let y15_0 := (mpow_l15 c mo d a more sh S z6 i15).1; let y15_1 := (mpow_l15 c mo d a more sh S z6 i15).2; (let I4 := va_up y15_1 (mo + 9) (upd (y15_1 (mo + 9)) (i15) (((y15_1 (mo + 7) (32 * (9 + (bN c)) + i15)) + (y15_0)) &&& (65535))); (((y15_1 (mo + 7) (32 * (9 + (bN c)) + i15)) + (y15_0)) >>> ((nI (16)) &&& 31), I4))
def mpow_f (c : Bool) (mo : Nat) (d : Nat) (a : Nat) (more : Int32) (sh : Nat) (S : StT) : StT := (let S1 := msmall_f (mo) (24) (nI (1)) (mcopy_f (mo) (23) (a) ((mpow_l15 c mo d a more sh S more 32).2, S.2.1, S.2.2)); (let v2 := (mpow_l15 c mo d a more sh S more 32).1; mcopy_f (mo) (d) (24) (mpow_l90 c mo d a more sh S1 v2 S1 (16 * pN c - sh))))
theorem mpow_F (c : Bool) (mo : Nat) (d : Nat) (a : Nat) (more : Int32) (sh : Nat) (S : StT) : (mpow_f c mo d a more sh S).2.2 = S.2.2 := by
  unfold mpow_f; simp only [mcopy_F, mpow_l90_F, msmall_F]
set_option maxRecDepth 100000 in
set_option maxHeartbeats 4000000 in
theorem c_mpow {k : KX} {L : Nat → Option Sh} {S : StT} {n : Nat} {c : Bool} {mo : Nat} {d : Nat} {a : Nat} {more : Int32} {sh : Nat} (hM : ModelAt k L mo) (hd : d < 64) (ha : a < 64) (hsh : sh < 16) (hcn : S.2.2 mo 13 = nI (bN c)) (hpc : S.2.2 mo 14 = nI (pN c)) :
    Cs k yX12_power cX12_power 9 none 3 0 0 [.ref (k_b k + (mo)), .int (nI (d)), .int (nI (a)), .int (more), .int (nI (sh))] (inst k L S.1 S.2.1 S.2.2) n (Pv k L n (mpow_f c mo d a more sh S)) := by
  refine cs_of (by decide) (Nat.le_of_ble_eq_true rfl) ?_
  intro X hXk C Rt hnm
  subst hXk
  have hM9 := hM
  obtain ⟨hM0, hm1, hm2, hm3, hm4, hm5, hm6, hm7, hm8, hm9, hm10, hm11, hm12, hm13, hm14, hm15, hm16, hm17, hm18, hm19, hm20, hm21, hm22, hm23, hm24, hm25, hm26, hm27⟩ := hM9
  obtain ⟨hp1, hp2⟩ := pN_le c
  have hbn := bN_le c
  refine rn_lv [(0, .ref (k_b X.1 + (mo))), (1, .int (nI (d))), (2, .int (nI (a))), (3, .int (more)), (4, .int (nI (sh)))] (fun q h => h) ?_
  refine rn_bipush (v := nI 9) C dX12_power_0 rfl ?_
  refine rn_aload_n C dX12_power_2 rfl ?_
  refine rs_getFe C dX12_power_3 fl_X12_51 hM0 rfl hcn ?_
  refine rn_iadd C dX12_power_6 (nI_add _ _) ?_
  refine rn_istore (lv' := [(0, _), (1, _), (2, _), (3, _), (4, _), (5, _)]) C dX12_power_7 (by decide) rfl ?_
  refine rn_iload_n C dX12_power_9 rfl ?_
  refine rn_istore (lv' := [(0, _), (1, _), (2, _), (3, _), (4, _), (5, _), (6, _)]) C dX12_power_10 (by decide) rfl ?_
  refine rn_iconst (v := nI 0) C dX12_power_12 rfl ?_
  refine rn_istore (lv' := [(0, _), (1, _), (2, _), (3, _), (4, _), (5, _), (6, _), (7, _)]) C dX12_power_13 (by decide) rfl ?_
  have lp15 : ∀ i15, i15 ≤ 32 → Rn X 15 [(0, .ref (k_b X.1 + (mo))), (1, .int (nI (d))), (2, .int (nI (a))), (3, .int (more)), (4, .int (nI (sh))), (5, .int (nI (9 + (bN c)))), (6, .int ((mpow_l15 c mo d a more sh S more i15).1)), (7, .int (nI (i15)))] [] (inst X.1 L (mpow_l15 c mo d a more sh S more i15).2 S.2.1 S.2.2) n 0 0 := by
    refine upto _ _ ?_ (fun i15 hi15 ih15 => ?_)
    · skip
      refine rn_iload C dX12_power_15 rfl ?_
      refine rn_bipush (v := nI 32) C dX12_power_17 rfl ?_
      refine rs_ge (tgt := 65) C dX12_power_19 (by decide) rfl rfl (by omega) (by omega) (fun _ => ?_) (fun q => absurd q (by omega))
      refine rn_aload_n C dX12_power_65 rfl ?_
      refine rn_bipush (v := nI 23) C dX12_power_66 rfl ?_
      refine rn_iload_n C dX12_power_68 rfl ?_
      refine rs_vv C dX12_power_69 mk_X12_copy lv_X12_194 (c_mcopy (S := ((mpow_l15 c mo d a more sh S more 32).2, S.2.1, S.2.2)) hM (by omega) (by omega)) hM0 rfl rfl rfl rfl (by decide) (Nat.le_of_ble_eq_true rfl) (by decide) (by decide) ?_
      refine rn_aload_n C dX12_power_72 rfl ?_
      refine rn_bipush (v := nI 24) C dX12_power_73 rfl ?_
      refine rn_iconst (v := nI 1) C dX12_power_75 rfl ?_
      refine rs_vv C dX12_power_76 mk_X12_small lv_X12_136 (c_msmall hM (by omega)) hM0 rfl rfl rfl rfl (by decide) (Nat.le_of_ble_eq_true rfl) (by decide) (by decide) ?_
      refine rn_bipush (v := nI 16) C dX12_power_79 rfl ?_
      refine rn_aload_n C dX12_power_81 rfl ?_
      refine rs_getFe C dX12_power_82 fl_X12_54 hM0 rfl (by first | (simp only [zero28_F, mzero_F, msmall_F, mcopy_F, takeOff_F, mfold_F, mmul_F, mplus_F, mminus_F]; with_reducible exact hpc) | with_reducible exact hpc | exact hpc) ?_
      refine rn_imul C dX12_power_85 (pk_mul _ _) ?_
      refine rn_iconst (v := nI 1) C dX12_power_86 rfl ?_
      refine rn_isub C dX12_power_87 (pk_sub (by omega)) ?_
      refine rn_istore (lv' := [(0, _), (1, _), (2, _), (3, _), (4, _), (5, _), (6, _), (7, _)]) C dX12_power_88 (by decide) rfl ?_
      have lp90 : ∀ i90, i90 ≤ 16 * pN c - sh → Rn X 90 [(0, .ref (k_b X.1 + (mo))), (1, .int (nI (d))), (2, .int (nI (a))), (3, .int (more)), (4, .int (nI (sh))), (5, .int (nI (9 + (bN c)))), (6, .int ((mpow_l15 c mo d a more sh S more 32).1)), (7, .int (dn ((16 * pN c) - i90)))] [] (inst X.1 L (mpow_l90 c mo d a more sh (msmall_f (mo) (24) (nI (1)) (mcopy_f (mo) (23) (a) ((mpow_l15 c mo d a more sh S more 32).2, S.2.1, S.2.2))) (mpow_l15 c mo d a more sh S more 32).1 (msmall_f (mo) (24) (nI (1)) (mcopy_f (mo) (23) (a) ((mpow_l15 c mo d a more sh S more 32).2, S.2.1, S.2.2))) i90).1 (mpow_l90 c mo d a more sh (msmall_f (mo) (24) (nI (1)) (mcopy_f (mo) (23) (a) ((mpow_l15 c mo d a more sh S more 32).2, S.2.1, S.2.2))) (mpow_l15 c mo d a more sh S more 32).1 (msmall_f (mo) (24) (nI (1)) (mcopy_f (mo) (23) (a) ((mpow_l15 c mo d a more sh S more 32).2, S.2.1, S.2.2))) i90).2.1 (mpow_l90 c mo d a more sh (msmall_f (mo) (24) (nI (1)) (mcopy_f (mo) (23) (a) ((mpow_l15 c mo d a more sh S more 32).2, S.2.1, S.2.2))) (mpow_l15 c mo d a more sh S more 32).1 (msmall_f (mo) (24) (nI (1)) (mcopy_f (mo) (23) (a) ((mpow_l15 c mo d a more sh S more 32).2, S.2.1, S.2.2))) i90).2.2) n 0 0 := by
        refine upto _ _ ?_ (fun i90 hi90 ih90 => ?_)
        · skip
          refine rn_iload C dX12_power_90 rfl ?_
          refine rn_iload C dX12_power_92 rfl ?_
          refine rn_icmp_lt (tgt := 144) C dX12_power_94 (by decide) (fun _ => ?_) (fun q => absurd (dn_lt (by omega) (by omega)) q)
          refine rn_aload_n C dX12_power_144 rfl ?_
          refine rn_iload_n C dX12_power_145 rfl ?_
          refine rn_bipush (v := nI 24) C dX12_power_146 rfl ?_
          refine rs_vv C dX12_power_148 mk_X12_copy lv_X12_194 (c_mcopy hM (by omega) (by omega)) hM0 rfl rfl rfl rfl (by decide) (Nat.le_of_ble_eq_true rfl) (by decide) (by decide) ?_
          exact rn_vret C Rt dX12_power_151 (pv_of (tup _)) (Nat.zero_le _) (Nat.zero_le _)
        · skip
          rw [dn_at (N := 16 * pN c) (i := i90) (by omega)]
          refine rn_iload C dX12_power_90 rfl ?_
          refine rn_iload C dX12_power_92 rfl ?_
          refine rs_lt (tgt := 144) C dX12_power_94 (by decide) rfl rfl (by omega) (by omega) (fun q => absurd q (by omega)) (fun _ => ?_)
          refine rn_aload_n C dX12_power_97 rfl ?_
          refine rn_bipush (v := nI 24) C dX12_power_98 rfl ?_
          refine rn_bipush (v := nI 24) C dX12_power_100 rfl ?_
          refine rn_bipush (v := nI 24) C dX12_power_102 rfl ?_
          refine rs_vv C dX12_power_104 mk_X12_mul lv_X12_144 (c_mmul hM (by omega) (by omega) (by omega) (by first | (simp only [zero28_F, mzero_F, msmall_F, mcopy_F, takeOff_F, mfold_F, mmul_F, mplus_F, mminus_F, mpow_l90_F]; with_reducible exact hcn) | with_reducible exact hcn | exact hcn) (by first | (simp only [zero28_F, mzero_F, msmall_F, mcopy_F, takeOff_F, mfold_F, mmul_F, mplus_F, mminus_F, mpow_l90_F]; with_reducible exact hpc) | with_reducible exact hpc | exact hpc)) hM0 rfl rfl rfl rfl (by decide) (Nat.le_of_ble_eq_true rfl) (by decide) (by decide) ?_
          refine rn_aload_n C dX12_power_107 rfl ?_
          refine rs_get C dX12_power_108 fl_X12_48 hM0 rfl ?_
          refine rn_iload C dX12_power_111 rfl ?_
          refine rn_iconst (v := nI 4) C dX12_power_113 rfl ?_
          refine rn_ishr C dX12_power_114 (pk_shrN (by omega) _ 4 (by decide)) ?_
          refine rs_iaload C dX12_power_115 hm9 rfl (by omega) (by decide) ?_
          refine rn_iload C dX12_power_116 rfl ?_
          refine rn_bipush (v := nI 15) C dX12_power_118 rfl ?_
          refine rn_iand C dX12_power_120 (pk_andN (by omega) 4 (by decide)) ?_
          refine rn_ishr C dX12_power_121 rfl ?_
          refine rn_iconst (v := nI 1) C dX12_power_122 rfl ?_
          refine rn_iand C dX12_power_123 rfl ?_
          refine rn_iconst (v := nI 1) C dX12_power_124 rfl ?_
          refine rn_icmp_ne (tgt := 138) C dX12_power_125 (by decide) (fun hb3 => ?_) (fun hb3 => ?_)
          · skip
            refine rn_iinc (lv' := [(0, _), (1, _), (2, _), (3, _), (4, _), (5, _), (6, _), (7, _)]) C dX12_power_138 rfl (dn_dec (by omega)) (by decide) rfl ?_
            refine rn_goto (tgt := 90) C dX12_power_141 (by decide) ?_
            rw [show mpow_l90 c mo d a more sh (msmall_f (mo) (24) (nI (1)) (mcopy_f (mo) (23) (a) ((mpow_l15 c mo d a more sh S more 32).2, S.2.1, S.2.2))) (mpow_l15 c mo d a more sh S more 32).1 (msmall_f (mo) (24) (nI (1)) (mcopy_f (mo) (23) (a) ((mpow_l15 c mo d a more sh S more 32).2, S.2.1, S.2.2))) (i90 + 1) = _ from (if_pos hb3)] at ih90
            exact rn_ks [0, 1, 2, 3, 4, 5, 6, 7] ih90 rfl
          · skip
            refine rn_aload_n C dX12_power_128 rfl ?_
            refine rn_bipush (v := nI 24) C dX12_power_129 rfl ?_
            refine rn_bipush (v := nI 24) C dX12_power_131 rfl ?_
            refine rn_bipush (v := nI 23) C dX12_power_133 rfl ?_
            refine rs_vv C dX12_power_135 mk_X12_mul lv_X12_144 (c_mmul hM (by omega) (by omega) (by omega) (by first | (simp only [zero28_F, mzero_F, msmall_F, mcopy_F, takeOff_F, mfold_F, mmul_F, mplus_F, mminus_F, mpow_l90_F]; with_reducible exact hcn) | with_reducible exact hcn | exact hcn) (by first | (simp only [zero28_F, mzero_F, msmall_F, mcopy_F, takeOff_F, mfold_F, mmul_F, mplus_F, mminus_F, mpow_l90_F]; with_reducible exact hpc) | with_reducible exact hpc | exact hpc)) hM0 rfl rfl rfl rfl (by decide) (Nat.le_of_ble_eq_true rfl) (by decide) (by decide) ?_
            refine rn_iinc (lv' := [(0, _), (1, _), (2, _), (3, _), (4, _), (5, _), (6, _), (7, _)]) C dX12_power_138 rfl (dn_dec (by omega)) (by decide) rfl ?_
            refine rn_goto (tgt := 90) C dX12_power_141 (by decide) ?_
            rw [show mpow_l90 c mo d a more sh (msmall_f (mo) (24) (nI (1)) (mcopy_f (mo) (23) (a) ((mpow_l15 c mo d a more sh S more 32).2, S.2.1, S.2.2))) (mpow_l15 c mo d a more sh S more 32).1 (msmall_f (mo) (24) (nI (1)) (mcopy_f (mo) (23) (a) ((mpow_l15 c mo d a more sh S more 32).2, S.2.1, S.2.2))) (i90 + 1) = _ from (if_neg (fun q => q hb3))] at ih90
            exact rn_ks [0, 1, 2, 3, 4, 5, 6, 7] ih90 rfl
      have hz90 := lp90 0 (Nat.zero_le _)
      rw [dn_at (N := 16 * pN c) (i := 0) (by omega)] at hz90
      exact hz90
    · skip
      refine rn_iload C dX12_power_15 rfl ?_
      refine rn_bipush (v := nI 32) C dX12_power_17 rfl ?_
      refine rs_ge (tgt := 65) C dX12_power_19 (by decide) rfl rfl (by omega) (by omega) (fun q => absurd q (by omega)) (fun _ => ?_)
      refine rn_aload_n C dX12_power_22 rfl ?_
      refine rs_get C dX12_power_23 fl_X12_41 hM0 rfl ?_
      refine rn_bipush (v := nI 32) C dX12_power_26 rfl ?_
      refine rn_iload C dX12_power_28 rfl ?_
      refine rn_imul C dX12_power_30 (pk_mul _ _) ?_
      refine rn_iload C dX12_power_31 rfl ?_
      refine rn_iadd C dX12_power_33 (nI_add _ _) ?_
      refine rs_iaload C dX12_power_34 hm7 rfl (by omega) (by decide) ?_
      refine rn_iload C dX12_power_35 rfl ?_
      refine rn_iadd C dX12_power_37 rfl ?_
      refine rn_istore (lv' := [(0, _), (1, _), (2, _), (3, _), (4, _), (5, _), (6, _), (7, _), (8, _)]) C dX12_power_38 (by decide) rfl ?_
      refine rn_aload_n C dX12_power_40 rfl ?_
      refine rs_get C dX12_power_41 fl_X12_48 hM0 rfl ?_
      refine rn_iload C dX12_power_44 rfl ?_
      refine rn_iload C dX12_power_46 rfl ?_
      refine rn_ldc C dX12_power_48 lc_X12_117 ?_
      refine rn_iand C dX12_power_50 rfl ?_
      refine rs_iastore C dX12_power_51 hm9 rfl (by omega) (by decide) ?_
      refine rn_iload C dX12_power_52 rfl ?_
      refine rn_bipush (v := nI 16) C dX12_power_54 rfl ?_
      refine rn_ishr C dX12_power_56 rfl ?_
      refine rn_istore (lv' := [(0, _), (1, _), (2, _), (3, _), (4, _), (5, _), (6, _), (7, _), (8, _)]) C dX12_power_57 (by decide) rfl ?_
      refine rn_iinc (lv' := [(0, _), (1, _), (2, _), (3, _), (4, _), (5, _), (6, _), (7, _), (8, _)]) C dX12_power_59 rfl (nI_inc _) (by decide) rfl ?_
      refine rn_goto (tgt := 15) C dX12_power_62 (by decide) ?_
      exact rn_ks [0, 1, 2, 3, 4, 5, 6, 7] ih15 rfl
  exact lp15 0 (Nat.zero_le _)
def minv_f (c : Bool) (mo : Nat) (d : Nat) (a : Nat) (S : StT) : StT := mpow_f c (mo) (d) (a) ((-2)) (0) S
theorem minv_F (c : Bool) (mo : Nat) (d : Nat) (a : Nat) (S : StT) : (minv_f c mo d a S).2.2 = S.2.2 := by
  unfold minv_f; simp only [mpow_F]
set_option maxRecDepth 100000 in
set_option maxHeartbeats 4000000 in
theorem c_minv {k : KX} {L : Nat → Option Sh} {S : StT} {n : Nat} {c : Bool} {mo : Nat} {d : Nat} {a : Nat} (hM : ModelAt k L mo) (hd : d < 64) (ha : a < 64) (hcn : S.2.2 mo 13 = nI (bN c)) (hpc : S.2.2 mo 14 = nI (pN c)) :
    Cs k yX12_inverse cX12_inverse 3 none 4 0 0 [.ref (k_b k + (mo)), .int (nI (d)), .int (nI (a))] (inst k L S.1 S.2.1 S.2.2) n (Pv k L n (minv_f c mo d a S)) := by
  refine cs_of (by decide) (Nat.le_of_ble_eq_true rfl) ?_
  intro X hXk C Rt hnm
  subst hXk
  have hM9 := hM
  obtain ⟨hM0, hm1, hm2, hm3, hm4, hm5, hm6, hm7, hm8, hm9, hm10, hm11, hm12, hm13, hm14, hm15, hm16, hm17, hm18, hm19, hm20, hm21, hm22, hm23, hm24, hm25, hm26, hm27⟩ := hM9
  obtain ⟨hp1, hp2⟩ := pN_le c
  have hbn := bN_le c
  refine rn_lv [(0, .ref (k_b X.1 + (mo))), (1, .int (nI (d))), (2, .int (nI (a)))] (fun q h => h) ?_
  refine rn_aload_n C dX12_inverse_0 rfl ?_
  refine rn_iload_n C dX12_inverse_1 rfl ?_
  refine rn_iload_n C dX12_inverse_2 rfl ?_
  refine rn_bipush (v := (-2)) C dX12_inverse_3 (by decide) ?_
  refine rn_iconst (v := nI 0) C dX12_inverse_5 rfl ?_
  refine rs_vv C dX12_inverse_6 mk_X12_power lv_X12_197 (c_mpow hM (by omega) (by omega) (by omega) hcn hpc) hM0 rfl rfl rfl rfl (by decide) (Nat.le_of_ble_eq_true rfl) (by decide) (by decide) ?_
  exact rn_vret C Rt dX12_inverse_9 (pv_of (tup _)) (Nat.zero_le _) (Nat.zero_le _)
def mneutral_f (mo : Nat) (a : Nat) (S : StT) : StT := msmall_f (mo) (a + 2) (nI (1)) (msmall_f (mo) (a + 1) (nI (1)) (mzero_f (mo) (a) S))
theorem mneutral_F (mo : Nat) (a : Nat) (S : StT) : (mneutral_f mo a S).2.2 = S.2.2 := by
  unfold mneutral_f; first | rfl | (simp only [zero28_F, mzero_F, msmall_F, mcopy_F, takeOff_F, mfold_F, mmul_F, mplus_F, mminus_F, mpow_F, minv_F]; done) | ((repeat' split) <;> first | rfl | (simp only [zero28_F, mzero_F, msmall_F, mcopy_F, takeOff_F, mfold_F, mmul_F, mplus_F, mminus_F, mpow_F, minv_F]; done))
set_option maxRecDepth 100000 in
set_option maxHeartbeats 4000000 in
theorem c_mneutral {k : KX} {L : Nat → Option Sh} {S : StT} {n : Nat} {mo : Nat} {a : Nat} (hM : ModelAt k L mo) (ha : a < 60) :
    Cs k yX12_neutral cX12_neutral 2 none 2 0 0 [.ref (k_b k + (mo)), .int (nI (a))] (inst k L S.1 S.2.1 S.2.2) n (Pv k L n (mneutral_f mo a S)) := by
  refine cs_of (by decide) (Nat.le_of_ble_eq_true rfl) ?_
  intro X hXk C Rt hnm
  subst hXk
  have hM9 := hM
  obtain ⟨hM0, hm1, hm2, hm3, hm4, hm5, hm6, hm7, hm8, hm9, hm10, hm11, hm12, hm13, hm14, hm15, hm16, hm17, hm18, hm19, hm20, hm21, hm22, hm23, hm24, hm25, hm26, hm27⟩ := hM9
  refine rn_lv [(0, .ref (k_b X.1 + (mo))), (1, .int (nI (a)))] (fun q h => h) ?_
  refine rn_aload_n C dX12_neutral_0 rfl ?_
  refine rn_iload_n C dX12_neutral_1 rfl ?_
  refine rs_vv C dX12_neutral_2 mk_X12_zero lv_X12_148 (c_mzero hM (by omega)) hM0 rfl rfl rfl rfl (by decide) (Nat.le_of_ble_eq_true rfl) (by decide) (by decide) ?_
  refine rn_aload_n C dX12_neutral_5 rfl ?_
  refine rn_iload_n C dX12_neutral_6 rfl ?_
  refine rn_iconst (v := nI 1) C dX12_neutral_7 rfl ?_
  refine rn_iadd C dX12_neutral_8 (nI_add _ _) ?_
  refine rn_iconst (v := nI 1) C dX12_neutral_9 rfl ?_
  refine rs_vv C dX12_neutral_10 mk_X12_small lv_X12_136 (c_msmall hM (by omega)) hM0 rfl rfl rfl rfl (by decide) (Nat.le_of_ble_eq_true rfl) (by decide) (by decide) ?_
  refine rn_aload_n C dX12_neutral_13 rfl ?_
  refine rn_iload_n C dX12_neutral_14 rfl ?_
  refine rn_iconst (v := nI 2) C dX12_neutral_15 rfl ?_
  refine rn_iadd C dX12_neutral_16 (nI_add _ _) ?_
  refine rn_iconst (v := nI 1) C dX12_neutral_17 rfl ?_
  refine rs_vv C dX12_neutral_18 mk_X12_small lv_X12_136 (c_msmall hM (by omega)) hM0 rfl rfl rfl rfl (by decide) (Nat.le_of_ble_eq_true rfl) (by decide) (by decide) ?_
  exact rn_vret C Rt dX12_neutral_21 (pv_of (tup _)) (Nat.zero_le _) (Nat.zero_le _)
def mcopyP_l2 (mo : Nat) (d : Nat) (a : Nat) (S : StT)  : Nat → StT
  | 0 => S
  | i2 + 1 => let y2_0 := (mcopyP_l2 mo d a S i2); mcopy_f (mo) (d + i2) (a + i2) y2_0
theorem mcopyP_l2_F (mo : Nat) (d : Nat) (a : Nat) (S : StT)  : ∀ i, (mcopyP_l2 mo d a S i).2.2 = S.2.2 := by
  intro i
  induction i with
  | zero => rfl
  | succ i ih =>
    unfold mcopyP_l2
    dsimp only
    (repeat' split) <;> simp only [zero28_F, mzero_F, msmall_F, mcopy_F, takeOff_F, mfold_F, mmul_F, mplus_F, mminus_F, mpow_F, minv_F, mneutral_F, ih]
def mcopyP_f (mo : Nat) (d : Nat) (a : Nat) (S : StT) : StT := (mcopyP_l2 mo d a S 3)
theorem mcopyP_F (mo : Nat) (d : Nat) (a : Nat) (S : StT) : (mcopyP_f mo d a S).2.2 = S.2.2 := by
  unfold mcopyP_f; simp only [mcopyP_l2_F]
set_option maxRecDepth 100000 in
set_option maxHeartbeats 4000000 in
theorem c_mcopyP {k : KX} {L : Nat → Option Sh} {S : StT} {n : Nat} {mo : Nat} {d : Nat} {a : Nat} (hM : ModelAt k L mo) (hd : d < 60) (ha : a < 60) :
    Cs k yX12_copyPoint cX12_copyPoint 4 none 1 0 0 [.ref (k_b k + (mo)), .int (nI (d)), .int (nI (a))] (inst k L S.1 S.2.1 S.2.2) n (Pv k L n (mcopyP_f mo d a S)) := by
  refine cs_of (by decide) (Nat.le_of_ble_eq_true rfl) ?_
  intro X hXk C Rt hnm
  subst hXk
  have hM9 := hM
  obtain ⟨hM0, hm1, hm2, hm3, hm4, hm5, hm6, hm7, hm8, hm9, hm10, hm11, hm12, hm13, hm14, hm15, hm16, hm17, hm18, hm19, hm20, hm21, hm22, hm23, hm24, hm25, hm26, hm27⟩ := hM9
  refine rn_lv [(0, .ref (k_b X.1 + (mo))), (1, .int (nI (d))), (2, .int (nI (a)))] (fun q h => h) ?_
  refine rn_iconst (v := nI 0) C dX12_copyPoint_0 rfl ?_
  refine rn_istore_n (lv' := [(0, _), (1, _), (2, _), (3, _)]) C dX12_copyPoint_1 (by decide) rfl ?_
  have lp2 : ∀ i2, i2 ≤ 3 → Rn X 2 [(0, .ref (k_b X.1 + (mo))), (1, .int (nI (d))), (2, .int (nI (a))), (3, .int (nI (i2)))] [] (inst X.1 L (mcopyP_l2 mo d a S i2).1 (mcopyP_l2 mo d a S i2).2.1 (mcopyP_l2 mo d a S i2).2.2) n 0 0 := by
    refine upto _ _ ?_ (fun i2 hi2 ih2 => ?_)
    · skip
      refine rn_iload_n C dX12_copyPoint_2 rfl ?_
      refine rn_iconst (v := nI 3) C dX12_copyPoint_3 rfl ?_
      refine rs_ge (tgt := 23) C dX12_copyPoint_4 (by decide) rfl rfl (by omega) (by omega) (fun _ => ?_) (fun q => absurd q (by omega))
      exact rn_vret C Rt dX12_copyPoint_23 (pv_of (tup _)) (Nat.zero_le _) (Nat.zero_le _)
    · skip
      refine rn_iload_n C dX12_copyPoint_2 rfl ?_
      refine rn_iconst (v := nI 3) C dX12_copyPoint_3 rfl ?_
      refine rs_ge (tgt := 23) C dX12_copyPoint_4 (by decide) rfl rfl (by omega) (by omega) (fun q => absurd q (by omega)) (fun _ => ?_)
      refine rn_aload_n C dX12_copyPoint_7 rfl ?_
      refine rn_iload_n C dX12_copyPoint_8 rfl ?_
      refine rn_iload_n C dX12_copyPoint_9 rfl ?_
      refine rn_iadd C dX12_copyPoint_10 (nI_add _ _) ?_
      refine rn_iload_n C dX12_copyPoint_11 rfl ?_
      refine rn_iload_n C dX12_copyPoint_12 rfl ?_
      refine rn_iadd C dX12_copyPoint_13 (nI_add _ _) ?_
      refine rs_vv C dX12_copyPoint_14 mk_X12_copy lv_X12_194 (c_mcopy hM (by omega) (by omega)) hM0 rfl rfl rfl rfl (by decide) (Nat.le_of_ble_eq_true rfl) (by decide) (by decide) ?_
      refine rn_iinc (lv' := [(0, _), (1, _), (2, _), (3, _)]) C dX12_copyPoint_17 rfl (nI_inc _) (by decide) rfl ?_
      refine rn_goto (tgt := 2) C dX12_copyPoint_20 (by decide) ?_
      exact rn_ks [0, 1, 2, 3] ih2 rfl
  exact lp2 0 (Nat.zero_le _)
def mneg_f (c : Bool) (mo : Nat) (a : Nat) (S : StT) : StT := mminus_f c (mo) (a) (30) (a) (mzero_f (mo) (30) S)
theorem mneg_F (c : Bool) (mo : Nat) (a : Nat) (S : StT) : (mneg_f c mo a S).2.2 = S.2.2 := by
  unfold mneg_f; simp only [mminus_F, mzero_F]
set_option maxRecDepth 100000 in
set_option maxHeartbeats 4000000 in
theorem c_mneg {k : KX} {L : Nat → Option Sh} {S : StT} {n : Nat} {c : Bool} {mo : Nat} {a : Nat} (hM : ModelAt k L mo) (ha : a < 64) (hcn : S.2.2 mo 13 = nI (bN c)) (hpc : S.2.2 mo 14 = nI (pN c)) :
    Cs k yX12_negate cX12_negate 2 none 3 0 0 [.ref (k_b k + (mo)), .int (nI (a))] (inst k L S.1 S.2.1 S.2.2) n (Pv k L n (mneg_f c mo a S)) := by
  refine cs_of (by decide) (Nat.le_of_ble_eq_true rfl) ?_
  intro X hXk C Rt hnm
  subst hXk
  have hM9 := hM
  obtain ⟨hM0, hm1, hm2, hm3, hm4, hm5, hm6, hm7, hm8, hm9, hm10, hm11, hm12, hm13, hm14, hm15, hm16, hm17, hm18, hm19, hm20, hm21, hm22, hm23, hm24, hm25, hm26, hm27⟩ := hM9
  obtain ⟨hp1, hp2⟩ := pN_le c
  have hbn := bN_le c
  refine rn_lv [(0, .ref (k_b X.1 + (mo))), (1, .int (nI (a)))] (fun q h => h) ?_
  refine rn_aload_n C dX12_negate_0 rfl ?_
  refine rn_bipush (v := nI 30) C dX12_negate_1 rfl ?_
  refine rs_vv C dX12_negate_3 mk_X12_zero lv_X12_148 (c_mzero hM (by omega)) hM0 rfl rfl rfl rfl (by decide) (Nat.le_of_ble_eq_true rfl) (by decide) (by decide) ?_
  refine rn_aload_n C dX12_negate_6 rfl ?_
  refine rn_iload_n C dX12_negate_7 rfl ?_
  refine rn_bipush (v := nI 30) C dX12_negate_8 rfl ?_
  refine rn_iload_n C dX12_negate_10 rfl ?_
  refine rs_vv C dX12_negate_11 mk_X12_minus lv_X12_151 (c_mminus hM (by omega) (by omega) (by omega) (by first | (simp only [zero28_F, mzero_F, msmall_F, mcopy_F, takeOff_F, mfold_F, mmul_F, mplus_F, mminus_F, mpow_F, minv_F, mneutral_F, mcopyP_F]; with_reducible exact hcn) | with_reducible exact hcn | exact hcn) (by first | (simp only [zero28_F, mzero_F, msmall_F, mcopy_F, takeOff_F, mfold_F, mmul_F, mplus_F, mminus_F, mpow_F, minv_F, mneutral_F, mcopyP_F]; with_reducible exact hpc) | with_reducible exact hpc | exact hpc)) hM0 rfl rfl rfl rfl (by decide) (Nat.le_of_ble_eq_true rfl) (by decide) (by decide) ?_
  exact rn_vret C Rt dX12_negate_14 (pv_of (tup _)) (Nat.zero_le _) (Nat.zero_le _)
def msum_f (c : Bool) (mo : Nat) (d : Nat) (a : Nat) (b : Nat) (S : StT) : StT := (let S1 := mmul_f c (mo) (32) (a) (b) (mmul_f c (mo) (31) (30) (30) (mmul_f c (mo) (30) (a + 2) (b + 2) S)); (let S2 := mmul_f c (mo) (34) (34) (11 + (bN c)) (mmul_f c (mo) (34) (32) (33) (mmul_f c (mo) (33) (a + 1) (b + 1) S1)); (let S3 := mplus_f c (mo) (37) (a) (a + 1) (mplus_f c (mo) (36) (31) (34) (mminus_f c (mo) (35) (31) (34) S2)); (let S4 := mminus_f c (mo) (37) (37) (32) (mmul_f c (mo) (37) (37) (38) (mplus_f c (mo) (38) (b) (b + 1) S3)); (if (nI (bN c)) ≠ 0 then (let S6 := mmul_f c (mo) (39) (30) (35) (mminus_f c (mo) (38) (33) (32) (mminus_f c (mo) (37) (37) (33) S4)); (let S7 := mmul_f c (mo) (d + 1) (39) (38) (mmul_f c (mo) (39) (30) (36) (mmul_f c (mo) (d) (39) (37) S6)); mmul_f c (mo) (d + 2) (35) (36) S7)) else (let S8 := mmul_f c (mo) (39) (30) (35) (mplus_f c (mo) (38) (33) (32) (mminus_f c (mo) (37) (37) (33) S4)); (let S9 := mmul_f c (mo) (d + 1) (39) (38) (mmul_f c (mo) (39) (30) (36) (mmul_f c (mo) (d) (39) (37) S8)); mmul_f c (mo) (d + 2) (35) (36) S9)))))))
theorem msum_F (c : Bool) (mo : Nat) (d : Nat) (a : Nat) (b : Nat) (S : StT) : (msum_f c mo d a b S).2.2 = S.2.2 := by
  unfold msum_f; (repeat' split) <;> simp only [mmul_F, mplus_F, mminus_F, msmall_F, mzero_F, minv_F, mpow_F]
set_option maxRecDepth 100000 in
set_option maxHeartbeats 4000000 in
theorem c_msum {k : KX} {L : Nat → Option Sh} {S : StT} {n : Nat} {c : Bool} {mo : Nat} {d : Nat} {a : Nat} {b : Nat} (hM : ModelAt k L mo) (hd : d < 60) (ha : a < 60) (hb : b < 60) (hcn : S.2.2 mo 13 = nI (bN c)) (hpc : S.2.2 mo 14 = nI (pN c)) :
    Cs k yX12_sum cX12_sum 4 none 3 0 0 [.ref (k_b k + (mo)), .int (nI (d)), .int (nI (a)), .int (nI (b))] (inst k L S.1 S.2.1 S.2.2) n (Pv k L n (msum_f c mo d a b S)) := by
  refine cs_of (by decide) (Nat.le_of_ble_eq_true rfl) ?_
  intro X hXk C Rt hnm
  subst hXk
  have hM9 := hM
  obtain ⟨hM0, hm1, hm2, hm3, hm4, hm5, hm6, hm7, hm8, hm9, hm10, hm11, hm12, hm13, hm14, hm15, hm16, hm17, hm18, hm19, hm20, hm21, hm22, hm23, hm24, hm25, hm26, hm27⟩ := hM9
  obtain ⟨hp1, hp2⟩ := pN_le c
  have hbn := bN_le c
  refine rn_lv [(0, .ref (k_b X.1 + (mo))), (1, .int (nI (d))), (2, .int (nI (a))), (3, .int (nI (b)))] (fun q h => h) ?_
  refine rn_aload_n C dX12_sum_0 rfl ?_
  refine rn_bipush (v := nI 30) C dX12_sum_1 rfl ?_
  refine rn_iload_n C dX12_sum_3 rfl ?_
  refine rn_iconst (v := nI 2) C dX12_sum_4 rfl ?_
  refine rn_iadd C dX12_sum_5 (nI_add _ _) ?_
  refine rn_iload_n C dX12_sum_6 rfl ?_
  refine rn_iconst (v := nI 2) C dX12_sum_7 rfl ?_
  refine rn_iadd C dX12_sum_8 (nI_add _ _) ?_
  refine rs_vv C dX12_sum_9 mk_X12_mul lv_X12_144 (c_mmul hM (by omega) (by omega) (by omega) hcn hpc) hM0 rfl rfl rfl rfl (by decide) (Nat.le_of_ble_eq_true rfl) (by decide) (by decide) ?_
  refine rn_aload_n C dX12_sum_12 rfl ?_
  refine rn_bipush (v := nI 31) C dX12_sum_13 rfl ?_
  refine rn_bipush (v := nI 30) C dX12_sum_15 rfl ?_
  refine rn_bipush (v := nI 30) C dX12_sum_17 rfl ?_
  refine rs_vv C dX12_sum_19 mk_X12_mul lv_X12_144 (c_mmul hM (by omega) (by omega) (by omega) (by first | (simp only [zero28_F, mzero_F, msmall_F, mcopy_F, takeOff_F, mfold_F, mmul_F, mplus_F, mminus_F, mpow_F, minv_F, mneutral_F, mcopyP_F, mneg_F]; with_reducible exact hcn) | with_reducible exact hcn | exact hcn) (by first | (simp only [zero28_F, mzero_F, msmall_F, mcopy_F, takeOff_F, mfold_F, mmul_F, mplus_F, mminus_F, mpow_F, minv_F, mneutral_F, mcopyP_F, mneg_F]; with_reducible exact hpc) | with_reducible exact hpc | exact hpc)) hM0 rfl rfl rfl rfl (by decide) (Nat.le_of_ble_eq_true rfl) (by decide) (by decide) ?_
  refine rn_aload_n C dX12_sum_22 rfl ?_
  refine rn_bipush (v := nI 32) C dX12_sum_23 rfl ?_
  refine rn_iload_n C dX12_sum_25 rfl ?_
  refine rn_iload_n C dX12_sum_26 rfl ?_
  refine rs_vv C dX12_sum_27 mk_X12_mul lv_X12_144 (c_mmul hM (by omega) (by omega) (by omega) (by first | (simp only [zero28_F, mzero_F, msmall_F, mcopy_F, takeOff_F, mfold_F, mmul_F, mplus_F, mminus_F, mpow_F, minv_F, mneutral_F, mcopyP_F, mneg_F]; with_reducible exact hcn) | with_reducible exact hcn | exact hcn) (by first | (simp only [zero28_F, mzero_F, msmall_F, mcopy_F, takeOff_F, mfold_F, mmul_F, mplus_F, mminus_F, mpow_F, minv_F, mneutral_F, mcopyP_F, mneg_F]; with_reducible exact hpc) | with_reducible exact hpc | exact hpc)) hM0 rfl rfl rfl rfl (by decide) (Nat.le_of_ble_eq_true rfl) (by decide) (by decide) ?_
  refine rn_aload_n C dX12_sum_30 rfl ?_
  refine rn_bipush (v := nI 33) C dX12_sum_31 rfl ?_
  refine rn_iload_n C dX12_sum_33 rfl ?_
  refine rn_iconst (v := nI 1) C dX12_sum_34 rfl ?_
  refine rn_iadd C dX12_sum_35 (nI_add _ _) ?_
  refine rn_iload_n C dX12_sum_36 rfl ?_
  refine rn_iconst (v := nI 1) C dX12_sum_37 rfl ?_
  refine rn_iadd C dX12_sum_38 (nI_add _ _) ?_
  refine rs_vv C dX12_sum_39 mk_X12_mul lv_X12_144 (c_mmul hM (by omega) (by omega) (by omega) (by first | (simp only [zero28_F, mzero_F, msmall_F, mcopy_F, takeOff_F, mfold_F, mmul_F, mplus_F, mminus_F, mpow_F, minv_F, mneutral_F, mcopyP_F, mneg_F]; with_reducible exact hcn) | with_reducible exact hcn | exact hcn) (by first | (simp only [zero28_F, mzero_F, msmall_F, mcopy_F, takeOff_F, mfold_F, mmul_F, mplus_F, mminus_F, mpow_F, minv_F, mneutral_F, mcopyP_F, mneg_F]; with_reducible exact hpc) | with_reducible exact hpc | exact hpc)) hM0 rfl rfl rfl rfl (by decide) (Nat.le_of_ble_eq_true rfl) (by decide) (by decide) ?_
  refine rn_aload_n C dX12_sum_42 rfl ?_
  refine rn_bipush (v := nI 34) C dX12_sum_43 rfl ?_
  refine rn_bipush (v := nI 32) C dX12_sum_45 rfl ?_
  refine rn_bipush (v := nI 33) C dX12_sum_47 rfl ?_
  refine rs_vv C dX12_sum_49 mk_X12_mul lv_X12_144 (c_mmul hM (by omega) (by omega) (by omega) (by first | (simp only [zero28_F, mzero_F, msmall_F, mcopy_F, takeOff_F, mfold_F, mmul_F, mplus_F, mminus_F, mpow_F, minv_F, mneutral_F, mcopyP_F, mneg_F]; with_reducible exact hcn) | with_reducible exact hcn | exact hcn) (by first | (simp only [zero28_F, mzero_F, msmall_F, mcopy_F, takeOff_F, mfold_F, mmul_F, mplus_F, mminus_F, mpow_F, minv_F, mneutral_F, mcopyP_F, mneg_F]; with_reducible exact hpc) | with_reducible exact hpc | exact hpc)) hM0 rfl rfl rfl rfl (by decide) (Nat.le_of_ble_eq_true rfl) (by decide) (by decide) ?_
  refine rn_aload_n C dX12_sum_52 rfl ?_
  refine rn_bipush (v := nI 34) C dX12_sum_53 rfl ?_
  refine rn_bipush (v := nI 34) C dX12_sum_55 rfl ?_
  refine rn_bipush (v := nI 11) C dX12_sum_57 rfl ?_
  refine rn_aload_n C dX12_sum_59 rfl ?_
  refine rs_getFe C dX12_sum_60 fl_X12_51 hM0 rfl (by first | (simp only [zero28_F, mzero_F, msmall_F, mcopy_F, takeOff_F, mfold_F, mmul_F, mplus_F, mminus_F, mpow_F, minv_F, mneutral_F, mcopyP_F, mneg_F]; with_reducible exact hcn) | with_reducible exact hcn | exact hcn) ?_
  refine rn_iadd C dX12_sum_63 (nI_add _ _) ?_
  refine rs_vv C dX12_sum_64 mk_X12_mul lv_X12_144 (c_mmul hM (by omega) (by omega) (by omega) (by first | (simp only [zero28_F, mzero_F, msmall_F, mcopy_F, takeOff_F, mfold_F, mmul_F, mplus_F, mminus_F, mpow_F, minv_F, mneutral_F, mcopyP_F, mneg_F]; with_reducible exact hcn) | with_reducible exact hcn | exact hcn) (by first | (simp only [zero28_F, mzero_F, msmall_F, mcopy_F, takeOff_F, mfold_F, mmul_F, mplus_F, mminus_F, mpow_F, minv_F, mneutral_F, mcopyP_F, mneg_F]; with_reducible exact hpc) | with_reducible exact hpc | exact hpc)) hM0 rfl rfl rfl rfl (by decide) (Nat.le_of_ble_eq_true rfl) (by decide) (by decide) ?_
  refine rn_aload_n C dX12_sum_67 rfl ?_
  refine rn_bipush (v := nI 35) C dX12_sum_68 rfl ?_
  refine rn_bipush (v := nI 31) C dX12_sum_70 rfl ?_
  refine rn_bipush (v := nI 34) C dX12_sum_72 rfl ?_
  refine rs_vv C dX12_sum_74 mk_X12_minus lv_X12_151 (c_mminus hM (by omega) (by omega) (by omega) (by first | (simp only [zero28_F, mzero_F, msmall_F, mcopy_F, takeOff_F, mfold_F, mmul_F, mplus_F, mminus_F, mpow_F, minv_F, mneutral_F, mcopyP_F, mneg_F]; with_reducible exact hcn) | with_reducible exact hcn | exact hcn) (by first | (simp only [zero28_F, mzero_F, msmall_F, mcopy_F, takeOff_F, mfold_F, mmul_F, mplus_F, mminus_F, mpow_F, minv_F, mneutral_F, mcopyP_F, mneg_F]; with_reducible exact hpc) | with_reducible exact hpc | exact hpc)) hM0 rfl rfl rfl rfl (by decide) (Nat.le_of_ble_eq_true rfl) (by decide) (by decide) ?_
  refine rn_aload_n C dX12_sum_77 rfl ?_
  refine rn_bipush (v := nI 36) C dX12_sum_78 rfl ?_
  refine rn_bipush (v := nI 31) C dX12_sum_80 rfl ?_
  refine rn_bipush (v := nI 34) C dX12_sum_82 rfl ?_
  refine rs_vv C dX12_sum_84 mk_X12_plus lv_X12_201 (c_mplus hM (by omega) (by omega) (by omega) (by first | (simp only [zero28_F, mzero_F, msmall_F, mcopy_F, takeOff_F, mfold_F, mmul_F, mplus_F, mminus_F, mpow_F, minv_F, mneutral_F, mcopyP_F, mneg_F]; with_reducible exact hcn) | with_reducible exact hcn | exact hcn) (by first | (simp only [zero28_F, mzero_F, msmall_F, mcopy_F, takeOff_F, mfold_F, mmul_F, mplus_F, mminus_F, mpow_F, minv_F, mneutral_F, mcopyP_F, mneg_F]; with_reducible exact hpc) | with_reducible exact hpc | exact hpc)) hM0 rfl rfl rfl rfl (by decide) (Nat.le_of_ble_eq_true rfl) (by decide) (by decide) ?_
  refine rn_aload_n C dX12_sum_87 rfl ?_
  refine rn_bipush (v := nI 37) C dX12_sum_88 rfl ?_
  refine rn_iload_n C dX12_sum_90 rfl ?_
  refine rn_iload_n C dX12_sum_91 rfl ?_
  refine rn_iconst (v := nI 1) C dX12_sum_92 rfl ?_
  refine rn_iadd C dX12_sum_93 (nI_add _ _) ?_
  refine rs_vv C dX12_sum_94 mk_X12_plus lv_X12_201 (c_mplus hM (by omega) (by omega) (by omega) (by first | (simp only [zero28_F, mzero_F, msmall_F, mcopy_F, takeOff_F, mfold_F, mmul_F, mplus_F, mminus_F, mpow_F, minv_F, mneutral_F, mcopyP_F, mneg_F]; with_reducible exact hcn) | with_reducible exact hcn | exact hcn) (by first | (simp only [zero28_F, mzero_F, msmall_F, mcopy_F, takeOff_F, mfold_F, mmul_F, mplus_F, mminus_F, mpow_F, minv_F, mneutral_F, mcopyP_F, mneg_F]; with_reducible exact hpc) | with_reducible exact hpc | exact hpc)) hM0 rfl rfl rfl rfl (by decide) (Nat.le_of_ble_eq_true rfl) (by decide) (by decide) ?_
  refine rn_aload_n C dX12_sum_97 rfl ?_
  refine rn_bipush (v := nI 38) C dX12_sum_98 rfl ?_
  refine rn_iload_n C dX12_sum_100 rfl ?_
  refine rn_iload_n C dX12_sum_101 rfl ?_
  refine rn_iconst (v := nI 1) C dX12_sum_102 rfl ?_
  refine rn_iadd C dX12_sum_103 (nI_add _ _) ?_
  refine rs_vv C dX12_sum_104 mk_X12_plus lv_X12_201 (c_mplus hM (by omega) (by omega) (by omega) (by first | (simp only [zero28_F, mzero_F, msmall_F, mcopy_F, takeOff_F, mfold_F, mmul_F, mplus_F, mminus_F, mpow_F, minv_F, mneutral_F, mcopyP_F, mneg_F]; with_reducible exact hcn) | with_reducible exact hcn | exact hcn) (by first | (simp only [zero28_F, mzero_F, msmall_F, mcopy_F, takeOff_F, mfold_F, mmul_F, mplus_F, mminus_F, mpow_F, minv_F, mneutral_F, mcopyP_F, mneg_F]; with_reducible exact hpc) | with_reducible exact hpc | exact hpc)) hM0 rfl rfl rfl rfl (by decide) (Nat.le_of_ble_eq_true rfl) (by decide) (by decide) ?_
  refine rn_aload_n C dX12_sum_107 rfl ?_
  refine rn_bipush (v := nI 37) C dX12_sum_108 rfl ?_
  refine rn_bipush (v := nI 37) C dX12_sum_110 rfl ?_
  refine rn_bipush (v := nI 38) C dX12_sum_112 rfl ?_
  refine rs_vv C dX12_sum_114 mk_X12_mul lv_X12_144 (c_mmul hM (by omega) (by omega) (by omega) (by first | (simp only [zero28_F, mzero_F, msmall_F, mcopy_F, takeOff_F, mfold_F, mmul_F, mplus_F, mminus_F, mpow_F, minv_F, mneutral_F, mcopyP_F, mneg_F]; with_reducible exact hcn) | with_reducible exact hcn | exact hcn) (by first | (simp only [zero28_F, mzero_F, msmall_F, mcopy_F, takeOff_F, mfold_F, mmul_F, mplus_F, mminus_F, mpow_F, minv_F, mneutral_F, mcopyP_F, mneg_F]; with_reducible exact hpc) | with_reducible exact hpc | exact hpc)) hM0 rfl rfl rfl rfl (by decide) (Nat.le_of_ble_eq_true rfl) (by decide) (by decide) ?_
  refine rn_aload_n C dX12_sum_117 rfl ?_
  refine rn_bipush (v := nI 37) C dX12_sum_118 rfl ?_
  refine rn_bipush (v := nI 37) C dX12_sum_120 rfl ?_
  refine rn_bipush (v := nI 32) C dX12_sum_122 rfl ?_
  refine rs_vv C dX12_sum_124 mk_X12_minus lv_X12_151 (c_mminus hM (by omega) (by omega) (by omega) (by first | (simp only [zero28_F, mzero_F, msmall_F, mcopy_F, takeOff_F, mfold_F, mmul_F, mplus_F, mminus_F, mpow_F, minv_F, mneutral_F, mcopyP_F, mneg_F]; with_reducible exact hcn) | with_reducible exact hcn | exact hcn) (by first | (simp only [zero28_F, mzero_F, msmall_F, mcopy_F, takeOff_F, mfold_F, mmul_F, mplus_F, mminus_F, mpow_F, minv_F, mneutral_F, mcopyP_F, mneg_F]; with_reducible exact hpc) | with_reducible exact hpc | exact hpc)) hM0 rfl rfl rfl rfl (by decide) (Nat.le_of_ble_eq_true rfl) (by decide) (by decide) ?_
  refine rn_aload_n C dX12_sum_127 rfl ?_
  refine rn_bipush (v := nI 37) C dX12_sum_128 rfl ?_
  refine rn_bipush (v := nI 37) C dX12_sum_130 rfl ?_
  refine rn_bipush (v := nI 33) C dX12_sum_132 rfl ?_
  refine rs_vv C dX12_sum_134 mk_X12_minus lv_X12_151 (c_mminus hM (by omega) (by omega) (by omega) (by first | (simp only [zero28_F, mzero_F, msmall_F, mcopy_F, takeOff_F, mfold_F, mmul_F, mplus_F, mminus_F, mpow_F, minv_F, mneutral_F, mcopyP_F, mneg_F]; with_reducible exact hcn) | with_reducible exact hcn | exact hcn) (by first | (simp only [zero28_F, mzero_F, msmall_F, mcopy_F, takeOff_F, mfold_F, mmul_F, mplus_F, mminus_F, mpow_F, minv_F, mneutral_F, mcopyP_F, mneg_F]; with_reducible exact hpc) | with_reducible exact hpc | exact hpc)) hM0 rfl rfl rfl rfl (by decide) (Nat.le_of_ble_eq_true rfl) (by decide) (by decide) ?_
  refine rn_aload_n C dX12_sum_137 rfl ?_
  refine rs_getFe C dX12_sum_138 fl_X12_51 hM0 rfl (by first | (simp only [zero28_F, mzero_F, msmall_F, mcopy_F, takeOff_F, mfold_F, mmul_F, mplus_F, mminus_F, mpow_F, minv_F, mneutral_F, mcopyP_F, mneg_F]; with_reducible exact hcn) | with_reducible exact hcn | exact hcn) ?_
  refine rn_if_ne (tgt := 157) C dX12_sum_141 (by decide) (fun hb5 => ?_) (fun hb5 => ?_)
  · skip
    refine rn_aload_n C dX12_sum_157 rfl ?_
    refine rn_bipush (v := nI 38) C dX12_sum_158 rfl ?_
    refine rn_bipush (v := nI 33) C dX12_sum_160 rfl ?_
    refine rn_bipush (v := nI 32) C dX12_sum_162 rfl ?_
    refine rs_vv C dX12_sum_164 mk_X12_minus lv_X12_151 (c_mminus hM (by omega) (by omega) (by omega) (by first | (simp only [zero28_F, mzero_F, msmall_F, mcopy_F, takeOff_F, mfold_F, mmul_F, mplus_F, mminus_F, mpow_F, minv_F, mneutral_F, mcopyP_F, mneg_F]; with_reducible exact hcn) | with_reducible exact hcn | exact hcn) (by first | (simp only [zero28_F, mzero_F, msmall_F, mcopy_F, takeOff_F, mfold_F, mmul_F, mplus_F, mminus_F, mpow_F, minv_F, mneutral_F, mcopyP_F, mneg_F]; with_reducible exact hpc) | with_reducible exact hpc | exact hpc)) hM0 rfl rfl rfl rfl (by decide) (Nat.le_of_ble_eq_true rfl) (by decide) (by decide) ?_
    refine rn_aload_n C dX12_sum_167 rfl ?_
    refine rn_bipush (v := nI 39) C dX12_sum_168 rfl ?_
    refine rn_bipush (v := nI 30) C dX12_sum_170 rfl ?_
    refine rn_bipush (v := nI 35) C dX12_sum_172 rfl ?_
    refine rs_vv C dX12_sum_174 mk_X12_mul lv_X12_144 (c_mmul hM (by omega) (by omega) (by omega) (by first | (simp only [zero28_F, mzero_F, msmall_F, mcopy_F, takeOff_F, mfold_F, mmul_F, mplus_F, mminus_F, mpow_F, minv_F, mneutral_F, mcopyP_F, mneg_F]; with_reducible exact hcn) | with_reducible exact hcn | exact hcn) (by first | (simp only [zero28_F, mzero_F, msmall_F, mcopy_F, takeOff_F, mfold_F, mmul_F, mplus_F, mminus_F, mpow_F, minv_F, mneutral_F, mcopyP_F, mneg_F]; with_reducible exact hpc) | with_reducible exact hpc | exact hpc)) hM0 rfl rfl rfl rfl (by decide) (Nat.le_of_ble_eq_true rfl) (by decide) (by decide) ?_
    refine rn_aload_n C dX12_sum_177 rfl ?_
    refine rn_iload_n C dX12_sum_178 rfl ?_
    refine rn_bipush (v := nI 39) C dX12_sum_179 rfl ?_
    refine rn_bipush (v := nI 37) C dX12_sum_181 rfl ?_
    refine rs_vv C dX12_sum_183 mk_X12_mul lv_X12_144 (c_mmul hM (by omega) (by omega) (by omega) (by first | (simp only [zero28_F, mzero_F, msmall_F, mcopy_F, takeOff_F, mfold_F, mmul_F, mplus_F, mminus_F, mpow_F, minv_F, mneutral_F, mcopyP_F, mneg_F]; with_reducible exact hcn) | with_reducible exact hcn | exact hcn) (by first | (simp only [zero28_F, mzero_F, msmall_F, mcopy_F, takeOff_F, mfold_F, mmul_F, mplus_F, mminus_F, mpow_F, minv_F, mneutral_F, mcopyP_F, mneg_F]; with_reducible exact hpc) | with_reducible exact hpc | exact hpc)) hM0 rfl rfl rfl rfl (by decide) (Nat.le_of_ble_eq_true rfl) (by decide) (by decide) ?_
    refine rn_aload_n C dX12_sum_186 rfl ?_
    refine rn_bipush (v := nI 39) C dX12_sum_187 rfl ?_
    refine rn_bipush (v := nI 30) C dX12_sum_189 rfl ?_
    refine rn_bipush (v := nI 36) C dX12_sum_191 rfl ?_
    refine rs_vv C dX12_sum_193 mk_X12_mul lv_X12_144 (c_mmul hM (by omega) (by omega) (by omega) (by first | (simp only [zero28_F, mzero_F, msmall_F, mcopy_F, takeOff_F, mfold_F, mmul_F, mplus_F, mminus_F, mpow_F, minv_F, mneutral_F, mcopyP_F, mneg_F]; with_reducible exact hcn) | with_reducible exact hcn | exact hcn) (by first | (simp only [zero28_F, mzero_F, msmall_F, mcopy_F, takeOff_F, mfold_F, mmul_F, mplus_F, mminus_F, mpow_F, minv_F, mneutral_F, mcopyP_F, mneg_F]; with_reducible exact hpc) | with_reducible exact hpc | exact hpc)) hM0 rfl rfl rfl rfl (by decide) (Nat.le_of_ble_eq_true rfl) (by decide) (by decide) ?_
    refine rn_aload_n C dX12_sum_196 rfl ?_
    refine rn_iload_n C dX12_sum_197 rfl ?_
    refine rn_iconst (v := nI 1) C dX12_sum_198 rfl ?_
    refine rn_iadd C dX12_sum_199 (nI_add _ _) ?_
    refine rn_bipush (v := nI 39) C dX12_sum_200 rfl ?_
    refine rn_bipush (v := nI 38) C dX12_sum_202 rfl ?_
    refine rs_vv C dX12_sum_204 mk_X12_mul lv_X12_144 (c_mmul hM (by omega) (by omega) (by omega) (by first | (simp only [zero28_F, mzero_F, msmall_F, mcopy_F, takeOff_F, mfold_F, mmul_F, mplus_F, mminus_F, mpow_F, minv_F, mneutral_F, mcopyP_F, mneg_F]; with_reducible exact hcn) | with_reducible exact hcn | exact hcn) (by first | (simp only [zero28_F, mzero_F, msmall_F, mcopy_F, takeOff_F, mfold_F, mmul_F, mplus_F, mminus_F, mpow_F, minv_F, mneutral_F, mcopyP_F, mneg_F]; with_reducible exact hpc) | with_reducible exact hpc | exact hpc)) hM0 rfl rfl rfl rfl (by decide) (Nat.le_of_ble_eq_true rfl) (by decide) (by decide) ?_
    refine rn_aload_n C dX12_sum_207 rfl ?_
    refine rn_iload_n C dX12_sum_208 rfl ?_
    refine rn_iconst (v := nI 2) C dX12_sum_209 rfl ?_
    refine rn_iadd C dX12_sum_210 (nI_add _ _) ?_
    refine rn_bipush (v := nI 35) C dX12_sum_211 rfl ?_
    refine rn_bipush (v := nI 36) C dX12_sum_213 rfl ?_
    refine rs_vv C dX12_sum_215 mk_X12_mul lv_X12_144 (c_mmul hM (by omega) (by omega) (by omega) (by first | (simp only [zero28_F, mzero_F, msmall_F, mcopy_F, takeOff_F, mfold_F, mmul_F, mplus_F, mminus_F, mpow_F, minv_F, mneutral_F, mcopyP_F, mneg_F]; with_reducible exact hcn) | with_reducible exact hcn | exact hcn) (by first | (simp only [zero28_F, mzero_F, msmall_F, mcopy_F, takeOff_F, mfold_F, mmul_F, mplus_F, mminus_F, mpow_F, minv_F, mneutral_F, mcopyP_F, mneg_F]; with_reducible exact hpc) | with_reducible exact hpc | exact hpc)) hM0 rfl rfl rfl rfl (by decide) (Nat.le_of_ble_eq_true rfl) (by decide) (by decide) ?_
    exact rn_vret C Rt dX12_sum_218 (pv_of ((if_pos hb5).trans (tup _))) (Nat.zero_le _) (Nat.zero_le _)
  · skip
    refine rn_aload_n C dX12_sum_144 rfl ?_
    refine rn_bipush (v := nI 38) C dX12_sum_145 rfl ?_
    refine rn_bipush (v := nI 33) C dX12_sum_147 rfl ?_
    refine rn_bipush (v := nI 32) C dX12_sum_149 rfl ?_
    refine rs_vv C dX12_sum_151 mk_X12_plus lv_X12_201 (c_mplus hM (by omega) (by omega) (by omega) (by first | (simp only [zero28_F, mzero_F, msmall_F, mcopy_F, takeOff_F, mfold_F, mmul_F, mplus_F, mminus_F, mpow_F, minv_F, mneutral_F, mcopyP_F, mneg_F]; with_reducible exact hcn) | with_reducible exact hcn | exact hcn) (by first | (simp only [zero28_F, mzero_F, msmall_F, mcopy_F, takeOff_F, mfold_F, mmul_F, mplus_F, mminus_F, mpow_F, minv_F, mneutral_F, mcopyP_F, mneg_F]; with_reducible exact hpc) | with_reducible exact hpc | exact hpc)) hM0 rfl rfl rfl rfl (by decide) (Nat.le_of_ble_eq_true rfl) (by decide) (by decide) ?_
    refine rn_goto (tgt := 167) C dX12_sum_154 (by decide) ?_
    refine rn_aload_n C dX12_sum_167 rfl ?_
    refine rn_bipush (v := nI 39) C dX12_sum_168 rfl ?_
    refine rn_bipush (v := nI 30) C dX12_sum_170 rfl ?_
    refine rn_bipush (v := nI 35) C dX12_sum_172 rfl ?_
    refine rs_vv C dX12_sum_174 mk_X12_mul lv_X12_144 (c_mmul hM (by omega) (by omega) (by omega) (by first | (simp only [zero28_F, mzero_F, msmall_F, mcopy_F, takeOff_F, mfold_F, mmul_F, mplus_F, mminus_F, mpow_F, minv_F, mneutral_F, mcopyP_F, mneg_F]; with_reducible exact hcn) | with_reducible exact hcn | exact hcn) (by first | (simp only [zero28_F, mzero_F, msmall_F, mcopy_F, takeOff_F, mfold_F, mmul_F, mplus_F, mminus_F, mpow_F, minv_F, mneutral_F, mcopyP_F, mneg_F]; with_reducible exact hpc) | with_reducible exact hpc | exact hpc)) hM0 rfl rfl rfl rfl (by decide) (Nat.le_of_ble_eq_true rfl) (by decide) (by decide) ?_
    refine rn_aload_n C dX12_sum_177 rfl ?_
    refine rn_iload_n C dX12_sum_178 rfl ?_
    refine rn_bipush (v := nI 39) C dX12_sum_179 rfl ?_
    refine rn_bipush (v := nI 37) C dX12_sum_181 rfl ?_
    refine rs_vv C dX12_sum_183 mk_X12_mul lv_X12_144 (c_mmul hM (by omega) (by omega) (by omega) (by first | (simp only [zero28_F, mzero_F, msmall_F, mcopy_F, takeOff_F, mfold_F, mmul_F, mplus_F, mminus_F, mpow_F, minv_F, mneutral_F, mcopyP_F, mneg_F]; with_reducible exact hcn) | with_reducible exact hcn | exact hcn) (by first | (simp only [zero28_F, mzero_F, msmall_F, mcopy_F, takeOff_F, mfold_F, mmul_F, mplus_F, mminus_F, mpow_F, minv_F, mneutral_F, mcopyP_F, mneg_F]; with_reducible exact hpc) | with_reducible exact hpc | exact hpc)) hM0 rfl rfl rfl rfl (by decide) (Nat.le_of_ble_eq_true rfl) (by decide) (by decide) ?_
    refine rn_aload_n C dX12_sum_186 rfl ?_
    refine rn_bipush (v := nI 39) C dX12_sum_187 rfl ?_
    refine rn_bipush (v := nI 30) C dX12_sum_189 rfl ?_
    refine rn_bipush (v := nI 36) C dX12_sum_191 rfl ?_
    refine rs_vv C dX12_sum_193 mk_X12_mul lv_X12_144 (c_mmul hM (by omega) (by omega) (by omega) (by first | (simp only [zero28_F, mzero_F, msmall_F, mcopy_F, takeOff_F, mfold_F, mmul_F, mplus_F, mminus_F, mpow_F, minv_F, mneutral_F, mcopyP_F, mneg_F]; with_reducible exact hcn) | with_reducible exact hcn | exact hcn) (by first | (simp only [zero28_F, mzero_F, msmall_F, mcopy_F, takeOff_F, mfold_F, mmul_F, mplus_F, mminus_F, mpow_F, minv_F, mneutral_F, mcopyP_F, mneg_F]; with_reducible exact hpc) | with_reducible exact hpc | exact hpc)) hM0 rfl rfl rfl rfl (by decide) (Nat.le_of_ble_eq_true rfl) (by decide) (by decide) ?_
    refine rn_aload_n C dX12_sum_196 rfl ?_
    refine rn_iload_n C dX12_sum_197 rfl ?_
    refine rn_iconst (v := nI 1) C dX12_sum_198 rfl ?_
    refine rn_iadd C dX12_sum_199 (nI_add _ _) ?_
    refine rn_bipush (v := nI 39) C dX12_sum_200 rfl ?_
    refine rn_bipush (v := nI 38) C dX12_sum_202 rfl ?_
    refine rs_vv C dX12_sum_204 mk_X12_mul lv_X12_144 (c_mmul hM (by omega) (by omega) (by omega) (by first | (simp only [zero28_F, mzero_F, msmall_F, mcopy_F, takeOff_F, mfold_F, mmul_F, mplus_F, mminus_F, mpow_F, minv_F, mneutral_F, mcopyP_F, mneg_F]; with_reducible exact hcn) | with_reducible exact hcn | exact hcn) (by first | (simp only [zero28_F, mzero_F, msmall_F, mcopy_F, takeOff_F, mfold_F, mmul_F, mplus_F, mminus_F, mpow_F, minv_F, mneutral_F, mcopyP_F, mneg_F]; with_reducible exact hpc) | with_reducible exact hpc | exact hpc)) hM0 rfl rfl rfl rfl (by decide) (Nat.le_of_ble_eq_true rfl) (by decide) (by decide) ?_
    refine rn_aload_n C dX12_sum_207 rfl ?_
    refine rn_iload_n C dX12_sum_208 rfl ?_
    refine rn_iconst (v := nI 2) C dX12_sum_209 rfl ?_
    refine rn_iadd C dX12_sum_210 (nI_add _ _) ?_
    refine rn_bipush (v := nI 35) C dX12_sum_211 rfl ?_
    refine rn_bipush (v := nI 36) C dX12_sum_213 rfl ?_
    refine rs_vv C dX12_sum_215 mk_X12_mul lv_X12_144 (c_mmul hM (by omega) (by omega) (by omega) (by first | (simp only [zero28_F, mzero_F, msmall_F, mcopy_F, takeOff_F, mfold_F, mmul_F, mplus_F, mminus_F, mpow_F, minv_F, mneutral_F, mcopyP_F, mneg_F]; with_reducible exact hcn) | with_reducible exact hcn | exact hcn) (by first | (simp only [zero28_F, mzero_F, msmall_F, mcopy_F, takeOff_F, mfold_F, mmul_F, mplus_F, mminus_F, mpow_F, minv_F, mneutral_F, mcopyP_F, mneg_F]; with_reducible exact hpc) | with_reducible exact hpc | exact hpc)) hM0 rfl rfl rfl rfl (by decide) (Nat.le_of_ble_eq_true rfl) (by decide) (by decide) ?_
    exact rn_vret C Rt dX12_sum_218 (pv_of ((if_neg (fun q => q hb5)).trans (tup _))) (Nat.zero_le _) (Nat.zero_le _)
def misN_f (mo : Nat) (a : Nat) (S : StT) : Int32 × StT := (if ((misZero_f (mo) (a) S).1) = 0 then (nI (0), S) else (if ((mequal_f (mo) (a + 1) (a + 2) S).1) = 0 then (nI (0), S) else (nI (1), S)))
set_option maxRecDepth 100000 in
set_option maxHeartbeats 4000000 in
theorem c_misN {k : KX} {L : Nat → Option Sh} {S : StT} {n : Nat} {mo : Nat} {a : Nat} (hM : ModelAt k L mo) (ha : a < 60) :
    Cs k yX12_isNeutral cX12_isNeutral 2 (some .boolean) 1 0 0 [.ref (k_b k + (mo)), .int (nI (a))] (inst k L S.1 S.2.1 S.2.2) n (Pi k L n (misN_f mo a S)) := by
  refine cs_of (by decide) (Nat.le_of_ble_eq_true rfl) ?_
  intro X hXk C Rt hnm
  subst hXk
  have hM9 := hM
  obtain ⟨hM0, hm1, hm2, hm3, hm4, hm5, hm6, hm7, hm8, hm9, hm10, hm11, hm12, hm13, hm14, hm15, hm16, hm17, hm18, hm19, hm20, hm21, hm22, hm23, hm24, hm25, hm26, hm27⟩ := hM9
  refine rn_lv [(0, .ref (k_b X.1 + (mo))), (1, .int (nI (a)))] (fun q h => h) ?_
  refine rn_aload_n C dX12_isNeutral_0 rfl ?_
  refine rn_iload_n C dX12_isNeutral_1 rfl ?_
  refine rs_vz C dX12_isNeutral_2 mk_X12_isZero lv_X12_227 (cp_misZero hM (by omega)) hM0 rfl rfl rfl rfl (by decide) (Nat.le_of_ble_eq_true rfl) (by decide) (by decide) ?_
  refine rn_if_eq (tgt := 25) C dX12_isNeutral_5 (by decide) (fun hb1 => ?_) (fun hb1 => ?_)
  · skip
    refine rn_iconst (v := nI 0) C dX12_isNeutral_25 rfl ?_
    exact rn_zret C Rt dX12_isNeutral_26 (by first | rfl | exact rfl) (pi_of (if_pos hb1)) (Nat.zero_le _) (Nat.zero_le _)
  · skip
    refine rn_aload_n C dX12_isNeutral_8 rfl ?_
    refine rn_iload_n C dX12_isNeutral_9 rfl ?_
    refine rn_iconst (v := nI 1) C dX12_isNeutral_10 rfl ?_
    refine rn_iadd C dX12_isNeutral_11 (nI_add _ _) ?_
    refine rn_iload_n C dX12_isNeutral_12 rfl ?_
    refine rn_iconst (v := nI 2) C dX12_isNeutral_13 rfl ?_
    refine rn_iadd C dX12_isNeutral_14 (nI_add _ _) ?_
    refine rs_vz C dX12_isNeutral_15 mk_X12_equal lv_X12_204 (cp_mequal hM (by omega) (by omega)) hM0 rfl rfl rfl rfl (by decide) (Nat.le_of_ble_eq_true rfl) (by decide) (by decide) ?_
    refine rn_if_eq (tgt := 25) C dX12_isNeutral_18 (by decide) (fun hb2 => ?_) (fun hb2 => ?_)
    · skip
      refine rn_iconst (v := nI 0) C dX12_isNeutral_25 rfl ?_
      exact rn_zret C Rt dX12_isNeutral_26 (by first | rfl | exact rfl) (pi_of ((if_neg hb1).trans (if_pos hb2))) (Nat.zero_le _) (Nat.zero_le _)
    · skip
      refine rn_iconst (v := nI 1) C dX12_isNeutral_21 rfl ?_
      refine rn_goto (tgt := 26) C dX12_isNeutral_22 (by decide) ?_
      exact rn_zret C Rt dX12_isNeutral_26 (by first | rfl | exact rfl) (pi_of ((if_neg hb1).trans (if_neg hb2))) (Nat.zero_le _) (Nat.zero_le _)
theorem misN_S (mo : Nat) (a : Nat) (S : StT) : (misN_f mo a S).2 = S := by unfold misN_f; (repeat' split) <;> rfl
theorem cp_misN {k : KX} {L : Nat → Option Sh} {S : StT} {n : Nat} {mo : Nat} {a : Nat} (hM : ModelAt k L mo) (ha : a < 60) :
    Cs k yX12_isNeutral cX12_isNeutral 2 (some .boolean) 1 0 0 [.ref (k_b k + (mo)), .int (nI (a))] (inst k L S.1 S.2.1 S.2.2) n (Pi k L n ((misN_f mo a S).1, S)) := by
  have h := c_misN (k := k) (L := L) (S := S) (n := n) (mo := mo) (a := a) hM ha
  have e : misN_f mo a S = ((misN_f mo a S).1, S) := Prod.ext rfl (misN_S mo a S)
  rwa [e] at h
def malike_f (c : Bool) (mo : Nat) (a : Nat) (b : Nat) (S : StT) : Int32 × StT := (let S1 := mmul_f c (mo) (32) (a + 1) (b + 2) (mmul_f c (mo) (31) (b) (a + 2) (mmul_f c (mo) (30) (a) (b + 2) S)); (if ((mequal_f (mo) (30) (31) (mmul_f c (mo) (33) (b + 1) (a + 2) S1)).1) = 0 then (nI (0), mmul_f c (mo) (33) (b + 1) (a + 2) S1) else (if ((mequal_f (mo) (32) (33) (mmul_f c (mo) (33) (b + 1) (a + 2) S1)).1) = 0 then (nI (0), mmul_f c (mo) (33) (b + 1) (a + 2) S1) else (nI (1), mmul_f c (mo) (33) (b + 1) (a + 2) S1))))
set_option maxRecDepth 100000 in
set_option maxHeartbeats 4000000 in
theorem c_malike {k : KX} {L : Nat → Option Sh} {S : StT} {n : Nat} {c : Bool} {mo : Nat} {a : Nat} {b : Nat} (hM : ModelAt k L mo) (ha : a < 60) (hb : b < 60) (hcn : S.2.2 mo 13 = nI (bN c)) (hpc : S.2.2 mo 14 = nI (pN c)) :
    Cs k yX12_alike cX12_alike 3 (some .boolean) 3 0 0 [.ref (k_b k + (mo)), .int (nI (a)), .int (nI (b))] (inst k L S.1 S.2.1 S.2.2) n (Pi k L n (malike_f c mo a b S)) := by
  refine cs_of (by decide) (Nat.le_of_ble_eq_true rfl) ?_
  intro X hXk C Rt hnm
  subst hXk
  have hM9 := hM
  obtain ⟨hM0, hm1, hm2, hm3, hm4, hm5, hm6, hm7, hm8, hm9, hm10, hm11, hm12, hm13, hm14, hm15, hm16, hm17, hm18, hm19, hm20, hm21, hm22, hm23, hm24, hm25, hm26, hm27⟩ := hM9
  obtain ⟨hp1, hp2⟩ := pN_le c
  have hbn := bN_le c
  refine rn_lv [(0, .ref (k_b X.1 + (mo))), (1, .int (nI (a))), (2, .int (nI (b)))] (fun q h => h) ?_
  refine rn_aload_n C dX12_alike_0 rfl ?_
  refine rn_bipush (v := nI 30) C dX12_alike_1 rfl ?_
  refine rn_iload_n C dX12_alike_3 rfl ?_
  refine rn_iload_n C dX12_alike_4 rfl ?_
  refine rn_iconst (v := nI 2) C dX12_alike_5 rfl ?_
  refine rn_iadd C dX12_alike_6 (nI_add _ _) ?_
  refine rs_vv C dX12_alike_7 mk_X12_mul lv_X12_144 (c_mmul hM (by omega) (by omega) (by omega) hcn hpc) hM0 rfl rfl rfl rfl (by decide) (Nat.le_of_ble_eq_true rfl) (by decide) (by decide) ?_
  refine rn_aload_n C dX12_alike_10 rfl ?_
  refine rn_bipush (v := nI 31) C dX12_alike_11 rfl ?_
  refine rn_iload_n C dX12_alike_13 rfl ?_
  refine rn_iload_n C dX12_alike_14 rfl ?_
  refine rn_iconst (v := nI 2) C dX12_alike_15 rfl ?_
  refine rn_iadd C dX12_alike_16 (nI_add _ _) ?_
  refine rs_vv C dX12_alike_17 mk_X12_mul lv_X12_144 (c_mmul hM (by omega) (by omega) (by omega) (by first | (simp only [zero28_F, mzero_F, msmall_F, mcopy_F, takeOff_F, mfold_F, mmul_F, mplus_F, mminus_F, mpow_F, minv_F, mneutral_F, mcopyP_F, mneg_F, msum_F]; with_reducible exact hcn) | with_reducible exact hcn | exact hcn) (by first | (simp only [zero28_F, mzero_F, msmall_F, mcopy_F, takeOff_F, mfold_F, mmul_F, mplus_F, mminus_F, mpow_F, minv_F, mneutral_F, mcopyP_F, mneg_F, msum_F]; with_reducible exact hpc) | with_reducible exact hpc | exact hpc)) hM0 rfl rfl rfl rfl (by decide) (Nat.le_of_ble_eq_true rfl) (by decide) (by decide) ?_
  refine rn_aload_n C dX12_alike_20 rfl ?_
  refine rn_bipush (v := nI 32) C dX12_alike_21 rfl ?_
  refine rn_iload_n C dX12_alike_23 rfl ?_
  refine rn_iconst (v := nI 1) C dX12_alike_24 rfl ?_
  refine rn_iadd C dX12_alike_25 (nI_add _ _) ?_
  refine rn_iload_n C dX12_alike_26 rfl ?_
  refine rn_iconst (v := nI 2) C dX12_alike_27 rfl ?_
  refine rn_iadd C dX12_alike_28 (nI_add _ _) ?_
  refine rs_vv C dX12_alike_29 mk_X12_mul lv_X12_144 (c_mmul hM (by omega) (by omega) (by omega) (by first | (simp only [zero28_F, mzero_F, msmall_F, mcopy_F, takeOff_F, mfold_F, mmul_F, mplus_F, mminus_F, mpow_F, minv_F, mneutral_F, mcopyP_F, mneg_F, msum_F]; with_reducible exact hcn) | with_reducible exact hcn | exact hcn) (by first | (simp only [zero28_F, mzero_F, msmall_F, mcopy_F, takeOff_F, mfold_F, mmul_F, mplus_F, mminus_F, mpow_F, minv_F, mneutral_F, mcopyP_F, mneg_F, msum_F]; with_reducible exact hpc) | with_reducible exact hpc | exact hpc)) hM0 rfl rfl rfl rfl (by decide) (Nat.le_of_ble_eq_true rfl) (by decide) (by decide) ?_
  refine rn_aload_n C dX12_alike_32 rfl ?_
  refine rn_bipush (v := nI 33) C dX12_alike_33 rfl ?_
  refine rn_iload_n C dX12_alike_35 rfl ?_
  refine rn_iconst (v := nI 1) C dX12_alike_36 rfl ?_
  refine rn_iadd C dX12_alike_37 (nI_add _ _) ?_
  refine rn_iload_n C dX12_alike_38 rfl ?_
  refine rn_iconst (v := nI 2) C dX12_alike_39 rfl ?_
  refine rn_iadd C dX12_alike_40 (nI_add _ _) ?_
  refine rs_vv C dX12_alike_41 mk_X12_mul lv_X12_144 (c_mmul hM (by omega) (by omega) (by omega) (by first | (simp only [zero28_F, mzero_F, msmall_F, mcopy_F, takeOff_F, mfold_F, mmul_F, mplus_F, mminus_F, mpow_F, minv_F, mneutral_F, mcopyP_F, mneg_F, msum_F]; with_reducible exact hcn) | with_reducible exact hcn | exact hcn) (by first | (simp only [zero28_F, mzero_F, msmall_F, mcopy_F, takeOff_F, mfold_F, mmul_F, mplus_F, mminus_F, mpow_F, minv_F, mneutral_F, mcopyP_F, mneg_F, msum_F]; with_reducible exact hpc) | with_reducible exact hpc | exact hpc)) hM0 rfl rfl rfl rfl (by decide) (Nat.le_of_ble_eq_true rfl) (by decide) (by decide) ?_
  refine rn_aload_n C dX12_alike_44 rfl ?_
  refine rn_bipush (v := nI 30) C dX12_alike_45 rfl ?_
  refine rn_bipush (v := nI 31) C dX12_alike_47 rfl ?_
  refine rs_vz C dX12_alike_49 mk_X12_equal lv_X12_204 (cp_mequal hM (by omega) (by omega)) hM0 rfl rfl rfl rfl (by decide) (Nat.le_of_ble_eq_true rfl) (by decide) (by decide) ?_
  refine rn_if_eq (tgt := 70) C dX12_alike_52 (by decide) (fun hb2 => ?_) (fun hb2 => ?_)
  · skip
    refine rn_iconst (v := nI 0) C dX12_alike_70 rfl ?_
    exact rn_zret C Rt dX12_alike_71 (by first | rfl | exact rfl) (pi_of ((if_pos hb2).trans (tupi _ _))) (Nat.zero_le _) (Nat.zero_le _)
  · skip
    refine rn_aload_n C dX12_alike_55 rfl ?_
    refine rn_bipush (v := nI 32) C dX12_alike_56 rfl ?_
    refine rn_bipush (v := nI 33) C dX12_alike_58 rfl ?_
    refine rs_vz C dX12_alike_60 mk_X12_equal lv_X12_204 (cp_mequal hM (by omega) (by omega)) hM0 rfl rfl rfl rfl (by decide) (Nat.le_of_ble_eq_true rfl) (by decide) (by decide) ?_
    refine rn_if_eq (tgt := 70) C dX12_alike_63 (by decide) (fun hb3 => ?_) (fun hb3 => ?_)
    · skip
      refine rn_iconst (v := nI 0) C dX12_alike_70 rfl ?_
      exact rn_zret C Rt dX12_alike_71 (by first | rfl | exact rfl) (pi_of (((if_neg hb2).trans (if_pos hb3)).trans (tupi _ _))) (Nat.zero_le _) (Nat.zero_le _)
    · skip
      refine rn_iconst (v := nI 1) C dX12_alike_66 rfl ?_
      refine rn_goto (tgt := 71) C dX12_alike_67 (by decide) ?_
      exact rn_zret C Rt dX12_alike_71 (by first | rfl | exact rfl) (pi_of (((if_neg hb2).trans (if_neg hb3)).trans (tupi _ _))) (Nat.zero_le _) (Nat.zero_le _)
def mmany_l22 (c : Bool) (mo : Nat) (d : Nat) (a : Nat) (nb : Nat) (m : Nat) (nn : Nat) (S : StT)  : Nat → StT
  | 0 => S
  | i22 + 1 => let y22_0 := (mmany_l22 c mo d a nb m nn S i22); (if ((((msum_f c (mo) (40) (40) (40) y22_0).1 (nb) (((8 * nn) - 1 - i22) / 2 ^ 3)) >>> ((nI (((8 * nn) - 1 - i22) % 2 ^ 3)) &&& 31)) &&& (nI (1))) ≠ (nI (1)) then msum_f c (mo) (40) (40) (40) y22_0 else msum_f c (mo) (40) (40) (43) (msum_f c (mo) (40) (40) (40) y22_0))
theorem mmany_l22_F (c : Bool) (mo : Nat) (d : Nat) (a : Nat) (nb : Nat) (m : Nat) (nn : Nat) (S : StT)  : ∀ i, (mmany_l22 c mo d a nb m nn S i).2.2 = S.2.2 := by
  intro i
  induction i with
  | zero => rfl
  | succ i ih =>
    unfold mmany_l22
    dsimp only
    (repeat' split) <;> simp only [zero28_F, mzero_F, msmall_F, mcopy_F, takeOff_F, mfold_F, mmul_F, mplus_F, mminus_F, mpow_F, minv_F, mneutral_F, mcopyP_F, mneg_F, msum_F, ih]
def mmany_f (c : Bool) (mo : Nat) (d : Nat) (a : Nat) (nb : Nat) (m : Nat) (nn : Nat) (S : StT) : StT := (let S1 := mcopyP_f (mo) (d) (40) (mmany_l22 c mo d a nb m nn (mneutral_f (mo) (40) (mcopyP_f (mo) (43) (a) S)) (8 * nn)); S1)
theorem mmany_F (c : Bool) (mo : Nat) (d : Nat) (a : Nat) (nb : Nat) (m : Nat) (nn : Nat) (S : StT) : (mmany_f c mo d a nb m nn S).2.2 = S.2.2 := by
  unfold mmany_f; simp only [mcopyP_F, mmany_l22_F, mneutral_F]
set_option maxRecDepth 100000 in
set_option maxHeartbeats 4000000 in
theorem c_mmany {k : KX} {L : Nat → Option Sh} {S : StT} {n : Nat} {c : Bool} {mo : Nat} {d : Nat} {a : Nat} {nb : Nat} {m : Nat} {nn : Nat} (hM : ModelAt k L mo) (hd : d < 60) (ha : a < 60) (hnb : L nb = some (sI m)) (hm : m < 2 ^ 31) (hnn : nn ≤ m) (hn0 : 1 ≤ nn) (hn1 : nn ≤ 64) (hcn : S.2.2 mo 13 = nI (bN c)) (hpc : S.2.2 mo 14 = nI (pN c)) :
    Cs k yX12_many cX12_many 6 none 4 0 0 [.ref (k_b k + (mo)), .int (nI (d)), .int (nI (a)), .ref (k_b k + (nb)), .int (nI (nn))] (inst k L S.1 S.2.1 S.2.2) n (Pv k L n (mmany_f c mo d a nb m nn S)) := by
  refine cs_of (by decide) (Nat.le_of_ble_eq_true rfl) ?_
  intro X hXk C Rt hnm
  subst hXk
  have hM9 := hM
  obtain ⟨hM0, hm1, hm2, hm3, hm4, hm5, hm6, hm7, hm8, hm9, hm10, hm11, hm12, hm13, hm14, hm15, hm16, hm17, hm18, hm19, hm20, hm21, hm22, hm23, hm24, hm25, hm26, hm27⟩ := hM9
  obtain ⟨hp1, hp2⟩ := pN_le c
  have hbn := bN_le c
  refine rn_lv [(0, .ref (k_b X.1 + (mo))), (1, .int (nI (d))), (2, .int (nI (a))), (3, .ref (k_b X.1 + (nb))), (4, .int (nI (nn)))] (fun q h => h) ?_
  refine rn_aload_n C dX12_many_0 rfl ?_
  refine rn_bipush (v := nI 43) C dX12_many_1 rfl ?_
  refine rn_iload_n C dX12_many_3 rfl ?_
  refine rs_vv C dX12_many_4 mk_X12_copyPoint lv_X12_221 (c_mcopyP hM (by omega) (by omega)) hM0 rfl rfl rfl rfl (by decide) (Nat.le_of_ble_eq_true rfl) (by decide) (by decide) ?_
  refine rn_aload_n C dX12_many_7 rfl ?_
  refine rn_bipush (v := nI 40) C dX12_many_8 rfl ?_
  refine rs_vv C dX12_many_10 mk_X12_neutral lv_X12_165 (c_mneutral hM (by omega)) hM0 rfl rfl rfl rfl (by decide) (Nat.le_of_ble_eq_true rfl) (by decide) (by decide) ?_
  refine rn_bipush (v := nI 8) C dX12_many_13 rfl ?_
  refine rn_iload C dX12_many_15 rfl ?_
  refine rn_imul C dX12_many_17 (pk_mul _ _) ?_
  refine rn_iconst (v := nI 1) C dX12_many_18 rfl ?_
  refine rn_isub C dX12_many_19 (pk_sub (by omega)) ?_
  refine rn_istore (lv' := [(0, _), (1, _), (2, _), (3, _), (4, _), (5, _)]) C dX12_many_20 (by decide) rfl ?_
  have lp22 : ∀ i22, i22 ≤ 8 * nn → Rn X 22 [(0, .ref (k_b X.1 + (mo))), (1, .int (nI (d))), (2, .int (nI (a))), (3, .ref (k_b X.1 + (nb))), (4, .int (nI (nn))), (5, .int (dn ((8 * nn) - i22)))] [] (inst X.1 L (mmany_l22 c mo d a nb m nn (mneutral_f (mo) (40) (mcopyP_f (mo) (43) (a) S)) i22).1 (mmany_l22 c mo d a nb m nn (mneutral_f (mo) (40) (mcopyP_f (mo) (43) (a) S)) i22).2.1 (mmany_l22 c mo d a nb m nn (mneutral_f (mo) (40) (mcopyP_f (mo) (43) (a) S)) i22).2.2) n 0 0 := by
    refine upto _ _ ?_ (fun i22 hi22 ih22 => ?_)
    · skip
      rw [dn_end]
      refine rn_iload C dX12_many_22 rfl ?_
      refine rn_if_lt (tgt := 71) C dX12_many_24 (by decide) (fun _ => ?_) (fun q => absurd (by decide) q)
      refine rn_aload_n C dX12_many_71 rfl ?_
      refine rn_iload_n C dX12_many_72 rfl ?_
      refine rn_bipush (v := nI 40) C dX12_many_73 rfl ?_
      refine rs_vv C dX12_many_75 mk_X12_copyPoint lv_X12_221 (c_mcopyP hM (by omega) (by omega)) hM0 rfl rfl rfl rfl (by decide) (Nat.le_of_ble_eq_true rfl) (by decide) (by decide) ?_
      exact rn_vret C Rt dX12_many_78 (pv_of (tup _)) (Nat.zero_le _) (Nat.zero_le _)
    · skip
      rw [dn_at hi22]
      refine rn_iload C dX12_many_22 rfl ?_
      refine rs_lt0 (tgt := 71) C dX12_many_24 (by decide) rfl (by omega) ?_
      refine rn_aload_n C dX12_many_27 rfl ?_
      refine rn_bipush (v := nI 40) C dX12_many_28 rfl ?_
      refine rn_bipush (v := nI 40) C dX12_many_30 rfl ?_
      refine rn_bipush (v := nI 40) C dX12_many_32 rfl ?_
      refine rs_vv C dX12_many_34 mk_X12_sum lv_X12_224 (c_msum hM (by omega) (by omega) (by omega) (by first | (simp only [zero28_F, mzero_F, msmall_F, mcopy_F, takeOff_F, mfold_F, mmul_F, mplus_F, mminus_F, mpow_F, minv_F, mneutral_F, mcopyP_F, mneg_F, msum_F, mmany_l22_F]; with_reducible exact hcn) | with_reducible exact hcn | exact hcn) (by first | (simp only [zero28_F, mzero_F, msmall_F, mcopy_F, takeOff_F, mfold_F, mmul_F, mplus_F, mminus_F, mpow_F, minv_F, mneutral_F, mcopyP_F, mneg_F, msum_F, mmany_l22_F]; with_reducible exact hpc) | with_reducible exact hpc | exact hpc)) hM0 rfl rfl rfl rfl (by decide) (Nat.le_of_ble_eq_true rfl) (by decide) (by decide) ?_
      refine rn_aload_n C dX12_many_37 rfl ?_
      refine rn_iload C dX12_many_38 rfl ?_
      refine rn_iconst (v := nI 3) C dX12_many_40 rfl ?_
      refine rn_ishr C dX12_many_41 (pk_shrN (by omega) _ 3 (by decide)) ?_
      refine rs_iaload C dX12_many_42 hnb rfl (by omega) hm ?_
      refine rn_iload C dX12_many_43 rfl ?_
      refine rn_bipush (v := nI 7) C dX12_many_45 rfl ?_
      refine rn_iand C dX12_many_47 (pk_andN (by omega) 3 (by decide)) ?_
      refine rn_ishr C dX12_many_48 rfl ?_
      refine rn_iconst (v := nI 1) C dX12_many_49 rfl ?_
      refine rn_iand C dX12_many_50 rfl ?_
      refine rn_iconst (v := nI 1) C dX12_many_51 rfl ?_
      refine rn_icmp_ne (tgt := 65) C dX12_many_52 (by decide) (fun hb2 => ?_) (fun hb2 => ?_)
      · skip
        refine rn_iinc (lv' := [(0, _), (1, _), (2, _), (3, _), (4, _), (5, _)]) C dX12_many_65 rfl (dn_dec hi22) (by decide) rfl ?_
        refine rn_goto (tgt := 22) C dX12_many_68 (by decide) ?_
        rw [show mmany_l22 c mo d a nb m nn (mneutral_f (mo) (40) (mcopyP_f (mo) (43) (a) S)) (i22 + 1) = _ from (if_pos hb2)] at ih22
        exact rn_ks [0, 1, 2, 3, 4, 5] ih22 rfl
      · skip
        refine rn_aload_n C dX12_many_55 rfl ?_
        refine rn_bipush (v := nI 40) C dX12_many_56 rfl ?_
        refine rn_bipush (v := nI 40) C dX12_many_58 rfl ?_
        refine rn_bipush (v := nI 43) C dX12_many_60 rfl ?_
        refine rs_vv C dX12_many_62 mk_X12_sum lv_X12_224 (c_msum hM (by omega) (by omega) (by omega) (by first | (simp only [zero28_F, mzero_F, msmall_F, mcopy_F, takeOff_F, mfold_F, mmul_F, mplus_F, mminus_F, mpow_F, minv_F, mneutral_F, mcopyP_F, mneg_F, msum_F, mmany_l22_F]; with_reducible exact hcn) | with_reducible exact hcn | exact hcn) (by first | (simp only [zero28_F, mzero_F, msmall_F, mcopy_F, takeOff_F, mfold_F, mmul_F, mplus_F, mminus_F, mpow_F, minv_F, mneutral_F, mcopyP_F, mneg_F, msum_F, mmany_l22_F]; with_reducible exact hpc) | with_reducible exact hpc | exact hpc)) hM0 rfl rfl rfl rfl (by decide) (Nat.le_of_ble_eq_true rfl) (by decide) (by decide) ?_
        refine rn_iinc (lv' := [(0, _), (1, _), (2, _), (3, _), (4, _), (5, _)]) C dX12_many_65 rfl (dn_dec hi22) (by decide) rfl ?_
        refine rn_goto (tgt := 22) C dX12_many_68 (by decide) ?_
        rw [show mmany_l22 c mo d a nb m nn (mneutral_f (mo) (40) (mcopyP_f (mo) (43) (a) S)) (i22 + 1) = _ from (if_neg (fun q => q hb2))] at ih22
        exact rn_ks [0, 1, 2, 3, 4, 5] ih22 rfl
  have hz22 := lp22 0 (Nat.zero_le _)
  rw [dn_at (N := 8 * nn) (i := 0) (by omega)] at hz22
  exact hz22
