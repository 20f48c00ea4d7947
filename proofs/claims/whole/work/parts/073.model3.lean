/-! CurveSuiteModel: further methods, by program (dc.py, spec_model3.py) -/
def mdec_l28 (c : Bool) (mo : Nat) (d : Nat) (nb : Nat) (at_ : Nat) (v1 : Int32) (S : StT)  : Nat → (Nat → Nat → Int32)
  | 0 => S.1
  | i28 + 1 => let y28_0 := (mdec_l28 c mo d nb at_ v1 S i28); (let v14 := (if (nI (i28)) ≠ (nI (cB c - 1)) then y28_0 (nb) (at_ + i28) else (y28_0 (nb) (at_ + i28)) &&& (nI (127))); (let I15 := va_up y28_0 (mo + 7) (upd (y28_0 (mo + 7)) (1600 + (i28 / 2 ^ 1)) ((y28_0 (mo + 7) (1600 + (i28 / 2 ^ 1))) ||| ((v14) <<< ((nI (8 * (i28 % 2 ^ 1))) &&& 31)))); I15))
def mdec_f (c : Bool) (mo : Nat) (d : Nat) (nb : Nat) (at_ : Nat) (S : StT) : Int32 × StT := (let v1 := (S.1 (nb) (at_ + (cB c - 1))) >>> ((nI (7)) &&& 31); (if ((mdec_l28 c mo d nb at_ v1 (mzero_f (mo) (50) S) (cB c)) (mo + 7) (1628)) ≠ 0 then (nI (0), ((mdec_l28 c mo d nb at_ v1 (mzero_f (mo) (50) S) (cB c)), (mzero_f (mo) (50) S).2.1, (mzero_f (mo) (50) S).2.2)) else (let r3 := (atLeast_f (mo) (50) (9 + (bN c)) ((mdec_l28 c mo d nb at_ v1 (mzero_f (mo) (50) S) (cB c)), (mzero_f (mo) (50) S).2.1, (mzero_f (mo) (50) S).2.2)).1; (if (r3) ≠ 0 then (nI (0), ((mdec_l28 c mo d nb at_ v1 (mzero_f (mo) (50) S) (cB c)), (mzero_f (mo) (50) S).2.1, (mzero_f (mo) (50) S).2.2)) else (let r5 := mroot_f c (mo) (51) (50) ((mdec_l28 c mo d nb at_ v1 (mzero_f (mo) (50) S) (cB c)), (mzero_f (mo) (50) S).2.1, (mzero_f (mo) (50) S).2.2); (if (r5.1) ≠ 0 then (if ((misZero_f (mo) (51) r5.2).1) = 0 then (if ((r5.2.1 (mo + 7) (1632)) &&& (nI (1))) = (v1) then (nI (1), msmall_f (mo) (d + 2) (nI (1)) (mcopy_f (mo) (d + 1) (50) (mcopy_f (mo) (d) (51) r5.2))) else (let S9 := mcopy_f (mo) (d + 1) (50) (mcopy_f (mo) (d) (51) (mminus_f c (mo) (51) (25) (51) (mzero_f (mo) (25) r5.2))); (nI (1), msmall_f (mo) (d + 2) (nI (1)) S9))) else (if (v1) ≠ (nI (1)) then (if ((r5.2.1 (mo + 7) (1632)) &&& (nI (1))) = (v1) then (nI (1), msmall_f (mo) (d + 2) (nI (1)) (mcopy_f (mo) (d + 1) (50) (mcopy_f (mo) (d) (51) r5.2))) else (let S12 := mcopy_f (mo) (d + 1) (50) (mcopy_f (mo) (d) (51) (mminus_f c (mo) (51) (25) (51) (mzero_f (mo) (25) r5.2))); (nI (1), msmall_f (mo) (d + 2) (nI (1)) S12))) else (nI (0), r5.2))) else (nI (0), r5.2)))))))
set_option maxRecDepth 100000 in
set_option maxHeartbeats 4000000 in
theorem c_mdec {k : KX} {L : Nat → Option Sh} {S : StT} {n : Nat} {c : Bool} {mo : Nat} {d : Nat} {nb : Nat} {m : Nat} {at_ : Nat} (hM : ModelAt k L mo) (hd : d < 60) (hnb : L nb = some (sI m)) (hm : m < 2 ^ 31) (hat : at_ + cB c ≤ m) (hcn : S.2.2 mo 13 = nI (bN c)) (hpc : S.2.2 mo 14 = nI (pN c)) :
    Cs k yX12_decode cX12_decode 8 (some .boolean) 6 0 0 [.ref (k_b k + (mo)), .int (nI (d)), .ref (k_b k + (nb)), .int (nI (at_))] (inst k L S.1 S.2.1 S.2.2) n (Pi k L n (mdec_f c mo d nb at_ S)) := by
  refine cs_of (by decide) (Nat.le_of_ble_eq_true rfl) ?_
  intro X hXk C Rt hnm
  subst hXk
  have hM9 := hM
  obtain ⟨hM0, hm1, hm2, hm3, hm4, hm5, hm6, hm7, hm8, hm9, hm10, hm11, hm12, hm13, hm14, hm15, hm16, hm17, hm18, hm19, hm20, hm21, hm22, hm23, hm24, hm25, hm26, hm27⟩ := hM9
  obtain ⟨hp1, hp2⟩ := pN_le c
  have hbn := bN_le c
  obtain ⟨hk1, hk2⟩ := cB_le c
  refine rn_lv [(0, .ref (k_b X.1 + (mo))), (1, .int (nI (d))), (2, .ref (k_b X.1 + (nb))), (3, .int (nI (at_)))] (fun q h => h) ?_
  refine rn_aload_n C dX12_decode_0 rfl ?_
  refine rs_vi C dX12_decode_1 mk_X12_keyBytes lv_X12_231 (cv_mkeyB hM  hcn hpc) hM0 rfl rfl rfl rfl (by decide) (Nat.le_of_ble_eq_true rfl) (by decide) (by decide) ?_
  refine rn_iconst (v := nI 1) C dX12_decode_4 rfl ?_
  refine rn_isub C dX12_decode_5 (pk_sub (by omega)) ?_
  refine rn_istore (lv' := [(0, _), (1, _), (2, _), (3, _), (4, _)]) C dX12_decode_6 (by decide) rfl ?_
  refine rn_aload_n C dX12_decode_8 rfl ?_
  refine rn_iload_n C dX12_decode_9 rfl ?_
  refine rn_iload C dX12_decode_10 rfl ?_
  refine rn_iadd C dX12_decode_12 (nI_add _ _) ?_
  refine rs_iaload C dX12_decode_13 hnb rfl (by omega) hm ?_
  refine rn_bipush (v := nI 7) C dX12_decode_14 rfl ?_
  refine rn_ishr C dX12_decode_16 rfl ?_
  refine rn_istore (lv' := [(0, _), (1, _), (2, _), (3, _), (4, _), (5, _)]) C dX12_decode_17 (by decide) rfl ?_
  refine rn_aload_n C dX12_decode_19 rfl ?_
  refine rn_bipush (v := nI 50) C dX12_decode_20 rfl ?_
  refine rs_vv C dX12_decode_22 mk_X12_zero lv_X12_148 (c_mzero hM (by omega)) hM0 rfl rfl rfl rfl (by decide) (Nat.le_of_ble_eq_true rfl) (by decide) (by decide) ?_
  refine rn_iconst (v := nI 0) C dX12_decode_25 rfl ?_
  refine rn_istore (lv' := [(0, _), (1, _), (2, _), (3, _), (4, _), (5, _), (6, _)]) C dX12_decode_26 (by decide) rfl ?_
  have lp28 : ∀ i28, i28 ≤ cB c → Rn X 28 [(0, .ref (k_b X.1 + (mo))), (1, .int (nI (d))), (2, .ref (k_b X.1 + (nb))), (3, .int (nI (at_))), (4, .int (nI (cB c - 1))), (5, .int (((S.1 (nb) (at_ + (cB c - 1))) >>> ((nI (7)) &&& 31)))), (6, .int (nI (i28)))] [] (inst X.1 L (mdec_l28 c mo d nb at_ ((S.1 (nb) (at_ + (cB c - 1))) >>> ((nI (7)) &&& 31)) (mzero_f (mo) (50) S) i28) (mzero_f (mo) (50) S).2.1 (mzero_f (mo) (50) S).2.2) n 0 0 := by
    refine upto _ _ ?_ (fun i28 hi28 ih28 => ?_)
    · skip
      refine rn_iload C dX12_decode_28 rfl ?_
      refine rn_iload C dX12_decode_30 rfl ?_
      refine rs_gt (tgt := 105) C dX12_decode_32 (by decide) rfl rfl (by omega) (by omega) (fun _ => ?_) (fun q => absurd q (by omega))
      refine rn_aload_n C dX12_decode_105 rfl ?_
      refine rs_get C dX12_decode_106 fl_X12_41 hM0 rfl ?_
      refine rn_sipush (v := nI 1628) C dX12_decode_109 rfl ?_
      refine rs_iaload C dX12_decode_112 hm7 rfl (by omega) (by decide) ?_
      refine rn_if_ne (tgt := 143) C dX12_decode_113 (by decide) (fun hb2 => ?_) (fun hb2 => ?_)
      · skip
        refine rn_iconst (v := nI 0) C dX12_decode_143 rfl ?_
        exact rn_zret C Rt dX12_decode_144 (by first | rfl | exact rfl) (pi_of (if_pos hb2)) (Nat.zero_le _) (Nat.zero_le _)
      · skip
        refine rn_aload_n C dX12_decode_116 rfl ?_
        refine rn_bipush (v := nI 50) C dX12_decode_117 rfl ?_
        refine rn_bipush (v := nI 9) C dX12_decode_119 rfl ?_
        refine rn_aload_n C dX12_decode_121 rfl ?_
        refine rs_getFe C dX12_decode_122 fl_X12_51 hM0 rfl (by first | (simp only [zero28_F, mzero_F, msmall_F, mcopy_F, takeOff_F, mfold_F, mmul_F, mplus_F, mminus_F, mpow_F, minv_F, mneutral_F, mcopyP_F, mneg_F, msum_F, mmany_F, mroot_F, mbase_F, menc_F]; with_reducible exact hcn) | with_reducible exact hcn | exact hcn) ?_
        refine rn_iadd C dX12_decode_125 (nI_add _ _) ?_
        refine rs_vz C dX12_decode_126 mk_X12_atLeast lv_X12_183 (cp_atLeast (S := ((mdec_l28 c mo d nb at_ ((S.1 (nb) (at_ + (cB c - 1))) >>> ((nI (7)) &&& 31)) (mzero_f (mo) (50) S) (cB c)), (mzero_f (mo) (50) S).2.1, (mzero_f (mo) (50) S).2.2)) hM (by omega) (by omega)) hM0 rfl rfl rfl rfl (by decide) (Nat.le_of_ble_eq_true rfl) (by decide) (by decide) ?_
        refine rn_if_ne (tgt := 143) C dX12_decode_129 (by decide) (fun hb4 => ?_) (fun hb4 => ?_)
        · skip
          refine rn_iconst (v := nI 0) C dX12_decode_143 rfl ?_
          exact rn_zret C Rt dX12_decode_144 (by first | rfl | exact rfl) (pi_of ((if_neg (fun q => q hb2)).trans (if_pos hb4))) (Nat.zero_le _) (Nat.zero_le _)
        · skip
          refine rn_aload_n C dX12_decode_132 rfl ?_
          refine rn_bipush (v := nI 51) C dX12_decode_133 rfl ?_
          refine rn_bipush (v := nI 50) C dX12_decode_135 rfl ?_
          refine rs_vz C dX12_decode_137 mk_X12_rootOf lv_X12_154 (c_mroot (S := ((mdec_l28 c mo d nb at_ ((S.1 (nb) (at_ + (cB c - 1))) >>> ((nI (7)) &&& 31)) (mzero_f (mo) (50) S) (cB c)), (mzero_f (mo) (50) S).2.1, (mzero_f (mo) (50) S).2.2)) hM (by omega) (by omega) (by first | (simp only [zero28_F, mzero_F, msmall_F, mcopy_F, takeOff_F, mfold_F, mmul_F, mplus_F, mminus_F, mpow_F, minv_F, mneutral_F, mcopyP_F, mneg_F, msum_F, mmany_F, mroot_F, mbase_F, menc_F]; with_reducible exact hcn) | with_reducible exact hcn | exact hcn) (by first | (simp only [zero28_F, mzero_F, msmall_F, mcopy_F, takeOff_F, mfold_F, mmul_F, mplus_F, mminus_F, mpow_F, minv_F, mneutral_F, mcopyP_F, mneg_F, msum_F, mmany_F, mroot_F, mbase_F, menc_F]; with_reducible exact hpc) | with_reducible exact hpc | exact hpc)) hM0 rfl rfl rfl rfl (by decide) (Nat.le_of_ble_eq_true rfl) (by decide) (by decide) ?_
          refine rn_if_ne (tgt := 145) C dX12_decode_140 (by decide) (fun hb6 => ?_) (fun hb6 => ?_)
          · skip
            refine rn_aload_n C dX12_decode_145 rfl ?_
            refine rn_bipush (v := nI 51) C dX12_decode_146 rfl ?_
            refine rs_vz C dX12_decode_148 mk_X12_isZero lv_X12_227 (cp_misZero hM (by omega)) hM0 rfl rfl rfl rfl (by decide) (Nat.le_of_ble_eq_true rfl) (by decide) (by decide) ?_
            refine rn_if_eq (tgt := 162) C dX12_decode_151 (by decide) (fun hb7 => ?_) (fun hb7 => ?_)
            · skip
              refine rn_aload_n C dX12_decode_162 rfl ?_
              refine rs_get C dX12_decode_163 fl_X12_41 hM0 rfl ?_
              refine rn_sipush (v := nI 1632) C dX12_decode_166 rfl ?_
              refine rs_iaload C dX12_decode_169 hm7 rfl (by omega) (by decide) ?_
              refine rn_iconst (v := nI 1) C dX12_decode_170 rfl ?_
              refine rn_iand C dX12_decode_171 rfl ?_
              refine rn_iload C dX12_decode_172 rfl ?_
              refine rn_icmp_eq (tgt := 193) C dX12_decode_174 (by decide) (fun hb8 => ?_) (fun hb8 => ?_)
              · skip
                refine rn_aload_n C dX12_decode_193 rfl ?_
                refine rn_iload_n C dX12_decode_194 rfl ?_
                refine rn_bipush (v := nI 51) C dX12_decode_195 rfl ?_
                refine rs_vv C dX12_decode_197 mk_X12_copy lv_X12_194 (c_mcopy hM (by omega) (by omega)) hM0 rfl rfl rfl rfl (by decide) (Nat.le_of_ble_eq_true rfl) (by decide) (by decide) ?_
                refine rn_aload_n C dX12_decode_200 rfl ?_
                refine rn_iload_n C dX12_decode_201 rfl ?_
                refine rn_iconst (v := nI 1) C dX12_decode_202 rfl ?_
                refine rn_iadd C dX12_decode_203 (nI_add _ _) ?_
                refine rn_bipush (v := nI 50) C dX12_decode_204 rfl ?_
                refine rs_vv C dX12_decode_206 mk_X12_copy lv_X12_194 (c_mcopy hM (by omega) (by omega)) hM0 rfl rfl rfl rfl (by decide) (Nat.le_of_ble_eq_true rfl) (by decide) (by decide) ?_
                refine rn_aload_n C dX12_decode_209 rfl ?_
                refine rn_iload_n C dX12_decode_210 rfl ?_
                refine rn_iconst (v := nI 2) C dX12_decode_211 rfl ?_
                refine rn_iadd C dX12_decode_212 (nI_add _ _) ?_
                refine rn_iconst (v := nI 1) C dX12_decode_213 rfl ?_
                refine rs_vv C dX12_decode_214 mk_X12_small lv_X12_136 (c_msmall hM (by omega)) hM0 rfl rfl rfl rfl (by decide) (Nat.le_of_ble_eq_true rfl) (by decide) (by decide) ?_
                refine rn_iconst (v := nI 1) C dX12_decode_217 rfl ?_
                exact rn_zret C Rt dX12_decode_218 (by first | rfl | exact rfl) (pi_of ((((((if_neg (fun q => q hb2)).trans (if_neg (fun q => q hb4))).trans (if_pos hb6)).trans (if_pos hb7)).trans (if_pos hb8)).trans (tupi _ _))) (Nat.zero_le _) (Nat.zero_le _)
              · skip
                refine rn_aload_n C dX12_decode_177 rfl ?_
                refine rn_bipush (v := nI 25) C dX12_decode_178 rfl ?_
                refine rs_vv C dX12_decode_180 mk_X12_zero lv_X12_148 (c_mzero hM (by omega)) hM0 rfl rfl rfl rfl (by decide) (Nat.le_of_ble_eq_true rfl) (by decide) (by decide) ?_
                refine rn_aload_n C dX12_decode_183 rfl ?_
                refine rn_bipush (v := nI 51) C dX12_decode_184 rfl ?_
                refine rn_bipush (v := nI 25) C dX12_decode_186 rfl ?_
                refine rn_bipush (v := nI 51) C dX12_decode_188 rfl ?_
                refine rs_vv C dX12_decode_190 mk_X12_minus lv_X12_151 (c_mminus hM (by omega) (by omega) (by omega) (by first | (simp only [zero28_F, mzero_F, msmall_F, mcopy_F, takeOff_F, mfold_F, mmul_F, mplus_F, mminus_F, mpow_F, minv_F, mneutral_F, mcopyP_F, mneg_F, msum_F, mmany_F, mroot_F, mbase_F, menc_F]; with_reducible exact hcn) | with_reducible exact hcn | exact hcn) (by first | (simp only [zero28_F, mzero_F, msmall_F, mcopy_F, takeOff_F, mfold_F, mmul_F, mplus_F, mminus_F, mpow_F, minv_F, mneutral_F, mcopyP_F, mneg_F, msum_F, mmany_F, mroot_F, mbase_F, menc_F]; with_reducible exact hpc) | with_reducible exact hpc | exact hpc)) hM0 rfl rfl rfl rfl (by decide) (Nat.le_of_ble_eq_true rfl) (by decide) (by decide) ?_
                refine rn_aload_n C dX12_decode_193 rfl ?_
                refine rn_iload_n C dX12_decode_194 rfl ?_
                refine rn_bipush (v := nI 51) C dX12_decode_195 rfl ?_
                refine rs_vv C dX12_decode_197 mk_X12_copy lv_X12_194 (c_mcopy hM (by omega) (by omega)) hM0 rfl rfl rfl rfl (by decide) (Nat.le_of_ble_eq_true rfl) (by decide) (by decide) ?_
                refine rn_aload_n C dX12_decode_200 rfl ?_
                refine rn_iload_n C dX12_decode_201 rfl ?_
                refine rn_iconst (v := nI 1) C dX12_decode_202 rfl ?_
                refine rn_iadd C dX12_decode_203 (nI_add _ _) ?_
                refine rn_bipush (v := nI 50) C dX12_decode_204 rfl ?_
                refine rs_vv C dX12_decode_206 mk_X12_copy lv_X12_194 (c_mcopy hM (by omega) (by omega)) hM0 rfl rfl rfl rfl (by decide) (Nat.le_of_ble_eq_true rfl) (by decide) (by decide) ?_
                refine rn_aload_n C dX12_decode_209 rfl ?_
                refine rn_iload_n C dX12_decode_210 rfl ?_
                refine rn_iconst (v := nI 2) C dX12_decode_211 rfl ?_
                refine rn_iadd C dX12_decode_212 (nI_add _ _) ?_
                refine rn_iconst (v := nI 1) C dX12_decode_213 rfl ?_
                refine rs_vv C dX12_decode_214 mk_X12_small lv_X12_136 (c_msmall hM (by omega)) hM0 rfl rfl rfl rfl (by decide) (Nat.le_of_ble_eq_true rfl) (by decide) (by decide) ?_
                refine rn_iconst (v := nI 1) C dX12_decode_217 rfl ?_
                exact rn_zret C Rt dX12_decode_218 (by first | rfl | exact rfl) (pi_of ((((((if_neg (fun q => q hb2)).trans (if_neg (fun q => q hb4))).trans (if_pos hb6)).trans (if_pos hb7)).trans (if_neg hb8)).trans (tupi _ _))) (Nat.zero_le _) (Nat.zero_le _)
            · skip
              refine rn_iload C dX12_decode_154 rfl ?_
              refine rn_iconst (v := nI 1) C dX12_decode_156 rfl ?_
              refine rn_icmp_ne (tgt := 162) C dX12_decode_157 (by decide) (fun hb10 => ?_) (fun hb10 => ?_)
              · skip
                refine rn_aload_n C dX12_decode_162 rfl ?_
                refine rs_get C dX12_decode_163 fl_X12_41 hM0 rfl ?_
                refine rn_sipush (v := nI 1632) C dX12_decode_166 rfl ?_
                refine rs_iaload C dX12_decode_169 hm7 rfl (by omega) (by decide) ?_
                refine rn_iconst (v := nI 1) C dX12_decode_170 rfl ?_
                refine rn_iand C dX12_decode_171 rfl ?_
                refine rn_iload C dX12_decode_172 rfl ?_
                refine rn_icmp_eq (tgt := 193) C dX12_decode_174 (by decide) (fun hb11 => ?_) (fun hb11 => ?_)
                · skip
                  refine rn_aload_n C dX12_decode_193 rfl ?_
                  refine rn_iload_n C dX12_decode_194 rfl ?_
                  refine rn_bipush (v := nI 51) C dX12_decode_195 rfl ?_
                  refine rs_vv C dX12_decode_197 mk_X12_copy lv_X12_194 (c_mcopy hM (by omega) (by omega)) hM0 rfl rfl rfl rfl (by decide) (Nat.le_of_ble_eq_true rfl) (by decide) (by decide) ?_
                  refine rn_aload_n C dX12_decode_200 rfl ?_
                  refine rn_iload_n C dX12_decode_201 rfl ?_
                  refine rn_iconst (v := nI 1) C dX12_decode_202 rfl ?_
                  refine rn_iadd C dX12_decode_203 (nI_add _ _) ?_
                  refine rn_bipush (v := nI 50) C dX12_decode_204 rfl ?_
                  refine rs_vv C dX12_decode_206 mk_X12_copy lv_X12_194 (c_mcopy hM (by omega) (by omega)) hM0 rfl rfl rfl rfl (by decide) (Nat.le_of_ble_eq_true rfl) (by decide) (by decide) ?_
                  refine rn_aload_n C dX12_decode_209 rfl ?_
                  refine rn_iload_n C dX12_decode_210 rfl ?_
                  refine rn_iconst (v := nI 2) C dX12_decode_211 rfl ?_
                  refine rn_iadd C dX12_decode_212 (nI_add _ _) ?_
                  refine rn_iconst (v := nI 1) C dX12_decode_213 rfl ?_
                  refine rs_vv C dX12_decode_214 mk_X12_small lv_X12_136 (c_msmall hM (by omega)) hM0 rfl rfl rfl rfl (by decide) (Nat.le_of_ble_eq_true rfl) (by decide) (by decide) ?_
                  refine rn_iconst (v := nI 1) C dX12_decode_217 rfl ?_
                  exact rn_zret C Rt dX12_decode_218 (by first | rfl | exact rfl) (pi_of (((((((if_neg (fun q => q hb2)).trans (if_neg (fun q => q hb4))).trans (if_pos hb6)).trans (if_neg hb7)).trans (if_pos hb10)).trans (if_pos hb11)).trans (tupi _ _))) (Nat.zero_le _) (Nat.zero_le _)
                · skip
                  refine rn_aload_n C dX12_decode_177 rfl ?_
                  refine rn_bipush (v := nI 25) C dX12_decode_178 rfl ?_
                  refine rs_vv C dX12_decode_180 mk_X12_zero lv_X12_148 (c_mzero hM (by omega)) hM0 rfl rfl rfl rfl (by decide) (Nat.le_of_ble_eq_true rfl) (by decide) (by decide) ?_
                  refine rn_aload_n C dX12_decode_183 rfl ?_
                  refine rn_bipush (v := nI 51) C dX12_decode_184 rfl ?_
                  refine rn_bipush (v := nI 25) C dX12_decode_186 rfl ?_
                  refine rn_bipush (v := nI 51) C dX12_decode_188 rfl ?_
                  refine rs_vv C dX12_decode_190 mk_X12_minus lv_X12_151 (c_mminus hM (by omega) (by omega) (by omega) (by first | (simp only [zero28_F, mzero_F, msmall_F, mcopy_F, takeOff_F, mfold_F, mmul_F, mplus_F, mminus_F, mpow_F, minv_F, mneutral_F, mcopyP_F, mneg_F, msum_F, mmany_F, mroot_F, mbase_F, menc_F]; with_reducible exact hcn) | with_reducible exact hcn | exact hcn) (by first | (simp only [zero28_F, mzero_F, msmall_F, mcopy_F, takeOff_F, mfold_F, mmul_F, mplus_F, mminus_F, mpow_F, minv_F, mneutral_F, mcopyP_F, mneg_F, msum_F, mmany_F, mroot_F, mbase_F, menc_F]; with_reducible exact hpc) | with_reducible exact hpc | exact hpc)) hM0 rfl rfl rfl rfl (by decide) (Nat.le_of_ble_eq_true rfl) (by decide) (by decide) ?_
                  refine rn_aload_n C dX12_decode_193 rfl ?_
                  refine rn_iload_n C dX12_decode_194 rfl ?_
                  refine rn_bipush (v := nI 51) C dX12_decode_195 rfl ?_
                  refine rs_vv C dX12_decode_197 mk_X12_copy lv_X12_194 (c_mcopy hM (by omega) (by omega)) hM0 rfl rfl rfl rfl (by decide) (Nat.le_of_ble_eq_true rfl) (by decide) (by decide) ?_
                  refine rn_aload_n C dX12_decode_200 rfl ?_
                  refine rn_iload_n C dX12_decode_201 rfl ?_
                  refine rn_iconst (v := nI 1) C dX12_decode_202 rfl ?_
                  refine rn_iadd C dX12_decode_203 (nI_add _ _) ?_
                  refine rn_bipush (v := nI 50) C dX12_decode_204 rfl ?_
                  refine rs_vv C dX12_decode_206 mk_X12_copy lv_X12_194 (c_mcopy hM (by omega) (by omega)) hM0 rfl rfl rfl rfl (by decide) (Nat.le_of_ble_eq_true rfl) (by decide) (by decide) ?_
                  refine rn_aload_n C dX12_decode_209 rfl ?_
                  refine rn_iload_n C dX12_decode_210 rfl ?_
                  refine rn_iconst (v := nI 2) C dX12_decode_211 rfl ?_
                  refine rn_iadd C dX12_decode_212 (nI_add _ _) ?_
                  refine rn_iconst (v := nI 1) C dX12_decode_213 rfl ?_
                  refine rs_vv C dX12_decode_214 mk_X12_small lv_X12_136 (c_msmall hM (by omega)) hM0 rfl rfl rfl rfl (by decide) (Nat.le_of_ble_eq_true rfl) (by decide) (by decide) ?_
                  refine rn_iconst (v := nI 1) C dX12_decode_217 rfl ?_
                  exact rn_zret C Rt dX12_decode_218 (by first | rfl | exact rfl) (pi_of (((((((if_neg (fun q => q hb2)).trans (if_neg (fun q => q hb4))).trans (if_pos hb6)).trans (if_neg hb7)).trans (if_pos hb10)).trans (if_neg hb11)).trans (tupi _ _))) (Nat.zero_le _) (Nat.zero_le _)
              · skip
                refine rn_iconst (v := nI 0) C dX12_decode_160 rfl ?_
                exact rn_zret C Rt dX12_decode_161 (by first | rfl | exact rfl) (pi_of ((((((if_neg (fun q => q hb2)).trans (if_neg (fun q => q hb4))).trans (if_pos hb6)).trans (if_neg hb7)).trans (if_neg (fun q => q hb10))).trans (tupi _ _))) (Nat.zero_le _) (Nat.zero_le _)
          · skip
            refine rn_iconst (v := nI 0) C dX12_decode_143 rfl ?_
            exact rn_zret C Rt dX12_decode_144 (by first | rfl | exact rfl) (pi_of ((((if_neg (fun q => q hb2)).trans (if_neg (fun q => q hb4))).trans (if_neg (fun q => q hb6))).trans (tupi _ _))) (Nat.zero_le _) (Nat.zero_le _)
    · skip
      refine rn_iload C dX12_decode_28 rfl ?_
      refine rn_iload C dX12_decode_30 rfl ?_
      refine rs_gt (tgt := 105) C dX12_decode_32 (by decide) rfl rfl (by omega) (by omega) (fun q => absurd q (by omega)) (fun _ => ?_)
      refine rn_iload C dX12_decode_35 rfl ?_
      refine rn_iload C dX12_decode_37 rfl ?_
      have K39_13 : Rn X 60 [(0, .ref (k_b X.1 + (mo))), (1, .int (nI (d))), (2, .ref (k_b X.1 + (nb))), (3, .int (nI (at_))), (4, .int (nI (cB c - 1))), (5, .int (((S.1 (nb) (at_ + (cB c - 1))) >>> ((nI (7)) &&& 31)))), (6, .int (nI (i28)))] [.int ((if (nI (i28)) ≠ (nI (cB c - 1)) then (mdec_l28 c mo d nb at_ ((S.1 (nb) (at_ + (cB c - 1))) >>> ((nI (7)) &&& 31)) (mzero_f (mo) (50) S) i28) (nb) (at_ + i28) else ((mdec_l28 c mo d nb at_ ((S.1 (nb) (at_ + (cB c - 1))) >>> ((nI (7)) &&& 31)) (mzero_f (mo) (50) S) i28) (nb) (at_ + i28)) &&& (nI (127))))] (inst X.1 L (mdec_l28 c mo d nb at_ ((S.1 (nb) (at_ + (cB c - 1))) >>> ((nI (7)) &&& 31)) (mzero_f (mo) (50) S) i28) (mzero_f (mo) (50) S).2.1 (mzero_f (mo) (50) S).2.2) n 0 0 := by
        refine rn_istore (lv' := [(0, _), (1, _), (2, _), (3, _), (4, _), (5, _), (6, _), (7, _)]) C dX12_decode_60 (by decide) rfl ?_
        refine rn_aload_n C dX12_decode_62 rfl ?_
        refine rs_get C dX12_decode_63 fl_X12_41 hM0 rfl ?_
        refine rn_sipush (v := nI 1600) C dX12_decode_66 rfl ?_
        refine rn_iload C dX12_decode_69 rfl ?_
        refine rn_iconst (v := nI 1) C dX12_decode_71 rfl ?_
        refine rn_ishr C dX12_decode_72 (pk_shrN (by omega) _ 1 (by decide)) ?_
        refine rn_iadd C dX12_decode_73 (nI_add _ _) ?_
        refine rn_aload_n C dX12_decode_74 rfl ?_
        refine rs_get C dX12_decode_75 fl_X12_41 hM0 rfl ?_
        refine rn_sipush (v := nI 1600) C dX12_decode_78 rfl ?_
        refine rn_iload C dX12_decode_81 rfl ?_
        refine rn_iconst (v := nI 1) C dX12_decode_83 rfl ?_
        refine rn_ishr C dX12_decode_84 (pk_shrN (by omega) _ 1 (by decide)) ?_
        refine rn_iadd C dX12_decode_85 (nI_add _ _) ?_
        refine rs_iaload C dX12_decode_86 hm7 rfl (by omega) (by decide) ?_
        refine rn_iload C dX12_decode_87 rfl ?_
        refine rn_bipush (v := nI 8) C dX12_decode_89 rfl ?_
        refine rn_iload C dX12_decode_91 rfl ?_
        refine rn_iconst (v := nI 1) C dX12_decode_93 rfl ?_
        refine rn_iand C dX12_decode_94 (pk_andN (by omega) 1 (by decide)) ?_
        refine rn_imul C dX12_decode_95 (pk_mul _ _) ?_
        refine rn_ishl C dX12_decode_96 rfl ?_
        refine rn_ior C dX12_decode_97 rfl ?_
        refine rs_iastore C dX12_decode_98 hm7 rfl (by omega) (by decide) ?_
        refine rn_iinc (lv' := [(0, _), (1, _), (2, _), (3, _), (4, _), (5, _), (6, _), (7, _)]) C dX12_decode_99 rfl (nI_inc _) (by decide) rfl ?_
        refine rn_goto (tgt := 28) C dX12_decode_102 (by decide) ?_
        exact rn_ks [0, 1, 2, 3, 4, 5, 6] ih28 rfl
      refine rn_icmp_ne (tgt := 54) C dX12_decode_39 (by decide) (fun hb13 => ?_) (fun hb13 => ?_)
      · skip
        refine rn_aload_n C dX12_decode_54 rfl ?_
        refine rn_iload_n C dX12_decode_55 rfl ?_
        refine rn_iload C dX12_decode_56 rfl ?_
        refine rn_iadd C dX12_decode_58 (nI_add _ _) ?_
        refine rs_iaload C dX12_decode_59 hnb rfl (by omega) hm ?_
        rw [if_pos hb13] at K39_13
        exact K39_13
      · skip
        refine rn_aload_n C dX12_decode_42 rfl ?_
        refine rn_iload_n C dX12_decode_43 rfl ?_
        refine rn_iload C dX12_decode_44 rfl ?_
        refine rn_iadd C dX12_decode_46 (nI_add _ _) ?_
        refine rs_iaload C dX12_decode_47 hnb rfl (by omega) hm ?_
        refine rn_bipush (v := nI 127) C dX12_decode_48 rfl ?_
        refine rn_iand C dX12_decode_50 rfl ?_
        refine rn_goto (tgt := 60) C dX12_decode_51 (by decide) ?_
        rw [if_neg (fun q => q hb13)] at K39_13
        exact K39_13
  exact lp28 0 (Nat.zero_le _)
def mmod_l129 (c : Bool) (mo : Nat) (da : Nat) (nb : Nat) (nn : Nat) (S : StT)  : Nat → (Nat → Nat → Int32)
  | 0 => S.1
  | i129 + 1 => let y129_0 := (mmod_l129 c mo da nb nn S i129); (let I2 := va_up y129_0 (da) (upd (y129_0 (da)) (i129) ((if (nI (56)) ≤ (nI (i129)) then nI (0) else ((y129_0 (mo + 7) (1696 + (i129 / 2 ^ 1))) >>> ((nI (8 * (i129 % 2 ^ 1))) &&& 31)) &&& (nI (255))))); I2)
def mmod_l47 (c : Bool) (mo : Nat) (da : Nat) (nb : Nat) (nn : Nat) (i23 : Nat) (y23_0 : StT) (v3 : Int32) (S : StT) (z6 : Int32) : Nat → Int32 × (Nat → Nat → Int32)
  | 0 => (z6, S.1)
  | i47 + 1 => let y47_0 := (mmod_l47 c mo da nb nn i23 y23_0 v3 S z6 i47).1; let y47_1 := (mmod_l47 c mo da nb nn i23 y23_0 v3 S z6 i47).2; (let I7 := va_up y47_1 (mo + 7) (upd (y47_1 (mo + 7)) (1696 + i47) ((((nI (2)) * (y47_1 (mo + 7) (1696 + i47))) + (y47_0)) &&& (65535))); ((((nI (2)) * (y47_1 (mo + 7) (1696 + i47))) + (y47_0)) >>> ((nI (16)) &&& 31), I7))
def mmod_l23 (c : Bool) (mo : Nat) (da : Nat) (nb : Nat) (nn : Nat) (S : StT)  : Nat → StT
  | 0 => S
  | i23 + 1 => let y23_0 := (mmod_l23 c mo da nb nn S i23); (let v3 := ((y23_0.1 (nb) (((8 * nn) - 1 - i23) / 2 ^ 3)) >>> ((nI (((8 * nn) - 1 - i23) % 2 ^ 3)) &&& 31)) &&& (nI (1)); (let r4 := (atLeast_f (mo) (53) (19 + (bN c)) ((mmod_l47 c mo da nb nn i23 y23_0 v3 y23_0 v3 28).2, y23_0.2.1, y23_0.2.2)).1; (if (r4) = 0 then ((mmod_l47 c mo da nb nn i23 y23_0 v3 y23_0 v3 28).2, y23_0.2.1, y23_0.2.2) else (let S6 := takeOff_f (mo) (53) (19 + (bN c)) ((mmod_l47 c mo da nb nn i23 y23_0 v3 y23_0 v3 28).2, y23_0.2.1, y23_0.2.2); S6))))
theorem mmod_l23_F (c : Bool) (mo : Nat) (da : Nat) (nb : Nat) (nn : Nat) (S : StT)  : ∀ i, (mmod_l23 c mo da nb nn S i).2.2 = S.2.2 := by
  intro i
  induction i with
  | zero => rfl
  | succ i ih =>
    unfold mmod_l23
    dsimp only
    (repeat' split) <;> simp only [zero28_F, mzero_F, msmall_F, mcopy_F, takeOff_F, mfold_F, mmul_F, mplus_F, mminus_F, mpow_F, minv_F, mneutral_F, mcopyP_F, mneg_F, msum_F, mmany_F, mroot_F, mbase_F, menc_F, ih]
def mmod_f (c : Bool) (mo : Nat) (da : Nat) (nb : Nat) (nn : Nat) (S : StT) : StT := ((mmod_l129 c mo da nb nn (mmod_l23 c mo da nb nn (zero28_f (mo) (53) S) (8 * nn)) 57), (mmod_l23 c mo da nb nn (zero28_f (mo) (53) S) (8 * nn)).2.1, (mmod_l23 c mo da nb nn (zero28_f (mo) (53) S) (8 * nn)).2.2)
theorem mmod_F (c : Bool) (mo : Nat) (da : Nat) (nb : Nat) (nn : Nat) (S : StT) : (mmod_f c mo da nb nn S).2.2 = S.2.2 := by
  unfold mmod_f; simp only [mmod_l23_F, zero28_F]
set_option maxRecDepth 100000 in
set_option maxHeartbeats 4000000 in
theorem c_mmod {k : KX} {L : Nat → Option Sh} {S : StT} {n : Nat} {c : Bool} {mo : Nat} {da : Nat} {nb : Nat} {m : Nat} {nn : Nat} (hM : ModelAt k L mo) (hda : L da = some (sI 57)) (hnb : L nb = some (sI m)) (hm : m < 2 ^ 31) (hnn : nn ≤ m) (hn0 : 1 ≤ nn) (hn1 : nn ≤ 128) (hcn : S.2.2 mo 13 = nI (bN c)) (hpc : S.2.2 mo 14 = nI (pN c)) :
    Cs k yX12_modulo cX12_modulo 9 none 1 0 0 [.ref (k_b k + (mo)), .ref (k_b k + (da)), .ref (k_b k + (nb)), .int (nI (nn))] (inst k L S.1 S.2.1 S.2.2) n (Pv k L n (mmod_f c mo da nb nn S)) := by
  refine cs_of (by decide) (Nat.le_of_ble_eq_true rfl) ?_
  intro X hXk C Rt hnm
  subst hXk
  have hM9 := hM
  obtain ⟨hM0, hm1, hm2, hm3, hm4, hm5, hm6, hm7, hm8, hm9, hm10, hm11, hm12, hm13, hm14, hm15, hm16, hm17, hm18, hm19, hm20, hm21, hm22, hm23, hm24, hm25, hm26, hm27⟩ := hM9
  obtain ⟨hp1, hp2⟩ := pN_le c
  have hbn := bN_le c
  obtain ⟨hk1, hk2⟩ := cB_le c
  refine rn_lv [(0, .ref (k_b X.1 + (mo))), (1, .ref (k_b X.1 + (da))), (2, .ref (k_b X.1 + (nb))), (3, .int (nI (nn)))] (fun q h => h) ?_
  refine rn_bipush (v := nI 19) C dX12_modulo_0 rfl ?_
  refine rn_aload_n C dX12_modulo_2 rfl ?_
  refine rs_getFe C dX12_modulo_3 fl_X12_51 hM0 rfl hcn ?_
  refine rn_iadd C dX12_modulo_6 (nI_add _ _) ?_
  refine rn_istore (lv' := [(0, _), (1, _), (2, _), (3, _), (4, _)]) C dX12_modulo_7 (by decide) rfl ?_
  refine rn_aload_n C dX12_modulo_9 rfl ?_
  refine rn_bipush (v := nI 53) C dX12_modulo_10 rfl ?_
  refine rs_vv C dX12_modulo_12 mk_X12_zero28 lv_X12_168 (c_zero28 hM (by omega)) hM0 rfl rfl rfl rfl (by decide) (Nat.le_of_ble_eq_true rfl) (by decide) (by decide) ?_
  refine rn_bipush (v := nI 8) C dX12_modulo_15 rfl ?_
  refine rn_iload_n C dX12_modulo_17 rfl ?_
  refine rn_imul C dX12_modulo_18 (pk_mul _ _) ?_
  refine rn_iconst (v := nI 1) C dX12_modulo_19 rfl ?_
  refine rn_isub C dX12_modulo_20 (pk_sub (by omega)) ?_
  refine rn_istore (lv' := [(0, _), (1, _), (2, _), (3, _), (4, _), (5, _)]) C dX12_modulo_21 (by decide) rfl ?_
  have lp23 : ∀ i23, i23 ≤ 8 * nn → Rn X 23 [(0, .ref (k_b X.1 + (mo))), (1, .ref (k_b X.1 + (da))), (2, .ref (k_b X.1 + (nb))), (3, .int (nI (nn))), (4, .int (nI (19 + (bN c)))), (5, .int (dn ((8 * nn) - i23)))] [] (inst X.1 L (mmod_l23 c mo da nb nn (zero28_f (mo) (53) S) i23).1 (mmod_l23 c mo da nb nn (zero28_f (mo) (53) S) i23).2.1 (mmod_l23 c mo da nb nn (zero28_f (mo) (53) S) i23).2.2) n 0 0 := by
    refine upto _ _ ?_ (fun i23 hi23 ih23 => ?_)
    · skip
      rw [dn_end]
      refine rn_iload C dX12_modulo_23 rfl ?_
      refine rn_if_lt (tgt := 126) C dX12_modulo_25 (by decide) (fun _ => ?_) (fun q => absurd (by decide) q)
      refine rn_iconst (v := nI 0) C dX12_modulo_126 rfl ?_
      refine rn_istore (lv' := [(0, _), (1, _), (2, _), (3, _), (4, _), (5, _)]) C dX12_modulo_127 (by decide) rfl ?_
      have lp129 : ∀ i129, i129 ≤ 57 → Rn X 129 [(0, .ref (k_b X.1 + (mo))), (1, .ref (k_b X.1 + (da))), (2, .ref (k_b X.1 + (nb))), (3, .int (nI (nn))), (4, .int (nI (19 + (bN c)))), (5, .int (nI (i129)))] [] (inst X.1 L (mmod_l129 c mo da nb nn (mmod_l23 c mo da nb nn (zero28_f (mo) (53) S) (8 * nn)) i129) (mmod_l23 c mo da nb nn (zero28_f (mo) (53) S) (8 * nn)).2.1 (mmod_l23 c mo da nb nn (zero28_f (mo) (53) S) (8 * nn)).2.2) n 0 0 := by
        refine upto _ _ ?_ (fun i129 hi129 ih129 => ?_)
        · skip
          refine rn_iload C dX12_modulo_129 rfl ?_
          refine rn_bipush (v := nI 57) C dX12_modulo_131 rfl ?_
          refine rs_ge (tgt := 182) C dX12_modulo_133 (by decide) rfl rfl (by omega) (by omega) (fun _ => ?_) (fun q => absurd q (by omega))
          exact rn_vret C Rt dX12_modulo_182 (pv_of rfl) (Nat.zero_le _) (Nat.zero_le _)
        · skip
          refine rn_iload C dX12_modulo_129 rfl ?_
          refine rn_bipush (v := nI 57) C dX12_modulo_131 rfl ?_
          refine rs_ge (tgt := 182) C dX12_modulo_133 (by decide) rfl rfl (by omega) (by omega) (fun q => absurd q (by omega)) (fun _ => ?_)
          refine rn_aload_n C dX12_modulo_136 rfl ?_
          refine rn_iload C dX12_modulo_137 rfl ?_
          refine rn_iload C dX12_modulo_139 rfl ?_
          refine rn_bipush (v := nI 56) C dX12_modulo_141 rfl ?_
          have K143_1 : Rn X 175 [(0, .ref (k_b X.1 + (mo))), (1, .ref (k_b X.1 + (da))), (2, .ref (k_b X.1 + (nb))), (3, .int (nI (nn))), (4, .int (nI (19 + (bN c)))), (5, .int (nI (i129)))] [.int ((if (nI (56)) ≤ (nI (i129)) then nI (0) else (((mmod_l129 c mo da nb nn (mmod_l23 c mo da nb nn (zero28_f (mo) (53) S) (8 * nn)) i129) (mo + 7) (1696 + (i129 / 2 ^ 1))) >>> ((nI (8 * (i129 % 2 ^ 1))) &&& 31)) &&& (nI (255)))), .int (nI (i129)), .ref (k_b X.1 + (da))] (inst X.1 L (mmod_l129 c mo da nb nn (mmod_l23 c mo da nb nn (zero28_f (mo) (53) S) (8 * nn)) i129) (mmod_l23 c mo da nb nn (zero28_f (mo) (53) S) (8 * nn)).2.1 (mmod_l23 c mo da nb nn (zero28_f (mo) (53) S) (8 * nn)).2.2) n 0 0 := by
            refine rs_iastore C dX12_modulo_175 hda rfl (by omega) (by decide) ?_
            refine rn_iinc (lv' := [(0, _), (1, _), (2, _), (3, _), (4, _), (5, _)]) C dX12_modulo_176 rfl (nI_inc _) (by decide) rfl ?_
            refine rn_goto (tgt := 129) C dX12_modulo_179 (by decide) ?_
            exact rn_ks [0, 1, 2, 3, 4, 5] ih129 rfl
          refine rn_icmp_ge (tgt := 174) C dX12_modulo_143 (by decide) (fun hb1 => ?_) (fun hb1 => ?_)
          · skip
            refine rn_iconst (v := nI 0) C dX12_modulo_174 rfl ?_
            rw [if_pos hb1] at K143_1
            exact K143_1
          · skip
            refine rn_aload_n C dX12_modulo_146 rfl ?_
            refine rs_get C dX12_modulo_147 fl_X12_41 hM0 rfl ?_
            refine rn_sipush (v := nI 1696) C dX12_modulo_150 rfl ?_
            refine rn_iload C dX12_modulo_153 rfl ?_
            refine rn_iconst (v := nI 1) C dX12_modulo_155 rfl ?_
            refine rn_ishr C dX12_modulo_156 (pk_shrN (by omega) _ 1 (by decide)) ?_
            refine rn_iadd C dX12_modulo_157 (nI_add _ _) ?_
            refine rs_iaload C dX12_modulo_158 hm7 rfl (by omega) (by decide) ?_
            refine rn_bipush (v := nI 8) C dX12_modulo_159 rfl ?_
            refine rn_iload C dX12_modulo_161 rfl ?_
            refine rn_iconst (v := nI 1) C dX12_modulo_163 rfl ?_
            refine rn_iand C dX12_modulo_164 (pk_andN (by omega) 1 (by decide)) ?_
            refine rn_imul C dX12_modulo_165 (pk_mul _ _) ?_
            refine rn_ishr C dX12_modulo_166 rfl ?_
            refine rn_sipush (v := nI 255) C dX12_modulo_167 rfl ?_
            refine rn_iand C dX12_modulo_170 rfl ?_
            refine rn_goto (tgt := 175) C dX12_modulo_171 (by decide) ?_
            rw [if_neg hb1] at K143_1
            exact K143_1
      exact lp129 0 (Nat.zero_le _)
    · skip
      rw [dn_at hi23]
      refine rn_iload C dX12_modulo_23 rfl ?_
      refine rs_lt0 (tgt := 126) C dX12_modulo_25 (by decide) rfl (by omega) ?_
      refine rn_aload_n C dX12_modulo_28 rfl ?_
      refine rn_iload C dX12_modulo_29 rfl ?_
      refine rn_iconst (v := nI 3) C dX12_modulo_31 rfl ?_
      refine rn_ishr C dX12_modulo_32 (pk_shrN (by omega) _ 3 (by decide)) ?_
      refine rs_iaload C dX12_modulo_33 hnb rfl (by omega) hm ?_
      refine rn_iload C dX12_modulo_34 rfl ?_
      refine rn_bipush (v := nI 7) C dX12_modulo_36 rfl ?_
      refine rn_iand C dX12_modulo_38 (pk_andN (by omega) 3 (by decide)) ?_
      refine rn_ishr C dX12_modulo_39 rfl ?_
      refine rn_iconst (v := nI 1) C dX12_modulo_40 rfl ?_
      refine rn_iand C dX12_modulo_41 rfl ?_
      refine rn_istore (lv' := [(0, _), (1, _), (2, _), (3, _), (4, _), (5, _), (6, _)]) C dX12_modulo_42 (by decide) rfl ?_
      refine rn_iconst (v := nI 0) C dX12_modulo_44 rfl ?_
      refine rn_istore (lv' := [(0, _), (1, _), (2, _), (3, _), (4, _), (5, _), (6, _), (7, _)]) C dX12_modulo_45 (by decide) rfl ?_
      have lp47 : ∀ i47, i47 ≤ 28 → Rn X 47 [(0, .ref (k_b X.1 + (mo))), (1, .ref (k_b X.1 + (da))), (2, .ref (k_b X.1 + (nb))), (3, .int (nI (nn))), (4, .int (nI (19 + (bN c)))), (5, .int (nI ((8 * nn) - 1 - i23))), (6, .int ((mmod_l47 c mo da nb nn i23 (mmod_l23 c mo da nb nn (zero28_f (mo) (53) S) i23) ((((mmod_l23 c mo da nb nn (zero28_f (mo) (53) S) i23).1 (nb) (((8 * nn) - 1 - i23) / 2 ^ 3)) >>> ((nI (((8 * nn) - 1 - i23) % 2 ^ 3)) &&& 31)) &&& (nI (1))) (mmod_l23 c mo da nb nn (zero28_f (mo) (53) S) i23) ((((mmod_l23 c mo da nb nn (zero28_f (mo) (53) S) i23).1 (nb) (((8 * nn) - 1 - i23) / 2 ^ 3)) >>> ((nI (((8 * nn) - 1 - i23) % 2 ^ 3)) &&& 31)) &&& (nI (1))) i47).1)), (7, .int (nI (i47)))] [] (inst X.1 L (mmod_l47 c mo da nb nn i23 (mmod_l23 c mo da nb nn (zero28_f (mo) (53) S) i23) ((((mmod_l23 c mo da nb nn (zero28_f (mo) (53) S) i23).1 (nb) (((8 * nn) - 1 - i23) / 2 ^ 3)) >>> ((nI (((8 * nn) - 1 - i23) % 2 ^ 3)) &&& 31)) &&& (nI (1))) (mmod_l23 c mo da nb nn (zero28_f (mo) (53) S) i23) ((((mmod_l23 c mo da nb nn (zero28_f (mo) (53) S) i23).1 (nb) (((8 * nn) - 1 - i23) / 2 ^ 3)) >>> ((nI (((8 * nn) - 1 - i23) % 2 ^ 3)) &&& 31)) &&& (nI (1))) i47).2 (mmod_l23 c mo da nb nn (zero28_f (mo) (53) S) i23).2.1 (mmod_l23 c mo da nb nn (zero28_f (mo) (53) S) i23).2.2) n 0 0 := by
        refine upto _ _ ?_ (fun i47 hi47 ih47 => ?_)
        · skip
          refine rn_iload C dX12_modulo_47 rfl ?_
          refine rn_bipush (v := nI 28) C dX12_modulo_49 rfl ?_
          refine rs_ge (tgt := 101) C dX12_modulo_51 (by decide) rfl rfl (by omega) (by omega) (fun _ => ?_) (fun q => absurd q (by omega))
          refine rn_aload_n C dX12_modulo_101 rfl ?_
          refine rn_bipush (v := nI 53) C dX12_modulo_102 rfl ?_
          refine rn_iload C dX12_modulo_104 rfl ?_
          refine rs_vz C dX12_modulo_106 mk_X12_atLeast lv_X12_183 (cp_atLeast (S := ((mmod_l47 c mo da nb nn i23 (mmod_l23 c mo da nb nn (zero28_f (mo) (53) S) i23) ((((mmod_l23 c mo da nb nn (zero28_f (mo) (53) S) i23).1 (nb) (((8 * nn) - 1 - i23) / 2 ^ 3)) >>> ((nI (((8 * nn) - 1 - i23) % 2 ^ 3)) &&& 31)) &&& (nI (1))) (mmod_l23 c mo da nb nn (zero28_f (mo) (53) S) i23) ((((mmod_l23 c mo da nb nn (zero28_f (mo) (53) S) i23).1 (nb) (((8 * nn) - 1 - i23) / 2 ^ 3)) >>> ((nI (((8 * nn) - 1 - i23) % 2 ^ 3)) &&& 31)) &&& (nI (1))) 28).2, (mmod_l23 c mo da nb nn (zero28_f (mo) (53) S) i23).2.1, (mmod_l23 c mo da nb nn (zero28_f (mo) (53) S) i23).2.2)) hM (by omega) (by omega)) hM0 rfl rfl rfl rfl (by decide) (Nat.le_of_ble_eq_true rfl) (by decide) (by decide) ?_
          refine rn_if_eq (tgt := 120) C dX12_modulo_109 (by decide) (fun hb5 => ?_) (fun hb5 => ?_)
          · skip
            refine rn_iinc (lv' := [(0, _), (1, _), (2, _), (3, _), (4, _), (5, _), (6, _), (7, _)]) C dX12_modulo_120 rfl (dn_dec hi23) (by decide) rfl ?_
            refine rn_goto (tgt := 23) C dX12_modulo_123 (by decide) ?_
            rw [show mmod_l23 c mo da nb nn (zero28_f (mo) (53) S) (i23 + 1) = _ from (if_pos hb5)] at ih23
            exact rn_ks [0, 1, 2, 3, 4, 5] ih23 rfl
          · skip
            refine rn_aload_n C dX12_modulo_112 rfl ?_
            refine rn_bipush (v := nI 53) C dX12_modulo_113 rfl ?_
            refine rn_iload C dX12_modulo_115 rfl ?_
            refine rs_vv C dX12_modulo_117 mk_X12_takeOff lv_X12_186 (c_takeOff (S := ((mmod_l47 c mo da nb nn i23 (mmod_l23 c mo da nb nn (zero28_f (mo) (53) S) i23) ((((mmod_l23 c mo da nb nn (zero28_f (mo) (53) S) i23).1 (nb) (((8 * nn) - 1 - i23) / 2 ^ 3)) >>> ((nI (((8 * nn) - 1 - i23) % 2 ^ 3)) &&& 31)) &&& (nI (1))) (mmod_l23 c mo da nb nn (zero28_f (mo) (53) S) i23) ((((mmod_l23 c mo da nb nn (zero28_f (mo) (53) S) i23).1 (nb) (((8 * nn) - 1 - i23) / 2 ^ 3)) >>> ((nI (((8 * nn) - 1 - i23) % 2 ^ 3)) &&& 31)) &&& (nI (1))) 28).2, (mmod_l23 c mo da nb nn (zero28_f (mo) (53) S) i23).2.1, (mmod_l23 c mo da nb nn (zero28_f (mo) (53) S) i23).2.2)) hM (by omega) (by omega)) hM0 rfl rfl rfl rfl (by decide) (Nat.le_of_ble_eq_true rfl) (by decide) (by decide) ?_
            refine rn_iinc (lv' := [(0, _), (1, _), (2, _), (3, _), (4, _), (5, _), (6, _), (7, _)]) C dX12_modulo_120 rfl (dn_dec hi23) (by decide) rfl ?_
            refine rn_goto (tgt := 23) C dX12_modulo_123 (by decide) ?_
            rw [show mmod_l23 c mo da nb nn (zero28_f (mo) (53) S) (i23 + 1) = _ from (if_neg hb5)] at ih23
            exact rn_ks [0, 1, 2, 3, 4, 5] ih23 rfl
        · skip
          refine rn_iload C dX12_modulo_47 rfl ?_
          refine rn_bipush (v := nI 28) C dX12_modulo_49 rfl ?_
          refine rs_ge (tgt := 101) C dX12_modulo_51 (by decide) rfl rfl (by omega) (by omega) (fun q => absurd q (by omega)) (fun _ => ?_)
          refine rn_iconst (v := nI 2) C dX12_modulo_54 rfl ?_
          refine rn_aload_n C dX12_modulo_55 rfl ?_
          refine rs_get C dX12_modulo_56 fl_X12_41 hM0 rfl ?_
          refine rn_sipush (v := nI 1696) C dX12_modulo_59 rfl ?_
          refine rn_iload C dX12_modulo_62 rfl ?_
          refine rn_iadd C dX12_modulo_64 (nI_add _ _) ?_
          refine rs_iaload C dX12_modulo_65 hm7 rfl (by omega) (by decide) ?_
          refine rn_imul C dX12_modulo_66 rfl ?_
          refine rn_iload C dX12_modulo_67 rfl ?_
          refine rn_iadd C dX12_modulo_69 rfl ?_
          refine rn_istore (lv' := [(0, _), (1, _), (2, _), (3, _), (4, _), (5, _), (6, _), (7, _), (8, _)]) C dX12_modulo_70 (by decide) rfl ?_
          refine rn_aload_n C dX12_modulo_72 rfl ?_
          refine rs_get C dX12_modulo_73 fl_X12_41 hM0 rfl ?_
          refine rn_sipush (v := nI 1696) C dX12_modulo_76 rfl ?_
          refine rn_iload C dX12_modulo_79 rfl ?_
          refine rn_iadd C dX12_modulo_81 (nI_add _ _) ?_
          refine rn_iload C dX12_modulo_82 rfl ?_
          refine rn_ldc C dX12_modulo_84 lc_X12_117 ?_
          refine rn_iand C dX12_modulo_86 rfl ?_
          refine rs_iastore C dX12_modulo_87 hm7 rfl (by omega) (by decide) ?_
          refine rn_iload C dX12_modulo_88 rfl ?_
          refine rn_bipush (v := nI 16) C dX12_modulo_90 rfl ?_
          refine rn_ishr C dX12_modulo_92 rfl ?_
          refine rn_istore (lv' := [(0, _), (1, _), (2, _), (3, _), (4, _), (5, _), (6, _), (7, _), (8, _)]) C dX12_modulo_93 (by decide) rfl ?_
          refine rn_iinc (lv' := [(0, _), (1, _), (2, _), (3, _), (4, _), (5, _), (6, _), (7, _), (8, _)]) C dX12_modulo_95 rfl (nI_inc _) (by decide) rfl ?_
          refine rn_goto (tgt := 47) C dX12_modulo_98 (by decide) ?_
          exact rn_ks [0, 1, 2, 3, 4, 5, 6, 7] ih47 rfl
      exact lp47 0 (Nat.zero_le _)
  have hz23 := lp23 0 (Nat.zero_le _)
  rw [dn_at (N := 8 * nn) (i := 0) (by omega)] at hz23
  exact hz23
def mcomb_l112 (c : Bool) (mo : Nat) (S : StT) (z1 : Int32) : Nat → Int32 × (Nat → Nat → Int32)
  | 0 => (z1, S.1)
  | i112 + 1 => let y112_0 := (mcomb_l112 c mo S z1 i112).1; let y112_1 := (mcomb_l112 c mo S z1 i112).2; (let v3 := ((y112_1 (mo + 26) (i112)) + ((if (nI (57)) ≤ (nI (i112)) then nI (0) else y112_1 (mo + 23) (i112)))) + (y112_0); ((v3) >>> ((nI (8)) &&& 31), va_up y112_1 (mo + 26) (upd (y112_1 (mo + 26)) (i112) ((v3) &&& (nI (255))))))
def mcomb_l34 (c : Bool) (mo : Nat) (i24 : Nat) (y24_0 : (Nat → Nat → Int32)) (S : StT) (z2 : Int32) : Nat → Int32 × (Nat → Nat → Int32)
  | 0 => (z2, S.1)
  | i34 + 1 => let y34_0 := (mcomb_l34 c mo i24 y24_0 S z2 i34).1; let y34_1 := (mcomb_l34 c mo i24 y24_0 S z2 i34).2; (let v5 := ((y34_1 (mo + 26) (i24 + i34)) + ((y34_1 (mo + 24) (i24)) * (y34_1 (mo + 20) (i34)))) + (y34_0); ((v5) >>> ((nI (8)) &&& 31), va_up y34_1 (mo + 26) (upd (y34_1 (mo + 26)) (i24 + i34) ((v5) &&& (nI (255))))))
def mcomb_l24 (c : Bool) (mo : Nat) (S : StT)  : Nat → (Nat → Nat → Int32)
  | 0 => S.1
  | i24 + 1 => let y24_0 := (mcomb_l24 c mo S i24); (let I4 := va_up (mcomb_l34 c mo i24 y24_0 (y24_0, S.2.1, S.2.2) (nI (0)) 57).2 (mo + 26) (upd ((mcomb_l34 c mo i24 y24_0 (y24_0, S.2.1, S.2.2) (nI (0)) 57).2 (mo + 26)) (i24 + 57) ((mcomb_l34 c mo i24 y24_0 (y24_0, S.2.1, S.2.2) (nI (0)) 57).1)); I4)
def mcomb_l2 (c : Bool) (mo : Nat) (S : StT)  : Nat → (Nat → Nat → Int32)
  | 0 => S.1
  | i2 + 1 => let y2_0 := (mcomb_l2 c mo S i2); va_up y2_0 (mo + 26) (upd (y2_0 (mo + 26)) (i2) (nI (0)))
def mcomb_f (c : Bool) (mo : Nat) (S : StT) : StT := (let S1 := mmod_f c (mo) (mo + 24) (mo + 26) (115) ((mcomb_l112 c mo ((mcomb_l24 c mo ((mcomb_l2 c mo S 128), S.2.1, S.2.2) 57), S.2.1, S.2.2) (nI (0)) 128).2, S.2.1, S.2.2); S1)
theorem mcomb_F (c : Bool) (mo : Nat) (S : StT) : (mcomb_f c mo S).2.2 = S.2.2 := by
  unfold mcomb_f; simp only [mmod_F]
set_option maxRecDepth 100000 in
set_option maxHeartbeats 4000000 in
theorem c_mcomb {k : KX} {L : Nat → Option Sh} {S : StT} {n : Nat} {c : Bool} {mo : Nat} (hM : ModelAt k L mo) (hcn : S.2.2 mo 13 = nI (bN c)) (hpc : S.2.2 mo 14 = nI (pN c)) :
    Cs k yX12_combine cX12_combine 5 none 2 0 0 [.ref (k_b k + (mo))] (inst k L S.1 S.2.1 S.2.2) n (Pv k L n (mcomb_f c mo S)) := by
  refine cs_of (by decide) (Nat.le_of_ble_eq_true rfl) ?_
  intro X hXk C Rt hnm
  subst hXk
  have hM9 := hM
  obtain ⟨hM0, hm1, hm2, hm3, hm4, hm5, hm6, hm7, hm8, hm9, hm10, hm11, hm12, hm13, hm14, hm15, hm16, hm17, hm18, hm19, hm20, hm21, hm22, hm23, hm24, hm25, hm26, hm27⟩ := hM9
  obtain ⟨hp1, hp2⟩ := pN_le c
  have hbn := bN_le c
  obtain ⟨hk1, hk2⟩ := cB_le c
  refine rn_lv [(0, .ref (k_b X.1 + (mo)))] (fun q h => h) ?_
  refine rn_iconst (v := nI 0) C dX12_combine_0 rfl ?_
  refine rn_istore_n (lv' := [(0, _), (1, _)]) C dX12_combine_1 (by decide) rfl ?_
  have lp2 : ∀ i2, i2 ≤ 128 → Rn X 2 [(0, .ref (k_b X.1 + (mo))), (1, .int (nI (i2)))] [] (inst X.1 L (mcomb_l2 c mo S i2) S.2.1 S.2.2) n 0 0 := by
    refine upto _ _ ?_ (fun i2 hi2 ih2 => ?_)
    · skip
      refine rn_iload_n C dX12_combine_2 rfl ?_
      refine rn_sipush (v := nI 128) C dX12_combine_3 rfl ?_
      refine rs_ge (tgt := 22) C dX12_combine_6 (by decide) rfl rfl (by omega) (by omega) (fun _ => ?_) (fun q => absurd q (by omega))
      refine rn_iconst (v := nI 0) C dX12_combine_22 rfl ?_
      refine rn_istore_n (lv' := [(0, _), (1, _)]) C dX12_combine_23 (by decide) rfl ?_
      have lp24 : ∀ i24, i24 ≤ 57 → Rn X 24 [(0, .ref (k_b X.1 + (mo))), (1, .int (nI (i24)))] [] (inst X.1 L (mcomb_l24 c mo ((mcomb_l2 c mo S 128), S.2.1, S.2.2) i24) S.2.1 S.2.2) n 0 0 := by
        refine upto _ _ ?_ (fun i24 hi24 ih24 => ?_)
        · skip
          refine rn_iload_n C dX12_combine_24 rfl ?_
          refine rn_bipush (v := nI 57) C dX12_combine_25 rfl ?_
          refine rs_ge (tgt := 108) C dX12_combine_27 (by decide) rfl rfl (by omega) (by omega) (fun _ => ?_) (fun q => absurd q (by omega))
          refine rn_iconst (v := nI 0) C dX12_combine_108 rfl ?_
          refine rn_istore_n (lv' := [(0, _), (1, _)]) C dX12_combine_109 (by decide) rfl ?_
          refine rn_iconst (v := nI 0) C dX12_combine_110 rfl ?_
          refine rn_istore_n (lv' := [(0, _), (1, _), (2, _)]) C dX12_combine_111 (by decide) rfl ?_
          have lp112 : ∀ i112, i112 ≤ 128 → Rn X 112 [(0, .ref (k_b X.1 + (mo))), (1, .int ((mcomb_l112 c mo ((mcomb_l24 c mo ((mcomb_l2 c mo S 128), S.2.1, S.2.2) 57), S.2.1, S.2.2) (nI (0)) i112).1)), (2, .int (nI (i112)))] [] (inst X.1 L (mcomb_l112 c mo ((mcomb_l24 c mo ((mcomb_l2 c mo S 128), S.2.1, S.2.2) 57), S.2.1, S.2.2) (nI (0)) i112).2 S.2.1 S.2.2) n 0 0 := by
            refine upto _ _ ?_ (fun i112 hi112 ih112 => ?_)
            · skip
              refine rn_iload_n C dX12_combine_112 rfl ?_
              refine rn_sipush (v := nI 128) C dX12_combine_113 rfl ?_
              refine rs_ge (tgt := 167) C dX12_combine_116 (by decide) rfl rfl (by omega) (by omega) (fun _ => ?_) (fun q => absurd q (by omega))
              refine rn_aload_n C dX12_combine_167 rfl ?_
              refine rn_aload_n C dX12_combine_168 rfl ?_
              refine rs_get C dX12_combine_169 fl_X12_102 hM0 rfl ?_
              refine rn_aload_n C dX12_combine_172 rfl ?_
              refine rs_get C dX12_combine_173 fl_X12_108 hM0 rfl ?_
              refine rn_bipush (v := nI 115) C dX12_combine_176 rfl ?_
              refine rs_vv C dX12_combine_178 mk_X12_modulo lv_X12_235 (c_mmod (S := ((mcomb_l112 c mo ((mcomb_l24 c mo ((mcomb_l2 c mo S 128), S.2.1, S.2.2) 57), S.2.1, S.2.2) (nI (0)) 128).2, S.2.1, S.2.2)) hM hm24 hm26 (by decide) (by omega) (by omega) (by omega) hcn hpc) hM0 rfl rfl rfl rfl (by decide) (Nat.le_of_ble_eq_true rfl) (by decide) (by decide) ?_
              exact rn_vret C Rt dX12_combine_181 (pv_of (tup _)) (Nat.zero_le _) (Nat.zero_le _)
            · skip
              refine rn_iload_n C dX12_combine_112 rfl ?_
              refine rn_sipush (v := nI 128) C dX12_combine_113 rfl ?_
              refine rs_ge (tgt := 167) C dX12_combine_116 (by decide) rfl rfl (by omega) (by omega) (fun q => absurd q (by omega)) (fun _ => ?_)
              refine rn_aload_n C dX12_combine_119 rfl ?_
              refine rs_get C dX12_combine_120 fl_X12_108 hM0 rfl ?_
              refine rn_iload_n C dX12_combine_123 rfl ?_
              refine rs_iaload C dX12_combine_124 hm26 rfl (by omega) (by decide) ?_
              refine rn_iload_n C dX12_combine_125 rfl ?_
              refine rn_bipush (v := nI 57) C dX12_combine_126 rfl ?_
              have K128_2 : Rn X 141 [(0, .ref (k_b X.1 + (mo))), (1, .int ((mcomb_l112 c mo ((mcomb_l24 c mo ((mcomb_l2 c mo S 128), S.2.1, S.2.2) 57), S.2.1, S.2.2) (nI (0)) i112).1)), (2, .int (nI (i112)))] [.int ((if (nI (57)) ≤ (nI (i112)) then nI (0) else (mcomb_l112 c mo ((mcomb_l24 c mo ((mcomb_l2 c mo S 128), S.2.1, S.2.2) 57), S.2.1, S.2.2) (nI (0)) i112).2 (mo + 23) (i112))), .int ((mcomb_l112 c mo ((mcomb_l24 c mo ((mcomb_l2 c mo S 128), S.2.1, S.2.2) 57), S.2.1, S.2.2) (nI (0)) i112).2 (mo + 26) (i112))] (inst X.1 L (mcomb_l112 c mo ((mcomb_l24 c mo ((mcomb_l2 c mo S 128), S.2.1, S.2.2) 57), S.2.1, S.2.2) (nI (0)) i112).2 ((mcomb_l24 c mo ((mcomb_l2 c mo S 128), S.2.1, S.2.2) 57), S.2.1, S.2.2).2.1 ((mcomb_l24 c mo ((mcomb_l2 c mo S 128), S.2.1, S.2.2) 57), S.2.1, S.2.2).2.2) n 0 0 := by
                refine rn_iadd C dX12_combine_141 rfl ?_
                refine rn_iload_n C dX12_combine_142 rfl ?_
                refine rn_iadd C dX12_combine_143 rfl ?_
                refine rn_istore_n (lv' := [(0, _), (1, _), (2, _), (3, _)]) C dX12_combine_144 (by decide) rfl ?_
                refine rn_aload_n C dX12_combine_145 rfl ?_
                refine rs_get C dX12_combine_146 fl_X12_108 hM0 rfl ?_
                refine rn_iload_n C dX12_combine_149 rfl ?_
                refine rn_iload_n C dX12_combine_150 rfl ?_
                refine rn_sipush (v := nI 255) C dX12_combine_151 rfl ?_
                refine rn_iand C dX12_combine_154 rfl ?_
                refine rs_iastore C dX12_combine_155 hm26 rfl (by omega) (by decide) ?_
                refine rn_iload_n C dX12_combine_156 rfl ?_
                refine rn_bipush (v := nI 8) C dX12_combine_157 rfl ?_
                refine rn_ishr C dX12_combine_159 rfl ?_
                refine rn_istore_n (lv' := [(0, _), (1, _), (2, _), (3, _)]) C dX12_combine_160 (by decide) rfl ?_
                refine rn_iinc (lv' := [(0, _), (1, _), (2, _), (3, _)]) C dX12_combine_161 rfl (nI_inc _) (by decide) rfl ?_
                refine rn_goto (tgt := 112) C dX12_combine_164 (by decide) ?_
                exact rn_ks [0, 1, 2] ih112 rfl
              refine rn_icmp_ge (tgt := 140) C dX12_combine_128 (by decide) (fun hb2 => ?_) (fun hb2 => ?_)
              · skip
                refine rn_iconst (v := nI 0) C dX12_combine_140 rfl ?_
                rw [if_pos hb2] at K128_2
                exact K128_2
              · skip
                have hlt : i112 < 57 := Nat.not_le.mp (fun q => hb2 (nI_le q (by omega)))
                refine rn_aload_n C dX12_combine_131 rfl ?_
                refine rs_get C dX12_combine_132 fl_X12_99 hM0 rfl ?_
                refine rn_iload_n C dX12_combine_135 rfl ?_
                refine rs_iaload C dX12_combine_136 hm23 rfl (by omega) (by decide) ?_
                refine rn_goto (tgt := 141) C dX12_combine_137 (by decide) ?_
                rw [if_neg hb2] at K128_2
                exact K128_2
          exact lp112 0 (Nat.zero_le _)
        · skip
          refine rn_iload_n C dX12_combine_24 rfl ?_
          refine rn_bipush (v := nI 57) C dX12_combine_25 rfl ?_
          refine rs_ge (tgt := 108) C dX12_combine_27 (by decide) rfl rfl (by omega) (by omega) (fun q => absurd q (by omega)) (fun _ => ?_)
          refine rn_iconst (v := nI 0) C dX12_combine_30 rfl ?_
          refine rn_istore_n (lv' := [(0, _), (1, _), (2, _)]) C dX12_combine_31 (by decide) rfl ?_
          refine rn_iconst (v := nI 0) C dX12_combine_32 rfl ?_
          refine rn_istore_n (lv' := [(0, _), (1, _), (2, _), (3, _)]) C dX12_combine_33 (by decide) rfl ?_
          have lp34 : ∀ i34, i34 ≤ 57 → Rn X 34 [(0, .ref (k_b X.1 + (mo))), (1, .int (nI (i24))), (2, .int ((mcomb_l34 c mo i24 (mcomb_l24 c mo ((mcomb_l2 c mo S 128), S.2.1, S.2.2) i24) ((mcomb_l24 c mo ((mcomb_l2 c mo S 128), S.2.1, S.2.2) i24), ((mcomb_l2 c mo S 128), S.2.1, S.2.2).2.1, ((mcomb_l2 c mo S 128), S.2.1, S.2.2).2.2) (nI (0)) i34).1)), (3, .int (nI (i34)))] [] (inst X.1 L (mcomb_l34 c mo i24 (mcomb_l24 c mo ((mcomb_l2 c mo S 128), S.2.1, S.2.2) i24) ((mcomb_l24 c mo ((mcomb_l2 c mo S 128), S.2.1, S.2.2) i24), ((mcomb_l2 c mo S 128), S.2.1, S.2.2).2.1, ((mcomb_l2 c mo S 128), S.2.1, S.2.2).2.2) (nI (0)) i34).2 ((mcomb_l2 c mo S 128), S.2.1, S.2.2).2.1 ((mcomb_l2 c mo S 128), S.2.1, S.2.2).2.2) n 0 0 := by
            refine upto _ _ ?_ (fun i34 hi34 ih34 => ?_)
            · skip
              refine rn_iload_n C dX12_combine_34 rfl ?_
              refine rn_bipush (v := nI 57) C dX12_combine_35 rfl ?_
              refine rs_ge (tgt := 92) C dX12_combine_37 (by decide) rfl rfl (by omega) (by omega) (fun _ => ?_) (fun q => absurd q (by omega))
              refine rn_aload_n C dX12_combine_92 rfl ?_
              refine rs_get C dX12_combine_93 fl_X12_108 hM0 rfl ?_
              refine rn_iload_n C dX12_combine_96 rfl ?_
              refine rn_bipush (v := nI 57) C dX12_combine_97 rfl ?_
              refine rn_iadd C dX12_combine_99 (nI_add _ _) ?_
              refine rn_iload_n C dX12_combine_100 rfl ?_
              refine rs_iastore C dX12_combine_101 hm26 rfl (by omega) (by decide) ?_
              refine rn_iinc (lv' := [(0, _), (1, _), (2, _), (3, _)]) C dX12_combine_102 rfl (nI_inc _) (by decide) rfl ?_
              refine rn_goto (tgt := 24) C dX12_combine_105 (by decide) ?_
              exact rn_ks [0, 1] ih24 rfl
            · skip
              refine rn_iload_n C dX12_combine_34 rfl ?_
              refine rn_bipush (v := nI 57) C dX12_combine_35 rfl ?_
              refine rs_ge (tgt := 92) C dX12_combine_37 (by decide) rfl rfl (by omega) (by omega) (fun q => absurd q (by omega)) (fun _ => ?_)
              refine rn_aload_n C dX12_combine_40 rfl ?_
              refine rs_get C dX12_combine_41 fl_X12_108 hM0 rfl ?_
              refine rn_iload_n C dX12_combine_44 rfl ?_
              refine rn_iload_n C dX12_combine_45 rfl ?_
              refine rn_iadd C dX12_combine_46 (nI_add _ _) ?_
              refine rs_iaload C dX12_combine_47 hm26 rfl (by omega) (by decide) ?_
              refine rn_aload_n C dX12_combine_48 rfl ?_
              refine rs_get C dX12_combine_49 fl_X12_102 hM0 rfl ?_
              refine rn_iload_n C dX12_combine_52 rfl ?_
              refine rs_iaload C dX12_combine_53 hm24 rfl (by omega) (by decide) ?_
              refine rn_aload_n C dX12_combine_54 rfl ?_
              refine rs_get C dX12_combine_55 fl_X12_90 hM0 rfl ?_
              refine rn_iload_n C dX12_combine_58 rfl ?_
              refine rs_iaload C dX12_combine_59 hm20 rfl (by omega) (by decide) ?_
              refine rn_imul C dX12_combine_60 rfl ?_
              refine rn_iadd C dX12_combine_61 rfl ?_
              refine rn_iload_n C dX12_combine_62 rfl ?_
              refine rn_iadd C dX12_combine_63 rfl ?_
              refine rn_istore (lv' := [(0, _), (1, _), (2, _), (3, _), (4, _)]) C dX12_combine_64 (by decide) rfl ?_
              refine rn_aload_n C dX12_combine_66 rfl ?_
              refine rs_get C dX12_combine_67 fl_X12_108 hM0 rfl ?_
              refine rn_iload_n C dX12_combine_70 rfl ?_
              refine rn_iload_n C dX12_combine_71 rfl ?_
              refine rn_iadd C dX12_combine_72 (nI_add _ _) ?_
              refine rn_iload C dX12_combine_73 rfl ?_
              refine rn_sipush (v := nI 255) C dX12_combine_75 rfl ?_
              refine rn_iand C dX12_combine_78 rfl ?_
              refine rs_iastore C dX12_combine_79 hm26 rfl (by omega) (by decide) ?_
              refine rn_iload C dX12_combine_80 rfl ?_
              refine rn_bipush (v := nI 8) C dX12_combine_82 rfl ?_
              refine rn_ishr C dX12_combine_84 rfl ?_
              refine rn_istore_n (lv' := [(0, _), (1, _), (2, _), (3, _), (4, _)]) C dX12_combine_85 (by decide) rfl ?_
              refine rn_iinc (lv' := [(0, _), (1, _), (2, _), (3, _), (4, _)]) C dX12_combine_86 rfl (nI_inc _) (by decide) rfl ?_
              refine rn_goto (tgt := 34) C dX12_combine_89 (by decide) ?_
              exact rn_ks [0, 1, 2, 3] ih34 rfl
          exact lp34 0 (Nat.zero_le _)
      exact lp24 0 (Nat.zero_le _)
    · skip
      refine rn_iload_n C dX12_combine_2 rfl ?_
      refine rn_sipush (v := nI 128) C dX12_combine_3 rfl ?_
      refine rs_ge (tgt := 22) C dX12_combine_6 (by decide) rfl rfl (by omega) (by omega) (fun q => absurd q (by omega)) (fun _ => ?_)
      refine rn_aload_n C dX12_combine_9 rfl ?_
      refine rs_get C dX12_combine_10 fl_X12_108 hM0 rfl ?_
      refine rn_iload_n C dX12_combine_13 rfl ?_
      refine rn_iconst (v := nI 0) C dX12_combine_14 rfl ?_
      refine rs_iastore C dX12_combine_15 hm26 rfl (by omega) (by decide) ?_
      refine rn_iinc (lv' := [(0, _), (1, _)]) C dX12_combine_16 rfl (nI_inc _) (by decide) rfl ?_
      refine rn_goto (tgt := 2) C dX12_combine_19 (by decide) ?_
      exact rn_ks [0, 1] ih2 rfl
  exact lp2 0 (Nat.zero_le _)
