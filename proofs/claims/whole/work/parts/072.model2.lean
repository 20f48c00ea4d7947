/-! CurveSuiteModel: further methods, by program (dc.py, spec_model2.py) -/
def mkeyB_f (c : Bool) (mo : Nat) (S : StT) : Int32 × StT := (nI ((if (nI (bN c)) ≠ 0 then 57 else 32)), S)
set_option maxRecDepth 100000 in
set_option maxHeartbeats 4000000 in
theorem c_mkeyB {k : KX} {L : Nat → Option Sh} {S : StT} {n : Nat} {c : Bool} {mo : Nat} (hM : ModelAt k L mo) (hcn : S.2.2 mo 13 = nI (bN c)) (hpc : S.2.2 mo 14 = nI (pN c)) :
    Cs k yX12_keyBytes cX12_keyBytes 1 (some .int) 0 0 0 [.ref (k_b k + (mo))] (inst k L S.1 S.2.1 S.2.2) n (Pi k L n (mkeyB_f c mo S)) := by
  refine cs_of (by decide) (Nat.le_of_ble_eq_true rfl) ?_
  intro X hXk C Rt hnm
  subst hXk
  have hM9 := hM
  obtain ⟨hM0, hm1, hm2, hm3, hm4, hm5, hm6, hm7, hm8, hm9, hm10, hm11, hm12, hm13, hm14, hm15, hm16, hm17, hm18, hm19, hm20, hm21, hm22, hm23, hm24, hm25, hm26, hm27⟩ := hM9
  obtain ⟨hp1, hp2⟩ := pN_le c
  have hbn := bN_le c
  refine rn_lv [(0, .ref (k_b X.1 + (mo)))] (fun q h => h) ?_
  refine rn_aload_n C dX12_keyBytes_0 rfl ?_
  refine rs_getFe C dX12_keyBytes_1 fl_X12_51 hM0 rfl hcn ?_
  have K4_1 : Rn X 14 [(0, .ref (k_b X.1 + (mo)))] [.int (nI ((if (nI (bN c)) ≠ 0 then 57 else 32)))] (inst X.1 L S.1 S.2.1 S.2.2) n 0 0 := by
    exact rn_iret C Rt dX12_keyBytes_14 (pi_of rfl) (Nat.zero_le _) (Nat.zero_le _)
  refine rn_if_ne (tgt := 12) C dX12_keyBytes_4 (by decide) (fun hb1 => ?_) (fun hb1 => ?_)
  · skip
    refine rn_bipush (v := nI 57) C dX12_keyBytes_12 rfl ?_
    rw [if_pos hb1] at K4_1
    exact K4_1
  · skip
    refine rn_bipush (v := nI 32) C dX12_keyBytes_7 rfl ?_
    refine rn_goto (tgt := 14) C dX12_keyBytes_9 (by decide) ?_
    rw [if_neg (fun q => q hb1)] at K4_1
    exact K4_1
theorem mkeyB_S (c : Bool) (mo : Nat) (S : StT) : (mkeyB_f c mo S).2 = S := by unfold mkeyB_f; first | rfl | (split <;> rfl)
theorem cp_mkeyB {k : KX} {L : Nat → Option Sh} {S : StT} {n : Nat} {c : Bool} {mo : Nat} (hM : ModelAt k L mo) (hcn : S.2.2 mo 13 = nI (bN c)) (hpc : S.2.2 mo 14 = nI (pN c)) :
    Cs k yX12_keyBytes cX12_keyBytes 1 (some .int) 0 0 0 [.ref (k_b k + (mo))] (inst k L S.1 S.2.1 S.2.2) n (Pi k L n ((mkeyB_f c mo S).1, S)) := by
  have h := c_mkeyB (k := k) (L := L) (S := S) (n := n) (c := c) (mo := mo) hM hcn hpc
  have e : mkeyB_f c mo S = ((mkeyB_f c mo S).1, S) := Prod.ext rfl (mkeyB_S c mo S)
  rwa [e] at h
theorem cv_mkeyB {k : KX} {L : Nat → Option Sh} {S : StT} {n : Nat} {c : Bool} {mo : Nat} (hM : ModelAt k L mo) (hcn : S.2.2 mo 13 = nI (bN c)) (hpc : S.2.2 mo 14 = nI (pN c)) :
    Cs k yX12_keyBytes cX12_keyBytes 1 (some .int) 0 0 0 [.ref (k_b k + (mo))] (inst k L S.1 S.2.1 S.2.2) n (Pi k L n (nI (cB c), S)) := by
  have h := cp_mkeyB (S := S) (n := n) hM hcn hpc
  have e : (mkeyB_f c mo S).1 = nI (cB c) := by cases c <;> rfl
  rwa [e] at h
def mroot_f (c : Bool) (mo : Nat) (d : Nat) (y : Nat) (S : StT) : Int32 × StT := (let S1 := mminus_f c (mo) (27) (26) (25) (mmul_f c (mo) (26) (y) (y) (msmall_f (mo) (25) (nI (1)) S)); (if (nI (bN c)) ≠ 0 then (let S3 := minv_f c (mo) (28) (28) (mminus_f c (mo) (28) (28) (25) (mmul_f c (mo) (28) (26) (11 + (bN c)) S1)); (let S4 := mmul_f c (mo) (28) (d) (d) (mpow_f c (mo) (d) (27) (nI (1)) (2) (mmul_f c (mo) (27) (27) (28) S3)); (let S3 := minv_f c (mo) (28) (28) (mminus_f c (mo) (28) (28) (25) (mmul_f c (mo) (28) (26) (11 + (bN c)) S1)); (let S4 := mmul_f c (mo) (28) (d) (d) (mpow_f c (mo) (d) (27) (nI (1)) (2) (mmul_f c (mo) (27) (27) (28) S3)); (let S3 := minv_f c (mo) (28) (28) (mminus_f c (mo) (28) (28) (25) (mmul_f c (mo) (28) (26) (11 + (bN c)) S1)); (let S4 := mmul_f c (mo) (28) (d) (d) (mpow_f c (mo) (d) (27) (nI (1)) (2) (mmul_f c (mo) (27) (27) (28) S3)); (if ((mequal_f (mo) (28) (27) S4).1) = 0 then (if (nI (bN c)) ≠ (nI (1)) then (let S7 := mmul_f c (mo) (d) (d) (28) (mpow_f c (mo) (28) (28) ((-1)) (2) (msmall_f (mo) (28) (nI (2)) S4)); ((mequal_f (mo) (28) (27) (mmul_f c (mo) (28) (d) (d) S7)).1, mmul_f c (mo) (28) (d) (d) S7)) else (nI (0), S4)) else (nI (1), S4)))))))) else (let S8 := minv_f c (mo) (28) (28) (mplus_f c (mo) (28) (28) (25) (mmul_f c (mo) (28) (26) (11 + (bN c)) S1)); (let S9 := mmul_f c (mo) (28) (d) (d) (mpow_f c (mo) (d) (27) (nI (3)) (3) (mmul_f c (mo) (27) (27) (28) S8)); (let S8 := minv_f c (mo) (28) (28) (mplus_f c (mo) (28) (28) (25) (mmul_f c (mo) (28) (26) (11 + (bN c)) S1)); (let S9 := mmul_f c (mo) (28) (d) (d) (mpow_f c (mo) (d) (27) (nI (3)) (3) (mmul_f c (mo) (27) (27) (28) S8)); (let S8 := minv_f c (mo) (28) (28) (mplus_f c (mo) (28) (28) (25) (mmul_f c (mo) (28) (26) (11 + (bN c)) S1)); (let S9 := mmul_f c (mo) (28) (d) (d) (mpow_f c (mo) (d) (27) (nI (3)) (3) (mmul_f c (mo) (27) (27) (28) S8)); (if ((mequal_f (mo) (28) (27) S9).1) = 0 then (if (nI (bN c)) ≠ (nI (1)) then (let S12 := mmul_f c (mo) (d) (d) (28) (mpow_f c (mo) (28) (28) ((-1)) (2) (msmall_f (mo) (28) (nI (2)) S9)); ((mequal_f (mo) (28) (27) (mmul_f c (mo) (28) (d) (d) S12)).1, mmul_f c (mo) (28) (d) (d) S12)) else (nI (0), S9)) else (nI (1), S9))))))))))
theorem mroot_F (c : Bool) (mo : Nat) (d : Nat) (y : Nat) (S : StT) : (mroot_f c mo d y S).2.2.2 = S.2.2 := by
  unfold mroot_f; dsimp only; (repeat' split) <;> simp only [mmul_F, mplus_F, mminus_F, msmall_F, mzero_F, minv_F, mpow_F]
set_option maxRecDepth 100000 in
set_option maxHeartbeats 4000000 in
theorem c_mroot {k : KX} {L : Nat → Option Sh} {S : StT} {n : Nat} {c : Bool} {mo : Nat} {d : Nat} {y : Nat} (hM : ModelAt k L mo) (hd : d < 60) (hy : y < 60) (hcn : S.2.2 mo 13 = nI (bN c)) (hpc : S.2.2 mo 14 = nI (pN c)) :
    Cs k yX12_rootOf cX12_rootOf 3 (some .boolean) 5 0 0 [.ref (k_b k + (mo)), .int (nI (d)), .int (nI (y))] (inst k L S.1 S.2.1 S.2.2) n (Pi k L n (mroot_f c mo d y S)) := by
  refine cs_of (by decide) (Nat.le_of_ble_eq_true rfl) ?_
  intro X hXk C Rt hnm
  subst hXk
  have hM9 := hM
  obtain ⟨hM0, hm1, hm2, hm3, hm4, hm5, hm6, hm7, hm8, hm9, hm10, hm11, hm12, hm13, hm14, hm15, hm16, hm17, hm18, hm19, hm20, hm21, hm22, hm23, hm24, hm25, hm26, hm27⟩ := hM9
  obtain ⟨hp1, hp2⟩ := pN_le c
  have hbn := bN_le c
  refine rn_lv [(0, .ref (k_b X.1 + (mo))), (1, .int (nI (d))), (2, .int (nI (y)))] (fun q h => h) ?_
  refine rn_aload_n C dX12_rootOf_0 rfl ?_
  refine rn_bipush (v := nI 25) C dX12_rootOf_1 rfl ?_
  refine rn_iconst (v := nI 1) C dX12_rootOf_3 rfl ?_
  refine rs_vv C dX12_rootOf_4 mk_X12_small lv_X12_136 (c_msmall hM (by omega)) hM0 rfl rfl rfl rfl (by decide) (Nat.le_of_ble_eq_true rfl) (by decide) (by decide) ?_
  refine rn_aload_n C dX12_rootOf_7 rfl ?_
  refine rn_bipush (v := nI 26) C dX12_rootOf_8 rfl ?_
  refine rn_iload_n C dX12_rootOf_10 rfl ?_
  refine rn_iload_n C dX12_rootOf_11 rfl ?_
  refine rs_vv C dX12_rootOf_12 mk_X12_mul lv_X12_144 (c_mmul hM (by omega) (by omega) (by omega) (by first | (simp only [zero28_F, mzero_F, msmall_F, mcopy_F, takeOff_F, mfold_F, mmul_F, mplus_F, mminus_F, mpow_F, minv_F, mneutral_F, mcopyP_F, mneg_F, msum_F, mmany_F]; with_reducible exact hcn) | with_reducible exact hcn | exact hcn) (by first | (simp only [zero28_F, mzero_F, msmall_F, mcopy_F, takeOff_F, mfold_F, mmul_F, mplus_F, mminus_F, mpow_F, minv_F, mneutral_F, mcopyP_F, mneg_F, msum_F, mmany_F]; with_reducible exact hpc) | with_reducible exact hpc | exact hpc)) hM0 rfl rfl rfl rfl (by decide) (Nat.le_of_ble_eq_true rfl) (by decide) (by decide) ?_
  refine rn_aload_n C dX12_rootOf_15 rfl ?_
  refine rn_bipush (v := nI 27) C dX12_rootOf_16 rfl ?_
  refine rn_bipush (v := nI 26) C dX12_rootOf_18 rfl ?_
  refine rn_bipush (v := nI 25) C dX12_rootOf_20 rfl ?_
  refine rs_vv C dX12_rootOf_22 mk_X12_minus lv_X12_151 (c_mminus hM (by omega) (by omega) (by omega) (by first | (simp only [zero28_F, mzero_F, msmall_F, mcopy_F, takeOff_F, mfold_F, mmul_F, mplus_F, mminus_F, mpow_F, minv_F, mneutral_F, mcopyP_F, mneg_F, msum_F, mmany_F]; with_reducible exact hcn) | with_reducible exact hcn | exact hcn) (by first | (simp only [zero28_F, mzero_F, msmall_F, mcopy_F, takeOff_F, mfold_F, mmul_F, mplus_F, mminus_F, mpow_F, minv_F, mneutral_F, mcopyP_F, mneg_F, msum_F, mmany_F]; with_reducible exact hpc) | with_reducible exact hpc | exact hpc)) hM0 rfl rfl rfl rfl (by decide) (Nat.le_of_ble_eq_true rfl) (by decide) (by decide) ?_
  refine rn_aload_n C dX12_rootOf_25 rfl ?_
  refine rn_bipush (v := nI 28) C dX12_rootOf_26 rfl ?_
  refine rn_bipush (v := nI 26) C dX12_rootOf_28 rfl ?_
  refine rn_bipush (v := nI 11) C dX12_rootOf_30 rfl ?_
  refine rn_aload_n C dX12_rootOf_32 rfl ?_
  refine rs_getFe C dX12_rootOf_33 fl_X12_51 hM0 rfl (by first | (simp only [zero28_F, mzero_F, msmall_F, mcopy_F, takeOff_F, mfold_F, mmul_F, mplus_F, mminus_F, mpow_F, minv_F, mneutral_F, mcopyP_F, mneg_F, msum_F, mmany_F]; with_reducible exact hcn) | with_reducible exact hcn | exact hcn) ?_
  refine rn_iadd C dX12_rootOf_36 (nI_add _ _) ?_
  refine rs_vv C dX12_rootOf_37 mk_X12_mul lv_X12_144 (c_mmul hM (by omega) (by omega) (by omega) (by first | (simp only [zero28_F, mzero_F, msmall_F, mcopy_F, takeOff_F, mfold_F, mmul_F, mplus_F, mminus_F, mpow_F, minv_F, mneutral_F, mcopyP_F, mneg_F, msum_F, mmany_F]; with_reducible exact hcn) | with_reducible exact hcn | exact hcn) (by first | (simp only [zero28_F, mzero_F, msmall_F, mcopy_F, takeOff_F, mfold_F, mmul_F, mplus_F, mminus_F, mpow_F, minv_F, mneutral_F, mcopyP_F, mneg_F, msum_F, mmany_F]; with_reducible exact hpc) | with_reducible exact hpc | exact hpc)) hM0 rfl rfl rfl rfl (by decide) (Nat.le_of_ble_eq_true rfl) (by decide) (by decide) ?_
  refine rn_aload_n C dX12_rootOf_40 rfl ?_
  refine rs_getFe C dX12_rootOf_41 fl_X12_51 hM0 rfl (by first | (simp only [zero28_F, mzero_F, msmall_F, mcopy_F, takeOff_F, mfold_F, mmul_F, mplus_F, mminus_F, mpow_F, minv_F, mneutral_F, mcopyP_F, mneg_F, msum_F, mmany_F]; with_reducible exact hcn) | with_reducible exact hcn | exact hcn) ?_
  refine rn_if_ne (tgt := 60) C dX12_rootOf_44 (by decide) (fun hb2 => ?_) (fun hb2 => ?_)
  · skip
    refine rn_aload_n C dX12_rootOf_60 rfl ?_
    refine rn_bipush (v := nI 28) C dX12_rootOf_61 rfl ?_
    refine rn_bipush (v := nI 28) C dX12_rootOf_63 rfl ?_
    refine rn_bipush (v := nI 25) C dX12_rootOf_65 rfl ?_
    refine rs_vv C dX12_rootOf_67 mk_X12_minus lv_X12_151 (c_mminus hM (by omega) (by omega) (by omega) (by first | (simp only [zero28_F, mzero_F, msmall_F, mcopy_F, takeOff_F, mfold_F, mmul_F, mplus_F, mminus_F, mpow_F, minv_F, mneutral_F, mcopyP_F, mneg_F, msum_F, mmany_F]; with_reducible exact hcn) | with_reducible exact hcn | exact hcn) (by first | (simp only [zero28_F, mzero_F, msmall_F, mcopy_F, takeOff_F, mfold_F, mmul_F, mplus_F, mminus_F, mpow_F, minv_F, mneutral_F, mcopyP_F, mneg_F, msum_F, mmany_F]; with_reducible exact hpc) | with_reducible exact hpc | exact hpc)) hM0 rfl rfl rfl rfl (by decide) (Nat.le_of_ble_eq_true rfl) (by decide) (by decide) ?_
    refine rn_aload_n C dX12_rootOf_70 rfl ?_
    refine rn_bipush (v := nI 28) C dX12_rootOf_71 rfl ?_
    refine rn_bipush (v := nI 28) C dX12_rootOf_73 rfl ?_
    refine rs_vv C dX12_rootOf_75 mk_X12_inverse lv_X12_141 (c_minv hM (by omega) (by omega) (by first | (simp only [zero28_F, mzero_F, msmall_F, mcopy_F, takeOff_F, mfold_F, mmul_F, mplus_F, mminus_F, mpow_F, minv_F, mneutral_F, mcopyP_F, mneg_F, msum_F, mmany_F]; with_reducible exact hcn) | with_reducible exact hcn | exact hcn) (by first | (simp only [zero28_F, mzero_F, msmall_F, mcopy_F, takeOff_F, mfold_F, mmul_F, mplus_F, mminus_F, mpow_F, minv_F, mneutral_F, mcopyP_F, mneg_F, msum_F, mmany_F]; with_reducible exact hpc) | with_reducible exact hpc | exact hpc)) hM0 rfl rfl rfl rfl (by decide) (Nat.le_of_ble_eq_true rfl) (by decide) (by decide) ?_
    refine rn_aload_n C dX12_rootOf_78 rfl ?_
    refine rn_bipush (v := nI 27) C dX12_rootOf_79 rfl ?_
    refine rn_bipush (v := nI 27) C dX12_rootOf_81 rfl ?_
    refine rn_bipush (v := nI 28) C dX12_rootOf_83 rfl ?_
    refine rs_vv C dX12_rootOf_85 mk_X12_mul lv_X12_144 (c_mmul hM (by omega) (by omega) (by omega) (by first | (simp only [zero28_F, mzero_F, msmall_F, mcopy_F, takeOff_F, mfold_F, mmul_F, mplus_F, mminus_F, mpow_F, minv_F, mneutral_F, mcopyP_F, mneg_F, msum_F, mmany_F]; with_reducible exact hcn) | with_reducible exact hcn | exact hcn) (by first | (simp only [zero28_F, mzero_F, msmall_F, mcopy_F, takeOff_F, mfold_F, mmul_F, mplus_F, mminus_F, mpow_F, minv_F, mneutral_F, mcopyP_F, mneg_F, msum_F, mmany_F]; with_reducible exact hpc) | with_reducible exact hpc | exact hpc)) hM0 rfl rfl rfl rfl (by decide) (Nat.le_of_ble_eq_true rfl) (by decide) (by decide) ?_
    refine rn_aload_n C dX12_rootOf_88 rfl ?_
    refine rn_iload_n C dX12_rootOf_89 rfl ?_
    refine rn_bipush (v := nI 27) C dX12_rootOf_90 rfl ?_
    refine rn_aload_n C dX12_rootOf_92 rfl ?_
    refine rs_getFe C dX12_rootOf_93 fl_X12_51 hM0 rfl (by first | (simp only [zero28_F, mzero_F, msmall_F, mcopy_F, takeOff_F, mfold_F, mmul_F, mplus_F, mminus_F, mpow_F, minv_F, mneutral_F, mcopyP_F, mneg_F, msum_F, mmany_F]; with_reducible exact hcn) | with_reducible exact hcn | exact hcn) ?_
    refine rn_if_ne (tgt := 103) C dX12_rootOf_96 (by decide) (fun _ => ?_) (fun q => absurd q hb2)
    refine rn_iconst (v := nI 1) C dX12_rootOf_103 rfl ?_
    refine rn_aload_n C dX12_rootOf_104 rfl ?_
    refine rs_getFe C dX12_rootOf_105 fl_X12_51 hM0 rfl (by first | (simp only [zero28_F, mzero_F, msmall_F, mcopy_F, takeOff_F, mfold_F, mmul_F, mplus_F, mminus_F, mpow_F, minv_F, mneutral_F, mcopyP_F, mneg_F, msum_F, mmany_F]; with_reducible exact hcn) | with_reducible exact hcn | exact hcn) ?_
    refine rn_if_ne (tgt := 115) C dX12_rootOf_108 (by decide) (fun _ => ?_) (fun q => absurd q hb2)
    refine rn_iconst (v := nI 2) C dX12_rootOf_115 rfl ?_
    refine rs_vv C dX12_rootOf_116 mk_X12_power lv_X12_197 (c_mpow hM (by omega) (by omega) (by omega) (by first | (simp only [zero28_F, mzero_F, msmall_F, mcopy_F, takeOff_F, mfold_F, mmul_F, mplus_F, mminus_F, mpow_F, minv_F, mneutral_F, mcopyP_F, mneg_F, msum_F, mmany_F]; with_reducible exact hcn) | with_reducible exact hcn | exact hcn) (by first | (simp only [zero28_F, mzero_F, msmall_F, mcopy_F, takeOff_F, mfold_F, mmul_F, mplus_F, mminus_F, mpow_F, minv_F, mneutral_F, mcopyP_F, mneg_F, msum_F, mmany_F]; with_reducible exact hpc) | with_reducible exact hpc | exact hpc)) hM0 rfl rfl rfl rfl (by decide) (Nat.le_of_ble_eq_true rfl) (by decide) (by decide) ?_
    refine rn_aload_n C dX12_rootOf_119 rfl ?_
    refine rn_bipush (v := nI 28) C dX12_rootOf_120 rfl ?_
    refine rn_iload_n C dX12_rootOf_122 rfl ?_
    refine rn_iload_n C dX12_rootOf_123 rfl ?_
    refine rs_vv C dX12_rootOf_124 mk_X12_mul lv_X12_144 (c_mmul hM (by omega) (by omega) (by omega) (by first | (simp only [zero28_F, mzero_F, msmall_F, mcopy_F, takeOff_F, mfold_F, mmul_F, mplus_F, mminus_F, mpow_F, minv_F, mneutral_F, mcopyP_F, mneg_F, msum_F, mmany_F]; with_reducible exact hcn) | with_reducible exact hcn | exact hcn) (by first | (simp only [zero28_F, mzero_F, msmall_F, mcopy_F, takeOff_F, mfold_F, mmul_F, mplus_F, mminus_F, mpow_F, minv_F, mneutral_F, mcopyP_F, mneg_F, msum_F, mmany_F]; with_reducible exact hpc) | with_reducible exact hpc | exact hpc)) hM0 rfl rfl rfl rfl (by decide) (Nat.le_of_ble_eq_true rfl) (by decide) (by decide) ?_
    refine rn_aload_n C dX12_rootOf_127 rfl ?_
    refine rn_bipush (v := nI 28) C dX12_rootOf_128 rfl ?_
    refine rn_bipush (v := nI 27) C dX12_rootOf_130 rfl ?_
    refine rs_vz C dX12_rootOf_132 mk_X12_equal lv_X12_204 (cp_mequal hM (by omega) (by omega)) hM0 rfl rfl rfl rfl (by decide) (Nat.le_of_ble_eq_true rfl) (by decide) (by decide) ?_
    refine rn_if_eq (tgt := 140) C dX12_rootOf_135 (by decide) (fun hb5 => ?_) (fun hb5 => ?_)
    · skip
      refine rn_aload_n C dX12_rootOf_140 rfl ?_
      refine rs_getFe C dX12_rootOf_141 fl_X12_51 hM0 rfl (by first | (simp only [zero28_F, mzero_F, msmall_F, mcopy_F, takeOff_F, mfold_F, mmul_F, mplus_F, mminus_F, mpow_F, minv_F, mneutral_F, mcopyP_F, mneg_F, msum_F, mmany_F]; with_reducible exact hcn) | with_reducible exact hcn | exact hcn) ?_
      refine rn_iconst (v := nI 1) C dX12_rootOf_144 rfl ?_
      refine rn_icmp_ne (tgt := 150) C dX12_rootOf_145 (by decide) (fun hb6 => ?_) (fun hb6 => ?_)
      · skip
        refine rn_aload_n C dX12_rootOf_150 rfl ?_
        refine rn_bipush (v := nI 28) C dX12_rootOf_151 rfl ?_
        refine rn_iconst (v := nI 2) C dX12_rootOf_153 rfl ?_
        refine rs_vv C dX12_rootOf_154 mk_X12_small lv_X12_136 (c_msmall hM (by omega)) hM0 rfl rfl rfl rfl (by decide) (Nat.le_of_ble_eq_true rfl) (by decide) (by decide) ?_
        refine rn_aload_n C dX12_rootOf_157 rfl ?_
        refine rn_bipush (v := nI 28) C dX12_rootOf_158 rfl ?_
        refine rn_bipush (v := nI 28) C dX12_rootOf_160 rfl ?_
        refine rn_iconst (v := (-1)) C dX12_rootOf_162 (by decide) ?_
        refine rn_iconst (v := nI 2) C dX12_rootOf_163 rfl ?_
        refine rs_vv C dX12_rootOf_164 mk_X12_power lv_X12_197 (c_mpow hM (by omega) (by omega) (by omega) (by first | (simp only [zero28_F, mzero_F, msmall_F, mcopy_F, takeOff_F, mfold_F, mmul_F, mplus_F, mminus_F, mpow_F, minv_F, mneutral_F, mcopyP_F, mneg_F, msum_F, mmany_F]; with_reducible exact hcn) | with_reducible exact hcn | exact hcn) (by first | (simp only [zero28_F, mzero_F, msmall_F, mcopy_F, takeOff_F, mfold_F, mmul_F, mplus_F, mminus_F, mpow_F, minv_F, mneutral_F, mcopyP_F, mneg_F, msum_F, mmany_F]; with_reducible exact hpc) | with_reducible exact hpc | exact hpc)) hM0 rfl rfl rfl rfl (by decide) (Nat.le_of_ble_eq_true rfl) (by decide) (by decide) ?_
        refine rn_aload_n C dX12_rootOf_167 rfl ?_
        refine rn_iload_n C dX12_rootOf_168 rfl ?_
        refine rn_iload_n C dX12_rootOf_169 rfl ?_
        refine rn_bipush (v := nI 28) C dX12_rootOf_170 rfl ?_
        refine rs_vv C dX12_rootOf_172 mk_X12_mul lv_X12_144 (c_mmul hM (by omega) (by omega) (by omega) (by first | (simp only [zero28_F, mzero_F, msmall_F, mcopy_F, takeOff_F, mfold_F, mmul_F, mplus_F, mminus_F, mpow_F, minv_F, mneutral_F, mcopyP_F, mneg_F, msum_F, mmany_F]; with_reducible exact hcn) | with_reducible exact hcn | exact hcn) (by first | (simp only [zero28_F, mzero_F, msmall_F, mcopy_F, takeOff_F, mfold_F, mmul_F, mplus_F, mminus_F, mpow_F, minv_F, mneutral_F, mcopyP_F, mneg_F, msum_F, mmany_F]; with_reducible exact hpc) | with_reducible exact hpc | exact hpc)) hM0 rfl rfl rfl rfl (by decide) (Nat.le_of_ble_eq_true rfl) (by decide) (by decide) ?_
        refine rn_aload_n C dX12_rootOf_175 rfl ?_
        refine rn_bipush (v := nI 28) C dX12_rootOf_176 rfl ?_
        refine rn_iload_n C dX12_rootOf_178 rfl ?_
        refine rn_iload_n C dX12_rootOf_179 rfl ?_
        refine rs_vv C dX12_rootOf_180 mk_X12_mul lv_X12_144 (c_mmul hM (by omega) (by omega) (by omega) (by first | (simp only [zero28_F, mzero_F, msmall_F, mcopy_F, takeOff_F, mfold_F, mmul_F, mplus_F, mminus_F, mpow_F, minv_F, mneutral_F, mcopyP_F, mneg_F, msum_F, mmany_F]; with_reducible exact hcn) | with_reducible exact hcn | exact hcn) (by first | (simp only [zero28_F, mzero_F, msmall_F, mcopy_F, takeOff_F, mfold_F, mmul_F, mplus_F, mminus_F, mpow_F, minv_F, mneutral_F, mcopyP_F, mneg_F, msum_F, mmany_F]; with_reducible exact hpc) | with_reducible exact hpc | exact hpc)) hM0 rfl rfl rfl rfl (by decide) (Nat.le_of_ble_eq_true rfl) (by decide) (by decide) ?_
        refine rn_aload_n C dX12_rootOf_183 rfl ?_
        refine rn_bipush (v := nI 28) C dX12_rootOf_184 rfl ?_
        refine rn_bipush (v := nI 27) C dX12_rootOf_186 rfl ?_
        refine rs_vz C dX12_rootOf_188 mk_X12_equal lv_X12_204 (cp_mequal hM (by omega) (by omega)) hM0 rfl rfl rfl rfl (by decide) (Nat.le_of_ble_eq_true rfl) (by decide) (by decide) ?_
        exact rn_zret C Rt dX12_rootOf_191 (by first | rfl | exact mequal_z _ _ _ _) (pi_of ((((if_pos hb2).trans (if_pos hb5)).trans (if_pos hb6)).trans (tupi _ _))) (Nat.zero_le _) (Nat.zero_le _)
      · skip
        refine rn_iconst (v := nI 0) C dX12_rootOf_148 rfl ?_
        exact rn_zret C Rt dX12_rootOf_149 (by first | rfl | exact rfl) (pi_of ((((if_pos hb2).trans (if_pos hb5)).trans (if_neg (fun q => q hb6))).trans (tupi _ _))) (Nat.zero_le _) (Nat.zero_le _)
    · skip
      refine rn_iconst (v := nI 1) C dX12_rootOf_138 rfl ?_
      exact rn_zret C Rt dX12_rootOf_139 (by first | rfl | exact rfl) (pi_of (((if_pos hb2).trans (if_neg hb5)).trans (tupi _ _))) (Nat.zero_le _) (Nat.zero_le _)
  · skip
    refine rn_aload_n C dX12_rootOf_47 rfl ?_
    refine rn_bipush (v := nI 28) C dX12_rootOf_48 rfl ?_
    refine rn_bipush (v := nI 28) C dX12_rootOf_50 rfl ?_
    refine rn_bipush (v := nI 25) C dX12_rootOf_52 rfl ?_
    refine rs_vv C dX12_rootOf_54 mk_X12_plus lv_X12_201 (c_mplus hM (by omega) (by omega) (by omega) (by first | (simp only [zero28_F, mzero_F, msmall_F, mcopy_F, takeOff_F, mfold_F, mmul_F, mplus_F, mminus_F, mpow_F, minv_F, mneutral_F, mcopyP_F, mneg_F, msum_F, mmany_F]; with_reducible exact hcn) | with_reducible exact hcn | exact hcn) (by first | (simp only [zero28_F, mzero_F, msmall_F, mcopy_F, takeOff_F, mfold_F, mmul_F, mplus_F, mminus_F, mpow_F, minv_F, mneutral_F, mcopyP_F, mneg_F, msum_F, mmany_F]; with_reducible exact hpc) | with_reducible exact hpc | exact hpc)) hM0 rfl rfl rfl rfl (by decide) (Nat.le_of_ble_eq_true rfl) (by decide) (by decide) ?_
    refine rn_goto (tgt := 70) C dX12_rootOf_57 (by decide) ?_
    refine rn_aload_n C dX12_rootOf_70 rfl ?_
    refine rn_bipush (v := nI 28) C dX12_rootOf_71 rfl ?_
    refine rn_bipush (v := nI 28) C dX12_rootOf_73 rfl ?_
    refine rs_vv C dX12_rootOf_75 mk_X12_inverse lv_X12_141 (c_minv hM (by omega) (by omega) (by first | (simp only [zero28_F, mzero_F, msmall_F, mcopy_F, takeOff_F, mfold_F, mmul_F, mplus_F, mminus_F, mpow_F, minv_F, mneutral_F, mcopyP_F, mneg_F, msum_F, mmany_F]; with_reducible exact hcn) | with_reducible exact hcn | exact hcn) (by first | (simp only [zero28_F, mzero_F, msmall_F, mcopy_F, takeOff_F, mfold_F, mmul_F, mplus_F, mminus_F, mpow_F, minv_F, mneutral_F, mcopyP_F, mneg_F, msum_F, mmany_F]; with_reducible exact hpc) | with_reducible exact hpc | exact hpc)) hM0 rfl rfl rfl rfl (by decide) (Nat.le_of_ble_eq_true rfl) (by decide) (by decide) ?_
    refine rn_aload_n C dX12_rootOf_78 rfl ?_
    refine rn_bipush (v := nI 27) C dX12_rootOf_79 rfl ?_
    refine rn_bipush (v := nI 27) C dX12_rootOf_81 rfl ?_
    refine rn_bipush (v := nI 28) C dX12_rootOf_83 rfl ?_
    refine rs_vv C dX12_rootOf_85 mk_X12_mul lv_X12_144 (c_mmul hM (by omega) (by omega) (by omega) (by first | (simp only [zero28_F, mzero_F, msmall_F, mcopy_F, takeOff_F, mfold_F, mmul_F, mplus_F, mminus_F, mpow_F, minv_F, mneutral_F, mcopyP_F, mneg_F, msum_F, mmany_F]; with_reducible exact hcn) | with_reducible exact hcn | exact hcn) (by first | (simp only [zero28_F, mzero_F, msmall_F, mcopy_F, takeOff_F, mfold_F, mmul_F, mplus_F, mminus_F, mpow_F, minv_F, mneutral_F, mcopyP_F, mneg_F, msum_F, mmany_F]; with_reducible exact hpc) | with_reducible exact hpc | exact hpc)) hM0 rfl rfl rfl rfl (by decide) (Nat.le_of_ble_eq_true rfl) (by decide) (by decide) ?_
    refine rn_aload_n C dX12_rootOf_88 rfl ?_
    refine rn_iload_n C dX12_rootOf_89 rfl ?_
    refine rn_bipush (v := nI 27) C dX12_rootOf_90 rfl ?_
    refine rn_aload_n C dX12_rootOf_92 rfl ?_
    refine rs_getFe C dX12_rootOf_93 fl_X12_51 hM0 rfl (by first | (simp only [zero28_F, mzero_F, msmall_F, mcopy_F, takeOff_F, mfold_F, mmul_F, mplus_F, mminus_F, mpow_F, minv_F, mneutral_F, mcopyP_F, mneg_F, msum_F, mmany_F]; with_reducible exact hcn) | with_reducible exact hcn | exact hcn) ?_
    refine rn_if_ne (tgt := 103) C dX12_rootOf_96 (by decide) (fun q => absurd hb2 q) (fun _ => ?_)
    refine rn_iconst (v := nI 3) C dX12_rootOf_99 rfl ?_
    refine rn_goto (tgt := 104) C dX12_rootOf_100 (by decide) ?_
    refine rn_aload_n C dX12_rootOf_104 rfl ?_
    refine rs_getFe C dX12_rootOf_105 fl_X12_51 hM0 rfl (by first | (simp only [zero28_F, mzero_F, msmall_F, mcopy_F, takeOff_F, mfold_F, mmul_F, mplus_F, mminus_F, mpow_F, minv_F, mneutral_F, mcopyP_F, mneg_F, msum_F, mmany_F]; with_reducible exact hcn) | with_reducible exact hcn | exact hcn) ?_
    refine rn_if_ne (tgt := 115) C dX12_rootOf_108 (by decide) (fun q => absurd hb2 q) (fun _ => ?_)
    refine rn_iconst (v := nI 3) C dX12_rootOf_111 rfl ?_
    refine rn_goto (tgt := 116) C dX12_rootOf_112 (by decide) ?_
    refine rs_vv C dX12_rootOf_116 mk_X12_power lv_X12_197 (c_mpow hM (by omega) (by omega) (by omega) (by first | (simp only [zero28_F, mzero_F, msmall_F, mcopy_F, takeOff_F, mfold_F, mmul_F, mplus_F, mminus_F, mpow_F, minv_F, mneutral_F, mcopyP_F, mneg_F, msum_F, mmany_F]; with_reducible exact hcn) | with_reducible exact hcn | exact hcn) (by first | (simp only [zero28_F, mzero_F, msmall_F, mcopy_F, takeOff_F, mfold_F, mmul_F, mplus_F, mminus_F, mpow_F, minv_F, mneutral_F, mcopyP_F, mneg_F, msum_F, mmany_F]; with_reducible exact hpc) | with_reducible exact hpc | exact hpc)) hM0 rfl rfl rfl rfl (by decide) (Nat.le_of_ble_eq_true rfl) (by decide) (by decide) ?_
    refine rn_aload_n C dX12_rootOf_119 rfl ?_
    refine rn_bipush (v := nI 28) C dX12_rootOf_120 rfl ?_
    refine rn_iload_n C dX12_rootOf_122 rfl ?_
    refine rn_iload_n C dX12_rootOf_123 rfl ?_
    refine rs_vv C dX12_rootOf_124 mk_X12_mul lv_X12_144 (c_mmul hM (by omega) (by omega) (by omega) (by first | (simp only [zero28_F, mzero_F, msmall_F, mcopy_F, takeOff_F, mfold_F, mmul_F, mplus_F, mminus_F, mpow_F, minv_F, mneutral_F, mcopyP_F, mneg_F, msum_F, mmany_F]; with_reducible exact hcn) | with_reducible exact hcn | exact hcn) (by first | (simp only [zero28_F, mzero_F, msmall_F, mcopy_F, takeOff_F, mfold_F, mmul_F, mplus_F, mminus_F, mpow_F, minv_F, mneutral_F, mcopyP_F, mneg_F, msum_F, mmany_F]; with_reducible exact hpc) | with_reducible exact hpc | exact hpc)) hM0 rfl rfl rfl rfl (by decide) (Nat.le_of_ble_eq_true rfl) (by decide) (by decide) ?_
    refine rn_aload_n C dX12_rootOf_127 rfl ?_
    refine rn_bipush (v := nI 28) C dX12_rootOf_128 rfl ?_
    refine rn_bipush (v := nI 27) C dX12_rootOf_130 rfl ?_
    refine rs_vz C dX12_rootOf_132 mk_X12_equal lv_X12_204 (cp_mequal hM (by omega) (by omega)) hM0 rfl rfl rfl rfl (by decide) (Nat.le_of_ble_eq_true rfl) (by decide) (by decide) ?_
    refine rn_if_eq (tgt := 140) C dX12_rootOf_135 (by decide) (fun hb10 => ?_) (fun hb10 => ?_)
    · skip
      refine rn_aload_n C dX12_rootOf_140 rfl ?_
      refine rs_getFe C dX12_rootOf_141 fl_X12_51 hM0 rfl (by first | (simp only [zero28_F, mzero_F, msmall_F, mcopy_F, takeOff_F, mfold_F, mmul_F, mplus_F, mminus_F, mpow_F, minv_F, mneutral_F, mcopyP_F, mneg_F, msum_F, mmany_F]; with_reducible exact hcn) | with_reducible exact hcn | exact hcn) ?_
      refine rn_iconst (v := nI 1) C dX12_rootOf_144 rfl ?_
      refine rn_icmp_ne (tgt := 150) C dX12_rootOf_145 (by decide) (fun hb11 => ?_) (fun hb11 => ?_)
      · skip
        refine rn_aload_n C dX12_rootOf_150 rfl ?_
        refine rn_bipush (v := nI 28) C dX12_rootOf_151 rfl ?_
        refine rn_iconst (v := nI 2) C dX12_rootOf_153 rfl ?_
        refine rs_vv C dX12_rootOf_154 mk_X12_small lv_X12_136 (c_msmall hM (by omega)) hM0 rfl rfl rfl rfl (by decide) (Nat.le_of_ble_eq_true rfl) (by decide) (by decide) ?_
        refine rn_aload_n C dX12_rootOf_157 rfl ?_
        refine rn_bipush (v := nI 28) C dX12_rootOf_158 rfl ?_
        refine rn_bipush (v := nI 28) C dX12_rootOf_160 rfl ?_
        refine rn_iconst (v := (-1)) C dX12_rootOf_162 (by decide) ?_
        refine rn_iconst (v := nI 2) C dX12_rootOf_163 rfl ?_
        refine rs_vv C dX12_rootOf_164 mk_X12_power lv_X12_197 (c_mpow hM (by omega) (by omega) (by omega) (by first | (simp only [zero28_F, mzero_F, msmall_F, mcopy_F, takeOff_F, mfold_F, mmul_F, mplus_F, mminus_F, mpow_F, minv_F, mneutral_F, mcopyP_F, mneg_F, msum_F, mmany_F]; with_reducible exact hcn) | with_reducible exact hcn | exact hcn) (by first | (simp only [zero28_F, mzero_F, msmall_F, mcopy_F, takeOff_F, mfold_F, mmul_F, mplus_F, mminus_F, mpow_F, minv_F, mneutral_F, mcopyP_F, mneg_F, msum_F, mmany_F]; with_reducible exact hpc) | with_reducible exact hpc | exact hpc)) hM0 rfl rfl rfl rfl (by decide) (Nat.le_of_ble_eq_true rfl) (by decide) (by decide) ?_
        refine rn_aload_n C dX12_rootOf_167 rfl ?_
        refine rn_iload_n C dX12_rootOf_168 rfl ?_
        refine rn_iload_n C dX12_rootOf_169 rfl ?_
        refine rn_bipush (v := nI 28) C dX12_rootOf_170 rfl ?_
        refine rs_vv C dX12_rootOf_172 mk_X12_mul lv_X12_144 (c_mmul hM (by omega) (by omega) (by omega) (by first | (simp only [zero28_F, mzero_F, msmall_F, mcopy_F, takeOff_F, mfold_F, mmul_F, mplus_F, mminus_F, mpow_F, minv_F, mneutral_F, mcopyP_F, mneg_F, msum_F, mmany_F]; with_reducible exact hcn) | with_reducible exact hcn | exact hcn) (by first | (simp only [zero28_F, mzero_F, msmall_F, mcopy_F, takeOff_F, mfold_F, mmul_F, mplus_F, mminus_F, mpow_F, minv_F, mneutral_F, mcopyP_F, mneg_F, msum_F, mmany_F]; with_reducible exact hpc) | with_reducible exact hpc | exact hpc)) hM0 rfl rfl rfl rfl (by decide) (Nat.le_of_ble_eq_true rfl) (by decide) (by decide) ?_
        refine rn_aload_n C dX12_rootOf_175 rfl ?_
        refine rn_bipush (v := nI 28) C dX12_rootOf_176 rfl ?_
        refine rn_iload_n C dX12_rootOf_178 rfl ?_
        refine rn_iload_n C dX12_rootOf_179 rfl ?_
        refine rs_vv C dX12_rootOf_180 mk_X12_mul lv_X12_144 (c_mmul hM (by omega) (by omega) (by omega) (by first | (simp only [zero28_F, mzero_F, msmall_F, mcopy_F, takeOff_F, mfold_F, mmul_F, mplus_F, mminus_F, mpow_F, minv_F, mneutral_F, mcopyP_F, mneg_F, msum_F, mmany_F]; with_reducible exact hcn) | with_reducible exact hcn | exact hcn) (by first | (simp only [zero28_F, mzero_F, msmall_F, mcopy_F, takeOff_F, mfold_F, mmul_F, mplus_F, mminus_F, mpow_F, minv_F, mneutral_F, mcopyP_F, mneg_F, msum_F, mmany_F]; with_reducible exact hpc) | with_reducible exact hpc | exact hpc)) hM0 rfl rfl rfl rfl (by decide) (Nat.le_of_ble_eq_true rfl) (by decide) (by decide) ?_
        refine rn_aload_n C dX12_rootOf_183 rfl ?_
        refine rn_bipush (v := nI 28) C dX12_rootOf_184 rfl ?_
        refine rn_bipush (v := nI 27) C dX12_rootOf_186 rfl ?_
        refine rs_vz C dX12_rootOf_188 mk_X12_equal lv_X12_204 (cp_mequal hM (by omega) (by omega)) hM0 rfl rfl rfl rfl (by decide) (Nat.le_of_ble_eq_true rfl) (by decide) (by decide) ?_
        exact rn_zret C Rt dX12_rootOf_191 (by first | rfl | exact mequal_z _ _ _ _) (pi_of ((((if_neg (fun q => q hb2)).trans (if_pos hb10)).trans (if_pos hb11)).trans (tupi _ _))) (Nat.zero_le _) (Nat.zero_le _)
      · skip
        refine rn_iconst (v := nI 0) C dX12_rootOf_148 rfl ?_
        exact rn_zret C Rt dX12_rootOf_149 (by first | rfl | exact rfl) (pi_of ((((if_neg (fun q => q hb2)).trans (if_pos hb10)).trans (if_neg (fun q => q hb11))).trans (tupi _ _))) (Nat.zero_le _) (Nat.zero_le _)
    · skip
      refine rn_iconst (v := nI 1) C dX12_rootOf_138 rfl ?_
      exact rn_zret C Rt dX12_rootOf_139 (by first | rfl | exact rfl) (pi_of (((if_neg (fun q => q hb2)).trans (if_neg hb10)).trans (tupi _ _))) (Nat.zero_le _) (Nat.zero_le _)
def mbase_f (c : Bool) (mo : Nat) (x : Nat) (sg : Int32) (S : StT) : StT := (if ((S.1 (mo + 7) (32 * x)) &&& (nI (1))) = (sg) then msmall_f (mo) (x + 2) (nI (1)) S else msmall_f (mo) (x + 2) (nI (1)) (mminus_f c (mo) (x) (25) (x) (mzero_f (mo) (25) S)))
theorem mbase_F (c : Bool) (mo : Nat) (x : Nat) (sg : Int32) (S : StT) : (mbase_f c mo x sg S).2.2 = S.2.2 := by
  unfold mbase_f; (repeat' split) <;> simp only [mmul_F, mplus_F, mminus_F, msmall_F, mzero_F, minv_F, mpow_F]
set_option maxRecDepth 100000 in
set_option maxHeartbeats 4000000 in
theorem c_mbase {k : KX} {L : Nat → Option Sh} {S : StT} {n : Nat} {c : Bool} {mo : Nat} {x : Nat} {sg : Int32} (hM : ModelAt k L mo) (hx : x < 60) (hcn : S.2.2 mo 13 = nI (bN c)) (hpc : S.2.2 mo 14 = nI (pN c)) :
    Cs k yX12_baseOf cX12_baseOf 3 none 3 0 0 [.ref (k_b k + (mo)), .int (nI (x)), .int (sg)] (inst k L S.1 S.2.1 S.2.2) n (Pv k L n (mbase_f c mo x sg S)) := by
  refine cs_of (by decide) (Nat.le_of_ble_eq_true rfl) ?_
  intro X hXk C Rt hnm
  subst hXk
  have hM9 := hM
  obtain ⟨hM0, hm1, hm2, hm3, hm4, hm5, hm6, hm7, hm8, hm9, hm10, hm11, hm12, hm13, hm14, hm15, hm16, hm17, hm18, hm19, hm20, hm21, hm22, hm23, hm24, hm25, hm26, hm27⟩ := hM9
  obtain ⟨hp1, hp2⟩ := pN_le c
  have hbn := bN_le c
  refine rn_lv [(0, .ref (k_b X.1 + (mo))), (1, .int (nI (x))), (2, .int (sg))] (fun q h => h) ?_
  refine rn_aload_n C dX12_baseOf_0 rfl ?_
  refine rs_get C dX12_baseOf_1 fl_X12_41 hM0 rfl ?_
  refine rn_bipush (v := nI 32) C dX12_baseOf_4 rfl ?_
  refine rn_iload_n C dX12_baseOf_6 rfl ?_
  refine rn_imul C dX12_baseOf_7 (pk_mul _ _) ?_
  refine rs_iaload C dX12_baseOf_8 hm7 rfl (by omega) (by decide) ?_
  refine rn_iconst (v := nI 1) C dX12_baseOf_9 rfl ?_
  refine rn_iand C dX12_baseOf_10 rfl ?_
  refine rn_iload_n C dX12_baseOf_11 rfl ?_
  refine rn_icmp_eq (tgt := 29) C dX12_baseOf_12 (by decide) (fun hb1 => ?_) (fun hb1 => ?_)
  · skip
    refine rn_aload_n C dX12_baseOf_29 rfl ?_
    refine rn_iload_n C dX12_baseOf_30 rfl ?_
    refine rn_iconst (v := nI 2) C dX12_baseOf_31 rfl ?_
    refine rn_iadd C dX12_baseOf_32 (nI_add _ _) ?_
    refine rn_iconst (v := nI 1) C dX12_baseOf_33 rfl ?_
    refine rs_vv C dX12_baseOf_34 mk_X12_small lv_X12_136 (c_msmall hM (by omega)) hM0 rfl rfl rfl rfl (by decide) (Nat.le_of_ble_eq_true rfl) (by decide) (by decide) ?_
    exact rn_vret C Rt dX12_baseOf_37 (pv_of ((if_pos hb1).trans (tup _))) (Nat.zero_le _) (Nat.zero_le _)
  · skip
    refine rn_aload_n C dX12_baseOf_15 rfl ?_
    refine rn_bipush (v := nI 25) C dX12_baseOf_16 rfl ?_
    refine rs_vv C dX12_baseOf_18 mk_X12_zero lv_X12_148 (c_mzero hM (by omega)) hM0 rfl rfl rfl rfl (by decide) (Nat.le_of_ble_eq_true rfl) (by decide) (by decide) ?_
    refine rn_aload_n C dX12_baseOf_21 rfl ?_
    refine rn_iload_n C dX12_baseOf_22 rfl ?_
    refine rn_bipush (v := nI 25) C dX12_baseOf_23 rfl ?_
    refine rn_iload_n C dX12_baseOf_25 rfl ?_
    refine rs_vv C dX12_baseOf_26 mk_X12_minus lv_X12_151 (c_mminus hM (by omega) (by omega) (by omega) (by first | (simp only [zero28_F, mzero_F, msmall_F, mcopy_F, takeOff_F, mfold_F, mmul_F, mplus_F, mminus_F, mpow_F, minv_F, mneutral_F, mcopyP_F, mneg_F, msum_F, mmany_F, mroot_F]; with_reducible exact hcn) | with_reducible exact hcn | exact hcn) (by first | (simp only [zero28_F, mzero_F, msmall_F, mcopy_F, takeOff_F, mfold_F, mmul_F, mplus_F, mminus_F, mpow_F, minv_F, mneutral_F, mcopyP_F, mneg_F, msum_F, mmany_F, mroot_F]; with_reducible exact hpc) | with_reducible exact hpc | exact hpc)) hM0 rfl rfl rfl rfl (by decide) (Nat.le_of_ble_eq_true rfl) (by decide) (by decide) ?_
    refine rn_aload_n C dX12_baseOf_29 rfl ?_
    refine rn_iload_n C dX12_baseOf_30 rfl ?_
    refine rn_iconst (v := nI 2) C dX12_baseOf_31 rfl ?_
    refine rn_iadd C dX12_baseOf_32 (nI_add _ _) ?_
    refine rn_iconst (v := nI 1) C dX12_baseOf_33 rfl ?_
    refine rs_vv C dX12_baseOf_34 mk_X12_small lv_X12_136 (c_msmall hM (by omega)) hM0 rfl rfl rfl rfl (by decide) (Nat.le_of_ble_eq_true rfl) (by decide) (by decide) ?_
    exact rn_vret C Rt dX12_baseOf_37 (pv_of ((if_neg hb1).trans (tup _))) (Nat.zero_le _) (Nat.zero_le _)
def menc_l31 (c : Bool) (mo : Nat) (a : Nat) (S1 : StT) (S : StT)  : Nat → (Nat → Nat → Int32)
  | 0 => S.1
  | i31 + 1 => let y31_0 := (menc_l31 c mo a S1 S i31); (let I4 := va_up y31_0 (mo + 27) (upd (y31_0 (mo + 27)) (i31) ((if (nI (2 * (pN c))) ≤ (nI (i31)) then nI (0) else ((y31_0 (mo + 7) (1664 + (i31 / 2 ^ 1))) >>> ((nI (8 * (i31 % 2 ^ 1))) &&& 31)) &&& (nI (255))))); I4)
def menc_f (c : Bool) (mo : Nat) (a : Nat) (S : StT) : StT := (let S1 := mmul_f c (mo) (52) (a + 1) (50) (mmul_f c (mo) (51) (a) (50) (minv_f c (mo) (50) (a + 2) S)); (let I2 := va_up (menc_l31 c mo a S1 S1 57) (mo + 27) (upd ((menc_l31 c mo a S1 S1 57) (mo + 27)) (cB c - 1) (((menc_l31 c mo a S1 S1 57) (mo + 27) (cB c - 1)) ||| ((((menc_l31 c mo a S1 S1 57) (mo + 7) (1632)) &&& (nI (1))) <<< ((nI (7)) &&& 31)))); (I2, S1.2.1, S1.2.2)))
theorem menc_F (c : Bool) (mo : Nat) (a : Nat) (S : StT) : (menc_f c mo a S).2.2 = S.2.2 := by
  unfold menc_f; simp only [mmul_F, mplus_F, mminus_F, msmall_F, mzero_F, minv_F, mpow_F]
set_option maxRecDepth 100000 in
set_option maxHeartbeats 4000000 in
theorem c_menc {k : KX} {L : Nat → Option Sh} {S : StT} {n : Nat} {c : Bool} {mo : Nat} {a : Nat} (hM : ModelAt k L mo) (ha : a < 60) (hcn : S.2.2 mo 13 = nI (bN c)) (hpc : S.2.2 mo 14 = nI (pN c)) :
    Cs k yX12_encode cX12_encode 3 none 5 0 0 [.ref (k_b k + (mo)), .int (nI (a))] (inst k L S.1 S.2.1 S.2.2) n (Pv k L n (menc_f c mo a S)) := by
  refine cs_of (by decide) (Nat.le_of_ble_eq_true rfl) ?_
  intro X hXk C Rt hnm
  subst hXk
  have hM9 := hM
  obtain ⟨hM0, hm1, hm2, hm3, hm4, hm5, hm6, hm7, hm8, hm9, hm10, hm11, hm12, hm13, hm14, hm15, hm16, hm17, hm18, hm19, hm20, hm21, hm22, hm23, hm24, hm25, hm26, hm27⟩ := hM9
  obtain ⟨hp1, hp2⟩ := pN_le c
  have hbn := bN_le c
  obtain ⟨hk1, hk2⟩ := cB_le c
  refine rn_lv [(0, .ref (k_b X.1 + (mo))), (1, .int (nI (a)))] (fun q h => h) ?_
  refine rn_aload_n C dX12_encode_0 rfl ?_
  refine rn_bipush (v := nI 50) C dX12_encode_1 rfl ?_
  refine rn_iload_n C dX12_encode_3 rfl ?_
  refine rn_iconst (v := nI 2) C dX12_encode_4 rfl ?_
  refine rn_iadd C dX12_encode_5 (nI_add _ _) ?_
  refine rs_vv C dX12_encode_6 mk_X12_inverse lv_X12_141 (c_minv hM (by omega) (by omega) hcn hpc) hM0 rfl rfl rfl rfl (by decide) (Nat.le_of_ble_eq_true rfl) (by decide) (by decide) ?_
  refine rn_aload_n C dX12_encode_9 rfl ?_
  refine rn_bipush (v := nI 51) C dX12_encode_10 rfl ?_
  refine rn_iload_n C dX12_encode_12 rfl ?_
  refine rn_bipush (v := nI 50) C dX12_encode_13 rfl ?_
  refine rs_vv C dX12_encode_15 mk_X12_mul lv_X12_144 (c_mmul hM (by omega) (by omega) (by omega) (by first | (simp only [zero28_F, mzero_F, msmall_F, mcopy_F, takeOff_F, mfold_F, mmul_F, mplus_F, mminus_F, mpow_F, minv_F, mneutral_F, mcopyP_F, mneg_F, msum_F, mmany_F, mroot_F, mbase_F]; with_reducible exact hcn) | with_reducible exact hcn | exact hcn) (by first | (simp only [zero28_F, mzero_F, msmall_F, mcopy_F, takeOff_F, mfold_F, mmul_F, mplus_F, mminus_F, mpow_F, minv_F, mneutral_F, mcopyP_F, mneg_F, msum_F, mmany_F, mroot_F, mbase_F]; with_reducible exact hpc) | with_reducible exact hpc | exact hpc)) hM0 rfl rfl rfl rfl (by decide) (Nat.le_of_ble_eq_true rfl) (by decide) (by decide) ?_
  refine rn_aload_n C dX12_encode_18 rfl ?_
  refine rn_bipush (v := nI 52) C dX12_encode_19 rfl ?_
  refine rn_iload_n C dX12_encode_21 rfl ?_
  refine rn_iconst (v := nI 1) C dX12_encode_22 rfl ?_
  refine rn_iadd C dX12_encode_23 (nI_add _ _) ?_
  refine rn_bipush (v := nI 50) C dX12_encode_24 rfl ?_
  refine rs_vv C dX12_encode_26 mk_X12_mul lv_X12_144 (c_mmul hM (by omega) (by omega) (by omega) (by first | (simp only [zero28_F, mzero_F, msmall_F, mcopy_F, takeOff_F, mfold_F, mmul_F, mplus_F, mminus_F, mpow_F, minv_F, mneutral_F, mcopyP_F, mneg_F, msum_F, mmany_F, mroot_F, mbase_F]; with_reducible exact hcn) | with_reducible exact hcn | exact hcn) (by first | (simp only [zero28_F, mzero_F, msmall_F, mcopy_F, takeOff_F, mfold_F, mmul_F, mplus_F, mminus_F, mpow_F, minv_F, mneutral_F, mcopyP_F, mneg_F, msum_F, mmany_F, mroot_F, mbase_F]; with_reducible exact hpc) | with_reducible exact hpc | exact hpc)) hM0 rfl rfl rfl rfl (by decide) (Nat.le_of_ble_eq_true rfl) (by decide) (by decide) ?_
  refine rn_iconst (v := nI 0) C dX12_encode_29 rfl ?_
  refine rn_istore_n (lv' := [(0, _), (1, _), (2, _)]) C dX12_encode_30 (by decide) rfl ?_
  have lp31 : ∀ i31, i31 ≤ 57 → Rn X 31 [(0, .ref (k_b X.1 + (mo))), (1, .int (nI (a))), (2, .int (nI (i31)))] [] (inst X.1 L (menc_l31 c mo a (mmul_f c (mo) (52) (a + 1) (50) (mmul_f c (mo) (51) (a) (50) (minv_f c (mo) (50) (a + 2) S))) (mmul_f c (mo) (52) (a + 1) (50) (mmul_f c (mo) (51) (a) (50) (minv_f c (mo) (50) (a + 2) S))) i31) (mmul_f c (mo) (52) (a + 1) (50) (mmul_f c (mo) (51) (a) (50) (minv_f c (mo) (50) (a + 2) S))).2.1 (mmul_f c (mo) (52) (a + 1) (50) (mmul_f c (mo) (51) (a) (50) (minv_f c (mo) (50) (a + 2) S))).2.2) n 0 0 := by
    refine upto _ _ ?_ (fun i31 hi31 ih31 => ?_)
    · skip
      refine rn_iload_n C dX12_encode_31 rfl ?_
      refine rn_bipush (v := nI 57) C dX12_encode_32 rfl ?_
      refine rs_ge (tgt := 86) C dX12_encode_34 (by decide) rfl rfl (by omega) (by omega) (fun _ => ?_) (fun q => absurd q (by omega))
      refine rn_aload_n C dX12_encode_86 rfl ?_
      refine rs_vi C dX12_encode_87 mk_X12_keyBytes lv_X12_231 (cv_mkeyB (S := ((menc_l31 c mo a (mmul_f c (mo) (52) (a + 1) (50) (mmul_f c (mo) (51) (a) (50) (minv_f c (mo) (50) (a + 2) S))) (mmul_f c (mo) (52) (a + 1) (50) (mmul_f c (mo) (51) (a) (50) (minv_f c (mo) (50) (a + 2) S))) 57), (mmul_f c (mo) (52) (a + 1) (50) (mmul_f c (mo) (51) (a) (50) (minv_f c (mo) (50) (a + 2) S))).2.1, (mmul_f c (mo) (52) (a + 1) (50) (mmul_f c (mo) (51) (a) (50) (minv_f c (mo) (50) (a + 2) S))).2.2)) hM  (by first | (simp only [zero28_F, mzero_F, msmall_F, mcopy_F, takeOff_F, mfold_F, mmul_F, mplus_F, mminus_F, mpow_F, minv_F, mneutral_F, mcopyP_F, mneg_F, msum_F, mmany_F, mroot_F, mbase_F]; with_reducible exact hcn) | with_reducible exact hcn | exact hcn) (by first | (simp only [zero28_F, mzero_F, msmall_F, mcopy_F, takeOff_F, mfold_F, mmul_F, mplus_F, mminus_F, mpow_F, minv_F, mneutral_F, mcopyP_F, mneg_F, msum_F, mmany_F, mroot_F, mbase_F]; with_reducible exact hpc) | with_reducible exact hpc | exact hpc)) hM0 rfl rfl rfl rfl (by decide) (Nat.le_of_ble_eq_true rfl) (by decide) (by decide) ?_
      refine rn_iconst (v := nI 1) C dX12_encode_90 rfl ?_
      refine rn_isub C dX12_encode_91 (pk_sub (by omega)) ?_
      refine rn_istore_n (lv' := [(0, _), (1, _), (2, _)]) C dX12_encode_92 (by decide) rfl ?_
      refine rn_aload_n C dX12_encode_93 rfl ?_
      refine rs_get C dX12_encode_94 fl_X12_111 hM0 rfl ?_
      refine rn_iload_n C dX12_encode_97 rfl ?_
      refine rn_aload_n C dX12_encode_98 rfl ?_
      refine rs_get C dX12_encode_99 fl_X12_111 hM0 rfl ?_
      refine rn_iload_n C dX12_encode_102 rfl ?_
      refine rs_iaload C dX12_encode_103 hm27 rfl (by omega) (by decide) ?_
      refine rn_aload_n C dX12_encode_104 rfl ?_
      refine rs_get C dX12_encode_105 fl_X12_41 hM0 rfl ?_
      refine rn_sipush (v := nI 1632) C dX12_encode_108 rfl ?_
      refine rs_iaload C dX12_encode_111 hm7 rfl (by omega) (by decide) ?_
      refine rn_iconst (v := nI 1) C dX12_encode_112 rfl ?_
      refine rn_iand C dX12_encode_113 rfl ?_
      refine rn_bipush (v := nI 7) C dX12_encode_114 rfl ?_
      refine rn_ishl C dX12_encode_116 rfl ?_
      refine rn_ior C dX12_encode_117 rfl ?_
      refine rs_iastore C dX12_encode_118 hm27 rfl (by omega) (by decide) ?_
      exact rn_vret C Rt dX12_encode_119 (pv_of rfl) (Nat.zero_le _) (Nat.zero_le _)
    · skip
      refine rn_iload_n C dX12_encode_31 rfl ?_
      refine rn_bipush (v := nI 57) C dX12_encode_32 rfl ?_
      refine rs_ge (tgt := 86) C dX12_encode_34 (by decide) rfl rfl (by omega) (by omega) (fun q => absurd q (by omega)) (fun _ => ?_)
      refine rn_aload_n C dX12_encode_37 rfl ?_
      refine rs_get C dX12_encode_38 fl_X12_111 hM0 rfl ?_
      refine rn_iload_n C dX12_encode_41 rfl ?_
      refine rn_iload_n C dX12_encode_42 rfl ?_
      refine rn_iconst (v := nI 2) C dX12_encode_43 rfl ?_
      refine rn_aload_n C dX12_encode_44 rfl ?_
      refine rs_getFe C dX12_encode_45 fl_X12_54 hM0 rfl (by first | (simp only [zero28_F, mzero_F, msmall_F, mcopy_F, takeOff_F, mfold_F, mmul_F, mplus_F, mminus_F, mpow_F, minv_F, mneutral_F, mcopyP_F, mneg_F, msum_F, mmany_F, mroot_F, mbase_F]; with_reducible exact hpc) | with_reducible exact hpc | exact hpc) ?_
      refine rn_imul C dX12_encode_48 (pk_mul _ _) ?_
      have K49_3 : Rn X 79 [(0, .ref (k_b X.1 + (mo))), (1, .int (nI (a))), (2, .int (nI (i31)))] [.int ((if (nI (2 * (pN c))) ≤ (nI (i31)) then nI (0) else (((menc_l31 c mo a (mmul_f c (mo) (52) (a + 1) (50) (mmul_f c (mo) (51) (a) (50) (minv_f c (mo) (50) (a + 2) S))) (mmul_f c (mo) (52) (a + 1) (50) (mmul_f c (mo) (51) (a) (50) (minv_f c (mo) (50) (a + 2) S))) i31) (mo + 7) (1664 + (i31 / 2 ^ 1))) >>> ((nI (8 * (i31 % 2 ^ 1))) &&& 31)) &&& (nI (255)))), .int (nI (i31)), .ref (k_b X.1 + (mo + 27))] (inst X.1 L (menc_l31 c mo a (mmul_f c (mo) (52) (a + 1) (50) (mmul_f c (mo) (51) (a) (50) (minv_f c (mo) (50) (a + 2) S))) (mmul_f c (mo) (52) (a + 1) (50) (mmul_f c (mo) (51) (a) (50) (minv_f c (mo) (50) (a + 2) S))) i31) (mmul_f c (mo) (52) (a + 1) (50) (mmul_f c (mo) (51) (a) (50) (minv_f c (mo) (50) (a + 2) S))).2.1 (mmul_f c (mo) (52) (a + 1) (50) (mmul_f c (mo) (51) (a) (50) (minv_f c (mo) (50) (a + 2) S))).2.2) n 0 0 := by
        refine rs_iastore C dX12_encode_79 hm27 rfl (by omega) (by decide) ?_
        refine rn_iinc (lv' := [(0, _), (1, _), (2, _)]) C dX12_encode_80 rfl (nI_inc _) (by decide) rfl ?_
        refine rn_goto (tgt := 31) C dX12_encode_83 (by decide) ?_
        exact rn_ks [0, 1, 2] ih31 rfl
      refine rn_icmp_ge (tgt := 78) C dX12_encode_49 (by decide) (fun hb3 => ?_) (fun hb3 => ?_)
      · skip
        refine rn_iconst (v := nI 0) C dX12_encode_78 rfl ?_
        rw [if_pos hb3] at K49_3
        exact K49_3
      · skip
        refine rn_aload_n C dX12_encode_52 rfl ?_
        refine rs_get C dX12_encode_53 fl_X12_41 hM0 rfl ?_
        refine rn_sipush (v := nI 1664) C dX12_encode_56 rfl ?_
        refine rn_iload_n C dX12_encode_59 rfl ?_
        refine rn_iconst (v := nI 1) C dX12_encode_60 rfl ?_
        refine rn_ishr C dX12_encode_61 (pk_shrN (by omega) _ 1 (by decide)) ?_
        refine rn_iadd C dX12_encode_62 (nI_add _ _) ?_
        refine rs_iaload C dX12_encode_63 hm7 rfl (by omega) (by decide) ?_
        refine rn_bipush (v := nI 8) C dX12_encode_64 rfl ?_
        refine rn_iload_n C dX12_encode_66 rfl ?_
        refine rn_iconst (v := nI 1) C dX12_encode_67 rfl ?_
        refine rn_iand C dX12_encode_68 (pk_andN (by omega) 1 (by decide)) ?_
        refine rn_imul C dX12_encode_69 (pk_mul _ _) ?_
        refine rn_ishr C dX12_encode_70 rfl ?_
        refine rn_sipush (v := nI 255) C dX12_encode_71 rfl ?_
        refine rn_iand C dX12_encode_74 rfl ?_
        refine rn_goto (tgt := 79) C dX12_encode_75 (by decide) ?_
        rw [if_neg hb3] at K49_3
        exact K49_3
  exact lp31 0 (Nat.zero_le _)
