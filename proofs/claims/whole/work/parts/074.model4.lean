/-! CurveSuiteModel: further methods, by program (dc.py, spec_model4.py) -/
def turned_f (v : Int64) (r : Int32) (S : StT) : Int64 × StT := (((v.toUInt64 >>> ((r).toInt64.toUInt64 &&& Int64.toUInt64 63)).toInt64) ||| (v <<< (((nI (64)) - (r)).toInt64 &&& 63)), S)
set_option maxRecDepth 100000 in
set_option maxHeartbeats 4000000 in
theorem c_turned {k : KX} {L : Nat → Option Sh} {S : StT} {n : Nat} {v : Int64} {r : Int32}  :
    Cs k yX12_turned cX12_turned 3 (some .long) 0 0 0 [.long (v), .int (r)] (inst k L S.1 S.2.1 S.2.2) n (Pl k L n (turned_f v r S)) := by
  refine cs_of (by decide) (Nat.le_of_ble_eq_true rfl) ?_
  intro X hXk C Rt hnm
  subst hXk
  refine rn_lv [(0, .long (v)), (2, .int (r))] (fun q h => h) ?_
  refine rn_lload_n C dX12_turned_0 rfl ?_
  refine rn_iload_n C dX12_turned_1 rfl ?_
  refine rn_lushr C dX12_turned_2 rfl ?_
  refine rn_lload_n C dX12_turned_3 rfl ?_
  refine rn_bipush (v := nI 64) C dX12_turned_4 rfl ?_
  refine rn_iload_n C dX12_turned_6 rfl ?_
  refine rn_isub C dX12_turned_7 rfl ?_
  refine rn_lshl C dX12_turned_8 rfl ?_
  refine rn_lor C dX12_turned_9 rfl ?_
  exact rn_lret C Rt dX12_turned_10 (pl_of rfl) (Nat.zero_le _) (Nat.zero_le _)
theorem turned_S (v : Int64) (r : Int32) (S : StT) : (turned_f v r S).2 = S := rfl
theorem cp_turned {k : KX} {L : Nat → Option Sh} {S : StT} {n : Nat} {v : Int64} {r : Int32}  :
    Cs k yX12_turned cX12_turned 3 (some .long) 0 0 0 [.long (v), .int (r)] (inst k L S.1 S.2.1 S.2.2) n (Pl k L n ((turned_f v r S).1, S)) := by
  have h := c_turned (k := k) (L := L) (S := S) (n := n) (v := v) (r := r) 
  have e : turned_f v r S = ((turned_f v r S).1, S) := Prod.ext rfl (turned_S v r S)
  rwa [e] at h
def mleft_f (v : Int64) (r : Int32) (S : StT) : Int64 × StT := ((if (r) ≠ 0 then (v <<< ((r).toInt64 &&& 63)) ||| ((v.toUInt64 >>> (((nI (64)) - (r)).toInt64.toUInt64 &&& Int64.toUInt64 63)).toInt64) else v), S)
set_option maxRecDepth 100000 in
set_option maxHeartbeats 4000000 in
theorem c_mleft {k : KX} {L : Nat → Option Sh} {S : StT} {n : Nat} {v : Int64} {r : Int32}  :
    Cs k yX12_left cX12_left 3 (some .long) 0 0 0 [.long (v), .int (r)] (inst k L S.1 S.2.1 S.2.2) n (Pl k L n (mleft_f v r S)) := by
  refine cs_of (by decide) (Nat.le_of_ble_eq_true rfl) ?_
  intro X hXk C Rt hnm
  subst hXk
  refine rn_lv [(0, .long (v)), (2, .int (r))] (fun q h => h) ?_
  refine rn_iload_n C dX12_left_0 rfl ?_
  have K1_1 : Rn X 18 [(0, .long (v)), (2, .int (r))] [.long ((if (r) ≠ 0 then (v <<< ((r).toInt64 &&& 63)) ||| ((v.toUInt64 >>> (((nI (64)) - (r)).toInt64.toUInt64 &&& Int64.toUInt64 63)).toInt64) else v))] (inst X.1 L S.1 S.2.1 S.2.2) n 0 0 := by
    exact rn_lret C Rt dX12_left_18 (pl_of rfl) (Nat.zero_le _) (Nat.zero_le _)
  refine rn_if_ne (tgt := 8) C dX12_left_1 (by decide) (fun hb1 => ?_) (fun hb1 => ?_)
  · skip
    refine rn_lload_n C dX12_left_8 rfl ?_
    refine rn_iload_n C dX12_left_9 rfl ?_
    refine rn_lshl C dX12_left_10 rfl ?_
    refine rn_lload_n C dX12_left_11 rfl ?_
    refine rn_bipush (v := nI 64) C dX12_left_12 rfl ?_
    refine rn_iload_n C dX12_left_14 rfl ?_
    refine rn_isub C dX12_left_15 rfl ?_
    refine rn_lushr C dX12_left_16 rfl ?_
    refine rn_lor C dX12_left_17 rfl ?_
    rw [if_pos hb1] at K1_1
    exact K1_1
  · skip
    refine rn_lload_n C dX12_left_4 rfl ?_
    refine rn_goto (tgt := 18) C dX12_left_5 (by decide) ?_
    rw [if_neg (fun q => q hb1)] at K1_1
    exact K1_1
theorem mleft_S (v : Int64) (r : Int32) (S : StT) : (mleft_f v r S).2 = S := by unfold mleft_f; split <;> rfl
theorem cp_mleft {k : KX} {L : Nat → Option Sh} {S : StT} {n : Nat} {v : Int64} {r : Int32}  :
    Cs k yX12_left cX12_left 3 (some .long) 0 0 0 [.long (v), .int (r)] (inst k L S.1 S.2.1 S.2.2) n (Pl k L n ((mleft_f v r S).1, S)) := by
  have h := c_mleft (k := k) (L := L) (S := S) (n := n) (v := v) (r := r) 
  have e : mleft_f v r S = ((mleft_f v r S).1, S) := Prod.ext rfl (mleft_S v r S)
  rwa [e] at h
def mswap_l2 (mo : Nat) (S : StT)  : Nat → StT
  | 0 => S
  | i2 + 1 => let y2_0 := (mswap_l2 mo S i2); (let S1 := mcopy_f (mo) (40 + i2) (48) (mcopy_f (mo) (21 + i2) (40 + i2) (mcopy_f (mo) (48) (21 + i2) y2_0)); S1)
theorem mswap_l2_F (mo : Nat) (S : StT)  : ∀ i, (mswap_l2 mo S i).2.2 = S.2.2 := by
  intro i
  induction i with
  | zero => rfl
  | succ i ih =>
    unfold mswap_l2
    dsimp only
    (repeat' split) <;> simp only [zero28_F, mzero_F, msmall_F, mcopy_F, takeOff_F, mfold_F, mmul_F, mplus_F, mminus_F, mpow_F, minv_F, mneutral_F, mcopyP_F, mneg_F, msum_F, mmany_F, mroot_F, mbase_F, menc_F, mmod_F, mcomb_F, ih]
def mswap_f (mo : Nat) (S : StT) : StT := (mswap_l2 mo S 2)
theorem mswap_F (mo : Nat) (S : StT) : (mswap_f mo S).2.2 = S.2.2 := by
  unfold mswap_f; simp only [mswap_l2_F]
set_option maxRecDepth 100000 in
set_option maxHeartbeats 4000000 in
theorem c_mswap {k : KX} {L : Nat → Option Sh} {S : StT} {n : Nat} {mo : Nat} (hM : ModelAt k L mo) :
    Cs k yX12_swap cX12_swap 2 none 1 0 0 [.ref (k_b k + (mo))] (inst k L S.1 S.2.1 S.2.2) n (Pv k L n (mswap_f mo S)) := by
  refine cs_of (by decide) (Nat.le_of_ble_eq_true rfl) ?_
  intro X hXk C Rt hnm
  subst hXk
  have hM9 := hM
  obtain ⟨hM0, hm1, hm2, hm3, hm4, hm5, hm6, hm7, hm8, hm9, hm10, hm11, hm12, hm13, hm14, hm15, hm16, hm17, hm18, hm19, hm20, hm21, hm22, hm23, hm24, hm25, hm26, hm27⟩ := hM9
  refine rn_lv [(0, .ref (k_b X.1 + (mo)))] (fun q h => h) ?_
  refine rn_iconst (v := nI 0) C dX12_swap_0 rfl ?_
  refine rn_istore_n (lv' := [(0, _), (1, _)]) C dX12_swap_1 (by decide) rfl ?_
  have lp2 : ∀ i2, i2 ≤ 2 → Rn X 2 [(0, .ref (k_b X.1 + (mo))), (1, .int (nI (i2)))] [] (inst X.1 L (mswap_l2 mo S i2).1 (mswap_l2 mo S i2).2.1 (mswap_l2 mo S i2).2.2) n 0 0 := by
    refine upto _ _ ?_ (fun i2 hi2 ih2 => ?_)
    · skip
      refine rn_iload_n C dX12_swap_2 rfl ?_
      refine rn_iconst (v := nI 2) C dX12_swap_3 rfl ?_
      refine rs_ge (tgt := 45) C dX12_swap_4 (by decide) rfl rfl (by omega) (by omega) (fun _ => ?_) (fun q => absurd q (by omega))
      exact rn_vret C Rt dX12_swap_45 (pv_of (tup _)) (Nat.zero_le _) (Nat.zero_le _)
    · skip
      refine rn_iload_n C dX12_swap_2 rfl ?_
      refine rn_iconst (v := nI 2) C dX12_swap_3 rfl ?_
      refine rs_ge (tgt := 45) C dX12_swap_4 (by decide) rfl rfl (by omega) (by omega) (fun q => absurd q (by omega)) (fun _ => ?_)
      refine rn_aload_n C dX12_swap_7 rfl ?_
      refine rn_bipush (v := nI 48) C dX12_swap_8 rfl ?_
      refine rn_bipush (v := nI 21) C dX12_swap_10 rfl ?_
      refine rn_iload_n C dX12_swap_12 rfl ?_
      refine rn_iadd C dX12_swap_13 (nI_add _ _) ?_
      refine rs_vv C dX12_swap_14 mk_X12_copy lv_X12_194 (c_mcopy hM (by omega) (by omega)) hM0 rfl rfl rfl rfl (by decide) (Nat.le_of_ble_eq_true rfl) (by decide) (by decide) ?_
      refine rn_aload_n C dX12_swap_17 rfl ?_
      refine rn_bipush (v := nI 21) C dX12_swap_18 rfl ?_
      refine rn_iload_n C dX12_swap_20 rfl ?_
      refine rn_iadd C dX12_swap_21 (nI_add _ _) ?_
      refine rn_bipush (v := nI 40) C dX12_swap_22 rfl ?_
      refine rn_iload_n C dX12_swap_24 rfl ?_
      refine rn_iadd C dX12_swap_25 (nI_add _ _) ?_
      refine rs_vv C dX12_swap_26 mk_X12_copy lv_X12_194 (c_mcopy hM (by omega) (by omega)) hM0 rfl rfl rfl rfl (by decide) (Nat.le_of_ble_eq_true rfl) (by decide) (by decide) ?_
      refine rn_aload_n C dX12_swap_29 rfl ?_
      refine rn_bipush (v := nI 40) C dX12_swap_30 rfl ?_
      refine rn_iload_n C dX12_swap_32 rfl ?_
      refine rn_iadd C dX12_swap_33 (nI_add _ _) ?_
      refine rn_bipush (v := nI 48) C dX12_swap_34 rfl ?_
      refine rs_vv C dX12_swap_36 mk_X12_copy lv_X12_194 (c_mcopy hM (by omega) (by omega)) hM0 rfl rfl rfl rfl (by decide) (Nat.le_of_ble_eq_true rfl) (by decide) (by decide) ?_
      refine rn_iinc (lv' := [(0, _), (1, _)]) C dX12_swap_39 rfl (nI_inc _) (by decide) rfl ?_
      refine rn_goto (tgt := 2) C dX12_swap_42 (by decide) ?_
      exact rn_ks [0, 1] ih2 rfl
  exact lp2 0 (Nat.zero_le _)
def mrung_f (c : Bool) (mo : Nat) (S : StT) : StT := (let S1 := mminus_f c (mo) (32) (21) (22) (mmul_f c (mo) (31) (30) (30) (mplus_f c (mo) (30) (21) (22) S)); (let S2 := mplus_f c (mo) (35) (40) (41) (mminus_f c (mo) (34) (31) (33) (mmul_f c (mo) (33) (32) (32) S1)); (let S3 := mmul_f c (mo) (35) (35) (32) (mmul_f c (mo) (36) (36) (30) (mminus_f c (mo) (36) (40) (41) S2)); (let S4 := mminus_f c (mo) (37) (36) (35) (mmul_f c (mo) (40) (37) (37) (mplus_f c (mo) (37) (36) (35) S3)); (let S5 := mmul_f c (mo) (21) (31) (33) (mmul_f c (mo) (41) (46) (37) (mmul_f c (mo) (37) (37) (37) S4)); (let S6 := mmul_f c (mo) (22) (34) (38) (mplus_f c (mo) (38) (31) (38) (mmul_f c (mo) (38) (47) (34) S5)); S6))))))
theorem mrung_F (c : Bool) (mo : Nat) (S : StT) : (mrung_f c mo S).2.2 = S.2.2 := by
  unfold mrung_f; simp only [mmul_F, mplus_F, mminus_F, msmall_F, mzero_F, minv_F, mpow_F]
set_option maxRecDepth 100000 in
set_option maxHeartbeats 4000000 in
theorem c_mrung {k : KX} {L : Nat → Option Sh} {S : StT} {n : Nat} {c : Bool} {mo : Nat} (hM : ModelAt k L mo) (hcn : S.2.2 mo 13 = nI (bN c)) (hpc : S.2.2 mo 14 = nI (pN c)) :
    Cs k yX12_rung cX12_rung 1 none 3 0 0 [.ref (k_b k + (mo))] (inst k L S.1 S.2.1 S.2.2) n (Pv k L n (mrung_f c mo S)) := by
  refine cs_of (by decide) (Nat.le_of_ble_eq_true rfl) ?_
  intro X hXk C Rt hnm
  subst hXk
  have hM9 := hM
  obtain ⟨hM0, hm1, hm2, hm3, hm4, hm5, hm6, hm7, hm8, hm9, hm10, hm11, hm12, hm13, hm14, hm15, hm16, hm17, hm18, hm19, hm20, hm21, hm22, hm23, hm24, hm25, hm26, hm27⟩ := hM9
  obtain ⟨hp1, hp2⟩ := pN_le c
  have hbn := bN_le c
  refine rn_lv [(0, .ref (k_b X.1 + (mo)))] (fun q h => h) ?_
  refine rn_aload_n C dX12_rung_0 rfl ?_
  refine rn_bipush (v := nI 30) C dX12_rung_1 rfl ?_
  refine rn_bipush (v := nI 21) C dX12_rung_3 rfl ?_
  refine rn_bipush (v := nI 22) C dX12_rung_5 rfl ?_
  refine rs_vv C dX12_rung_7 mk_X12_plus lv_X12_201 (c_mplus hM (by omega) (by omega) (by omega) hcn hpc) hM0 rfl rfl rfl rfl (by decide) (Nat.le_of_ble_eq_true rfl) (by decide) (by decide) ?_
  refine rn_aload_n C dX12_rung_10 rfl ?_
  refine rn_bipush (v := nI 31) C dX12_rung_11 rfl ?_
  refine rn_bipush (v := nI 30) C dX12_rung_13 rfl ?_
  refine rn_bipush (v := nI 30) C dX12_rung_15 rfl ?_
  refine rs_vv C dX12_rung_17 mk_X12_mul lv_X12_144 (c_mmul hM (by omega) (by omega) (by omega) (by first | (simp only [zero28_F, mzero_F, msmall_F, mcopy_F, takeOff_F, mfold_F, mmul_F, mplus_F, mminus_F, mpow_F, minv_F, mneutral_F, mcopyP_F, mneg_F, msum_F, mmany_F, mroot_F, mbase_F, menc_F, mmod_F, mcomb_F, mswap_F]; with_reducible exact hcn) | with_reducible exact hcn | exact hcn) (by first | (simp only [zero28_F, mzero_F, msmall_F, mcopy_F, takeOff_F, mfold_F, mmul_F, mplus_F, mminus_F, mpow_F, minv_F, mneutral_F, mcopyP_F, mneg_F, msum_F, mmany_F, mroot_F, mbase_F, menc_F, mmod_F, mcomb_F, mswap_F]; with_reducible exact hpc) | with_reducible exact hpc | exact hpc)) hM0 rfl rfl rfl rfl (by decide) (Nat.le_of_ble_eq_true rfl) (by decide) (by decide) ?_
  refine rn_aload_n C dX12_rung_20 rfl ?_
  refine rn_bipush (v := nI 32) C dX12_rung_21 rfl ?_
  refine rn_bipush (v := nI 21) C dX12_rung_23 rfl ?_
  refine rn_bipush (v := nI 22) C dX12_rung_25 rfl ?_
  refine rs_vv C dX12_rung_27 mk_X12_minus lv_X12_151 (c_mminus hM (by omega) (by omega) (by omega) (by first | (simp only [zero28_F, mzero_F, msmall_F, mcopy_F, takeOff_F, mfold_F, mmul_F, mplus_F, mminus_F, mpow_F, minv_F, mneutral_F, mcopyP_F, mneg_F, msum_F, mmany_F, mroot_F, mbase_F, menc_F, mmod_F, mcomb_F, mswap_F]; with_reducible exact hcn) | with_reducible exact hcn | exact hcn) (by first | (simp only [zero28_F, mzero_F, msmall_F, mcopy_F, takeOff_F, mfold_F, mmul_F, mplus_F, mminus_F, mpow_F, minv_F, mneutral_F, mcopyP_F, mneg_F, msum_F, mmany_F, mroot_F, mbase_F, menc_F, mmod_F, mcomb_F, mswap_F]; with_reducible exact hpc) | with_reducible exact hpc | exact hpc)) hM0 rfl rfl rfl rfl (by decide) (Nat.le_of_ble_eq_true rfl) (by decide) (by decide) ?_
  refine rn_aload_n C dX12_rung_30 rfl ?_
  refine rn_bipush (v := nI 33) C dX12_rung_31 rfl ?_
  refine rn_bipush (v := nI 32) C dX12_rung_33 rfl ?_
  refine rn_bipush (v := nI 32) C dX12_rung_35 rfl ?_
  refine rs_vv C dX12_rung_37 mk_X12_mul lv_X12_144 (c_mmul hM (by omega) (by omega) (by omega) (by first | (simp only [zero28_F, mzero_F, msmall_F, mcopy_F, takeOff_F, mfold_F, mmul_F, mplus_F, mminus_F, mpow_F, minv_F, mneutral_F, mcopyP_F, mneg_F, msum_F, mmany_F, mroot_F, mbase_F, menc_F, mmod_F, mcomb_F, mswap_F]; with_reducible exact hcn) | with_reducible exact hcn | exact hcn) (by first | (simp only [zero28_F, mzero_F, msmall_F, mcopy_F, takeOff_F, mfold_F, mmul_F, mplus_F, mminus_F, mpow_F, minv_F, mneutral_F, mcopyP_F, mneg_F, msum_F, mmany_F, mroot_F, mbase_F, menc_F, mmod_F, mcomb_F, mswap_F]; with_reducible exact hpc) | with_reducible exact hpc | exact hpc)) hM0 rfl rfl rfl rfl (by decide) (Nat.le_of_ble_eq_true rfl) (by decide) (by decide) ?_
  refine rn_aload_n C dX12_rung_40 rfl ?_
  refine rn_bipush (v := nI 34) C dX12_rung_41 rfl ?_
  refine rn_bipush (v := nI 31) C dX12_rung_43 rfl ?_
  refine rn_bipush (v := nI 33) C dX12_rung_45 rfl ?_
  refine rs_vv C dX12_rung_47 mk_X12_minus lv_X12_151 (c_mminus hM (by omega) (by omega) (by omega) (by first | (simp only [zero28_F, mzero_F, msmall_F, mcopy_F, takeOff_F, mfold_F, mmul_F, mplus_F, mminus_F, mpow_F, minv_F, mneutral_F, mcopyP_F, mneg_F, msum_F, mmany_F, mroot_F, mbase_F, menc_F, mmod_F, mcomb_F, mswap_F]; with_reducible exact hcn) | with_reducible exact hcn | exact hcn) (by first | (simp only [zero28_F, mzero_F, msmall_F, mcopy_F, takeOff_F, mfold_F, mmul_F, mplus_F, mminus_F, mpow_F, minv_F, mneutral_F, mcopyP_F, mneg_F, msum_F, mmany_F, mroot_F, mbase_F, menc_F, mmod_F, mcomb_F, mswap_F]; with_reducible exact hpc) | with_reducible exact hpc | exact hpc)) hM0 rfl rfl rfl rfl (by decide) (Nat.le_of_ble_eq_true rfl) (by decide) (by decide) ?_
  refine rn_aload_n C dX12_rung_50 rfl ?_
  refine rn_bipush (v := nI 35) C dX12_rung_51 rfl ?_
  refine rn_bipush (v := nI 40) C dX12_rung_53 rfl ?_
  refine rn_bipush (v := nI 41) C dX12_rung_55 rfl ?_
  refine rs_vv C dX12_rung_57 mk_X12_plus lv_X12_201 (c_mplus hM (by omega) (by omega) (by omega) (by first | (simp only [zero28_F, mzero_F, msmall_F, mcopy_F, takeOff_F, mfold_F, mmul_F, mplus_F, mminus_F, mpow_F, minv_F, mneutral_F, mcopyP_F, mneg_F, msum_F, mmany_F, mroot_F, mbase_F, menc_F, mmod_F, mcomb_F, mswap_F]; with_reducible exact hcn) | with_reducible exact hcn | exact hcn) (by first | (simp only [zero28_F, mzero_F, msmall_F, mcopy_F, takeOff_F, mfold_F, mmul_F, mplus_F, mminus_F, mpow_F, minv_F, mneutral_F, mcopyP_F, mneg_F, msum_F, mmany_F, mroot_F, mbase_F, menc_F, mmod_F, mcomb_F, mswap_F]; with_reducible exact hpc) | with_reducible exact hpc | exact hpc)) hM0 rfl rfl rfl rfl (by decide) (Nat.le_of_ble_eq_true rfl) (by decide) (by decide) ?_
  refine rn_aload_n C dX12_rung_60 rfl ?_
  refine rn_bipush (v := nI 36) C dX12_rung_61 rfl ?_
  refine rn_bipush (v := nI 40) C dX12_rung_63 rfl ?_
  refine rn_bipush (v := nI 41) C dX12_rung_65 rfl ?_
  refine rs_vv C dX12_rung_67 mk_X12_minus lv_X12_151 (c_mminus hM (by omega) (by omega) (by omega) (by first | (simp only [zero28_F, mzero_F, msmall_F, mcopy_F, takeOff_F, mfold_F, mmul_F, mplus_F, mminus_F, mpow_F, minv_F, mneutral_F, mcopyP_F, mneg_F, msum_F, mmany_F, mroot_F, mbase_F, menc_F, mmod_F, mcomb_F, mswap_F]; with_reducible exact hcn) | with_reducible exact hcn | exact hcn) (by first | (simp only [zero28_F, mzero_F, msmall_F, mcopy_F, takeOff_F, mfold_F, mmul_F, mplus_F, mminus_F, mpow_F, minv_F, mneutral_F, mcopyP_F, mneg_F, msum_F, mmany_F, mroot_F, mbase_F, menc_F, mmod_F, mcomb_F, mswap_F]; with_reducible exact hpc) | with_reducible exact hpc | exact hpc)) hM0 rfl rfl rfl rfl (by decide) (Nat.le_of_ble_eq_true rfl) (by decide) (by decide) ?_
  refine rn_aload_n C dX12_rung_70 rfl ?_
  refine rn_bipush (v := nI 36) C dX12_rung_71 rfl ?_
  refine rn_bipush (v := nI 36) C dX12_rung_73 rfl ?_
  refine rn_bipush (v := nI 30) C dX12_rung_75 rfl ?_
  refine rs_vv C dX12_rung_77 mk_X12_mul lv_X12_144 (c_mmul hM (by omega) (by omega) (by omega) (by first | (simp only [zero28_F, mzero_F, msmall_F, mcopy_F, takeOff_F, mfold_F, mmul_F, mplus_F, mminus_F, mpow_F, minv_F, mneutral_F, mcopyP_F, mneg_F, msum_F, mmany_F, mroot_F, mbase_F, menc_F, mmod_F, mcomb_F, mswap_F]; with_reducible exact hcn) | with_reducible exact hcn | exact hcn) (by first | (simp only [zero28_F, mzero_F, msmall_F, mcopy_F, takeOff_F, mfold_F, mmul_F, mplus_F, mminus_F, mpow_F, minv_F, mneutral_F, mcopyP_F, mneg_F, msum_F, mmany_F, mroot_F, mbase_F, menc_F, mmod_F, mcomb_F, mswap_F]; with_reducible exact hpc) | with_reducible exact hpc | exact hpc)) hM0 rfl rfl rfl rfl (by decide) (Nat.le_of_ble_eq_true rfl) (by decide) (by decide) ?_
  refine rn_aload_n C dX12_rung_80 rfl ?_
  refine rn_bipush (v := nI 35) C dX12_rung_81 rfl ?_
  refine rn_bipush (v := nI 35) C dX12_rung_83 rfl ?_
  refine rn_bipush (v := nI 32) C dX12_rung_85 rfl ?_
  refine rs_vv C dX12_rung_87 mk_X12_mul lv_X12_144 (c_mmul hM (by omega) (by omega) (by omega) (by first | (simp only [zero28_F, mzero_F, msmall_F, mcopy_F, takeOff_F, mfold_F, mmul_F, mplus_F, mminus_F, mpow_F, minv_F, mneutral_F, mcopyP_F, mneg_F, msum_F, mmany_F, mroot_F, mbase_F, menc_F, mmod_F, mcomb_F, mswap_F]; with_reducible exact hcn) | with_reducible exact hcn | exact hcn) (by first | (simp only [zero28_F, mzero_F, msmall_F, mcopy_F, takeOff_F, mfold_F, mmul_F, mplus_F, mminus_F, mpow_F, minv_F, mneutral_F, mcopyP_F, mneg_F, msum_F, mmany_F, mroot_F, mbase_F, menc_F, mmod_F, mcomb_F, mswap_F]; with_reducible exact hpc) | with_reducible exact hpc | exact hpc)) hM0 rfl rfl rfl rfl (by decide) (Nat.le_of_ble_eq_true rfl) (by decide) (by decide) ?_
  refine rn_aload_n C dX12_rung_90 rfl ?_
  refine rn_bipush (v := nI 37) C dX12_rung_91 rfl ?_
  refine rn_bipush (v := nI 36) C dX12_rung_93 rfl ?_
  refine rn_bipush (v := nI 35) C dX12_rung_95 rfl ?_
  refine rs_vv C dX12_rung_97 mk_X12_plus lv_X12_201 (c_mplus hM (by omega) (by omega) (by omega) (by first | (simp only [zero28_F, mzero_F, msmall_F, mcopy_F, takeOff_F, mfold_F, mmul_F, mplus_F, mminus_F, mpow_F, minv_F, mneutral_F, mcopyP_F, mneg_F, msum_F, mmany_F, mroot_F, mbase_F, menc_F, mmod_F, mcomb_F, mswap_F]; with_reducible exact hcn) | with_reducible exact hcn | exact hcn) (by first | (simp only [zero28_F, mzero_F, msmall_F, mcopy_F, takeOff_F, mfold_F, mmul_F, mplus_F, mminus_F, mpow_F, minv_F, mneutral_F, mcopyP_F, mneg_F, msum_F, mmany_F, mroot_F, mbase_F, menc_F, mmod_F, mcomb_F, mswap_F]; with_reducible exact hpc) | with_reducible exact hpc | exact hpc)) hM0 rfl rfl rfl rfl (by decide) (Nat.le_of_ble_eq_true rfl) (by decide) (by decide) ?_
  refine rn_aload_n C dX12_rung_100 rfl ?_
  refine rn_bipush (v := nI 40) C dX12_rung_101 rfl ?_
  refine rn_bipush (v := nI 37) C dX12_rung_103 rfl ?_
  refine rn_bipush (v := nI 37) C dX12_rung_105 rfl ?_
  refine rs_vv C dX12_rung_107 mk_X12_mul lv_X12_144 (c_mmul hM (by omega) (by omega) (by omega) (by first | (simp only [zero28_F, mzero_F, msmall_F, mcopy_F, takeOff_F, mfold_F, mmul_F, mplus_F, mminus_F, mpow_F, minv_F, mneutral_F, mcopyP_F, mneg_F, msum_F, mmany_F, mroot_F, mbase_F, menc_F, mmod_F, mcomb_F, mswap_F]; with_reducible exact hcn) | with_reducible exact hcn | exact hcn) (by first | (simp only [zero28_F, mzero_F, msmall_F, mcopy_F, takeOff_F, mfold_F, mmul_F, mplus_F, mminus_F, mpow_F, minv_F, mneutral_F, mcopyP_F, mneg_F, msum_F, mmany_F, mroot_F, mbase_F, menc_F, mmod_F, mcomb_F, mswap_F]; with_reducible exact hpc) | with_reducible exact hpc | exact hpc)) hM0 rfl rfl rfl rfl (by decide) (Nat.le_of_ble_eq_true rfl) (by decide) (by decide) ?_
  refine rn_aload_n C dX12_rung_110 rfl ?_
  refine rn_bipush (v := nI 37) C dX12_rung_111 rfl ?_
  refine rn_bipush (v := nI 36) C dX12_rung_113 rfl ?_
  refine rn_bipush (v := nI 35) C dX12_rung_115 rfl ?_
  refine rs_vv C dX12_rung_117 mk_X12_minus lv_X12_151 (c_mminus hM (by omega) (by omega) (by omega) (by first | (simp only [zero28_F, mzero_F, msmall_F, mcopy_F, takeOff_F, mfold_F, mmul_F, mplus_F, mminus_F, mpow_F, minv_F, mneutral_F, mcopyP_F, mneg_F, msum_F, mmany_F, mroot_F, mbase_F, menc_F, mmod_F, mcomb_F, mswap_F]; with_reducible exact hcn) | with_reducible exact hcn | exact hcn) (by first | (simp only [zero28_F, mzero_F, msmall_F, mcopy_F, takeOff_F, mfold_F, mmul_F, mplus_F, mminus_F, mpow_F, minv_F, mneutral_F, mcopyP_F, mneg_F, msum_F, mmany_F, mroot_F, mbase_F, menc_F, mmod_F, mcomb_F, mswap_F]; with_reducible exact hpc) | with_reducible exact hpc | exact hpc)) hM0 rfl rfl rfl rfl (by decide) (Nat.le_of_ble_eq_true rfl) (by decide) (by decide) ?_
  refine rn_aload_n C dX12_rung_120 rfl ?_
  refine rn_bipush (v := nI 37) C dX12_rung_121 rfl ?_
  refine rn_bipush (v := nI 37) C dX12_rung_123 rfl ?_
  refine rn_bipush (v := nI 37) C dX12_rung_125 rfl ?_
  refine rs_vv C dX12_rung_127 mk_X12_mul lv_X12_144 (c_mmul hM (by omega) (by omega) (by omega) (by first | (simp only [zero28_F, mzero_F, msmall_F, mcopy_F, takeOff_F, mfold_F, mmul_F, mplus_F, mminus_F, mpow_F, minv_F, mneutral_F, mcopyP_F, mneg_F, msum_F, mmany_F, mroot_F, mbase_F, menc_F, mmod_F, mcomb_F, mswap_F]; with_reducible exact hcn) | with_reducible exact hcn | exact hcn) (by first | (simp only [zero28_F, mzero_F, msmall_F, mcopy_F, takeOff_F, mfold_F, mmul_F, mplus_F, mminus_F, mpow_F, minv_F, mneutral_F, mcopyP_F, mneg_F, msum_F, mmany_F, mroot_F, mbase_F, menc_F, mmod_F, mcomb_F, mswap_F]; with_reducible exact hpc) | with_reducible exact hpc | exact hpc)) hM0 rfl rfl rfl rfl (by decide) (Nat.le_of_ble_eq_true rfl) (by decide) (by decide) ?_
  refine rn_aload_n C dX12_rung_130 rfl ?_
  refine rn_bipush (v := nI 41) C dX12_rung_131 rfl ?_
  refine rn_bipush (v := nI 46) C dX12_rung_133 rfl ?_
  refine rn_bipush (v := nI 37) C dX12_rung_135 rfl ?_
  refine rs_vv C dX12_rung_137 mk_X12_mul lv_X12_144 (c_mmul hM (by omega) (by omega) (by omega) (by first | (simp only [zero28_F, mzero_F, msmall_F, mcopy_F, takeOff_F, mfold_F, mmul_F, mplus_F, mminus_F, mpow_F, minv_F, mneutral_F, mcopyP_F, mneg_F, msum_F, mmany_F, mroot_F, mbase_F, menc_F, mmod_F, mcomb_F, mswap_F]; with_reducible exact hcn) | with_reducible exact hcn | exact hcn) (by first | (simp only [zero28_F, mzero_F, msmall_F, mcopy_F, takeOff_F, mfold_F, mmul_F, mplus_F, mminus_F, mpow_F, minv_F, mneutral_F, mcopyP_F, mneg_F, msum_F, mmany_F, mroot_F, mbase_F, menc_F, mmod_F, mcomb_F, mswap_F]; with_reducible exact hpc) | with_reducible exact hpc | exact hpc)) hM0 rfl rfl rfl rfl (by decide) (Nat.le_of_ble_eq_true rfl) (by decide) (by decide) ?_
  refine rn_aload_n C dX12_rung_140 rfl ?_
  refine rn_bipush (v := nI 21) C dX12_rung_141 rfl ?_
  refine rn_bipush (v := nI 31) C dX12_rung_143 rfl ?_
  refine rn_bipush (v := nI 33) C dX12_rung_145 rfl ?_
  refine rs_vv C dX12_rung_147 mk_X12_mul lv_X12_144 (c_mmul hM (by omega) (by omega) (by omega) (by first | (simp only [zero28_F, mzero_F, msmall_F, mcopy_F, takeOff_F, mfold_F, mmul_F, mplus_F, mminus_F, mpow_F, minv_F, mneutral_F, mcopyP_F, mneg_F, msum_F, mmany_F, mroot_F, mbase_F, menc_F, mmod_F, mcomb_F, mswap_F]; with_reducible exact hcn) | with_reducible exact hcn | exact hcn) (by first | (simp only [zero28_F, mzero_F, msmall_F, mcopy_F, takeOff_F, mfold_F, mmul_F, mplus_F, mminus_F, mpow_F, minv_F, mneutral_F, mcopyP_F, mneg_F, msum_F, mmany_F, mroot_F, mbase_F, menc_F, mmod_F, mcomb_F, mswap_F]; with_reducible exact hpc) | with_reducible exact hpc | exact hpc)) hM0 rfl rfl rfl rfl (by decide) (Nat.le_of_ble_eq_true rfl) (by decide) (by decide) ?_
  refine rn_aload_n C dX12_rung_150 rfl ?_
  refine rn_bipush (v := nI 38) C dX12_rung_151 rfl ?_
  refine rn_bipush (v := nI 47) C dX12_rung_153 rfl ?_
  refine rn_bipush (v := nI 34) C dX12_rung_155 rfl ?_
  refine rs_vv C dX12_rung_157 mk_X12_mul lv_X12_144 (c_mmul hM (by omega) (by omega) (by omega) (by first | (simp only [zero28_F, mzero_F, msmall_F, mcopy_F, takeOff_F, mfold_F, mmul_F, mplus_F, mminus_F, mpow_F, minv_F, mneutral_F, mcopyP_F, mneg_F, msum_F, mmany_F, mroot_F, mbase_F, menc_F, mmod_F, mcomb_F, mswap_F]; with_reducible exact hcn) | with_reducible exact hcn | exact hcn) (by first | (simp only [zero28_F, mzero_F, msmall_F, mcopy_F, takeOff_F, mfold_F, mmul_F, mplus_F, mminus_F, mpow_F, minv_F, mneutral_F, mcopyP_F, mneg_F, msum_F, mmany_F, mroot_F, mbase_F, menc_F, mmod_F, mcomb_F, mswap_F]; with_reducible exact hpc) | with_reducible exact hpc | exact hpc)) hM0 rfl rfl rfl rfl (by decide) (Nat.le_of_ble_eq_true rfl) (by decide) (by decide) ?_
  refine rn_aload_n C dX12_rung_160 rfl ?_
  refine rn_bipush (v := nI 38) C dX12_rung_161 rfl ?_
  refine rn_bipush (v := nI 31) C dX12_rung_163 rfl ?_
  refine rn_bipush (v := nI 38) C dX12_rung_165 rfl ?_
  refine rs_vv C dX12_rung_167 mk_X12_plus lv_X12_201 (c_mplus hM (by omega) (by omega) (by omega) (by first | (simp only [zero28_F, mzero_F, msmall_F, mcopy_F, takeOff_F, mfold_F, mmul_F, mplus_F, mminus_F, mpow_F, minv_F, mneutral_F, mcopyP_F, mneg_F, msum_F, mmany_F, mroot_F, mbase_F, menc_F, mmod_F, mcomb_F, mswap_F]; with_reducible exact hcn) | with_reducible exact hcn | exact hcn) (by first | (simp only [zero28_F, mzero_F, msmall_F, mcopy_F, takeOff_F, mfold_F, mmul_F, mplus_F, mminus_F, mpow_F, minv_F, mneutral_F, mcopyP_F, mneg_F, msum_F, mmany_F, mroot_F, mbase_F, menc_F, mmod_F, mcomb_F, mswap_F]; with_reducible exact hpc) | with_reducible exact hpc | exact hpc)) hM0 rfl rfl rfl rfl (by decide) (Nat.le_of_ble_eq_true rfl) (by decide) (by decide) ?_
  refine rn_aload_n C dX12_rung_170 rfl ?_
  refine rn_bipush (v := nI 22) C dX12_rung_171 rfl ?_
  refine rn_bipush (v := nI 34) C dX12_rung_173 rfl ?_
  refine rn_bipush (v := nI 38) C dX12_rung_175 rfl ?_
  refine rs_vv C dX12_rung_177 mk_X12_mul lv_X12_144 (c_mmul hM (by omega) (by omega) (by omega) (by first | (simp only [zero28_F, mzero_F, msmall_F, mcopy_F, takeOff_F, mfold_F, mmul_F, mplus_F, mminus_F, mpow_F, minv_F, mneutral_F, mcopyP_F, mneg_F, msum_F, mmany_F, mroot_F, mbase_F, menc_F, mmod_F, mcomb_F, mswap_F]; with_reducible exact hcn) | with_reducible exact hcn | exact hcn) (by first | (simp only [zero28_F, mzero_F, msmall_F, mcopy_F, takeOff_F, mfold_F, mmul_F, mplus_F, mminus_F, mpow_F, minv_F, mneutral_F, mcopyP_F, mneg_F, msum_F, mmany_F, mroot_F, mbase_F, menc_F, mmod_F, mcomb_F, mswap_F]; with_reducible exact hpc) | with_reducible exact hpc | exact hpc)) hM0 rfl rfl rfl rfl (by decide) (Nat.le_of_ble_eq_true rfl) (by decide) (by decide) ?_
  exact rn_vret C Rt dX12_rung_180 (pv_of (tup _)) (Nat.zero_le _) (Nat.zero_le _)
def mshaB_l221 (mo : Nat) (at_ : Nat) (v1 : Int64) (v2 : Int64) (v3 : Int64) (v4 : Int64) (v5 : Int64) (v6 : Int64) (v7 : Int64) (v8 : Int64) (S : StT) (z2 : Int64) (z4 : Int64) (z6 : Int64) (z8 : Int64) (z10 : Int64) (z12 : Int64) (z14 : Int64) (z16 : Int64) : Nat → Int64 × Int64 × Int64 × Int64 × Int64 × Int64 × Int64 × Int64
  | 0 => (z2, z4, z6, z8, z10, z12, z14, z16)
  | i221 + 1 => let y221_0 := (mshaB_l221 mo at_ v1 v2 v3 v4 v5 v6 v7 v8 S z2 z4 z6 z8 z10 z12 z14 z16 i221).1; let y221_1 := (mshaB_l221 mo at_ v1 v2 v3 v4 v5 v6 v7 v8 S z2 z4 z6 z8 z10 z12 z14 z16 i221).2.1; let y221_2 := (mshaB_l221 mo at_ v1 v2 v3 v4 v5 v6 v7 v8 S z2 z4 z6 z8 z10 z12 z14 z16 i221).2.2.1; let y221_3 := (mshaB_l221 mo at_ v1 v2 v3 v4 v5 v6 v7 v8 S z2 z4 z6 z8 z10 z12 z14 z16 i221).2.2.2.1; let y221_4 := (mshaB_l221 mo at_ v1 v2 v3 v4 v5 v6 v7 v8 S z2 z4 z6 z8 z10 z12 z14 z16 i221).2.2.2.2.1; let y221_5 := (mshaB_l221 mo at_ v1 v2 v3 v4 v5 v6 v7 v8 S z2 z4 z6 z8 z10 z12 z14 z16 i221).2.2.2.2.2.1; let y221_6 := (mshaB_l221 mo at_ v1 v2 v3 v4 v5 v6 v7 v8 S z2 z4 z6 z8 z10 z12 z14 z16 i221).2.2.2.2.2.2.1; let y221_7 := (mshaB_l221 mo at_ v1 v2 v3 v4 v5 v6 v7 v8 S z2 z4 z6 z8 z10 z12 z14 z16 i221).2.2.2.2.2.2.2; (let v17 := (((y221_7 + (((turned_f (y221_4) (nI (14)) S).1 ^^^ (turned_f (y221_4) (nI (18)) S).1) ^^^ (turned_f (y221_4) (nI (41)) S).1)) + ((y221_4 &&& y221_5) ^^^ ((y221_4 ^^^ (-1)) &&& y221_6))) + (S.2.1 (mo + 15) (i221))) + (S.2.1 (mo + 16) (i221)); (let v18 := (((turned_f (y221_0) (nI (28)) S).1 ^^^ (turned_f (y221_0) (nI (34)) S).1) ^^^ (turned_f (y221_0) (nI (39)) S).1) + (((y221_0 &&& y221_1) ^^^ (y221_0 &&& y221_2)) ^^^ (y221_1 &&& y221_2)); (v17 + v18, y221_0, y221_1, y221_2, y221_3 + v17, y221_4, y221_5, y221_6)))
def mshaB_l19 (mo : Nat) (at_ : Nat) (i2 : Nat) (y2_0 : (Nat → Nat → Int64)) (S : StT) (z3 : Int64) : Nat → Int64
  | 0 => z3
  | i19 + 1 => let y19_0 := (mshaB_l19 mo at_ i2 y2_0 S z3 i19); (let v22 := (y19_0 <<< ((nI (8)).toInt64 &&& 63)) ||| ((S.1 (mo + 11) (at_ + (8 * i2) + i19)).toInt64); v22)
def mshaB_l2 (mo : Nat) (at_ : Nat) (S : StT)  : Nat → (Nat → Nat → Int64)
  | 0 => S.2.1
  | i2 + 1 => let y2_0 := (mshaB_l2 mo at_ S i2); (if (nI (16)) ≤ (nI (i2)) then (let v20 := (((((turned_f (y2_0 (mo + 16) (i2 - 15)) (nI (1)) (S.1, y2_0, S.2.2)).1 ^^^ (turned_f (y2_0 (mo + 16) (i2 - 15)) (nI (8)) (S.1, y2_0, S.2.2)).1) ^^^ (((y2_0 (mo + 16) (i2 - 15)).toUInt64 >>> ((nI (7)).toInt64.toUInt64 &&& Int64.toUInt64 63)).toInt64)) + (((turned_f (y2_0 (mo + 16) (i2 - 2)) (nI (19)) (S.1, y2_0, S.2.2)).1 ^^^ (turned_f (y2_0 (mo + 16) (i2 - 2)) (nI (61)) (S.1, y2_0, S.2.2)).1) ^^^ (((y2_0 (mo + 16) (i2 - 2)).toUInt64 >>> ((nI (6)).toInt64.toUInt64 &&& Int64.toUInt64 63)).toInt64))) + (y2_0 (mo + 16) (i2 - 7))) + (y2_0 (mo + 16) (i2 - 16)); va_up y2_0 (mo + 16) (vp_updL (y2_0 (mo + 16)) (i2) (v20))) else (let J21 := va_up y2_0 (mo + 16) (vp_updL (y2_0 (mo + 16)) (i2) ((mshaB_l19 mo at_ i2 y2_0 (S.1, y2_0, S.2.2) 0 8))); J21))
def mshaB_f (mo : Nat) (at_ : Nat) (S : StT) : StT := (let v1 := (mshaB_l2 mo at_ S 80) (mo + 13) (0); (let v2 := (mshaB_l2 mo at_ S 80) (mo + 13) (1); (let v3 := (mshaB_l2 mo at_ S 80) (mo + 13) (2); (let v4 := (mshaB_l2 mo at_ S 80) (mo + 13) (3); (let v5 := (mshaB_l2 mo at_ S 80) (mo + 13) (4); (let v6 := (mshaB_l2 mo at_ S 80) (mo + 13) (5); (let v7 := (mshaB_l2 mo at_ S 80) (mo + 13) (6); (let v8 := (mshaB_l2 mo at_ S 80) (mo + 13) (7); (let J9 := va_up (mshaB_l2 mo at_ S 80) (mo + 13) (vp_updL ((mshaB_l2 mo at_ S 80) (mo + 13)) (0) (((mshaB_l2 mo at_ S 80) (mo + 13) (0)) + (mshaB_l221 mo at_ v1 v2 v3 v4 v5 v6 v7 v8 (S.1, (mshaB_l2 mo at_ S 80), S.2.2) v1 v2 v3 v4 v5 v6 v7 v8 80).1)); (let J10 := va_up J9 (mo + 13) (vp_updL (J9 (mo + 13)) (1) ((J9 (mo + 13) (1)) + (mshaB_l221 mo at_ v1 v2 v3 v4 v5 v6 v7 v8 (S.1, (mshaB_l2 mo at_ S 80), S.2.2) v1 v2 v3 v4 v5 v6 v7 v8 80).2.1)); (let J11 := va_up J10 (mo + 13) (vp_updL (J10 (mo + 13)) (2) ((J10 (mo + 13) (2)) + (mshaB_l221 mo at_ v1 v2 v3 v4 v5 v6 v7 v8 (S.1, (mshaB_l2 mo at_ S 80), S.2.2) v1 v2 v3 v4 v5 v6 v7 v8 80).2.2.1)); (let J12 := va_up J11 (mo + 13) (vp_updL (J11 (mo + 13)) (3) ((J11 (mo + 13) (3)) + (mshaB_l221 mo at_ v1 v2 v3 v4 v5 v6 v7 v8 (S.1, (mshaB_l2 mo at_ S 80), S.2.2) v1 v2 v3 v4 v5 v6 v7 v8 80).2.2.2.1)); (let J13 := va_up J12 (mo + 13) (vp_updL (J12 (mo + 13)) (4) ((J12 (mo + 13) (4)) + (mshaB_l221 mo at_ v1 v2 v3 v4 v5 v6 v7 v8 (S.1, (mshaB_l2 mo at_ S 80), S.2.2) v1 v2 v3 v4 v5 v6 v7 v8 80).2.2.2.2.1)); (let J14 := va_up J13 (mo + 13) (vp_updL (J13 (mo + 13)) (5) ((J13 (mo + 13) (5)) + (mshaB_l221 mo at_ v1 v2 v3 v4 v5 v6 v7 v8 (S.1, (mshaB_l2 mo at_ S 80), S.2.2) v1 v2 v3 v4 v5 v6 v7 v8 80).2.2.2.2.2.1)); (let J15 := va_up J14 (mo + 13) (vp_updL (J14 (mo + 13)) (6) ((J14 (mo + 13) (6)) + (mshaB_l221 mo at_ v1 v2 v3 v4 v5 v6 v7 v8 (S.1, (mshaB_l2 mo at_ S 80), S.2.2) v1 v2 v3 v4 v5 v6 v7 v8 80).2.2.2.2.2.2.1)); (let J16 := va_up J15 (mo + 13) (vp_updL (J15 (mo + 13)) (7) ((J15 (mo + 13) (7)) + (mshaB_l221 mo at_ v1 v2 v3 v4 v5 v6 v7 v8 (S.1, (mshaB_l2 mo at_ S 80), S.2.2) v1 v2 v3 v4 v5 v6 v7 v8 80).2.2.2.2.2.2.2)); (S.1, J16, S.2.2)))))))))))))))))
theorem mshaB_F (mo : Nat) (at_ : Nat) (S : StT) : (mshaB_f mo at_ S).2.2 = S.2.2 := by
  rfl
set_option maxRecDepth 100000 in
set_option maxHeartbeats 4000000 in
theorem c_mshaB {k : KX} {L : Nat → Option Sh} {S : StT} {n : Nat} {mo : Nat} {at_ : Nat} (hM : ModelAt k L mo) (hat : at_ + 128 ≤ 768) :
    Cs k yX12_shaBlock cX12_shaBlock 23 none 1 0 0 [.ref (k_b k + (mo)), .int (nI (at_))] (inst k L S.1 S.2.1 S.2.2) n (Pv k L n (mshaB_f mo at_ S)) := by
  refine cs_of (by decide) (Nat.le_of_ble_eq_true rfl) ?_
  intro X hXk C Rt hnm
  subst hXk
  have hM9 := hM
  obtain ⟨hM0, hm1, hm2, hm3, hm4, hm5, hm6, hm7, hm8, hm9, hm10, hm11, hm12, hm13, hm14, hm15, hm16, hm17, hm18, hm19, hm20, hm21, hm22, hm23, hm24, hm25, hm26, hm27⟩ := hM9
  refine rn_lv [(0, .ref (k_b X.1 + (mo))), (1, .int (nI (at_)))] (fun q h => h) ?_
  refine rn_iconst (v := nI 0) C dX12_shaBlock_0 rfl ?_
  refine rn_istore_n (lv' := [(0, _), (1, _), (2, _)]) C dX12_shaBlock_1 (by decide) rfl ?_
  have lp2 : ∀ i2, i2 ≤ 80 → Rn X 2 [(0, .ref (k_b X.1 + (mo))), (1, .int (nI (at_))), (2, .int (nI (i2)))] [] (inst X.1 L S.1 (mshaB_l2 mo at_ S i2) S.2.2) n 0 0 := by
    refine upto _ _ ?_ (fun i2 hi2 ih2 => ?_)
    · skip
      refine rn_iload_n C dX12_shaBlock_2 rfl ?_
      refine rn_bipush (v := nI 80) C dX12_shaBlock_3 rfl ?_
      refine rs_ge (tgt := 153) C dX12_shaBlock_5 (by decide) rfl rfl (by omega) (by omega) (fun _ => ?_) (fun q => absurd q (by omega))
      refine rn_aload_n C dX12_shaBlock_153 rfl ?_
      refine rs_get C dX12_shaBlock_154 fl_X12_69 hM0 rfl ?_
      refine rn_iconst (v := nI 0) C dX12_shaBlock_157 rfl ?_
      refine rs_laload C dX12_shaBlock_158 hm13 rfl (by omega) (by decide) ?_
      refine rn_lstore_n (lv' := [(0, _), (1, _), (2, _)]) C dX12_shaBlock_159 (by decide) rfl ?_
      refine rn_aload_n C dX12_shaBlock_160 rfl ?_
      refine rs_get C dX12_shaBlock_161 fl_X12_69 hM0 rfl ?_
      refine rn_iconst (v := nI 1) C dX12_shaBlock_164 rfl ?_
      refine rs_laload C dX12_shaBlock_165 hm13 rfl (by omega) (by decide) ?_
      refine rn_lstore (lv' := [(0, _), (1, _), (2, _), (4, _)]) C dX12_shaBlock_166 (by decide) rfl ?_
      refine rn_aload_n C dX12_shaBlock_168 rfl ?_
      refine rs_get C dX12_shaBlock_169 fl_X12_69 hM0 rfl ?_
      refine rn_iconst (v := nI 2) C dX12_shaBlock_172 rfl ?_
      refine rs_laload C dX12_shaBlock_173 hm13 rfl (by omega) (by decide) ?_
      refine rn_lstore (lv' := [(0, _), (1, _), (2, _), (4, _), (6, _)]) C dX12_shaBlock_174 (by decide) rfl ?_
      refine rn_aload_n C dX12_shaBlock_176 rfl ?_
      refine rs_get C dX12_shaBlock_177 fl_X12_69 hM0 rfl ?_
      refine rn_iconst (v := nI 3) C dX12_shaBlock_180 rfl ?_
      refine rs_laload C dX12_shaBlock_181 hm13 rfl (by omega) (by decide) ?_
      refine rn_lstore (lv' := [(0, _), (1, _), (2, _), (4, _), (6, _), (8, _)]) C dX12_shaBlock_182 (by decide) rfl ?_
      refine rn_aload_n C dX12_shaBlock_184 rfl ?_
      refine rs_get C dX12_shaBlock_185 fl_X12_69 hM0 rfl ?_
      refine rn_iconst (v := nI 4) C dX12_shaBlock_188 rfl ?_
      refine rs_laload C dX12_shaBlock_189 hm13 rfl (by omega) (by decide) ?_
      refine rn_lstore (lv' := [(0, _), (1, _), (2, _), (4, _), (6, _), (8, _), (10, _)]) C dX12_shaBlock_190 (by decide) rfl ?_
      refine rn_aload_n C dX12_shaBlock_192 rfl ?_
      refine rs_get C dX12_shaBlock_193 fl_X12_69 hM0 rfl ?_
      refine rn_iconst (v := nI 5) C dX12_shaBlock_196 rfl ?_
      refine rs_laload C dX12_shaBlock_197 hm13 rfl (by omega) (by decide) ?_
      refine rn_lstore (lv' := [(0, _), (1, _), (2, _), (4, _), (6, _), (8, _), (10, _), (12, _)]) C dX12_shaBlock_198 (by decide) rfl ?_
      refine rn_aload_n C dX12_shaBlock_200 rfl ?_
      refine rs_get C dX12_shaBlock_201 fl_X12_69 hM0 rfl ?_
      refine rn_bipush (v := nI 6) C dX12_shaBlock_204 rfl ?_
      refine rs_laload C dX12_shaBlock_206 hm13 rfl (by omega) (by decide) ?_
      refine rn_lstore (lv' := [(0, _), (1, _), (2, _), (4, _), (6, _), (8, _), (10, _), (12, _), (14, _)]) C dX12_shaBlock_207 (by decide) rfl ?_
      refine rn_aload_n C dX12_shaBlock_209 rfl ?_
      refine rs_get C dX12_shaBlock_210 fl_X12_69 hM0 rfl ?_
      refine rn_bipush (v := nI 7) C dX12_shaBlock_213 rfl ?_
      refine rs_laload C dX12_shaBlock_215 hm13 rfl (by omega) (by decide) ?_
      refine rn_lstore (lv' := [(0, _), (1, _), (2, _), (4, _), (6, _), (8, _), (10, _), (12, _), (14, _), (16, _)]) C dX12_shaBlock_216 (by decide) rfl ?_
      refine rn_iconst (v := nI 0) C dX12_shaBlock_218 rfl ?_
      refine rn_istore (lv' := [(0, _), (1, _), (2, _), (4, _), (6, _), (8, _), (10, _), (12, _), (14, _), (16, _), (18, _)]) C dX12_shaBlock_219 (by decide) rfl ?_
      have lp221 : ∀ i221, i221 ≤ 80 → Rn X 221 [(0, .ref (k_b X.1 + (mo))), (1, .int (nI (at_))), (2, .long ((mshaB_l221 mo at_ ((mshaB_l2 mo at_ S 80) (mo + 13) (0)) ((mshaB_l2 mo at_ S 80) (mo + 13) (1)) ((mshaB_l2 mo at_ S 80) (mo + 13) (2)) ((mshaB_l2 mo at_ S 80) (mo + 13) (3)) ((mshaB_l2 mo at_ S 80) (mo + 13) (4)) ((mshaB_l2 mo at_ S 80) (mo + 13) (5)) ((mshaB_l2 mo at_ S 80) (mo + 13) (6)) ((mshaB_l2 mo at_ S 80) (mo + 13) (7)) (S.1, (mshaB_l2 mo at_ S 80), S.2.2) ((mshaB_l2 mo at_ S 80) (mo + 13) (0)) ((mshaB_l2 mo at_ S 80) (mo + 13) (1)) ((mshaB_l2 mo at_ S 80) (mo + 13) (2)) ((mshaB_l2 mo at_ S 80) (mo + 13) (3)) ((mshaB_l2 mo at_ S 80) (mo + 13) (4)) ((mshaB_l2 mo at_ S 80) (mo + 13) (5)) ((mshaB_l2 mo at_ S 80) (mo + 13) (6)) ((mshaB_l2 mo at_ S 80) (mo + 13) (7)) i221).1)), (4, .long ((mshaB_l221 mo at_ ((mshaB_l2 mo at_ S 80) (mo + 13) (0)) ((mshaB_l2 mo at_ S 80) (mo + 13) (1)) ((mshaB_l2 mo at_ S 80) (mo + 13) (2)) ((mshaB_l2 mo at_ S 80) (mo + 13) (3)) ((mshaB_l2 mo at_ S 80) (mo + 13) (4)) ((mshaB_l2 mo at_ S 80) (mo + 13) (5)) ((mshaB_l2 mo at_ S 80) (mo + 13) (6)) ((mshaB_l2 mo at_ S 80) (mo + 13) (7)) (S.1, (mshaB_l2 mo at_ S 80), S.2.2) ((mshaB_l2 mo at_ S 80) (mo + 13) (0)) ((mshaB_l2 mo at_ S 80) (mo + 13) (1)) ((mshaB_l2 mo at_ S 80) (mo + 13) (2)) ((mshaB_l2 mo at_ S 80) (mo + 13) (3)) ((mshaB_l2 mo at_ S 80) (mo + 13) (4)) ((mshaB_l2 mo at_ S 80) (mo + 13) (5)) ((mshaB_l2 mo at_ S 80) (mo + 13) (6)) ((mshaB_l2 mo at_ S 80) (mo + 13) (7)) i221).2.1)), (6, .long ((mshaB_l221 mo at_ ((mshaB_l2 mo at_ S 80) (mo + 13) (0)) ((mshaB_l2 mo at_ S 80) (mo + 13) (1)) ((mshaB_l2 mo at_ S 80) (mo + 13) (2)) ((mshaB_l2 mo at_ S 80) (mo + 13) (3)) ((mshaB_l2 mo at_ S 80) (mo + 13) (4)) ((mshaB_l2 mo at_ S 80) (mo + 13) (5)) ((mshaB_l2 mo at_ S 80) (mo + 13) (6)) ((mshaB_l2 mo at_ S 80) (mo + 13) (7)) (S.1, (mshaB_l2 mo at_ S 80), S.2.2) ((mshaB_l2 mo at_ S 80) (mo + 13) (0)) ((mshaB_l2 mo at_ S 80) (mo + 13) (1)) ((mshaB_l2 mo at_ S 80) (mo + 13) (2)) ((mshaB_l2 mo at_ S 80) (mo + 13) (3)) ((mshaB_l2 mo at_ S 80) (mo + 13) (4)) ((mshaB_l2 mo at_ S 80) (mo + 13) (5)) ((mshaB_l2 mo at_ S 80) (mo + 13) (6)) ((mshaB_l2 mo at_ S 80) (mo + 13) (7)) i221).2.2.1)), (8, .long ((mshaB_l221 mo at_ ((mshaB_l2 mo at_ S 80) (mo + 13) (0)) ((mshaB_l2 mo at_ S 80) (mo + 13) (1)) ((mshaB_l2 mo at_ S 80) (mo + 13) (2)) ((mshaB_l2 mo at_ S 80) (mo + 13) (3)) ((mshaB_l2 mo at_ S 80) (mo + 13) (4)) ((mshaB_l2 mo at_ S 80) (mo + 13) (5)) ((mshaB_l2 mo at_ S 80) (mo + 13) (6)) ((mshaB_l2 mo at_ S 80) (mo + 13) (7)) (S.1, (mshaB_l2 mo at_ S 80), S.2.2) ((mshaB_l2 mo at_ S 80) (mo + 13) (0)) ((mshaB_l2 mo at_ S 80) (mo + 13) (1)) ((mshaB_l2 mo at_ S 80) (mo + 13) (2)) ((mshaB_l2 mo at_ S 80) (mo + 13) (3)) ((mshaB_l2 mo at_ S 80) (mo + 13) (4)) ((mshaB_l2 mo at_ S 80) (mo + 13) (5)) ((mshaB_l2 mo at_ S 80) (mo + 13) (6)) ((mshaB_l2 mo at_ S 80) (mo + 13) (7)) i221).2.2.2.1)), (10, .long ((mshaB_l221 mo at_ ((mshaB_l2 mo at_ S 80) (mo + 13) (0)) ((mshaB_l2 mo at_ S 80) (mo + 13) (1)) ((mshaB_l2 mo at_ S 80) (mo + 13) (2)) ((mshaB_l2 mo at_ S 80) (mo + 13) (3)) ((mshaB_l2 mo at_ S 80) (mo + 13) (4)) ((mshaB_l2 mo at_ S 80) (mo + 13) (5)) ((mshaB_l2 mo at_ S 80) (mo + 13) (6)) ((mshaB_l2 mo at_ S 80) (mo + 13) (7)) (S.1, (mshaB_l2 mo at_ S 80), S.2.2) ((mshaB_l2 mo at_ S 80) (mo + 13) (0)) ((mshaB_l2 mo at_ S 80) (mo + 13) (1)) ((mshaB_l2 mo at_ S 80) (mo + 13) (2)) ((mshaB_l2 mo at_ S 80) (mo + 13) (3)) ((mshaB_l2 mo at_ S 80) (mo + 13) (4)) ((mshaB_l2 mo at_ S 80) (mo + 13) (5)) ((mshaB_l2 mo at_ S 80) (mo + 13) (6)) ((mshaB_l2 mo at_ S 80) (mo + 13) (7)) i221).2.2.2.2.1)), (12, .long ((mshaB_l221 mo at_ ((mshaB_l2 mo at_ S 80) (mo + 13) (0)) ((mshaB_l2 mo at_ S 80) (mo + 13) (1)) ((mshaB_l2 mo at_ S 80) (mo + 13) (2)) ((mshaB_l2 mo at_ S 80) (mo + 13) (3)) ((mshaB_l2 mo at_ S 80) (mo + 13) (4)) ((mshaB_l2 mo at_ S 80) (mo + 13) (5)) ((mshaB_l2 mo at_ S 80) (mo + 13) (6)) ((mshaB_l2 mo at_ S 80) (mo + 13) (7)) (S.1, (mshaB_l2 mo at_ S 80), S.2.2) ((mshaB_l2 mo at_ S 80) (mo + 13) (0)) ((mshaB_l2 mo at_ S 80) (mo + 13) (1)) ((mshaB_l2 mo at_ S 80) (mo + 13) (2)) ((mshaB_l2 mo at_ S 80) (mo + 13) (3)) ((mshaB_l2 mo at_ S 80) (mo + 13) (4)) ((mshaB_l2 mo at_ S 80) (mo + 13) (5)) ((mshaB_l2 mo at_ S 80) (mo + 13) (6)) ((mshaB_l2 mo at_ S 80) (mo + 13) (7)) i221).2.2.2.2.2.1)), (14, .long ((mshaB_l221 mo at_ ((mshaB_l2 mo at_ S 80) (mo + 13) (0)) ((mshaB_l2 mo at_ S 80) (mo + 13) (1)) ((mshaB_l2 mo at_ S 80) (mo + 13) (2)) ((mshaB_l2 mo at_ S 80) (mo + 13) (3)) ((mshaB_l2 mo at_ S 80) (mo + 13) (4)) ((mshaB_l2 mo at_ S 80) (mo + 13) (5)) ((mshaB_l2 mo at_ S 80) (mo + 13) (6)) ((mshaB_l2 mo at_ S 80) (mo + 13) (7)) (S.1, (mshaB_l2 mo at_ S 80), S.2.2) ((mshaB_l2 mo at_ S 80) (mo + 13) (0)) ((mshaB_l2 mo at_ S 80) (mo + 13) (1)) ((mshaB_l2 mo at_ S 80) (mo + 13) (2)) ((mshaB_l2 mo at_ S 80) (mo + 13) (3)) ((mshaB_l2 mo at_ S 80) (mo + 13) (4)) ((mshaB_l2 mo at_ S 80) (mo + 13) (5)) ((mshaB_l2 mo at_ S 80) (mo + 13) (6)) ((mshaB_l2 mo at_ S 80) (mo + 13) (7)) i221).2.2.2.2.2.2.1)), (16, .long ((mshaB_l221 mo at_ ((mshaB_l2 mo at_ S 80) (mo + 13) (0)) ((mshaB_l2 mo at_ S 80) (mo + 13) (1)) ((mshaB_l2 mo at_ S 80) (mo + 13) (2)) ((mshaB_l2 mo at_ S 80) (mo + 13) (3)) ((mshaB_l2 mo at_ S 80) (mo + 13) (4)) ((mshaB_l2 mo at_ S 80) (mo + 13) (5)) ((mshaB_l2 mo at_ S 80) (mo + 13) (6)) ((mshaB_l2 mo at_ S 80) (mo + 13) (7)) (S.1, (mshaB_l2 mo at_ S 80), S.2.2) ((mshaB_l2 mo at_ S 80) (mo + 13) (0)) ((mshaB_l2 mo at_ S 80) (mo + 13) (1)) ((mshaB_l2 mo at_ S 80) (mo + 13) (2)) ((mshaB_l2 mo at_ S 80) (mo + 13) (3)) ((mshaB_l2 mo at_ S 80) (mo + 13) (4)) ((mshaB_l2 mo at_ S 80) (mo + 13) (5)) ((mshaB_l2 mo at_ S 80) (mo + 13) (6)) ((mshaB_l2 mo at_ S 80) (mo + 13) (7)) i221).2.2.2.2.2.2.2)), (18, .int (nI (i221)))] [] (inst X.1 L S.1 (mshaB_l2 mo at_ S 80) S.2.2) n 0 0 := by
        refine upto _ _ ?_ (fun i221 hi221 ih221 => ?_)
        · skip
          refine rn_iload C dX12_shaBlock_221 rfl ?_
          refine rn_bipush (v := nI 80) C dX12_shaBlock_223 rfl ?_
          refine rs_ge (tgt := 368) C dX12_shaBlock_225 (by decide) rfl rfl (by omega) (by omega) (fun _ => ?_) (fun q => absurd q (by omega))
          refine rn_aload_n C dX12_shaBlock_368 rfl ?_
          refine rs_get C dX12_shaBlock_369 fl_X12_69 hM0 rfl ?_
          refine rn_iconst (v := nI 0) C dX12_shaBlock_372 rfl ?_
          refine rn_dup2 C dX12_shaBlock_373 rfl rfl ?_
          refine rs_laload C dX12_shaBlock_374 hm13 rfl (by omega) (by decide) ?_
          refine rn_lload_n C dX12_shaBlock_375 rfl ?_
          refine rn_ladd C dX12_shaBlock_376 rfl ?_
          refine rs_lastore C dX12_shaBlock_377 hm13 rfl (by omega) (by decide) ?_
          refine rn_aload_n C dX12_shaBlock_378 rfl ?_
          refine rs_get C dX12_shaBlock_379 fl_X12_69 hM0 rfl ?_
          refine rn_iconst (v := nI 1) C dX12_shaBlock_382 rfl ?_
          refine rn_dup2 C dX12_shaBlock_383 rfl rfl ?_
          refine rs_laload C dX12_shaBlock_384 hm13 rfl (by omega) (by decide) ?_
          refine rn_lload C dX12_shaBlock_385 rfl ?_
          refine rn_ladd C dX12_shaBlock_387 rfl ?_
          refine rs_lastore C dX12_shaBlock_388 hm13 rfl (by omega) (by decide) ?_
          refine rn_aload_n C dX12_shaBlock_389 rfl ?_
          refine rs_get C dX12_shaBlock_390 fl_X12_69 hM0 rfl ?_
          refine rn_iconst (v := nI 2) C dX12_shaBlock_393 rfl ?_
          refine rn_dup2 C dX12_shaBlock_394 rfl rfl ?_
          refine rs_laload C dX12_shaBlock_395 hm13 rfl (by omega) (by decide) ?_
          refine rn_lload C dX12_shaBlock_396 rfl ?_
          refine rn_ladd C dX12_shaBlock_398 rfl ?_
          refine rs_lastore C dX12_shaBlock_399 hm13 rfl (by omega) (by decide) ?_
          refine rn_aload_n C dX12_shaBlock_400 rfl ?_
          refine rs_get C dX12_shaBlock_401 fl_X12_69 hM0 rfl ?_
          refine rn_iconst (v := nI 3) C dX12_shaBlock_404 rfl ?_
          refine rn_dup2 C dX12_shaBlock_405 rfl rfl ?_
          refine rs_laload C dX12_shaBlock_406 hm13 rfl (by omega) (by decide) ?_
          refine rn_lload C dX12_shaBlock_407 rfl ?_
          refine rn_ladd C dX12_shaBlock_409 rfl ?_
          refine rs_lastore C dX12_shaBlock_410 hm13 rfl (by omega) (by decide) ?_
          refine rn_aload_n C dX12_shaBlock_411 rfl ?_
          refine rs_get C dX12_shaBlock_412 fl_X12_69 hM0 rfl ?_
          refine rn_iconst (v := nI 4) C dX12_shaBlock_415 rfl ?_
          refine rn_dup2 C dX12_shaBlock_416 rfl rfl ?_
          refine rs_laload C dX12_shaBlock_417 hm13 rfl (by omega) (by decide) ?_
          refine rn_lload C dX12_shaBlock_418 rfl ?_
          refine rn_ladd C dX12_shaBlock_420 rfl ?_
          refine rs_lastore C dX12_shaBlock_421 hm13 rfl (by omega) (by decide) ?_
          refine rn_aload_n C dX12_shaBlock_422 rfl ?_
          refine rs_get C dX12_shaBlock_423 fl_X12_69 hM0 rfl ?_
          refine rn_iconst (v := nI 5) C dX12_shaBlock_426 rfl ?_
          refine rn_dup2 C dX12_shaBlock_427 rfl rfl ?_
          refine rs_laload C dX12_shaBlock_428 hm13 rfl (by omega) (by decide) ?_
          refine rn_lload C dX12_shaBlock_429 rfl ?_
          refine rn_ladd C dX12_shaBlock_431 rfl ?_
          refine rs_lastore C dX12_shaBlock_432 hm13 rfl (by omega) (by decide) ?_
          refine rn_aload_n C dX12_shaBlock_433 rfl ?_
          refine rs_get C dX12_shaBlock_434 fl_X12_69 hM0 rfl ?_
          refine rn_bipush (v := nI 6) C dX12_shaBlock_437 rfl ?_
          refine rn_dup2 C dX12_shaBlock_439 rfl rfl ?_
          refine rs_laload C dX12_shaBlock_440 hm13 rfl (by omega) (by decide) ?_
          refine rn_lload C dX12_shaBlock_441 rfl ?_
          refine rn_ladd C dX12_shaBlock_443 rfl ?_
          refine rs_lastore C dX12_shaBlock_444 hm13 rfl (by omega) (by decide) ?_
          refine rn_aload_n C dX12_shaBlock_445 rfl ?_
          refine rs_get C dX12_shaBlock_446 fl_X12_69 hM0 rfl ?_
          refine rn_bipush (v := nI 7) C dX12_shaBlock_449 rfl ?_
          refine rn_dup2 C dX12_shaBlock_451 rfl rfl ?_
          refine rs_laload C dX12_shaBlock_452 hm13 rfl (by omega) (by decide) ?_
          refine rn_lload C dX12_shaBlock_453 rfl ?_
          refine rn_ladd C dX12_shaBlock_455 rfl ?_
          refine rs_lastore C dX12_shaBlock_456 hm13 rfl (by omega) (by decide) ?_
          exact rn_vret C Rt dX12_shaBlock_457 (pv_of rfl) (Nat.zero_le _) (Nat.zero_le _)
        · skip
          refine rn_iload C dX12_shaBlock_221 rfl ?_
          refine rn_bipush (v := nI 80) C dX12_shaBlock_223 rfl ?_
          refine rs_ge (tgt := 368) C dX12_shaBlock_225 (by decide) rfl rfl (by omega) (by omega) (fun q => absurd q (by omega)) (fun _ => ?_)
          refine rn_lload C dX12_shaBlock_228 rfl ?_
          refine rn_lload C dX12_shaBlock_230 rfl ?_
          refine rn_bipush (v := nI 14) C dX12_shaBlock_232 rfl ?_
          refine rs_sl C dX12_shaBlock_234 mk_X12_turned ls_X12_253 (cp_turned (S := (S.1, (mshaB_l2 mo at_ S 80), S.2.2)) ) rfl rfl (by decide) (Nat.le_of_ble_eq_true rfl) (by decide) (by decide) ?_
          refine rn_lload C dX12_shaBlock_237 rfl ?_
          refine rn_bipush (v := nI 18) C dX12_shaBlock_239 rfl ?_
          refine rs_sl C dX12_shaBlock_241 mk_X12_turned ls_X12_253 (cp_turned (S := (S.1, (mshaB_l2 mo at_ S 80), S.2.2)) ) rfl rfl (by decide) (Nat.le_of_ble_eq_true rfl) (by decide) (by decide) ?_
          refine rn_lxor C dX12_shaBlock_244 rfl ?_
          refine rn_lload C dX12_shaBlock_245 rfl ?_
          refine rn_bipush (v := nI 41) C dX12_shaBlock_247 rfl ?_
          refine rs_sl C dX12_shaBlock_249 mk_X12_turned ls_X12_253 (cp_turned (S := (S.1, (mshaB_l2 mo at_ S 80), S.2.2)) ) rfl rfl (by decide) (Nat.le_of_ble_eq_true rfl) (by decide) (by decide) ?_
          refine rn_lxor C dX12_shaBlock_252 rfl ?_
          refine rn_ladd C dX12_shaBlock_253 rfl ?_
          refine rn_lload C dX12_shaBlock_254 rfl ?_
          refine rn_lload C dX12_shaBlock_256 rfl ?_
          refine rn_land C dX12_shaBlock_258 rfl ?_
          refine rn_lload C dX12_shaBlock_259 rfl ?_
          refine rn_ldc2 C dX12_shaBlock_261 lc_X12_257 ?_
          refine rn_lxor C dX12_shaBlock_264 rfl ?_
          refine rn_lload C dX12_shaBlock_265 rfl ?_
          refine rn_land C dX12_shaBlock_267 rfl ?_
          refine rn_lxor C dX12_shaBlock_268 rfl ?_
          refine rn_ladd C dX12_shaBlock_269 rfl ?_
          refine rn_aload_n C dX12_shaBlock_270 rfl ?_
          refine rs_get C dX12_shaBlock_271 fl_X12_75 hM0 rfl ?_
          refine rn_iload C dX12_shaBlock_274 rfl ?_
          refine rs_laload C dX12_shaBlock_276 hm15 rfl (by omega) (by decide) ?_
          refine rn_ladd C dX12_shaBlock_277 rfl ?_
          refine rn_aload_n C dX12_shaBlock_278 rfl ?_
          refine rs_get C dX12_shaBlock_279 fl_X12_78 hM0 rfl ?_
          refine rn_iload C dX12_shaBlock_282 rfl ?_
          refine rs_laload C dX12_shaBlock_284 hm16 rfl (by omega) (by decide) ?_
          refine rn_ladd C dX12_shaBlock_285 rfl ?_
          refine rn_lstore (lv' := [(0, _), (1, _), (2, _), (4, _), (6, _), (8, _), (10, _), (12, _), (14, _), (16, _), (18, _), (19, _)]) C dX12_shaBlock_286 (by decide) rfl ?_
          refine rn_lload_n C dX12_shaBlock_288 rfl ?_
          refine rn_bipush (v := nI 28) C dX12_shaBlock_289 rfl ?_
          refine rs_sl C dX12_shaBlock_291 mk_X12_turned ls_X12_253 (cp_turned (S := (S.1, (mshaB_l2 mo at_ S 80), S.2.2)) ) rfl rfl (by decide) (Nat.le_of_ble_eq_true rfl) (by decide) (by decide) ?_
          refine rn_lload_n C dX12_shaBlock_294 rfl ?_
          refine rn_bipush (v := nI 34) C dX12_shaBlock_295 rfl ?_
          refine rs_sl C dX12_shaBlock_297 mk_X12_turned ls_X12_253 (cp_turned (S := (S.1, (mshaB_l2 mo at_ S 80), S.2.2)) ) rfl rfl (by decide) (Nat.le_of_ble_eq_true rfl) (by decide) (by decide) ?_
          refine rn_lxor C dX12_shaBlock_300 rfl ?_
          refine rn_lload_n C dX12_shaBlock_301 rfl ?_
          refine rn_bipush (v := nI 39) C dX12_shaBlock_302 rfl ?_
          refine rs_sl C dX12_shaBlock_304 mk_X12_turned ls_X12_253 (cp_turned (S := (S.1, (mshaB_l2 mo at_ S 80), S.2.2)) ) rfl rfl (by decide) (Nat.le_of_ble_eq_true rfl) (by decide) (by decide) ?_
          refine rn_lxor C dX12_shaBlock_307 rfl ?_
          refine rn_lload_n C dX12_shaBlock_308 rfl ?_
          refine rn_lload C dX12_shaBlock_309 rfl ?_
          refine rn_land C dX12_shaBlock_311 rfl ?_
          refine rn_lload_n C dX12_shaBlock_312 rfl ?_
          refine rn_lload C dX12_shaBlock_313 rfl ?_
          refine rn_land C dX12_shaBlock_315 rfl ?_
          refine rn_lxor C dX12_shaBlock_316 rfl ?_
          refine rn_lload C dX12_shaBlock_317 rfl ?_
          refine rn_lload C dX12_shaBlock_319 rfl ?_
          refine rn_land C dX12_shaBlock_321 rfl ?_
          refine rn_lxor C dX12_shaBlock_322 rfl ?_
          refine rn_ladd C dX12_shaBlock_323 rfl ?_
          refine rn_lstore (lv' := [(0, _), (1, _), (2, _), (4, _), (6, _), (8, _), (10, _), (12, _), (14, _), (16, _), (18, _), (19, _), (21, _)]) C dX12_shaBlock_324 (by decide) rfl ?_
          refine rn_lload C dX12_shaBlock_326 rfl ?_
          refine rn_lstore (lv' := [(0, _), (1, _), (2, _), (4, _), (6, _), (8, _), (10, _), (12, _), (14, _), (16, _), (18, _), (19, _), (21, _)]) C dX12_shaBlock_328 (by decide) rfl ?_
          refine rn_lload C dX12_shaBlock_330 rfl ?_
          refine rn_lstore (lv' := [(0, _), (1, _), (2, _), (4, _), (6, _), (8, _), (10, _), (12, _), (14, _), (16, _), (18, _), (19, _), (21, _)]) C dX12_shaBlock_332 (by decide) rfl ?_
          refine rn_lload C dX12_shaBlock_334 rfl ?_
          refine rn_lstore (lv' := [(0, _), (1, _), (2, _), (4, _), (6, _), (8, _), (10, _), (12, _), (14, _), (16, _), (18, _), (19, _), (21, _)]) C dX12_shaBlock_336 (by decide) rfl ?_
          refine rn_lload C dX12_shaBlock_338 rfl ?_
          refine rn_lload C dX12_shaBlock_340 rfl ?_
          refine rn_ladd C dX12_shaBlock_342 rfl ?_
          refine rn_lstore (lv' := [(0, _), (1, _), (2, _), (4, _), (6, _), (8, _), (10, _), (12, _), (14, _), (16, _), (18, _), (19, _), (21, _)]) C dX12_shaBlock_343 (by decide) rfl ?_
          refine rn_lload C dX12_shaBlock_345 rfl ?_
          refine rn_lstore (lv' := [(0, _), (1, _), (2, _), (4, _), (6, _), (8, _), (10, _), (12, _), (14, _), (16, _), (18, _), (19, _), (21, _)]) C dX12_shaBlock_347 (by decide) rfl ?_
          refine rn_lload C dX12_shaBlock_349 rfl ?_
          refine rn_lstore (lv' := [(0, _), (1, _), (2, _), (4, _), (6, _), (8, _), (10, _), (12, _), (14, _), (16, _), (18, _), (19, _), (21, _)]) C dX12_shaBlock_351 (by decide) rfl ?_
          refine rn_lload_n C dX12_shaBlock_353 rfl ?_
          refine rn_lstore (lv' := [(0, _), (1, _), (2, _), (4, _), (6, _), (8, _), (10, _), (12, _), (14, _), (16, _), (18, _), (19, _), (21, _)]) C dX12_shaBlock_354 (by decide) rfl ?_
          refine rn_lload C dX12_shaBlock_356 rfl ?_
          refine rn_lload C dX12_shaBlock_358 rfl ?_
          refine rn_ladd C dX12_shaBlock_360 rfl ?_
          refine rn_lstore_n (lv' := [(0, _), (1, _), (2, _), (4, _), (6, _), (8, _), (10, _), (12, _), (14, _), (16, _), (18, _), (19, _), (21, _)]) C dX12_shaBlock_361 (by decide) rfl ?_
          refine rn_iinc (lv' := [(0, _), (1, _), (2, _), (4, _), (6, _), (8, _), (10, _), (12, _), (14, _), (16, _), (18, _), (19, _), (21, _)]) C dX12_shaBlock_362 rfl (nI_inc _) (by decide) rfl ?_
          refine rn_goto (tgt := 221) C dX12_shaBlock_365 (by decide) ?_
          exact rn_ks [0, 1, 2, 4, 6, 8, 10, 12, 14, 16, 18] ih221 rfl
      exact lp221 0 (Nat.zero_le _)
    · skip
      refine rn_iload_n C dX12_shaBlock_2 rfl ?_
      refine rn_bipush (v := nI 80) C dX12_shaBlock_3 rfl ?_
      refine rs_ge (tgt := 153) C dX12_shaBlock_5 (by decide) rfl rfl (by omega) (by omega) (fun q => absurd q (by omega)) (fun _ => ?_)
      refine rn_lconst (v := 0) C dX12_shaBlock_8 rfl ?_
      refine rn_lstore_n (lv' := [(0, _), (1, _), (2, _), (3, _)]) C dX12_shaBlock_9 (by decide) rfl ?_
      refine rn_iload_n C dX12_shaBlock_10 rfl ?_
      refine rn_bipush (v := nI 16) C dX12_shaBlock_11 rfl ?_
      refine rn_icmp_ge (tgt := 56) C dX12_shaBlock_13 (by decide) (fun hb19 => ?_) (fun hb19 => ?_)
      · skip
        have hge : 16 ≤ i2 := (nI_leI (by omega) (by omega)).mp hb19
        refine rn_aload_n C dX12_shaBlock_56 rfl ?_
        refine rs_get C dX12_shaBlock_57 fl_X12_78 hM0 rfl ?_
        refine rn_iload_n C dX12_shaBlock_60 rfl ?_
        refine rn_bipush (v := nI 15) C dX12_shaBlock_61 rfl ?_
        refine rn_isub C dX12_shaBlock_63 (pk_sub (by omega)) ?_
        refine rs_laload C dX12_shaBlock_64 hm16 rfl (by omega) (by decide) ?_
        refine rn_lstore (lv' := [(0, _), (1, _), (2, _), (3, _), (5, _)]) C dX12_shaBlock_65 (by decide) rfl ?_
        refine rn_aload_n C dX12_shaBlock_67 rfl ?_
        refine rs_get C dX12_shaBlock_68 fl_X12_78 hM0 rfl ?_
        refine rn_iload_n C dX12_shaBlock_71 rfl ?_
        refine rn_iconst (v := nI 2) C dX12_shaBlock_72 rfl ?_
        refine rn_isub C dX12_shaBlock_73 (pk_sub (by omega)) ?_
        refine rs_laload C dX12_shaBlock_74 hm16 rfl (by omega) (by decide) ?_
        refine rn_lstore (lv' := [(0, _), (1, _), (2, _), (3, _), (5, _), (7, _)]) C dX12_shaBlock_75 (by decide) rfl ?_
        refine rn_lload C dX12_shaBlock_77 rfl ?_
        refine rn_iconst (v := nI 1) C dX12_shaBlock_79 rfl ?_
        refine rs_sl C dX12_shaBlock_80 mk_X12_turned ls_X12_253 (cp_turned (S := (S.1, (mshaB_l2 mo at_ S i2), S.2.2)) ) rfl rfl (by decide) (Nat.le_of_ble_eq_true rfl) (by decide) (by decide) ?_
        refine rn_lload C dX12_shaBlock_83 rfl ?_
        refine rn_bipush (v := nI 8) C dX12_shaBlock_85 rfl ?_
        refine rs_sl C dX12_shaBlock_87 mk_X12_turned ls_X12_253 (cp_turned (S := (S.1, (mshaB_l2 mo at_ S i2), S.2.2)) ) rfl rfl (by decide) (Nat.le_of_ble_eq_true rfl) (by decide) (by decide) ?_
        refine rn_lxor C dX12_shaBlock_90 rfl ?_
        refine rn_lload C dX12_shaBlock_91 rfl ?_
        refine rn_bipush (v := nI 7) C dX12_shaBlock_93 rfl ?_
        refine rn_lushr C dX12_shaBlock_95 rfl ?_
        refine rn_lxor C dX12_shaBlock_96 rfl ?_
        refine rn_lload C dX12_shaBlock_97 rfl ?_
        refine rn_bipush (v := nI 19) C dX12_shaBlock_99 rfl ?_
        refine rs_sl C dX12_shaBlock_101 mk_X12_turned ls_X12_253 (cp_turned (S := (S.1, (mshaB_l2 mo at_ S i2), S.2.2)) ) rfl rfl (by decide) (Nat.le_of_ble_eq_true rfl) (by decide) (by decide) ?_
        refine rn_lload C dX12_shaBlock_104 rfl ?_
        refine rn_bipush (v := nI 61) C dX12_shaBlock_106 rfl ?_
        refine rs_sl C dX12_shaBlock_108 mk_X12_turned ls_X12_253 (cp_turned (S := (S.1, (mshaB_l2 mo at_ S i2), S.2.2)) ) rfl rfl (by decide) (Nat.le_of_ble_eq_true rfl) (by decide) (by decide) ?_
        refine rn_lxor C dX12_shaBlock_111 rfl ?_
        refine rn_lload C dX12_shaBlock_112 rfl ?_
        refine rn_bipush (v := nI 6) C dX12_shaBlock_114 rfl ?_
        refine rn_lushr C dX12_shaBlock_116 rfl ?_
        refine rn_lxor C dX12_shaBlock_117 rfl ?_
        refine rn_ladd C dX12_shaBlock_118 rfl ?_
        refine rn_aload_n C dX12_shaBlock_119 rfl ?_
        refine rs_get C dX12_shaBlock_120 fl_X12_78 hM0 rfl ?_
        refine rn_iload_n C dX12_shaBlock_123 rfl ?_
        refine rn_bipush (v := nI 7) C dX12_shaBlock_124 rfl ?_
        refine rn_isub C dX12_shaBlock_126 (pk_sub (by omega)) ?_
        refine rs_laload C dX12_shaBlock_127 hm16 rfl (by omega) (by decide) ?_
        refine rn_ladd C dX12_shaBlock_128 rfl ?_
        refine rn_aload_n C dX12_shaBlock_129 rfl ?_
        refine rs_get C dX12_shaBlock_130 fl_X12_78 hM0 rfl ?_
        refine rn_iload_n C dX12_shaBlock_133 rfl ?_
        refine rn_bipush (v := nI 16) C dX12_shaBlock_134 rfl ?_
        refine rn_isub C dX12_shaBlock_136 (pk_sub (by omega)) ?_
        refine rs_laload C dX12_shaBlock_137 hm16 rfl (by omega) (by decide) ?_
        refine rn_ladd C dX12_shaBlock_138 rfl ?_
        refine rn_lstore_n (lv' := [(0, _), (1, _), (2, _), (3, _), (5, _), (7, _)]) C dX12_shaBlock_139 (by decide) rfl ?_
        refine rn_aload_n C dX12_shaBlock_140 rfl ?_
        refine rs_get C dX12_shaBlock_141 fl_X12_78 hM0 rfl ?_
        refine rn_iload_n C dX12_shaBlock_144 rfl ?_
        refine rn_lload_n C dX12_shaBlock_145 rfl ?_
        refine rs_lastore C dX12_shaBlock_146 hm16 rfl (by omega) (by decide) ?_
        refine rn_iinc (lv' := [(0, _), (1, _), (2, _), (3, _), (5, _), (7, _)]) C dX12_shaBlock_147 rfl (nI_inc _) (by decide) rfl ?_
        refine rn_goto (tgt := 2) C dX12_shaBlock_150 (by decide) ?_
        rw [show mshaB_l2 mo at_ S (i2 + 1) = _ from (if_pos hb19)] at ih2
        exact rn_ks [0, 1, 2] ih2 rfl
      · skip
        have hlt : i2 < 16 := Nat.not_le.mp (fun q => hb19 (nI_le q (by omega)))
        refine rn_iconst (v := nI 0) C dX12_shaBlock_16 rfl ?_
        refine rn_istore (lv' := [(0, _), (1, _), (2, _), (3, _), (5, _)]) C dX12_shaBlock_17 (by decide) rfl ?_
        have lp19 : ∀ i19, i19 ≤ 8 → Rn X 19 [(0, .ref (k_b X.1 + (mo))), (1, .int (nI (at_))), (2, .int (nI (i2))), (3, .long ((mshaB_l19 mo at_ i2 (mshaB_l2 mo at_ S i2) (S.1, (mshaB_l2 mo at_ S i2), S.2.2) 0 i19))), (5, .int (nI (i19)))] [] (inst X.1 L S.1 (mshaB_l2 mo at_ S i2) S.2.2) n 0 0 := by
          refine upto _ _ ?_ (fun i19 hi19 ih19 => ?_)
          · skip
            refine rn_iload C dX12_shaBlock_19 rfl ?_
            refine rn_bipush (v := nI 8) C dX12_shaBlock_21 rfl ?_
            refine rs_ge (tgt := 53) C dX12_shaBlock_23 (by decide) rfl rfl (by omega) (by omega) (fun _ => ?_) (fun q => absurd q (by omega))
            refine rn_goto (tgt := 140) C dX12_shaBlock_53 (by decide) ?_
            refine rn_aload_n C dX12_shaBlock_140 rfl ?_
            refine rs_get C dX12_shaBlock_141 fl_X12_78 hM0 rfl ?_
            refine rn_iload_n C dX12_shaBlock_144 rfl ?_
            refine rn_lload_n C dX12_shaBlock_145 rfl ?_
            refine rs_lastore C dX12_shaBlock_146 hm16 rfl (by omega) (by decide) ?_
            refine rn_iinc (lv' := [(0, _), (1, _), (2, _), (3, _), (5, _)]) C dX12_shaBlock_147 rfl (nI_inc _) (by decide) rfl ?_
            refine rn_goto (tgt := 2) C dX12_shaBlock_150 (by decide) ?_
            rw [show mshaB_l2 mo at_ S (i2 + 1) = _ from (if_neg hb19)] at ih2
            exact rn_ks [0, 1, 2] ih2 rfl
          · skip
            refine rn_iload C dX12_shaBlock_19 rfl ?_
            refine rn_bipush (v := nI 8) C dX12_shaBlock_21 rfl ?_
            refine rs_ge (tgt := 53) C dX12_shaBlock_23 (by decide) rfl rfl (by omega) (by omega) (fun q => absurd q (by omega)) (fun _ => ?_)
            refine rn_lload_n C dX12_shaBlock_26 rfl ?_
            refine rn_bipush (v := nI 8) C dX12_shaBlock_27 rfl ?_
            refine rn_lshl C dX12_shaBlock_29 rfl ?_
            refine rn_aload_n C dX12_shaBlock_30 rfl ?_
            refine rs_get C dX12_shaBlock_31 fl_X12_60 hM0 rfl ?_
            refine rn_iload_n C dX12_shaBlock_34 rfl ?_
            refine rn_bipush (v := nI 8) C dX12_shaBlock_35 rfl ?_
            refine rn_iload_n C dX12_shaBlock_37 rfl ?_
            refine rn_imul C dX12_shaBlock_38 (pk_mul _ _) ?_
            refine rn_iadd C dX12_shaBlock_39 (nI_add _ _) ?_
            refine rn_iload C dX12_shaBlock_40 rfl ?_
            refine rn_iadd C dX12_shaBlock_42 (nI_add _ _) ?_
            refine rs_iaload C dX12_shaBlock_43 hm11 rfl (by omega) (by decide) ?_
            refine rn_i2l C dX12_shaBlock_44 rfl ?_
            refine rn_lor C dX12_shaBlock_45 rfl ?_
            refine rn_lstore_n (lv' := [(0, _), (1, _), (2, _), (3, _), (5, _)]) C dX12_shaBlock_46 (by decide) rfl ?_
            refine rn_iinc (lv' := [(0, _), (1, _), (2, _), (3, _), (5, _)]) C dX12_shaBlock_47 rfl (nI_inc _) (by decide) rfl ?_
            refine rn_goto (tgt := 19) C dX12_shaBlock_50 (by decide) ?_
            exact rn_ks [0, 1, 2, 3, 5] ih19 rfl
        exact lp19 0 (Nat.zero_le _)
  exact lp2 0 (Nat.zero_le _)
