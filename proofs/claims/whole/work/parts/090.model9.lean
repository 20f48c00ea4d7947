/-! CurveSuiteModel: signatures and the ladder, by program (dc.py, spec_model9.py) -/
def vcN (c : Bool) : Nat := if c then 2 else 3
def ldN (c : Bool) : Nat := if c then 448 else 255
theorem malike_z (c : Bool) (mo a b : Nat) (S : StT) : narrow .boolean (.int (malike_f c mo a b S).1) = .int (malike_f c mo a b S).1 := by
  unfold malike_f
  dsimp only
  (repeat' split) <;> first | exact nz0 | exact nz1 | exact mequal_z _ _ _ _
def mhashI_f (c : Bool) (mo : Nat) (q : Nat) (S : StT) : StT := (if (nI (bN c)) ≠ 0 then (let S2 := mshake_f (mo) (114) (q) S; (S2.1, S2.2.1, fs S.2.2 (mo) 17 (nI (haN c q)))) else (let S3 := msha_f (mo) (q) S; (S3.1, S3.2.1, fs S.2.2 (mo) 17 (nI (haN c q)))))
theorem mhashI_F (c : Bool) (mo : Nat) (q : Nat) (S : StT) : (mhashI_f c mo q S).2.2 = fs S.2.2 (mo) 17 (nI (haN c q)) := by
  unfold mhashI_f; first | rfl | ((repeat' split) <;> rfl)
set_option maxRecDepth 100000 in
set_option maxHeartbeats 400000 in
theorem c_mhashI {k : KX} {L : Nat → Option Sh} {S : StT} {n : Nat} {c : Bool} {mo : Nat} {q : Nat} (hM : ModelAt k L mo) (hq : S.2.2 mo 17 = nI q) (hqn : q ≤ 600) (hcn : S.2.2 mo 13 = nI (bN c)) :
    Cs k yX12_hashIn cX12_hashIn 1 none 3 0 0 [.ref (k_b k + (mo))] (inst k L S.1 S.2.1 S.2.2) n (Pv k L n (mhashI_f c mo q S)) := by
  refine cs_of (by decide) (Nat.le_of_ble_eq_true rfl) ?_
  intro X hXk C Rt hnm
  subst hXk
  have hM9 := hM
  obtain ⟨hM0, hm1, hm2, hm3, hm4, hm5, hm6, hm7, hm8, hm9, hm10, hm11, hm12, hm13, hm14, hm15, hm16, hm17, hm18, hm19, hm20, hm21, hm22, hm23, hm24, hm25, hm26, hm27⟩ := hM9
  refine rn_lv [(0, .ref (k_b X.1 + (mo)))] (fun q h => h) ?_
  refine rn_aload_n C dX12_hashIn_0 rfl ?_
  refine rs_getFe C dX12_hashIn_1 fl_X12_51 hM0 rfl hcn ?_
  refine rn_if_ne (tgt := 14) C dX12_hashIn_4 (by decide) (fun hb1 => ?_) (fun hb1 => ?_)
  · skip
    have hha := haN_t q (bN_t hb1)
    refine rn_aload_n C dX12_hashIn_14 rfl ?_
    refine rn_bipush (v := nI 114) C dX12_hashIn_15 rfl ?_
    refine rs_vv C dX12_hashIn_17 mk_X12_shake lv_X12_286 (c_mshake hM (by omega) hq (by omega)) hM0 rfl rfl rfl rfl (by decide) (Nat.le_of_ble_eq_true rfl) (by decide) (by decide) ?_
    rw [show (mshake_f (mo) (114) (q) S).2.2 = fs S.2.2 (mo) 17 (nI (q + 1 + skN q)) from (mshake_F (mo) (114) (q) S)]
    generalize hS2 : mshake_f (mo) (114) (q) S = S2
    rw [show inst X.1 L S2.1 S2.2.1 (fs S.2.2 (mo) 17 (nI (q + 1 + skN q))) = inst X.1 L S2.1 S2.2.1 (fs S.2.2 (mo) 17 (nI (haN c q))) from in_eq (by omega)]
    have hret : mhashI_f c mo q S = (S2.1, S2.2.1, fs S.2.2 (mo) 17 (nI (haN c q))) := by
      subst hS2
      first | (dsimp only [mhashI_f]; done) | (dsimp only [mhashI_f]; exact (if_pos hb1)) | exact (if_pos hb1)
    exact rn_vret C Rt dX12_hashIn_20 (pv_of hret) (Nat.zero_le _) (Nat.zero_le _)
  · skip
    have hha := haN_f q (bN_f hb1)
    refine rn_aload_n C dX12_hashIn_7 rfl ?_
    refine rs_vv C dX12_hashIn_8 mk_X12_sha512 lv_X12_283 (c_msha hM hq (by omega)) hM0 rfl rfl rfl rfl (by decide) (Nat.le_of_ble_eq_true rfl) (by decide) (by decide) ?_
    rw [show (msha_f (mo) (q) S).2.2 = fs S.2.2 (mo) 17 (nI (q + 1 + shN q + 16)) from (msha_F (mo) (q) S)]
    generalize hS3 : msha_f (mo) (q) S = S3
    refine rn_goto (tgt := 20) C dX12_hashIn_11 (by decide) ?_
    rw [show inst X.1 L S3.1 S3.2.1 (fs S.2.2 (mo) 17 (nI (q + 1 + shN q + 16))) = inst X.1 L S3.1 S3.2.1 (fs S.2.2 (mo) 17 (nI (haN c q))) from in_eq (by omega)]
    have hret : mhashI_f c mo q S = (S3.1, S3.2.1, fs S.2.2 (mo) 17 (nI (haN c q))) := by
      subst hS3
      first | (dsimp only [mhashI_f]; done) | (dsimp only [mhashI_f]; exact (if_neg (fun q => q hb1))) | exact (if_neg (fun q => q hb1))
    exact rn_vret C Rt dX12_hashIn_20 (pv_of hret) (Nat.zero_le _) (Nat.zero_le _)
def mdigM_l40 (mo : Nat) (S : StT)  : Nat → (Nat → Nat → Int32)
  | 0 => S.1
  | i40 + 1 => let y40_0 := (mdigM_l40 mo S i40); va_up y40_0 (mo + 25) (upd (y40_0 (mo + 25)) (i40) (y40_0 (mo + 12) (i40)))
def mdigM_f (c : Bool) (mo : Nat) (mg : Nat) (S : StT) : StT := (let S1 := minB_f (mo) (mo + 5) (0) (mg) (0) (S.1, S.2.1, fs S.2.2 (mo) 17 (nI (0))); (let S5 := (if (nI (bN c)) ≠ 0 then (let S3 := mshake_f (mo) (64) (0 + mg) (S1.1, S1.2.1, fs S.2.2 (mo) 17 (nI (0 + mg))); (S3.1, S3.2.1, S.2.2)) else (let S4 := msha_f (mo) (0 + mg) (S1.1, S1.2.1, fs S.2.2 (mo) 17 (nI (0 + mg))); (S4.1, S4.2.1, S.2.2))); ((mdigM_l40 mo (S5.1, S5.2.1, S.2.2) 64), S5.2.1, fs S.2.2 (mo) 17 (nI (haN c (0 + mg))))))
theorem mdigM_F (c : Bool) (mo : Nat) (mg : Nat) (S : StT) : (mdigM_f c mo mg S).2.2 = fs S.2.2 (mo) 17 (nI (haN c (0 + mg))) := by
  unfold mdigM_f; first | rfl | ((repeat' split) <;> rfl)
set_option maxRecDepth 100000 in
set_option maxHeartbeats 400000 in
theorem c_mdigM {k : KX} {L : Nat → Option Sh} {S : StT} {n : Nat} {c : Bool} {mo : Nat} {mg : Nat} (hM : ModelAt k L mo) (hmg : S.2.2 mo 7 = nI mg) (hmg1 : mg ≤ 256) (hcn : S.2.2 mo 13 = nI (bN c)) :
    Cs k yX12_digestMessage cX12_digestMessage 2 none 3 0 0 [.ref (k_b k + (mo))] (inst k L S.1 S.2.1 S.2.2) n (Pv k L n (mdigM_f c mo mg S)) := by
  refine cs_of (by decide) (Nat.le_of_ble_eq_true rfl) ?_
  intro X hXk C Rt hnm
  subst hXk
  have hM9 := hM
  obtain ⟨hM0, hm1, hm2, hm3, hm4, hm5, hm6, hm7, hm8, hm9, hm10, hm11, hm12, hm13, hm14, hm15, hm16, hm17, hm18, hm19, hm20, hm21, hm22, hm23, hm24, hm25, hm26, hm27⟩ := hM9
  refine rn_lv [(0, .ref (k_b X.1 + (mo)))] (fun q h => h) ?_
  refine rn_aload_n C dX12_digestMessage_0 rfl ?_
  refine rn_iconst (v := nI 0) C dX12_digestMessage_1 rfl ?_
  refine rs_putF C dX12_digestMessage_2 fp_X12_63 hM0 rfl ?_
  refine rn_aload_n C dX12_digestMessage_5 rfl ?_
  refine rn_aload_n C dX12_digestMessage_6 rfl ?_
  refine rs_get C dX12_digestMessage_7 fl_X12_29 hM0 rfl ?_
  refine rn_iconst (v := nI 0) C dX12_digestMessage_10 rfl ?_
  refine rn_aload_n C dX12_digestMessage_11 rfl ?_
  refine rs_getFe C dX12_digestMessage_12 fl_X12_32 hM0 rfl ((fs_oth (by decide)).trans hmg) ?_
  refine rs_vv C dX12_digestMessage_15 mk_X12_inBytes lv_X12_279 (c_minB (S := (S.1, S.2.1, fs S.2.2 (mo) 17 (nI (0)))) hM hm5 (by decide) (by omega) fs_get (by omega)) hM0 rfl rfl rfl rfl (by decide) (Nat.le_of_ble_eq_true rfl) (by decide) (by decide) ?_
  rw [show (minB_f (mo) (mo + 5) (0) (mg) (0) (S.1, S.2.1, fs S.2.2 (mo) 17 (nI (0)))).2.2 = fs S.2.2 (mo) 17 (nI (0 + mg)) from (minB_F (mo) (mo + 5) (0) (mg) (0) (S.1, S.2.1, fs S.2.2 (mo) 17 (nI (0)))).trans fs_fs]
  generalize hS1 : minB_f (mo) (mo + 5) (0) (mg) (0) (S.1, S.2.1, fs S.2.2 (mo) 17 (nI (0))) = S1
  refine rn_aload_n C dX12_digestMessage_18 rfl ?_
  refine rs_getFe C dX12_digestMessage_19 fl_X12_51 hM0 rfl ((fs_oth (by decide)).trans hcn) ?_
  have K22_5 : Rn X 38 [(0, .ref (k_b X.1 + (mo)))] [] (inst X.1 L (if (nI (bN c)) ≠ 0 then (let S3 := mshake_f (mo) (64) (0 + mg) (S1.1, S1.2.1, fs S.2.2 (mo) 17 (nI (0 + mg))); (S3.1, S3.2.1, S.2.2)) else (let S4 := msha_f (mo) (0 + mg) (S1.1, S1.2.1, fs S.2.2 (mo) 17 (nI (0 + mg))); (S4.1, S4.2.1, S.2.2))).1 (if (nI (bN c)) ≠ 0 then (let S3 := mshake_f (mo) (64) (0 + mg) (S1.1, S1.2.1, fs S.2.2 (mo) 17 (nI (0 + mg))); (S3.1, S3.2.1, S.2.2)) else (let S4 := msha_f (mo) (0 + mg) (S1.1, S1.2.1, fs S.2.2 (mo) 17 (nI (0 + mg))); (S4.1, S4.2.1, S.2.2))).2.1 (fs S.2.2 (mo) 17 (nI (haN c (0 + mg))))) n 0 0 := by
    generalize hS5 : (if (nI (bN c)) ≠ 0 then (let S3 := mshake_f (mo) (64) (0 + mg) (S1.1, S1.2.1, fs S.2.2 (mo) 17 (nI (0 + mg))); (S3.1, S3.2.1, S.2.2)) else (let S4 := msha_f (mo) (0 + mg) (S1.1, S1.2.1, fs S.2.2 (mo) 17 (nI (0 + mg))); (S4.1, S4.2.1, S.2.2))) = S5
    refine rn_iconst (v := nI 0) C dX12_digestMessage_38 rfl ?_
    refine rn_istore_n (lv' := [(0, _), (1, _)]) C dX12_digestMessage_39 (by decide) rfl ?_
    have lp40 : ∀ i40, i40 ≤ 64 → Rn X 40 [(0, .ref (k_b X.1 + (mo))), (1, .int (nI (i40)))] [] (inst X.1 L (mdigM_l40 mo (S5.1, S5.2.1, S.2.2) i40) S5.2.1 (fs S.2.2 (mo) 17 (nI (haN c (0 + mg))))) n 0 0 := by
      refine upto _ _ ?_ (fun i40 hi40 ih40 => ?_)
      · skip
        refine rn_iload_n C dX12_digestMessage_40 rfl ?_
        refine rn_bipush (v := nI 64) C dX12_digestMessage_41 rfl ?_
        refine rs_ge (tgt := 64) C dX12_digestMessage_43 (by decide) rfl rfl (by omega) (by omega) (fun _ => ?_) (fun q => absurd q (by omega))
        have hret : mdigM_f c mo mg S = ((mdigM_l40 mo (S5.1, S5.2.1, S.2.2) 64), S5.2.1, fs S.2.2 (mo) 17 (nI (haN c (0 + mg)))) := by
          subst hS5
          subst hS1
          first | (dsimp only [mdigM_f]; done) | (dsimp only [mdigM_f]; exact rfl) | exact rfl
        exact rn_vret C Rt dX12_digestMessage_64 (pv_of hret) (Nat.zero_le _) (Nat.zero_le _)
      · skip
        refine rn_iload_n C dX12_digestMessage_40 rfl ?_
        refine rn_bipush (v := nI 64) C dX12_digestMessage_41 rfl ?_
        refine rs_ge (tgt := 64) C dX12_digestMessage_43 (by decide) rfl rfl (by omega) (by omega) (fun q => absurd q (by omega)) (fun _ => ?_)
        refine rn_aload_n C dX12_digestMessage_46 rfl ?_
        refine rs_get C dX12_digestMessage_47 fl_X12_105 hM0 rfl ?_
        refine rn_iload_n C dX12_digestMessage_50 rfl ?_
        refine rn_aload_n C dX12_digestMessage_51 rfl ?_
        refine rs_get C dX12_digestMessage_52 fl_X12_66 hM0 rfl ?_
        refine rn_iload_n C dX12_digestMessage_55 rfl ?_
        refine rs_iaload C dX12_digestMessage_56 hm12 rfl (by omega) (by decide) ?_
        refine rs_iastore C dX12_digestMessage_57 hm25 rfl (by omega) (by decide) ?_
        refine rn_iinc (lv' := [(0, _), (1, _)]) C dX12_digestMessage_58 rfl (nI_inc _) (by decide) rfl ?_
        refine rn_goto (tgt := 40) C dX12_digestMessage_61 (by decide) ?_
        have he40 : mdigM_l40 mo (S5.1, S5.2.1, S.2.2) (i40 + 1) = va_up (mdigM_l40 mo (S5.1, S5.2.1, S.2.2) i40) (mo + 25) (upd ((mdigM_l40 mo (S5.1, S5.2.1, S.2.2) i40) (mo + 25)) (i40) ((mdigM_l40 mo (S5.1, S5.2.1, S.2.2) i40) (mo + 12) (i40))) := by
          first | (dsimp only [mdigM_l40]; done) | (dsimp only [mdigM_l40]; exact rfl) | exact rfl
        rw [he40] at ih40
        exact rn_ks [0, 1] ih40 rfl
    exact lp40 0 (Nat.zero_le _)
  refine rn_if_ne (tgt := 32) C dX12_digestMessage_22 (by decide) (fun hb2 => ?_) (fun hb2 => ?_)
  · skip
    have hha := haN_t (0 + mg) (bN_t hb2)
    refine rn_aload_n C dX12_digestMessage_32 rfl ?_
    refine rn_bipush (v := nI 64) C dX12_digestMessage_33 rfl ?_
    refine rs_vv C dX12_digestMessage_35 mk_X12_shake lv_X12_286 (c_mshake (S := (S1.1, S1.2.1, fs S.2.2 (mo) 17 (nI (0 + mg)))) hM (by omega) fs_get (by omega)) hM0 rfl rfl rfl rfl (by decide) (Nat.le_of_ble_eq_true rfl) (by decide) (by decide) ?_
    rw [show (mshake_f (mo) (64) (0 + mg) (S1.1, S1.2.1, fs S.2.2 (mo) 17 (nI (0 + mg)))).2.2 = fs S.2.2 (mo) 17 (nI (0 + mg + 1 + skN (0 + mg))) from (mshake_F (mo) (64) (0 + mg) (S1.1, S1.2.1, fs S.2.2 (mo) 17 (nI (0 + mg)))).trans fs_fs]
    generalize hS3 : mshake_f (mo) (64) (0 + mg) (S1.1, S1.2.1, fs S.2.2 (mo) 17 (nI (0 + mg))) = S3
    rw [show inst X.1 L S3.1 S3.2.1 (fs S.2.2 (mo) 17 (nI (0 + mg + 1 + skN (0 + mg)))) = inst X.1 L S3.1 S3.2.1 (fs S.2.2 (mo) 17 (nI (haN c (0 + mg)))) from in_eq (by omega)]
    subst hS3
    rw [if_pos hb2] at K22_5
    exact rn_ks [0, 1] K22_5 rfl
  · skip
    have hha := haN_f (0 + mg) (bN_f hb2)
    refine rn_aload_n C dX12_digestMessage_25 rfl ?_
    refine rs_vv C dX12_digestMessage_26 mk_X12_sha512 lv_X12_283 (c_msha (S := (S1.1, S1.2.1, fs S.2.2 (mo) 17 (nI (0 + mg)))) hM fs_get (by omega)) hM0 rfl rfl rfl rfl (by decide) (Nat.le_of_ble_eq_true rfl) (by decide) (by decide) ?_
    rw [show (msha_f (mo) (0 + mg) (S1.1, S1.2.1, fs S.2.2 (mo) 17 (nI (0 + mg)))).2.2 = fs S.2.2 (mo) 17 (nI (0 + mg + 1 + shN (0 + mg) + 16)) from (msha_F (mo) (0 + mg) (S1.1, S1.2.1, fs S.2.2 (mo) 17 (nI (0 + mg)))).trans fs_fs]
    generalize hS4 : msha_f (mo) (0 + mg) (S1.1, S1.2.1, fs S.2.2 (mo) 17 (nI (0 + mg))) = S4
    refine rn_goto (tgt := 38) C dX12_digestMessage_29 (by decide) ?_
    rw [show inst X.1 L S4.1 S4.2.1 (fs S.2.2 (mo) 17 (nI (0 + mg + 1 + shN (0 + mg) + 16))) = inst X.1 L S4.1 S4.2.1 (fs S.2.2 (mo) 17 (nI (haN c (0 + mg)))) from in_eq (by omega)]
    subst hS4
    rw [if_neg (fun q => q hb2)] at K22_5
    exact rn_ks [0, 1] K22_5 rfl
def mexp_l198 (mo : Nat) (S : StT)  : Nat → (Nat → Nat → Int32)
  | 0 => S.1
  | i198 + 1 => let y198_0 := (mexp_l198 mo S i198); va_up y198_0 (mo + 22) (upd (y198_0 (mo + 22)) (i198) (y198_0 (mo + 27) (i198)))
def mexp_l26 (c : Bool) (mo : Nat) (S : StT)  : Nat → (Nat → Nat → Int32)
  | 0 => S.1
  | i26 + 1 => let y26_0 := (mexp_l26 c mo S i26); (let I12 := va_up y26_0 (mo + 20) (upd (y26_0 (mo + 20)) (i26) ((if (nI (cB c)) ≤ (nI (i26)) then nI (0) else y26_0 (mo + 12) (i26)))); (let I14 := va_up I12 (mo + 21) (upd (I12 (mo + 21)) (i26) ((if (nI (cB c)) ≤ (nI (i26)) then nI (0) else I12 (mo + 12) (cB c + i26)))); I14))
def mexp_f (c : Bool) (mo : Nat) (S : StT) : StT := (let S1 := minB_f (mo) (mo + 1) (0) (cB c) (0) (S.1, S.2.1, fs S.2.2 (mo) 17 (nI (0))); (let S2 := mhashI_f c (mo) (0 + (cB c)) (S1.1, S1.2.1, fs S.2.2 (mo) 17 (nI (0 + (cB c)))); (let S8 := (if (nI (bN c)) ≠ 0 then (let I4 := va_up (mexp_l26 c mo (S2.1, S2.2.1, S.2.2) 57) (mo + 20) (upd ((mexp_l26 c mo (S2.1, S2.2.1, S.2.2) 57) (mo + 20)) (0) (((mexp_l26 c mo (S2.1, S2.2.1, S.2.2) 57) (mo + 20) (0)) &&& (nI (252)))); (let I5 := va_up (va_up I4 (mo + 20) (upd (I4 (mo + 20)) (56) (nI (0)))) (mo + 20) (upd ((va_up I4 (mo + 20) (upd (I4 (mo + 20)) (56) (nI (0)))) (mo + 20)) (55) (((va_up I4 (mo + 20) (upd (I4 (mo + 20)) (56) (nI (0)))) (mo + 20) (55)) ||| (nI (128)))); (I5, S2.2.1, S.2.2))) else (let I6 := va_up (mexp_l26 c mo (S2.1, S2.2.1, S.2.2) 57) (mo + 20) (upd ((mexp_l26 c mo (S2.1, S2.2.1, S.2.2) 57) (mo + 20)) (0) (((mexp_l26 c mo (S2.1, S2.2.1, S.2.2) 57) (mo + 20) (0)) &&& (nI (248)))); (let I7 := va_up I6 (mo + 20) (upd (I6 (mo + 20)) (31) (((I6 (mo + 20) (31)) &&& (nI (127))) ||| (nI (64)))); (I7, S2.2.1, S.2.2)))); (let S9 := mmany_f c (mo) (46) (13 + (3 * (bN c))) (mo + 20) (57) (cB c) (S8.1, S8.2.1, fs S.2.2 (mo) 17 (nI (haN c (0 + (cB c))))); (let S10 := menc_f c (mo) (46) (S9.1, S9.2.1, fs S.2.2 (mo) 17 (nI (haN c (0 + (cB c))))); ((mexp_l198 mo (S10.1, S10.2.1, S.2.2) 57), S10.2.1, fs S.2.2 (mo) 17 (nI (haN c (0 + (cB c))))))))))
theorem mexp_F (c : Bool) (mo : Nat) (S : StT) : (mexp_f c mo S).2.2 = fs S.2.2 (mo) 17 (nI (haN c (0 + (cB c)))) := by
  unfold mexp_f; first | rfl | ((repeat' split) <;> rfl)
set_option maxRecDepth 100000 in
set_option maxHeartbeats 400000 in
theorem c_mexp {k : KX} {L : Nat → Option Sh} {S : StT} {n : Nat} {c : Bool} {mo : Nat} (hM : ModelAt k L mo) (hcn : S.2.2 mo 13 = nI (bN c)) (hpc : S.2.2 mo 14 = nI (pN c)) :
    Cs k yX12_expand cX12_expand 3 none 6 0 0 [.ref (k_b k + (mo))] (inst k L S.1 S.2.1 S.2.2) n (Pv k L n (mexp_f c mo S)) := by
  refine cs_of (by decide) (Nat.le_of_ble_eq_true rfl) ?_
  intro X hXk C Rt hnm
  subst hXk
  have hM9 := hM
  obtain ⟨hM0, hm1, hm2, hm3, hm4, hm5, hm6, hm7, hm8, hm9, hm10, hm11, hm12, hm13, hm14, hm15, hm16, hm17, hm18, hm19, hm20, hm21, hm22, hm23, hm24, hm25, hm26, hm27⟩ := hM9
  obtain ⟨hp1, hp2⟩ := pN_le c
  have hbn := bN_le c
  obtain ⟨hk1, hk2⟩ := cB_le c
  refine rn_lv [(0, .ref (k_b X.1 + (mo)))] (fun q h => h) ?_
  refine rn_aload_n C dX12_expand_0 rfl ?_
  refine rs_vi C dX12_expand_1 mk_X12_keyBytes lv_X12_231 (cv_mkeyB hM  hcn hpc) hM0 rfl rfl rfl rfl (by decide) (Nat.le_of_ble_eq_true rfl) (by decide) (by decide) ?_
  refine rn_istore_n (lv' := [(0, _), (1, _)]) C dX12_expand_4 (by decide) rfl ?_
  refine rn_aload_n C dX12_expand_5 rfl ?_
  refine rn_iconst (v := nI 0) C dX12_expand_6 rfl ?_
  refine rs_putF C dX12_expand_7 fp_X12_63 hM0 rfl ?_
  refine rn_aload_n C dX12_expand_10 rfl ?_
  refine rn_aload_n C dX12_expand_11 rfl ?_
  refine rs_get C dX12_expand_12 fl_X12_13 hM0 rfl ?_
  refine rn_iconst (v := nI 0) C dX12_expand_15 rfl ?_
  refine rn_iload_n C dX12_expand_16 rfl ?_
  refine rs_vv C dX12_expand_17 mk_X12_inBytes lv_X12_279 (c_minB (S := (S.1, S.2.1, fs S.2.2 (mo) 17 (nI (0)))) hM hm1 (by decide) (by omega) fs_get (by omega)) hM0 rfl rfl rfl rfl (by decide) (Nat.le_of_ble_eq_true rfl) (by decide) (by decide) ?_
  rw [show (minB_f (mo) (mo + 1) (0) (cB c) (0) (S.1, S.2.1, fs S.2.2 (mo) 17 (nI (0)))).2.2 = fs S.2.2 (mo) 17 (nI (0 + (cB c))) from (minB_F (mo) (mo + 1) (0) (cB c) (0) (S.1, S.2.1, fs S.2.2 (mo) 17 (nI (0)))).trans fs_fs]
  generalize hS1 : minB_f (mo) (mo + 1) (0) (cB c) (0) (S.1, S.2.1, fs S.2.2 (mo) 17 (nI (0))) = S1
  refine rn_aload_n C dX12_expand_20 rfl ?_
  refine rs_vv C dX12_expand_21 mk_X12_hashIn lv_X12_289 (c_mhashI (S := (S1.1, S1.2.1, fs S.2.2 (mo) 17 (nI (0 + (cB c))))) hM fs_get (by omega) ((fs_oth (by decide)).trans hcn)) hM0 rfl rfl rfl rfl (by decide) (Nat.le_of_ble_eq_true rfl) (by decide) (by decide) ?_
  rw [show (mhashI_f c (mo) (0 + (cB c)) (S1.1, S1.2.1, fs S.2.2 (mo) 17 (nI (0 + (cB c))))).2.2 = fs S.2.2 (mo) 17 (nI (haN c (0 + (cB c)))) from (mhashI_F c (mo) (0 + (cB c)) (S1.1, S1.2.1, fs S.2.2 (mo) 17 (nI (0 + (cB c))))).trans fs_fs]
  generalize hS2 : mhashI_f c (mo) (0 + (cB c)) (S1.1, S1.2.1, fs S.2.2 (mo) 17 (nI (0 + (cB c)))) = S2
  refine rn_iconst (v := nI 0) C dX12_expand_24 rfl ?_
  refine rn_istore_n (lv' := [(0, _), (1, _), (2, _)]) C dX12_expand_25 (by decide) rfl ?_
  have lp26 : ∀ i26, i26 ≤ 57 → Rn X 26 [(0, .ref (k_b X.1 + (mo))), (1, .int (nI (cB c))), (2, .int (nI (i26)))] [] (inst X.1 L (mexp_l26 c mo (S2.1, S2.2.1, S.2.2) i26) S2.2.1 (fs S.2.2 (mo) 17 (nI (haN c (0 + (cB c)))))) n 0 0 := by
    refine upto _ _ ?_ (fun i26 hi26 ih26 => ?_)
    · skip
      refine rn_iload_n C dX12_expand_26 rfl ?_
      refine rn_bipush (v := nI 57) C dX12_expand_27 rfl ?_
      refine rs_ge (tgt := 82) C dX12_expand_29 (by decide) rfl rfl (by omega) (by omega) (fun _ => ?_) (fun q => absurd q (by omega))
      refine rn_aload_n C dX12_expand_82 rfl ?_
      refine rs_getFe C dX12_expand_83 fl_X12_51 hM0 rfl ((fs_oth (by decide)).trans hcn) ?_
      have K86_8 : Rn X 170 [(0, .ref (k_b X.1 + (mo))), (1, .int (nI (cB c))), (2, .int (nI (57)))] [] (inst X.1 L (if (nI (bN c)) ≠ 0 then ((va_up (va_up (va_up (mexp_l26 c mo (S2.1, S2.2.1, S.2.2) 57) (mo + 20) (upd ((mexp_l26 c mo (S2.1, S2.2.1, S.2.2) 57) (mo + 20)) (0) (((mexp_l26 c mo (S2.1, S2.2.1, S.2.2) 57) (mo + 20) (0)) &&& (nI (252))))) (mo + 20) (upd ((va_up (mexp_l26 c mo (S2.1, S2.2.1, S.2.2) 57) (mo + 20) (upd ((mexp_l26 c mo (S2.1, S2.2.1, S.2.2) 57) (mo + 20)) (0) (((mexp_l26 c mo (S2.1, S2.2.1, S.2.2) 57) (mo + 20) (0)) &&& (nI (252))))) (mo + 20)) (56) (nI (0)))) (mo + 20) (upd ((va_up (va_up (mexp_l26 c mo (S2.1, S2.2.1, S.2.2) 57) (mo + 20) (upd ((mexp_l26 c mo (S2.1, S2.2.1, S.2.2) 57) (mo + 20)) (0) (((mexp_l26 c mo (S2.1, S2.2.1, S.2.2) 57) (mo + 20) (0)) &&& (nI (252))))) (mo + 20) (upd ((va_up (mexp_l26 c mo (S2.1, S2.2.1, S.2.2) 57) (mo + 20) (upd ((mexp_l26 c mo (S2.1, S2.2.1, S.2.2) 57) (mo + 20)) (0) (((mexp_l26 c mo (S2.1, S2.2.1, S.2.2) 57) (mo + 20) (0)) &&& (nI (252))))) (mo + 20)) (56) (nI (0)))) (mo + 20)) (55) (((va_up (va_up (mexp_l26 c mo (S2.1, S2.2.1, S.2.2) 57) (mo + 20) (upd ((mexp_l26 c mo (S2.1, S2.2.1, S.2.2) 57) (mo + 20)) (0) (((mexp_l26 c mo (S2.1, S2.2.1, S.2.2) 57) (mo + 20) (0)) &&& (nI (252))))) (mo + 20) (upd ((va_up (mexp_l26 c mo (S2.1, S2.2.1, S.2.2) 57) (mo + 20) (upd ((mexp_l26 c mo (S2.1, S2.2.1, S.2.2) 57) (mo + 20)) (0) (((mexp_l26 c mo (S2.1, S2.2.1, S.2.2) 57) (mo + 20) (0)) &&& (nI (252))))) (mo + 20)) (56) (nI (0)))) (mo + 20) (55)) ||| (nI (128))))), S2.2.1, S.2.2) else ((va_up (va_up (mexp_l26 c mo (S2.1, S2.2.1, S.2.2) 57) (mo + 20) (upd ((mexp_l26 c mo (S2.1, S2.2.1, S.2.2) 57) (mo + 20)) (0) (((mexp_l26 c mo (S2.1, S2.2.1, S.2.2) 57) (mo + 20) (0)) &&& (nI (248))))) (mo + 20) (upd ((va_up (mexp_l26 c mo (S2.1, S2.2.1, S.2.2) 57) (mo + 20) (upd ((mexp_l26 c mo (S2.1, S2.2.1, S.2.2) 57) (mo + 20)) (0) (((mexp_l26 c mo (S2.1, S2.2.1, S.2.2) 57) (mo + 20) (0)) &&& (nI (248))))) (mo + 20)) (31) ((((va_up (mexp_l26 c mo (S2.1, S2.2.1, S.2.2) 57) (mo + 20) (upd ((mexp_l26 c mo (S2.1, S2.2.1, S.2.2) 57) (mo + 20)) (0) (((mexp_l26 c mo (S2.1, S2.2.1, S.2.2) 57) (mo + 20) (0)) &&& (nI (248))))) (mo + 20) (31)) &&& (nI (127))) ||| (nI (64))))), S2.2.1, S.2.2)).1 (if (nI (bN c)) ≠ 0 then ((va_up (va_up (va_up (mexp_l26 c mo (S2.1, S2.2.1, S.2.2) 57) (mo + 20) (upd ((mexp_l26 c mo (S2.1, S2.2.1, S.2.2) 57) (mo + 20)) (0) (((mexp_l26 c mo (S2.1, S2.2.1, S.2.2) 57) (mo + 20) (0)) &&& (nI (252))))) (mo + 20) (upd ((va_up (mexp_l26 c mo (S2.1, S2.2.1, S.2.2) 57) (mo + 20) (upd ((mexp_l26 c mo (S2.1, S2.2.1, S.2.2) 57) (mo + 20)) (0) (((mexp_l26 c mo (S2.1, S2.2.1, S.2.2) 57) (mo + 20) (0)) &&& (nI (252))))) (mo + 20)) (56) (nI (0)))) (mo + 20) (upd ((va_up (va_up (mexp_l26 c mo (S2.1, S2.2.1, S.2.2) 57) (mo + 20) (upd ((mexp_l26 c mo (S2.1, S2.2.1, S.2.2) 57) (mo + 20)) (0) (((mexp_l26 c mo (S2.1, S2.2.1, S.2.2) 57) (mo + 20) (0)) &&& (nI (252))))) (mo + 20) (upd ((va_up (mexp_l26 c mo (S2.1, S2.2.1, S.2.2) 57) (mo + 20) (upd ((mexp_l26 c mo (S2.1, S2.2.1, S.2.2) 57) (mo + 20)) (0) (((mexp_l26 c mo (S2.1, S2.2.1, S.2.2) 57) (mo + 20) (0)) &&& (nI (252))))) (mo + 20)) (56) (nI (0)))) (mo + 20)) (55) (((va_up (va_up (mexp_l26 c mo (S2.1, S2.2.1, S.2.2) 57) (mo + 20) (upd ((mexp_l26 c mo (S2.1, S2.2.1, S.2.2) 57) (mo + 20)) (0) (((mexp_l26 c mo (S2.1, S2.2.1, S.2.2) 57) (mo + 20) (0)) &&& (nI (252))))) (mo + 20) (upd ((va_up (mexp_l26 c mo (S2.1, S2.2.1, S.2.2) 57) (mo + 20) (upd ((mexp_l26 c mo (S2.1, S2.2.1, S.2.2) 57) (mo + 20)) (0) (((mexp_l26 c mo (S2.1, S2.2.1, S.2.2) 57) (mo + 20) (0)) &&& (nI (252))))) (mo + 20)) (56) (nI (0)))) (mo + 20) (55)) ||| (nI (128))))), S2.2.1, S.2.2) else ((va_up (va_up (mexp_l26 c mo (S2.1, S2.2.1, S.2.2) 57) (mo + 20) (upd ((mexp_l26 c mo (S2.1, S2.2.1, S.2.2) 57) (mo + 20)) (0) (((mexp_l26 c mo (S2.1, S2.2.1, S.2.2) 57) (mo + 20) (0)) &&& (nI (248))))) (mo + 20) (upd ((va_up (mexp_l26 c mo (S2.1, S2.2.1, S.2.2) 57) (mo + 20) (upd ((mexp_l26 c mo (S2.1, S2.2.1, S.2.2) 57) (mo + 20)) (0) (((mexp_l26 c mo (S2.1, S2.2.1, S.2.2) 57) (mo + 20) (0)) &&& (nI (248))))) (mo + 20)) (31) ((((va_up (mexp_l26 c mo (S2.1, S2.2.1, S.2.2) 57) (mo + 20) (upd ((mexp_l26 c mo (S2.1, S2.2.1, S.2.2) 57) (mo + 20)) (0) (((mexp_l26 c mo (S2.1, S2.2.1, S.2.2) 57) (mo + 20) (0)) &&& (nI (248))))) (mo + 20) (31)) &&& (nI (127))) ||| (nI (64))))), S2.2.1, S.2.2)).2.1 (fs S.2.2 (mo) 17 (nI (haN c (0 + (cB c)))))) n 0 0 := by
        generalize hS8 : (if (nI (bN c)) ≠ 0 then ((va_up (va_up (va_up (mexp_l26 c mo (S2.1, S2.2.1, S.2.2) 57) (mo + 20) (upd ((mexp_l26 c mo (S2.1, S2.2.1, S.2.2) 57) (mo + 20)) (0) (((mexp_l26 c mo (S2.1, S2.2.1, S.2.2) 57) (mo + 20) (0)) &&& (nI (252))))) (mo + 20) (upd ((va_up (mexp_l26 c mo (S2.1, S2.2.1, S.2.2) 57) (mo + 20) (upd ((mexp_l26 c mo (S2.1, S2.2.1, S.2.2) 57) (mo + 20)) (0) (((mexp_l26 c mo (S2.1, S2.2.1, S.2.2) 57) (mo + 20) (0)) &&& (nI (252))))) (mo + 20)) (56) (nI (0)))) (mo + 20) (upd ((va_up (va_up (mexp_l26 c mo (S2.1, S2.2.1, S.2.2) 57) (mo + 20) (upd ((mexp_l26 c mo (S2.1, S2.2.1, S.2.2) 57) (mo + 20)) (0) (((mexp_l26 c mo (S2.1, S2.2.1, S.2.2) 57) (mo + 20) (0)) &&& (nI (252))))) (mo + 20) (upd ((va_up (mexp_l26 c mo (S2.1, S2.2.1, S.2.2) 57) (mo + 20) (upd ((mexp_l26 c mo (S2.1, S2.2.1, S.2.2) 57) (mo + 20)) (0) (((mexp_l26 c mo (S2.1, S2.2.1, S.2.2) 57) (mo + 20) (0)) &&& (nI (252))))) (mo + 20)) (56) (nI (0)))) (mo + 20)) (55) (((va_up (va_up (mexp_l26 c mo (S2.1, S2.2.1, S.2.2) 57) (mo + 20) (upd ((mexp_l26 c mo (S2.1, S2.2.1, S.2.2) 57) (mo + 20)) (0) (((mexp_l26 c mo (S2.1, S2.2.1, S.2.2) 57) (mo + 20) (0)) &&& (nI (252))))) (mo + 20) (upd ((va_up (mexp_l26 c mo (S2.1, S2.2.1, S.2.2) 57) (mo + 20) (upd ((mexp_l26 c mo (S2.1, S2.2.1, S.2.2) 57) (mo + 20)) (0) (((mexp_l26 c mo (S2.1, S2.2.1, S.2.2) 57) (mo + 20) (0)) &&& (nI (252))))) (mo + 20)) (56) (nI (0)))) (mo + 20) (55)) ||| (nI (128))))), S2.2.1, S.2.2) else ((va_up (va_up (mexp_l26 c mo (S2.1, S2.2.1, S.2.2) 57) (mo + 20) (upd ((mexp_l26 c mo (S2.1, S2.2.1, S.2.2) 57) (mo + 20)) (0) (((mexp_l26 c mo (S2.1, S2.2.1, S.2.2) 57) (mo + 20) (0)) &&& (nI (248))))) (mo + 20) (upd ((va_up (mexp_l26 c mo (S2.1, S2.2.1, S.2.2) 57) (mo + 20) (upd ((mexp_l26 c mo (S2.1, S2.2.1, S.2.2) 57) (mo + 20)) (0) (((mexp_l26 c mo (S2.1, S2.2.1, S.2.2) 57) (mo + 20) (0)) &&& (nI (248))))) (mo + 20)) (31) ((((va_up (mexp_l26 c mo (S2.1, S2.2.1, S.2.2) 57) (mo + 20) (upd ((mexp_l26 c mo (S2.1, S2.2.1, S.2.2) 57) (mo + 20)) (0) (((mexp_l26 c mo (S2.1, S2.2.1, S.2.2) 57) (mo + 20) (0)) &&& (nI (248))))) (mo + 20) (31)) &&& (nI (127))) ||| (nI (64))))), S2.2.1, S.2.2)) = S8
        refine rn_aload_n C dX12_expand_170 rfl ?_
        refine rn_bipush (v := nI 46) C dX12_expand_171 rfl ?_
        refine rn_bipush (v := nI 13) C dX12_expand_173 rfl ?_
        refine rn_iconst (v := nI 3) C dX12_expand_175 rfl ?_
        refine rn_aload_n C dX12_expand_176 rfl ?_
        refine rs_getFe C dX12_expand_177 fl_X12_51 hM0 rfl ((fs_oth (by decide)).trans hcn) ?_
        refine rn_imul C dX12_expand_180 (pk_mul _ _) ?_
        refine rn_iadd C dX12_expand_181 (nI_add _ _) ?_
        refine rn_aload_n C dX12_expand_182 rfl ?_
        refine rs_get C dX12_expand_183 fl_X12_90 hM0 rfl ?_
        refine rn_iload_n C dX12_expand_186 rfl ?_
        refine rs_vv C dX12_expand_187 mk_X12_many lv_X12_292 (c_mmany (S := (S8.1, S8.2.1, fs S.2.2 (mo) 17 (nI (haN c (0 + (cB c)))))) hM (by omega) (by omega) hm20 (by decide) (by omega) (by omega) (by omega) ((fs_oth (by decide)).trans hcn) ((fs_oth (by decide)).trans hpc)) hM0 rfl rfl rfl rfl (by decide) (Nat.le_of_ble_eq_true rfl) (by decide) (by decide) ?_
        rw [show (mmany_f c (mo) (46) (13 + (3 * (bN c))) (mo + 20) (57) (cB c) (S8.1, S8.2.1, fs S.2.2 (mo) 17 (nI (haN c (0 + (cB c)))))).2.2 = fs S.2.2 (mo) 17 (nI (haN c (0 + (cB c)))) from (mmany_F c (mo) (46) (13 + (3 * (bN c))) (mo + 20) (57) (cB c) (S8.1, S8.2.1, fs S.2.2 (mo) 17 (nI (haN c (0 + (cB c))))))]
        generalize hS9 : mmany_f c (mo) (46) (13 + (3 * (bN c))) (mo + 20) (57) (cB c) (S8.1, S8.2.1, fs S.2.2 (mo) 17 (nI (haN c (0 + (cB c))))) = S9
        refine rn_aload_n C dX12_expand_190 rfl ?_
        refine rn_bipush (v := nI 46) C dX12_expand_191 rfl ?_
        refine rs_vv C dX12_expand_193 mk_X12_encode lv_X12_296 (c_menc (S := (S9.1, S9.2.1, fs S.2.2 (mo) 17 (nI (haN c (0 + (cB c)))))) hM (by omega) ((fs_oth (by decide)).trans hcn) ((fs_oth (by decide)).trans hpc)) hM0 rfl rfl rfl rfl (by decide) (Nat.le_of_ble_eq_true rfl) (by decide) (by decide) ?_
        rw [show (menc_f c (mo) (46) (S9.1, S9.2.1, fs S.2.2 (mo) 17 (nI (haN c (0 + (cB c)))))).2.2 = fs S.2.2 (mo) 17 (nI (haN c (0 + (cB c)))) from (menc_F c (mo) (46) (S9.1, S9.2.1, fs S.2.2 (mo) 17 (nI (haN c (0 + (cB c))))))]
        generalize hS10 : menc_f c (mo) (46) (S9.1, S9.2.1, fs S.2.2 (mo) 17 (nI (haN c (0 + (cB c))))) = S10
        refine rn_iconst (v := nI 0) C dX12_expand_196 rfl ?_
        refine rn_istore_n (lv' := [(0, _), (1, _), (2, _)]) C dX12_expand_197 (by decide) rfl ?_
        have lp198 : ∀ i198, i198 ≤ 57 → Rn X 198 [(0, .ref (k_b X.1 + (mo))), (1, .int (nI (cB c))), (2, .int (nI (i198)))] [] (inst X.1 L (mexp_l198 mo (S10.1, S10.2.1, S.2.2) i198) S10.2.1 (fs S.2.2 (mo) 17 (nI (haN c (0 + (cB c)))))) n 0 0 := by
          refine upto _ _ ?_ (fun i198 hi198 ih198 => ?_)
          · skip
            refine rn_iload_n C dX12_expand_198 rfl ?_
            refine rn_bipush (v := nI 57) C dX12_expand_199 rfl ?_
            refine rs_ge (tgt := 222) C dX12_expand_201 (by decide) rfl rfl (by omega) (by omega) (fun _ => ?_) (fun q => absurd q (by omega))
            have hret : mexp_f c mo S = ((mexp_l198 mo (S10.1, S10.2.1, S.2.2) 57), S10.2.1, fs S.2.2 (mo) 17 (nI (haN c (0 + (cB c))))) := by
              subst hS10
              subst hS9
              subst hS8
              subst hS2
              subst hS1
              first | (dsimp only [mexp_f]; done) | (dsimp only [mexp_f]; exact rfl) | exact rfl
            exact rn_vret C Rt dX12_expand_222 (pv_of hret) (Nat.zero_le _) (Nat.zero_le _)
          · skip
            refine rn_iload_n C dX12_expand_198 rfl ?_
            refine rn_bipush (v := nI 57) C dX12_expand_199 rfl ?_
            refine rs_ge (tgt := 222) C dX12_expand_201 (by decide) rfl rfl (by omega) (by omega) (fun q => absurd q (by omega)) (fun _ => ?_)
            refine rn_aload_n C dX12_expand_204 rfl ?_
            refine rs_get C dX12_expand_205 fl_X12_96 hM0 rfl ?_
            refine rn_iload_n C dX12_expand_208 rfl ?_
            refine rn_aload_n C dX12_expand_209 rfl ?_
            refine rs_get C dX12_expand_210 fl_X12_111 hM0 rfl ?_
            refine rn_iload_n C dX12_expand_213 rfl ?_
            refine rs_iaload C dX12_expand_214 hm27 rfl (by omega) (by decide) ?_
            refine rs_iastore C dX12_expand_215 hm22 rfl (by omega) (by decide) ?_
            refine rn_iinc (lv' := [(0, _), (1, _), (2, _)]) C dX12_expand_216 rfl (nI_inc _) (by decide) rfl ?_
            refine rn_goto (tgt := 198) C dX12_expand_219 (by decide) ?_
            have he198 : mexp_l198 mo (S10.1, S10.2.1, S.2.2) (i198 + 1) = va_up (mexp_l198 mo (S10.1, S10.2.1, S.2.2) i198) (mo + 22) (upd ((mexp_l198 mo (S10.1, S10.2.1, S.2.2) i198) (mo + 22)) (i198) ((mexp_l198 mo (S10.1, S10.2.1, S.2.2) i198) (mo + 27) (i198))) := by
              first | (dsimp only [mexp_l198]; done) | (dsimp only [mexp_l198]; exact rfl) | exact rfl
            rw [he198] at ih198
            exact rn_ks [0, 1, 2] ih198 rfl
        exact lp198 0 (Nat.zero_le _)
      refine rn_if_ne (tgt := 128) C dX12_expand_86 (by decide) (fun hb3 => ?_) (fun hb3 => ?_)
      · skip
        refine rn_aload_n C dX12_expand_128 rfl ?_
        refine rs_get C dX12_expand_129 fl_X12_90 hM0 rfl ?_
        refine rn_iconst (v := nI 0) C dX12_expand_132 rfl ?_
        refine rn_aload_n C dX12_expand_133 rfl ?_
        refine rs_get C dX12_expand_134 fl_X12_90 hM0 rfl ?_
        refine rn_iconst (v := nI 0) C dX12_expand_137 rfl ?_
        refine rs_iaload C dX12_expand_138 hm20 rfl (by omega) (by decide) ?_
        refine rn_sipush (v := nI 252) C dX12_expand_139 rfl ?_
        refine rn_iand C dX12_expand_142 rfl ?_
        refine rs_iastore C dX12_expand_143 hm20 rfl (by omega) (by decide) ?_
        refine rn_aload_n C dX12_expand_144 rfl ?_
        refine rs_get C dX12_expand_145 fl_X12_90 hM0 rfl ?_
        refine rn_bipush (v := nI 56) C dX12_expand_148 rfl ?_
        refine rn_iconst (v := nI 0) C dX12_expand_150 rfl ?_
        refine rs_iastore C dX12_expand_151 hm20 rfl (by omega) (by decide) ?_
        refine rn_aload_n C dX12_expand_152 rfl ?_
        refine rs_get C dX12_expand_153 fl_X12_90 hM0 rfl ?_
        refine rn_bipush (v := nI 55) C dX12_expand_156 rfl ?_
        refine rn_aload_n C dX12_expand_158 rfl ?_
        refine rs_get C dX12_expand_159 fl_X12_90 hM0 rfl ?_
        refine rn_bipush (v := nI 55) C dX12_expand_162 rfl ?_
        refine rs_iaload C dX12_expand_164 hm20 rfl (by omega) (by decide) ?_
        refine rn_sipush (v := nI 128) C dX12_expand_165 rfl ?_
        refine rn_ior C dX12_expand_168 rfl ?_
        refine rs_iastore C dX12_expand_169 hm20 rfl (by omega) (by decide) ?_
        rw [if_pos hb3] at K86_8
        exact rn_ks [0, 1, 2] K86_8 rfl
      · skip
        refine rn_aload_n C dX12_expand_89 rfl ?_
        refine rs_get C dX12_expand_90 fl_X12_90 hM0 rfl ?_
        refine rn_iconst (v := nI 0) C dX12_expand_93 rfl ?_
        refine rn_aload_n C dX12_expand_94 rfl ?_
        refine rs_get C dX12_expand_95 fl_X12_90 hM0 rfl ?_
        refine rn_iconst (v := nI 0) C dX12_expand_98 rfl ?_
        refine rs_iaload C dX12_expand_99 hm20 rfl (by omega) (by decide) ?_
        refine rn_sipush (v := nI 248) C dX12_expand_100 rfl ?_
        refine rn_iand C dX12_expand_103 rfl ?_
        refine rs_iastore C dX12_expand_104 hm20 rfl (by omega) (by decide) ?_
        refine rn_aload_n C dX12_expand_105 rfl ?_
        refine rs_get C dX12_expand_106 fl_X12_90 hM0 rfl ?_
        refine rn_bipush (v := nI 31) C dX12_expand_109 rfl ?_
        refine rn_aload_n C dX12_expand_111 rfl ?_
        refine rs_get C dX12_expand_112 fl_X12_90 hM0 rfl ?_
        refine rn_bipush (v := nI 31) C dX12_expand_115 rfl ?_
        refine rs_iaload C dX12_expand_117 hm20 rfl (by omega) (by decide) ?_
        refine rn_bipush (v := nI 127) C dX12_expand_118 rfl ?_
        refine rn_iand C dX12_expand_120 rfl ?_
        refine rn_bipush (v := nI 64) C dX12_expand_121 rfl ?_
        refine rn_ior C dX12_expand_123 rfl ?_
        refine rs_iastore C dX12_expand_124 hm20 rfl (by omega) (by decide) ?_
        refine rn_goto (tgt := 170) C dX12_expand_125 (by decide) ?_
        rw [if_neg (fun q => q hb3)] at K86_8
        exact rn_ks [0, 1, 2] K86_8 rfl
    · skip
      refine rn_iload_n C dX12_expand_26 rfl ?_
      refine rn_bipush (v := nI 57) C dX12_expand_27 rfl ?_
      refine rs_ge (tgt := 82) C dX12_expand_29 (by decide) rfl rfl (by omega) (by omega) (fun q => absurd q (by omega)) (fun _ => ?_)
      refine rn_aload_n C dX12_expand_32 rfl ?_
      refine rs_get C dX12_expand_33 fl_X12_90 hM0 rfl ?_
      refine rn_iload_n C dX12_expand_36 rfl ?_
      refine rn_iload_n C dX12_expand_37 rfl ?_
      refine rn_iload_n C dX12_expand_38 rfl ?_
      have K39_11 : Rn X 52 [(0, .ref (k_b X.1 + (mo))), (1, .int (nI (cB c))), (2, .int (nI (i26)))] [.int ((if (nI (cB c)) ≤ (nI (i26)) then nI (0) else (mexp_l26 c mo (S2.1, S2.2.1, S.2.2) i26) (mo + 12) (i26))), .int (nI (i26)), .ref (k_b X.1 + (mo + 20))] (inst X.1 L (mexp_l26 c mo (S2.1, S2.2.1, S.2.2) i26) (S2.1, S2.2.1, S.2.2).2.1 (fs S.2.2 (mo) 17 (nI (haN c (0 + (cB c)))))) n 0 0 := by
        refine rs_iastore C dX12_expand_52 hm20 rfl (by omega) (by decide) ?_
        refine rn_aload_n C dX12_expand_53 rfl ?_
        refine rs_get C dX12_expand_54 fl_X12_93 hM0 rfl ?_
        refine rn_iload_n C dX12_expand_57 rfl ?_
        refine rn_iload_n C dX12_expand_58 rfl ?_
        refine rn_iload_n C dX12_expand_59 rfl ?_
        have K60_13 : Rn X 75 [(0, .ref (k_b X.1 + (mo))), (1, .int (nI (cB c))), (2, .int (nI (i26)))] [.int ((if (nI (cB c)) ≤ (nI (i26)) then nI (0) else (va_up (mexp_l26 c mo (S2.1, S2.2.1, S.2.2) i26) (mo + 20) (upd ((mexp_l26 c mo (S2.1, S2.2.1, S.2.2) i26) (mo + 20)) (i26) ((if (nI (cB c)) ≤ (nI (i26)) then nI (0) else (mexp_l26 c mo (S2.1, S2.2.1, S.2.2) i26) (mo + 12) (i26))))) (mo + 12) (cB c + i26))), .int (nI (i26)), .ref (k_b X.1 + (mo + 21))] (inst X.1 L (va_up (mexp_l26 c mo (S2.1, S2.2.1, S.2.2) i26) (mo + 20) (upd ((mexp_l26 c mo (S2.1, S2.2.1, S.2.2) i26) (mo + 20)) (i26) ((if (nI (cB c)) ≤ (nI (i26)) then nI (0) else (mexp_l26 c mo (S2.1, S2.2.1, S.2.2) i26) (mo + 12) (i26))))) (S2.1, S2.2.1, S.2.2).2.1 (fs S.2.2 (mo) 17 (nI (haN c (0 + (cB c)))))) n 0 0 := by
          refine rs_iastore C dX12_expand_75 hm21 rfl (by omega) (by decide) ?_
          refine rn_iinc (lv' := [(0, _), (1, _), (2, _)]) C dX12_expand_76 rfl (nI_inc _) (by decide) rfl ?_
          refine rn_goto (tgt := 26) C dX12_expand_79 (by decide) ?_
          have he26 : mexp_l26 c mo (S2.1, S2.2.1, S.2.2) (i26 + 1) = (va_up (va_up (mexp_l26 c mo (S2.1, S2.2.1, S.2.2) i26) (mo + 20) (upd ((mexp_l26 c mo (S2.1, S2.2.1, S.2.2) i26) (mo + 20)) (i26) ((if (nI (cB c)) ≤ (nI (i26)) then nI (0) else (mexp_l26 c mo (S2.1, S2.2.1, S.2.2) i26) (mo + 12) (i26))))) (mo + 21) (upd ((va_up (mexp_l26 c mo (S2.1, S2.2.1, S.2.2) i26) (mo + 20) (upd ((mexp_l26 c mo (S2.1, S2.2.1, S.2.2) i26) (mo + 20)) (i26) ((if (nI (cB c)) ≤ (nI (i26)) then nI (0) else (mexp_l26 c mo (S2.1, S2.2.1, S.2.2) i26) (mo + 12) (i26))))) (mo + 21)) (i26) ((if (nI (cB c)) ≤ (nI (i26)) then nI (0) else (va_up (mexp_l26 c mo (S2.1, S2.2.1, S.2.2) i26) (mo + 20) (upd ((mexp_l26 c mo (S2.1, S2.2.1, S.2.2) i26) (mo + 20)) (i26) ((if (nI (cB c)) ≤ (nI (i26)) then nI (0) else (mexp_l26 c mo (S2.1, S2.2.1, S.2.2) i26) (mo + 12) (i26))))) (mo + 12) (cB c + i26))))) := by
            first | (dsimp only [mexp_l26]; done) | (dsimp only [mexp_l26]; exact rfl) | exact rfl
          rw [he26] at ih26
          exact rn_ks [0, 1, 2] ih26 rfl
        refine rn_icmp_ge (tgt := 74) C dX12_expand_60 (by decide) (fun hb13 => ?_) (fun hb13 => ?_)
        · skip
          refine rn_iconst (v := nI 0) C dX12_expand_74 rfl ?_
          rw [if_pos hb13] at K60_13
          exact K60_13
        · skip
          have hlt : i26 < cB c := Nat.not_le.mp (fun q => hb13 (nI_le q (by omega)))
          refine rn_aload_n C dX12_expand_63 rfl ?_
          refine rs_get C dX12_expand_64 fl_X12_66 hM0 rfl ?_
          refine rn_iload_n C dX12_expand_67 rfl ?_
          refine rn_iload_n C dX12_expand_68 rfl ?_
          refine rn_iadd C dX12_expand_69 (nI_add _ _) ?_
          refine rs_iaload C dX12_expand_70 hm12 rfl (by omega) (by decide) ?_
          refine rn_goto (tgt := 75) C dX12_expand_71 (by decide) ?_
          rw [if_neg hb13] at K60_13
          exact K60_13
      refine rn_icmp_ge (tgt := 51) C dX12_expand_39 (by decide) (fun hb11 => ?_) (fun hb11 => ?_)
      · skip
        refine rn_iconst (v := nI 0) C dX12_expand_51 rfl ?_
        rw [if_pos hb11] at K39_11
        exact K39_11
      · skip
        refine rn_aload_n C dX12_expand_42 rfl ?_
        refine rs_get C dX12_expand_43 fl_X12_66 hM0 rfl ?_
        refine rn_iload_n C dX12_expand_46 rfl ?_
        refine rs_iaload C dX12_expand_47 hm12 rfl (by omega) (by decide) ?_
        refine rn_goto (tgt := 52) C dX12_expand_48 (by decide) ?_
        rw [if_neg hb11] at K39_11
        exact K39_11
  exact lp26 0 (Nat.zero_le _)
def msign_l158 (c : Bool) (mo : Nat) (S : StT)  : Nat → (Nat → Nat → Int32)
  | 0 => S.1
  | i158 + 1 => let y158_0 := (msign_l158 c mo S i158); va_up y158_0 (mo + 4) (upd (y158_0 (mo + 4)) (cB c + i158) (y158_0 (mo + 24) (i158)))
def msign_l80 (mo : Nat) (S : StT)  : Nat → (Nat → Nat → Int32)
  | 0 => S.1
  | i80 + 1 => let y80_0 := (msign_l80 mo S i80); va_up y80_0 (mo + 4) (upd (y80_0 (mo + 4)) (i80) (y80_0 (mo + 27) (i80)))
def msign_f (c : Bool) (mo : Nat) (mg : Nat) (cx : Nat) (ph : Bool) (S : StT) : StT := (let S1 := mdigM_f c (mo) mg S; (let S2 := mexp_f c (mo) (S1.1, S1.2.1, fs S.2.2 (mo) 17 (nI (haN c (0 + mg)))); (let S3 := mdom_f c (mo) ph cx (S2.1, S2.2.1, fs S.2.2 (mo) 17 (nI (haN c (0 + cB c)))); (let S4 := minB_f (mo) (mo + 21) (0) (cB c) (dmN c ph cx) (S3.1, S3.2.1, fs S.2.2 (mo) 17 (nI (dmN c ph cx))); (let S5 := mtheM_f (mo) mg (dmN c ph cx + (cB c)) ph (S4.1, S4.2.1, fs S.2.2 (mo) 17 (nI (dmN c ph cx + (cB c)))); (let S6 := mhashI_f c (mo) (dmN c ph cx + (cB c) + (if ph then 64 else mg)) (S5.1, S5.2.1, fs S.2.2 (mo) 17 (nI (dmN c ph cx + (cB c) + (if ph then 64 else mg)))); (let S7 := mmod_f c (mo) (mo + 23) (mo + 12) (2 * (cB c)) (S6.1, S6.2.1, fs S.2.2 (mo) 17 (nI (haN c (dmN c ph cx + (cB c) + (if ph then 64 else mg))))); (let S8 := mmany_f c (mo) (46) (13 + (3 * (bN c))) (mo + 23) (57) (cB c) (S7.1, S7.2.1, fs S.2.2 (mo) 17 (nI (haN c (dmN c ph cx + (cB c) + (if ph then 64 else mg))))); (let S9 := menc_f c (mo) (46) (S8.1, S8.2.1, fs S.2.2 (mo) 17 (nI (haN c (dmN c ph cx + (cB c) + (if ph then 64 else mg))))); (let S10 := mdom_f c (mo) ph cx ((msign_l80 mo (S9.1, S9.2.1, S.2.2) (cB c)), S9.2.1, fs S.2.2 (mo) 17 (nI (haN c (dmN c ph cx + (cB c) + (if ph then 64 else mg))))); (let S11 := minB_f (mo) (mo + 4) (0) (cB c) (dmN c ph cx) (S10.1, S10.2.1, fs S.2.2 (mo) 17 (nI (dmN c ph cx))); (let S12 := minB_f (mo) (mo + 22) (0) (cB c) (dmN c ph cx + (cB c)) (S11.1, S11.2.1, fs S.2.2 (mo) 17 (nI (dmN c ph cx + (cB c)))); (let S13 := mtheM_f (mo) mg (dmN c ph cx + (cB c) + (cB c)) ph (S12.1, S12.2.1, fs S.2.2 (mo) 17 (nI (dmN c ph cx + (cB c) + (cB c)))); (let S14 := mhashI_f c (mo) (dmN c ph cx + (cB c) + (cB c) + (if ph then 64 else mg)) (S13.1, S13.2.1, fs S.2.2 (mo) 17 (nI (dmN c ph cx + (cB c) + (cB c) + (if ph then 64 else mg)))); (let S15 := mmod_f c (mo) (mo + 24) (mo + 12) (2 * (cB c)) (S14.1, S14.2.1, fs S.2.2 (mo) 17 (nI (haN c (dmN c ph cx + (cB c) + (cB c) + (if ph then 64 else mg))))); (let S16 := mcomb_f c (mo)  (S15.1, S15.2.1, fs S.2.2 (mo) 17 (nI (haN c (dmN c ph cx + (cB c) + (cB c) + (if ph then 64 else mg))))); ((msign_l158 c mo (S16.1, S16.2.1, S.2.2) (cB c)), S16.2.1, fs (fs S.2.2 (mo) 17 (nI (haN c (dmN c ph cx + (cB c) + (cB c) + (if ph then 64 else mg))))) (mo) 5 (nI (2 * (cB c))))))))))))))))))))
theorem msign_F (c : Bool) (mo : Nat) (mg : Nat) (cx : Nat) (ph : Bool) (S : StT) : (msign_f c mo mg cx ph S).2.2 = fs (fs S.2.2 (mo) 17 (nI (haN c (dmN c ph cx + (cB c) + (cB c) + (if ph then 64 else mg))))) (mo) 5 (nI (2 * (cB c))) := by
  unfold msign_f; first | rfl | ((repeat' split) <;> rfl)
set_option maxRecDepth 100000 in
set_option maxHeartbeats 400000 in
theorem c_msign {k : KX} {L : Nat → Option Sh} {S : StT} {n : Nat} {c : Bool} {mo : Nat} {mg : Nat} {cx : Nat} {ph : Bool} (hM : ModelAt k L mo) (hmg : S.2.2 mo 7 = nI mg) (hmg1 : mg ≤ 256) (hcx : S.2.2 mo 9 = nI cx) (hcx1 : cx ≤ 64) (hcn : S.2.2 mo 13 = nI (bN c)) (hpc : S.2.2 mo 14 = nI (pN c)) :
    Cs k yX12_signNow cX12_signNow 4 none 7 0 0 [.ref (k_b k + (mo)), .int (bI ph)] (inst k L S.1 S.2.1 S.2.2) n (Pv k L n (msign_f c mo mg cx ph S)) := by
  refine cs_of (by decide) (Nat.le_of_ble_eq_true rfl) ?_
  intro X hXk C Rt hnm
  subst hXk
  have hM9 := hM
  obtain ⟨hM0, hm1, hm2, hm3, hm4, hm5, hm6, hm7, hm8, hm9, hm10, hm11, hm12, hm13, hm14, hm15, hm16, hm17, hm18, hm19, hm20, hm21, hm22, hm23, hm24, hm25, hm26, hm27⟩ := hM9
  obtain ⟨hp1, hp2⟩ := pN_le c
  have hbn := bN_le c
  obtain ⟨hk1, hk2⟩ := cB_le c
  have hdl := dm_le c ph cx
  have hpm : (if ph then 64 else mg) ≤ 256 := by split <;> omega
  refine rn_lv [(0, .ref (k_b X.1 + (mo))), (1, .int (bI ph))] (fun q h => h) ?_
  refine rn_aload_n C dX12_signNow_0 rfl ?_
  refine rs_vi C dX12_signNow_1 mk_X12_keyBytes lv_X12_231 (cv_mkeyB hM  hcn hpc) hM0 rfl rfl rfl rfl (by decide) (Nat.le_of_ble_eq_true rfl) (by decide) (by decide) ?_
  refine rn_istore_n (lv' := [(0, _), (1, _), (2, _)]) C dX12_signNow_4 (by decide) rfl ?_
  refine rn_aload_n C dX12_signNow_5 rfl ?_
  refine rs_vv C dX12_signNow_6 mk_X12_digestMessage lv_X12_299 (c_mdigM hM hmg (by omega) hcn) hM0 rfl rfl rfl rfl (by decide) (Nat.le_of_ble_eq_true rfl) (by decide) (by decide) ?_
  rw [show (mdigM_f c (mo) mg S).2.2 = fs S.2.2 (mo) 17 (nI (haN c (0 + mg))) from (mdigM_F c (mo) mg S)]
  generalize hS1 : mdigM_f c (mo) mg S = S1
  refine rn_aload_n C dX12_signNow_9 rfl ?_
  refine rs_vv C dX12_signNow_10 mk_X12_expand lv_X12_302 (c_mexp (S := (S1.1, S1.2.1, fs S.2.2 (mo) 17 (nI (haN c (0 + mg))))) hM ((fs_oth (by decide)).trans hcn) ((fs_oth (by decide)).trans hpc)) hM0 rfl rfl rfl rfl (by decide) (Nat.le_of_ble_eq_true rfl) (by decide) (by decide) ?_
  rw [show (mexp_f c (mo) (S1.1, S1.2.1, fs S.2.2 (mo) 17 (nI (haN c (0 + mg))))).2.2 = fs S.2.2 (mo) 17 (nI (haN c (0 + cB c))) from (mexp_F c (mo) (S1.1, S1.2.1, fs S.2.2 (mo) 17 (nI (haN c (0 + mg))))).trans fs_fs]
  generalize hS2 : mexp_f c (mo) (S1.1, S1.2.1, fs S.2.2 (mo) 17 (nI (haN c (0 + mg)))) = S2
  refine rn_aload_n C dX12_signNow_13 rfl ?_
  refine rn_iload_n C dX12_signNow_14 rfl ?_
  refine rs_vv C dX12_signNow_15 mk_X12_domain lv_X12_305 (c_mdom (S := (S2.1, S2.2.1, fs S.2.2 (mo) 17 (nI (haN c (0 + cB c))))) hM ((fs_oth (by decide)).trans hcn) ((fs_oth (by decide)).trans hcx) (by omega)) hM0 rfl rfl rfl rfl (by decide) (Nat.le_of_ble_eq_true rfl) (by decide) (by decide) ?_
  rw [show (mdom_f c (mo) ph cx (S2.1, S2.2.1, fs S.2.2 (mo) 17 (nI (haN c (0 + cB c))))).2.2 = fs S.2.2 (mo) 17 (nI (dmN c ph cx)) from (mdom_F c (mo) ph cx (S2.1, S2.2.1, fs S.2.2 (mo) 17 (nI (haN c (0 + cB c))))).trans fs_fs]
  generalize hS3 : mdom_f c (mo) ph cx (S2.1, S2.2.1, fs S.2.2 (mo) 17 (nI (haN c (0 + cB c)))) = S3
  refine rn_aload_n C dX12_signNow_18 rfl ?_
  refine rn_aload_n C dX12_signNow_19 rfl ?_
  refine rs_get C dX12_signNow_20 fl_X12_93 hM0 rfl ?_
  refine rn_iconst (v := nI 0) C dX12_signNow_23 rfl ?_
  refine rn_iload_n C dX12_signNow_24 rfl ?_
  refine rs_vv C dX12_signNow_25 mk_X12_inBytes lv_X12_279 (c_minB (S := (S3.1, S3.2.1, fs S.2.2 (mo) 17 (nI (dmN c ph cx)))) hM hm21 (by decide) (by omega) fs_get (by omega)) hM0 rfl rfl rfl rfl (by decide) (Nat.le_of_ble_eq_true rfl) (by decide) (by decide) ?_
  rw [show (minB_f (mo) (mo + 21) (0) (cB c) (dmN c ph cx) (S3.1, S3.2.1, fs S.2.2 (mo) 17 (nI (dmN c ph cx)))).2.2 = fs S.2.2 (mo) 17 (nI (dmN c ph cx + (cB c))) from (minB_F (mo) (mo + 21) (0) (cB c) (dmN c ph cx) (S3.1, S3.2.1, fs S.2.2 (mo) 17 (nI (dmN c ph cx)))).trans fs_fs]
  generalize hS4 : minB_f (mo) (mo + 21) (0) (cB c) (dmN c ph cx) (S3.1, S3.2.1, fs S.2.2 (mo) 17 (nI (dmN c ph cx))) = S4
  refine rn_aload_n C dX12_signNow_28 rfl ?_
  refine rn_iload_n C dX12_signNow_29 rfl ?_
  refine rs_vv C dX12_signNow_30 mk_X12_theMessage lv_X12_309 (c_mtheM (S := (S4.1, S4.2.1, fs S.2.2 (mo) 17 (nI (dmN c ph cx + (cB c))))) hM ((fs_oth (by decide)).trans hmg) (by omega) fs_get (by omega)) hM0 rfl rfl rfl rfl (by decide) (Nat.le_of_ble_eq_true rfl) (by decide) (by decide) ?_
  rw [show (mtheM_f (mo) mg (dmN c ph cx + (cB c)) ph (S4.1, S4.2.1, fs S.2.2 (mo) 17 (nI (dmN c ph cx + (cB c))))).2.2 = fs S.2.2 (mo) 17 (nI (dmN c ph cx + (cB c) + (if ph then 64 else mg))) from (mtheM_F (mo) mg (dmN c ph cx + (cB c)) ph (S4.1, S4.2.1, fs S.2.2 (mo) 17 (nI (dmN c ph cx + (cB c))))).trans fs_fs]
  generalize hS5 : mtheM_f (mo) mg (dmN c ph cx + (cB c)) ph (S4.1, S4.2.1, fs S.2.2 (mo) 17 (nI (dmN c ph cx + (cB c)))) = S5
  refine rn_aload_n C dX12_signNow_33 rfl ?_
  refine rs_vv C dX12_signNow_34 mk_X12_hashIn lv_X12_289 (c_mhashI (S := (S5.1, S5.2.1, fs S.2.2 (mo) 17 (nI (dmN c ph cx + (cB c) + (if ph then 64 else mg))))) hM fs_get (by omega) ((fs_oth (by decide)).trans hcn)) hM0 rfl rfl rfl rfl (by decide) (Nat.le_of_ble_eq_true rfl) (by decide) (by decide) ?_
  rw [show (mhashI_f c (mo) (dmN c ph cx + (cB c) + (if ph then 64 else mg)) (S5.1, S5.2.1, fs S.2.2 (mo) 17 (nI (dmN c ph cx + (cB c) + (if ph then 64 else mg))))).2.2 = fs S.2.2 (mo) 17 (nI (haN c (dmN c ph cx + (cB c) + (if ph then 64 else mg)))) from (mhashI_F c (mo) (dmN c ph cx + (cB c) + (if ph then 64 else mg)) (S5.1, S5.2.1, fs S.2.2 (mo) 17 (nI (dmN c ph cx + (cB c) + (if ph then 64 else mg))))).trans fs_fs]
  generalize hS6 : mhashI_f c (mo) (dmN c ph cx + (cB c) + (if ph then 64 else mg)) (S5.1, S5.2.1, fs S.2.2 (mo) 17 (nI (dmN c ph cx + (cB c) + (if ph then 64 else mg)))) = S6
  refine rn_aload_n C dX12_signNow_37 rfl ?_
  refine rn_aload_n C dX12_signNow_38 rfl ?_
  refine rs_get C dX12_signNow_39 fl_X12_99 hM0 rfl ?_
  refine rn_aload_n C dX12_signNow_42 rfl ?_
  refine rs_get C dX12_signNow_43 fl_X12_66 hM0 rfl ?_
  refine rn_iconst (v := nI 2) C dX12_signNow_46 rfl ?_
  refine rn_iload_n C dX12_signNow_47 rfl ?_
  refine rn_imul C dX12_signNow_48 (pk_mul _ _) ?_
  refine rs_vv C dX12_signNow_49 mk_X12_modulo lv_X12_235 (c_mmod (S := (S6.1, S6.2.1, fs S.2.2 (mo) 17 (nI (haN c (dmN c ph cx + (cB c) + (if ph then 64 else mg)))))) hM hm23 hm12 (by decide) (by omega) (by omega) (by omega) ((fs_oth (by decide)).trans hcn) ((fs_oth (by decide)).trans hpc)) hM0 rfl rfl rfl rfl (by decide) (Nat.le_of_ble_eq_true rfl) (by decide) (by decide) ?_
  rw [show (mmod_f c (mo) (mo + 23) (mo + 12) (2 * (cB c)) (S6.1, S6.2.1, fs S.2.2 (mo) 17 (nI (haN c (dmN c ph cx + (cB c) + (if ph then 64 else mg)))))).2.2 = fs S.2.2 (mo) 17 (nI (haN c (dmN c ph cx + (cB c) + (if ph then 64 else mg)))) from (mmod_F c (mo) (mo + 23) (mo + 12) (2 * (cB c)) (S6.1, S6.2.1, fs S.2.2 (mo) 17 (nI (haN c (dmN c ph cx + (cB c) + (if ph then 64 else mg))))))]
  generalize hS7 : mmod_f c (mo) (mo + 23) (mo + 12) (2 * (cB c)) (S6.1, S6.2.1, fs S.2.2 (mo) 17 (nI (haN c (dmN c ph cx + (cB c) + (if ph then 64 else mg))))) = S7
  refine rn_aload_n C dX12_signNow_52 rfl ?_
  refine rn_bipush (v := nI 46) C dX12_signNow_53 rfl ?_
  refine rn_bipush (v := nI 13) C dX12_signNow_55 rfl ?_
  refine rn_iconst (v := nI 3) C dX12_signNow_57 rfl ?_
  refine rn_aload_n C dX12_signNow_58 rfl ?_
  refine rs_getFe C dX12_signNow_59 fl_X12_51 hM0 rfl ((fs_oth (by decide)).trans hcn) ?_
  refine rn_imul C dX12_signNow_62 (pk_mul _ _) ?_
  refine rn_iadd C dX12_signNow_63 (nI_add _ _) ?_
  refine rn_aload_n C dX12_signNow_64 rfl ?_
  refine rs_get C dX12_signNow_65 fl_X12_99 hM0 rfl ?_
  refine rn_iload_n C dX12_signNow_68 rfl ?_
  refine rs_vv C dX12_signNow_69 mk_X12_many lv_X12_292 (c_mmany (S := (S7.1, S7.2.1, fs S.2.2 (mo) 17 (nI (haN c (dmN c ph cx + (cB c) + (if ph then 64 else mg)))))) hM (by omega) (by omega) hm23 (by decide) (by omega) (by omega) (by omega) ((fs_oth (by decide)).trans hcn) ((fs_oth (by decide)).trans hpc)) hM0 rfl rfl rfl rfl (by decide) (Nat.le_of_ble_eq_true rfl) (by decide) (by decide) ?_
  rw [show (mmany_f c (mo) (46) (13 + (3 * (bN c))) (mo + 23) (57) (cB c) (S7.1, S7.2.1, fs S.2.2 (mo) 17 (nI (haN c (dmN c ph cx + (cB c) + (if ph then 64 else mg)))))).2.2 = fs S.2.2 (mo) 17 (nI (haN c (dmN c ph cx + (cB c) + (if ph then 64 else mg)))) from (mmany_F c (mo) (46) (13 + (3 * (bN c))) (mo + 23) (57) (cB c) (S7.1, S7.2.1, fs S.2.2 (mo) 17 (nI (haN c (dmN c ph cx + (cB c) + (if ph then 64 else mg))))))]
  generalize hS8 : mmany_f c (mo) (46) (13 + (3 * (bN c))) (mo + 23) (57) (cB c) (S7.1, S7.2.1, fs S.2.2 (mo) 17 (nI (haN c (dmN c ph cx + (cB c) + (if ph then 64 else mg))))) = S8
  refine rn_aload_n C dX12_signNow_72 rfl ?_
  refine rn_bipush (v := nI 46) C dX12_signNow_73 rfl ?_
  refine rs_vv C dX12_signNow_75 mk_X12_encode lv_X12_296 (c_menc (S := (S8.1, S8.2.1, fs S.2.2 (mo) 17 (nI (haN c (dmN c ph cx + (cB c) + (if ph then 64 else mg)))))) hM (by omega) ((fs_oth (by decide)).trans hcn) ((fs_oth (by decide)).trans hpc)) hM0 rfl rfl rfl rfl (by decide) (Nat.le_of_ble_eq_true rfl) (by decide) (by decide) ?_
  rw [show (menc_f c (mo) (46) (S8.1, S8.2.1, fs S.2.2 (mo) 17 (nI (haN c (dmN c ph cx + (cB c) + (if ph then 64 else mg)))))).2.2 = fs S.2.2 (mo) 17 (nI (haN c (dmN c ph cx + (cB c) + (if ph then 64 else mg)))) from (menc_F c (mo) (46) (S8.1, S8.2.1, fs S.2.2 (mo) 17 (nI (haN c (dmN c ph cx + (cB c) + (if ph then 64 else mg))))))]
  generalize hS9 : menc_f c (mo) (46) (S8.1, S8.2.1, fs S.2.2 (mo) 17 (nI (haN c (dmN c ph cx + (cB c) + (if ph then 64 else mg))))) = S9
  refine rn_iconst (v := nI 0) C dX12_signNow_78 rfl ?_
  refine rn_istore_n (lv' := [(0, _), (1, _), (2, _), (3, _)]) C dX12_signNow_79 (by decide) rfl ?_
  have lp80 : ∀ i80, i80 ≤ cB c → Rn X 80 [(0, .ref (k_b X.1 + (mo))), (1, .int (bI ph)), (2, .int (nI (cB c))), (3, .int (nI (i80)))] [] (inst X.1 L (msign_l80 mo (S9.1, S9.2.1, S.2.2) i80) S9.2.1 (fs S.2.2 (mo) 17 (nI (haN c (dmN c ph cx + (cB c) + (if ph then 64 else mg)))))) n 0 0 := by
    refine upto _ _ ?_ (fun i80 hi80 ih80 => ?_)
    · skip
      refine rn_iload_n C dX12_signNow_80 rfl ?_
      refine rn_iload_n C dX12_signNow_81 rfl ?_
      refine rs_ge (tgt := 103) C dX12_signNow_82 (by decide) rfl rfl (by omega) (by omega) (fun _ => ?_) (fun q => absurd q (by omega))
      refine rn_aload_n C dX12_signNow_103 rfl ?_
      refine rn_iload_n C dX12_signNow_104 rfl ?_
      refine rs_vv C dX12_signNow_105 mk_X12_domain lv_X12_305 (c_mdom (S := ((msign_l80 mo (S9.1, S9.2.1, S.2.2) (cB c)), S9.2.1, fs S.2.2 (mo) 17 (nI (haN c (dmN c ph cx + (cB c) + (if ph then 64 else mg)))))) hM ((fs_oth (by decide)).trans hcn) ((fs_oth (by decide)).trans hcx) (by omega)) hM0 rfl rfl rfl rfl (by decide) (Nat.le_of_ble_eq_true rfl) (by decide) (by decide) ?_
      rw [show (mdom_f c (mo) ph cx ((msign_l80 mo (S9.1, S9.2.1, S.2.2) (cB c)), S9.2.1, fs S.2.2 (mo) 17 (nI (haN c (dmN c ph cx + (cB c) + (if ph then 64 else mg)))))).2.2 = fs S.2.2 (mo) 17 (nI (dmN c ph cx)) from (mdom_F c (mo) ph cx ((msign_l80 mo (S9.1, S9.2.1, S.2.2) (cB c)), S9.2.1, fs S.2.2 (mo) 17 (nI (haN c (dmN c ph cx + (cB c) + (if ph then 64 else mg)))))).trans fs_fs]
      generalize hS10 : mdom_f c (mo) ph cx ((msign_l80 mo (S9.1, S9.2.1, S.2.2) (cB c)), S9.2.1, fs S.2.2 (mo) 17 (nI (haN c (dmN c ph cx + (cB c) + (if ph then 64 else mg))))) = S10
      refine rn_aload_n C dX12_signNow_108 rfl ?_
      refine rn_aload_n C dX12_signNow_109 rfl ?_
      refine rs_get C dX12_signNow_110 fl_X12_23 hM0 rfl ?_
      refine rn_iconst (v := nI 0) C dX12_signNow_113 rfl ?_
      refine rn_iload_n C dX12_signNow_114 rfl ?_
      refine rs_vv C dX12_signNow_115 mk_X12_inBytes lv_X12_279 (c_minB (S := (S10.1, S10.2.1, fs S.2.2 (mo) 17 (nI (dmN c ph cx)))) hM hm4 (by decide) (by omega) fs_get (by omega)) hM0 rfl rfl rfl rfl (by decide) (Nat.le_of_ble_eq_true rfl) (by decide) (by decide) ?_
      rw [show (minB_f (mo) (mo + 4) (0) (cB c) (dmN c ph cx) (S10.1, S10.2.1, fs S.2.2 (mo) 17 (nI (dmN c ph cx)))).2.2 = fs S.2.2 (mo) 17 (nI (dmN c ph cx + (cB c))) from (minB_F (mo) (mo + 4) (0) (cB c) (dmN c ph cx) (S10.1, S10.2.1, fs S.2.2 (mo) 17 (nI (dmN c ph cx)))).trans fs_fs]
      generalize hS11 : minB_f (mo) (mo + 4) (0) (cB c) (dmN c ph cx) (S10.1, S10.2.1, fs S.2.2 (mo) 17 (nI (dmN c ph cx))) = S11
      refine rn_aload_n C dX12_signNow_118 rfl ?_
      refine rn_aload_n C dX12_signNow_119 rfl ?_
      refine rs_get C dX12_signNow_120 fl_X12_96 hM0 rfl ?_
      refine rn_iconst (v := nI 0) C dX12_signNow_123 rfl ?_
      refine rn_iload_n C dX12_signNow_124 rfl ?_
      refine rs_vv C dX12_signNow_125 mk_X12_inBytes lv_X12_279 (c_minB (S := (S11.1, S11.2.1, fs S.2.2 (mo) 17 (nI (dmN c ph cx + (cB c))))) hM hm22 (by decide) (by omega) fs_get (by omega)) hM0 rfl rfl rfl rfl (by decide) (Nat.le_of_ble_eq_true rfl) (by decide) (by decide) ?_
      rw [show (minB_f (mo) (mo + 22) (0) (cB c) (dmN c ph cx + (cB c)) (S11.1, S11.2.1, fs S.2.2 (mo) 17 (nI (dmN c ph cx + (cB c))))).2.2 = fs S.2.2 (mo) 17 (nI (dmN c ph cx + (cB c) + (cB c))) from (minB_F (mo) (mo + 22) (0) (cB c) (dmN c ph cx + (cB c)) (S11.1, S11.2.1, fs S.2.2 (mo) 17 (nI (dmN c ph cx + (cB c))))).trans fs_fs]
      generalize hS12 : minB_f (mo) (mo + 22) (0) (cB c) (dmN c ph cx + (cB c)) (S11.1, S11.2.1, fs S.2.2 (mo) 17 (nI (dmN c ph cx + (cB c)))) = S12
      refine rn_aload_n C dX12_signNow_128 rfl ?_
      refine rn_iload_n C dX12_signNow_129 rfl ?_
      refine rs_vv C dX12_signNow_130 mk_X12_theMessage lv_X12_309 (c_mtheM (S := (S12.1, S12.2.1, fs S.2.2 (mo) 17 (nI (dmN c ph cx + (cB c) + (cB c))))) hM ((fs_oth (by decide)).trans hmg) (by omega) fs_get (by omega)) hM0 rfl rfl rfl rfl (by decide) (Nat.le_of_ble_eq_true rfl) (by decide) (by decide) ?_
      rw [show (mtheM_f (mo) mg (dmN c ph cx + (cB c) + (cB c)) ph (S12.1, S12.2.1, fs S.2.2 (mo) 17 (nI (dmN c ph cx + (cB c) + (cB c))))).2.2 = fs S.2.2 (mo) 17 (nI (dmN c ph cx + (cB c) + (cB c) + (if ph then 64 else mg))) from (mtheM_F (mo) mg (dmN c ph cx + (cB c) + (cB c)) ph (S12.1, S12.2.1, fs S.2.2 (mo) 17 (nI (dmN c ph cx + (cB c) + (cB c))))).trans fs_fs]
      generalize hS13 : mtheM_f (mo) mg (dmN c ph cx + (cB c) + (cB c)) ph (S12.1, S12.2.1, fs S.2.2 (mo) 17 (nI (dmN c ph cx + (cB c) + (cB c)))) = S13
      refine rn_aload_n C dX12_signNow_133 rfl ?_
      refine rs_vv C dX12_signNow_134 mk_X12_hashIn lv_X12_289 (c_mhashI (S := (S13.1, S13.2.1, fs S.2.2 (mo) 17 (nI (dmN c ph cx + (cB c) + (cB c) + (if ph then 64 else mg))))) hM fs_get (by omega) ((fs_oth (by decide)).trans hcn)) hM0 rfl rfl rfl rfl (by decide) (Nat.le_of_ble_eq_true rfl) (by decide) (by decide) ?_
      rw [show (mhashI_f c (mo) (dmN c ph cx + (cB c) + (cB c) + (if ph then 64 else mg)) (S13.1, S13.2.1, fs S.2.2 (mo) 17 (nI (dmN c ph cx + (cB c) + (cB c) + (if ph then 64 else mg))))).2.2 = fs S.2.2 (mo) 17 (nI (haN c (dmN c ph cx + (cB c) + (cB c) + (if ph then 64 else mg)))) from (mhashI_F c (mo) (dmN c ph cx + (cB c) + (cB c) + (if ph then 64 else mg)) (S13.1, S13.2.1, fs S.2.2 (mo) 17 (nI (dmN c ph cx + (cB c) + (cB c) + (if ph then 64 else mg))))).trans fs_fs]
      generalize hS14 : mhashI_f c (mo) (dmN c ph cx + (cB c) + (cB c) + (if ph then 64 else mg)) (S13.1, S13.2.1, fs S.2.2 (mo) 17 (nI (dmN c ph cx + (cB c) + (cB c) + (if ph then 64 else mg)))) = S14
      refine rn_aload_n C dX12_signNow_137 rfl ?_
      refine rn_aload_n C dX12_signNow_138 rfl ?_
      refine rs_get C dX12_signNow_139 fl_X12_102 hM0 rfl ?_
      refine rn_aload_n C dX12_signNow_142 rfl ?_
      refine rs_get C dX12_signNow_143 fl_X12_66 hM0 rfl ?_
      refine rn_iconst (v := nI 2) C dX12_signNow_146 rfl ?_
      refine rn_iload_n C dX12_signNow_147 rfl ?_
      refine rn_imul C dX12_signNow_148 (pk_mul _ _) ?_
      refine rs_vv C dX12_signNow_149 mk_X12_modulo lv_X12_235 (c_mmod (S := (S14.1, S14.2.1, fs S.2.2 (mo) 17 (nI (haN c (dmN c ph cx + (cB c) + (cB c) + (if ph then 64 else mg)))))) hM hm24 hm12 (by decide) (by omega) (by omega) (by omega) ((fs_oth (by decide)).trans hcn) ((fs_oth (by decide)).trans hpc)) hM0 rfl rfl rfl rfl (by decide) (Nat.le_of_ble_eq_true rfl) (by decide) (by decide) ?_
      rw [show (mmod_f c (mo) (mo + 24) (mo + 12) (2 * (cB c)) (S14.1, S14.2.1, fs S.2.2 (mo) 17 (nI (haN c (dmN c ph cx + (cB c) + (cB c) + (if ph then 64 else mg)))))).2.2 = fs S.2.2 (mo) 17 (nI (haN c (dmN c ph cx + (cB c) + (cB c) + (if ph then 64 else mg)))) from (mmod_F c (mo) (mo + 24) (mo + 12) (2 * (cB c)) (S14.1, S14.2.1, fs S.2.2 (mo) 17 (nI (haN c (dmN c ph cx + (cB c) + (cB c) + (if ph then 64 else mg))))))]
      generalize hS15 : mmod_f c (mo) (mo + 24) (mo + 12) (2 * (cB c)) (S14.1, S14.2.1, fs S.2.2 (mo) 17 (nI (haN c (dmN c ph cx + (cB c) + (cB c) + (if ph then 64 else mg))))) = S15
      refine rn_aload_n C dX12_signNow_152 rfl ?_
      refine rs_vv C dX12_signNow_153 mk_X12_combine lv_X12_312 (c_mcomb (S := (S15.1, S15.2.1, fs S.2.2 (mo) 17 (nI (haN c (dmN c ph cx + (cB c) + (cB c) + (if ph then 64 else mg)))))) hM  ((fs_oth (by decide)).trans hcn) ((fs_oth (by decide)).trans hpc)) hM0 rfl rfl rfl rfl (by decide) (Nat.le_of_ble_eq_true rfl) (by decide) (by decide) ?_
      rw [show (mcomb_f c (mo)  (S15.1, S15.2.1, fs S.2.2 (mo) 17 (nI (haN c (dmN c ph cx + (cB c) + (cB c) + (if ph then 64 else mg)))))).2.2 = fs S.2.2 (mo) 17 (nI (haN c (dmN c ph cx + (cB c) + (cB c) + (if ph then 64 else mg)))) from (mcomb_F c (mo)  (S15.1, S15.2.1, fs S.2.2 (mo) 17 (nI (haN c (dmN c ph cx + (cB c) + (cB c) + (if ph then 64 else mg))))))]
      generalize hS16 : mcomb_f c (mo)  (S15.1, S15.2.1, fs S.2.2 (mo) 17 (nI (haN c (dmN c ph cx + (cB c) + (cB c) + (if ph then 64 else mg))))) = S16
      refine rn_iconst (v := nI 0) C dX12_signNow_156 rfl ?_
      refine rn_istore_n (lv' := [(0, _), (1, _), (2, _), (3, _)]) C dX12_signNow_157 (by decide) rfl ?_
      have lp158 : ∀ i158, i158 ≤ cB c → Rn X 158 [(0, .ref (k_b X.1 + (mo))), (1, .int (bI ph)), (2, .int (nI (cB c))), (3, .int (nI (i158)))] [] (inst X.1 L (msign_l158 c mo (S16.1, S16.2.1, S.2.2) i158) S16.2.1 (fs S.2.2 (mo) 17 (nI (haN c (dmN c ph cx + (cB c) + (cB c) + (if ph then 64 else mg)))))) n 0 0 := by
        refine upto _ _ ?_ (fun i158 hi158 ih158 => ?_)
        · skip
          refine rn_iload_n C dX12_signNow_158 rfl ?_
          refine rn_iload_n C dX12_signNow_159 rfl ?_
          refine rs_ge (tgt := 183) C dX12_signNow_160 (by decide) rfl rfl (by omega) (by omega) (fun _ => ?_) (fun q => absurd q (by omega))
          refine rn_aload_n C dX12_signNow_183 rfl ?_
          refine rn_iconst (v := nI 2) C dX12_signNow_184 rfl ?_
          refine rn_iload_n C dX12_signNow_185 rfl ?_
          refine rn_imul C dX12_signNow_186 (pk_mul _ _) ?_
          refine rs_putF C dX12_signNow_187 fp_X12_26 hM0 rfl ?_
          have hret : msign_f c mo mg cx ph S = ((msign_l158 c mo (S16.1, S16.2.1, S.2.2) (cB c)), S16.2.1, fs (fs S.2.2 (mo) 17 (nI (haN c (dmN c ph cx + (cB c) + (cB c) + (if ph then 64 else mg))))) (mo) 5 (nI (2 * (cB c)))) := by
            subst hS16
            subst hS15
            subst hS14
            subst hS13
            subst hS12
            subst hS11
            subst hS10
            subst hS9
            subst hS8
            subst hS7
            subst hS6
            subst hS5
            subst hS4
            subst hS3
            subst hS2
            subst hS1
            first | (dsimp only [msign_f]; done) | (dsimp only [msign_f]; exact rfl) | exact rfl
          exact rn_vret C Rt dX12_signNow_190 (pv_of hret) (Nat.zero_le _) (Nat.zero_le _)
        · skip
          refine rn_iload_n C dX12_signNow_158 rfl ?_
          refine rn_iload_n C dX12_signNow_159 rfl ?_
          refine rs_ge (tgt := 183) C dX12_signNow_160 (by decide) rfl rfl (by omega) (by omega) (fun q => absurd q (by omega)) (fun _ => ?_)
          refine rn_aload_n C dX12_signNow_163 rfl ?_
          refine rs_get C dX12_signNow_164 fl_X12_23 hM0 rfl ?_
          refine rn_iload_n C dX12_signNow_167 rfl ?_
          refine rn_iload_n C dX12_signNow_168 rfl ?_
          refine rn_iadd C dX12_signNow_169 (nI_add _ _) ?_
          refine rn_aload_n C dX12_signNow_170 rfl ?_
          refine rs_get C dX12_signNow_171 fl_X12_102 hM0 rfl ?_
          refine rn_iload_n C dX12_signNow_174 rfl ?_
          refine rs_iaload C dX12_signNow_175 hm24 rfl (by omega) (by decide) ?_
          refine rs_iastore C dX12_signNow_176 hm4 rfl (by omega) (by decide) ?_
          refine rn_iinc (lv' := [(0, _), (1, _), (2, _), (3, _)]) C dX12_signNow_177 rfl (nI_inc _) (by decide) rfl ?_
          refine rn_goto (tgt := 158) C dX12_signNow_180 (by decide) ?_
          have he158 : msign_l158 c mo (S16.1, S16.2.1, S.2.2) (i158 + 1) = va_up (msign_l158 c mo (S16.1, S16.2.1, S.2.2) i158) (mo + 4) (upd ((msign_l158 c mo (S16.1, S16.2.1, S.2.2) i158) (mo + 4)) (cB c + i158) ((msign_l158 c mo (S16.1, S16.2.1, S.2.2) i158) (mo + 24) (i158))) := by
            first | (dsimp only [msign_l158]; done) | (dsimp only [msign_l158]; exact rfl) | exact rfl
          rw [he158] at ih158
          exact rn_ks [0, 1, 2, 3] ih158 rfl
      exact lp158 0 (Nat.zero_le _)
    · skip
      refine rn_iload_n C dX12_signNow_80 rfl ?_
      refine rn_iload_n C dX12_signNow_81 rfl ?_
      refine rs_ge (tgt := 103) C dX12_signNow_82 (by decide) rfl rfl (by omega) (by omega) (fun q => absurd q (by omega)) (fun _ => ?_)
      refine rn_aload_n C dX12_signNow_85 rfl ?_
      refine rs_get C dX12_signNow_86 fl_X12_23 hM0 rfl ?_
      refine rn_iload_n C dX12_signNow_89 rfl ?_
      refine rn_aload_n C dX12_signNow_90 rfl ?_
      refine rs_get C dX12_signNow_91 fl_X12_111 hM0 rfl ?_
      refine rn_iload_n C dX12_signNow_94 rfl ?_
      refine rs_iaload C dX12_signNow_95 hm27 rfl (by omega) (by decide) ?_
      refine rs_iastore C dX12_signNow_96 hm4 rfl (by omega) (by decide) ?_
      refine rn_iinc (lv' := [(0, _), (1, _), (2, _), (3, _)]) C dX12_signNow_97 rfl (nI_inc _) (by decide) rfl ?_
      refine rn_goto (tgt := 80) C dX12_signNow_100 (by decide) ?_
      have he80 : msign_l80 mo (S9.1, S9.2.1, S.2.2) (i80 + 1) = va_up (msign_l80 mo (S9.1, S9.2.1, S.2.2) i80) (mo + 4) (upd ((msign_l80 mo (S9.1, S9.2.1, S.2.2) i80) (mo + 4)) (i80) ((msign_l80 mo (S9.1, S9.2.1, S.2.2) i80) (mo + 27) (i80))) := by
        first | (dsimp only [msign_l80]; done) | (dsimp only [msign_l80]; exact rfl) | exact rfl
      rw [he80] at ih80
      exact rn_ks [0, 1, 2, 3] ih80 rfl
  exact lp80 0 (Nat.zero_le _)
def mveri_l235 (c : Bool) (mo : Nat) (mg : Nat) (cx : Nat) (ph : Bool) (S : StT)  : Nat → (Nat → Nat → Int32) × (Nat → Nat → Int64)
  | 0 => (S.1, S.2.1)
  | i235 + 1 => let y235_0 := (mveri_l235 c mo mg cx ph S i235).1; let y235_1 := (mveri_l235 c mo mg cx ph S i235).2; (let S22 := msum_f c (mo) (54) (54) (54) (y235_0, y235_1, fs S.2.2 (mo) 17 (nI (haN c (dmN c ph cx + (cB c) + (cB c) + (if ph then 64 else mg))))); (let S23 := msum_f c (mo) (57) (57) (57) (S22.1, S22.2.1, fs S.2.2 (mo) 17 (nI (haN c (dmN c ph cx + (cB c) + (cB c) + (if ph then 64 else mg))))); (S23.1, S23.2.1)))
def mveri_l43 (c : Bool) (mo : Nat) (S : StT)  : Nat → (Nat → Nat → Int32)
  | 0 => S.1
  | i43 + 1 => let y43_0 := (mveri_l43 c mo S i43); (let I24 := va_up y43_0 (mo + 7) (upd (y43_0 (mo + 7)) (1696 + (i43 / 2 ^ 1)) ((y43_0 (mo + 7) (1696 + (i43 / 2 ^ 1))) ||| ((y43_0 (mo + 3) (cB c + i43)) <<< ((nI (8 * (i43 % 2 ^ 1))) &&& 31)))); va_up I24 (mo + 23) (upd (I24 (mo + 23)) (i43) (I24 (mo + 3) (cB c + i43))))
def mveri_f (c : Bool) (mo : Nat) (mg : Nat) (cx : Nat) (ph : Bool) (S : StT) : Int32 × StT := (let r1 := mdec_f c (mo) (46) (mo + 2) (0) S; (if (r1.1) = 0 then (nI (0), (r1.2.1, r1.2.2.1, S.2.2)) else (let r3 := mdec_f c (mo) (54) (mo + 3) (0) (r1.2.1, r1.2.2.1, S.2.2); (if (r3.1) ≠ 0 then (let S5 := zero28_f (mo) (53) (r3.2.1, r3.2.2.1, S.2.2); (if ((mveri_l43 c mo (S5.1, S5.2.1, S.2.2) (cB c)) (mo + 7) (1724)) ≠ 0 then (nI (0), ((mveri_l43 c mo (S5.1, S5.2.1, S.2.2) (cB c)), S5.2.1, S.2.2)) else (let r7 := (atLeast_f (mo) (53) (19 + (bN c)) ((mveri_l43 c mo (S5.1, S5.2.1, S.2.2) (cB c)), S5.2.1, S.2.2)).1; (if (r7) = 0 then (let S9 := mdigM_f c (mo) mg ((mveri_l43 c mo (S5.1, S5.2.1, S.2.2) (cB c)), S5.2.1, S.2.2); (let S10 := mdom_f c (mo) ph cx (S9.1, S9.2.1, fs S.2.2 (mo) 17 (nI (haN c (0 + mg)))); (let S11 := minB_f (mo) (mo + 3) (0) (cB c) (dmN c ph cx) (S10.1, S10.2.1, fs S.2.2 (mo) 17 (nI (dmN c ph cx))); (let S12 := minB_f (mo) (mo + 2) (0) (cB c) (dmN c ph cx + (cB c)) (S11.1, S11.2.1, fs S.2.2 (mo) 17 (nI (dmN c ph cx + (cB c)))); (let S13 := mtheM_f (mo) mg (dmN c ph cx + (cB c) + (cB c)) ph (S12.1, S12.2.1, fs S.2.2 (mo) 17 (nI (dmN c ph cx + (cB c) + (cB c)))); (let S14 := mhashI_f c (mo) (dmN c ph cx + (cB c) + (cB c) + (if ph then 64 else mg)) (S13.1, S13.2.1, fs S.2.2 (mo) 17 (nI (dmN c ph cx + (cB c) + (cB c) + (if ph then 64 else mg)))); (let S15 := mmod_f c (mo) (mo + 24) (mo + 12) (2 * (cB c)) (S14.1, S14.2.1, fs S.2.2 (mo) 17 (nI (haN c (dmN c ph cx + (cB c) + (cB c) + (if ph then 64 else mg))))); (let S16 := mmany_f c (mo) (46) (46) (mo + 24) (57) (cB c) (S15.1, S15.2.1, fs S.2.2 (mo) 17 (nI (haN c (dmN c ph cx + (cB c) + (cB c) + (if ph then 64 else mg))))); (let S17 := msum_f c (mo) (54) (54) (46) (S16.1, S16.2.1, fs S.2.2 (mo) 17 (nI (haN c (dmN c ph cx + (cB c) + (cB c) + (if ph then 64 else mg))))); (let S18 := mmany_f c (mo) (57) (13 + (3 * (bN c))) (mo + 23) (57) (cB c) (S17.1, S17.2.1, fs S.2.2 (mo) 17 (nI (haN c (dmN c ph cx + (cB c) + (cB c) + (if ph then 64 else mg))))); (let r20 := malike_f c (mo) (54) (57) ((mveri_l235 c mo mg cx ph (S18.1, S18.2.1, S.2.2) (vcN c)).1, (mveri_l235 c mo mg cx ph (S18.1, S18.2.1, S.2.2) (vcN c)).2, fs S.2.2 (mo) 17 (nI (haN c (dmN c ph cx + (cB c) + (cB c) + (if ph then 64 else mg))))); (r20.1, (r20.2.1, r20.2.2.1, fs S.2.2 (mo) 17 (nI (haN c (dmN c ph cx + (cB c) + (cB c) + (if ph then 64 else mg))))))))))))))))) else (nI (0), ((mveri_l43 c mo (S5.1, S5.2.1, S.2.2) (cB c)), S5.2.1, S.2.2)))))) else (nI (0), (r3.2.1, r3.2.2.1, S.2.2))))))
set_option maxRecDepth 100000 in
set_option maxHeartbeats 400000 in
theorem c_mveri {k : KX} {L : Nat → Option Sh} {S : StT} {n : Nat} {c : Bool} {mo : Nat} {mg : Nat} {cx : Nat} {ph : Bool} (hM : ModelAt k L mo) (hmg : S.2.2 mo 7 = nI mg) (hmg1 : mg ≤ 256) (hcx : S.2.2 mo 9 = nI cx) (hcx1 : cx ≤ 64) (hcn : S.2.2 mo 13 = nI (bN c)) (hpc : S.2.2 mo 14 = nI (pN c)) :
    Cs k yX12_verified cX12_verified 4 (some .boolean) 7 0 0 [.ref (k_b k + (mo)), .int (bI ph)] (inst k L S.1 S.2.1 S.2.2) n (Pi k L n (mveri_f c mo mg cx ph S)) := by
  refine cs_of (by decide) (Nat.le_of_ble_eq_true rfl) ?_
  intro X hXk C Rt hnm
  subst hXk
  have hM9 := hM
  obtain ⟨hM0, hm1, hm2, hm3, hm4, hm5, hm6, hm7, hm8, hm9, hm10, hm11, hm12, hm13, hm14, hm15, hm16, hm17, hm18, hm19, hm20, hm21, hm22, hm23, hm24, hm25, hm26, hm27⟩ := hM9
  obtain ⟨hp1, hp2⟩ := pN_le c
  have hbn := bN_le c
  obtain ⟨hk1, hk2⟩ := cB_le c
  have hdl := dm_le c ph cx
  have hpm : (if ph then 64 else mg) ≤ 256 := by split <;> omega
  have hvc : vcN c ≤ 3 := by cases c <;> decide
  refine rn_lv [(0, .ref (k_b X.1 + (mo))), (1, .int (bI ph))] (fun q h => h) ?_
  refine rn_aload_n C dX12_verified_0 rfl ?_
  refine rs_vi C dX12_verified_1 mk_X12_keyBytes lv_X12_231 (cv_mkeyB hM  hcn hpc) hM0 rfl rfl rfl rfl (by decide) (Nat.le_of_ble_eq_true rfl) (by decide) (by decide) ?_
  refine rn_istore_n (lv' := [(0, _), (1, _), (2, _)]) C dX12_verified_4 (by decide) rfl ?_
  refine rn_aload_n C dX12_verified_5 rfl ?_
  refine rn_bipush (v := nI 46) C dX12_verified_6 rfl ?_
  refine rn_aload_n C dX12_verified_8 rfl ?_
  refine rs_get C dX12_verified_9 fl_X12_17 hM0 rfl ?_
  refine rn_iconst (v := nI 0) C dX12_verified_12 rfl ?_
  refine rs_vz C dX12_verified_13 mk_X12_decode lv_X12_315 (c_mdec hM (by omega) hm2 (by decide) (by omega) hcn hpc) hM0 rfl rfl rfl rfl (by decide) (Nat.le_of_ble_eq_true rfl) (by decide) (by decide) ?_
  rw [show (mdec_f c (mo) (46) (mo + 2) (0) S).2.2.2 = S.2.2 from (mdec_F c (mo) (46) (mo + 2) (0) S)]
  generalize hr1 : mdec_f c (mo) (46) (mo + 2) (0) S = r1
  refine rn_if_eq (tgt := 33) C dX12_verified_16 (by decide) (fun hb2 => ?_) (fun hb2 => ?_)
  · skip
    refine rn_iconst (v := nI 0) C dX12_verified_33 rfl ?_
    have hret : mveri_f c mo mg cx ph S = (nI (0), (r1.2.1, r1.2.2.1, S.2.2)) := by
      subst hr1
      first | (dsimp only [mveri_f]; done) | (dsimp only [mveri_f]; exact (if_pos hb2)) | exact (if_pos hb2)
    exact rn_zret C Rt dX12_verified_34 (by first | rfl | exact rfl) (pi_of hret) (Nat.zero_le _) (Nat.zero_le _)
  · skip
    refine rn_aload_n C dX12_verified_19 rfl ?_
    refine rn_bipush (v := nI 54) C dX12_verified_20 rfl ?_
    refine rn_aload_n C dX12_verified_22 rfl ?_
    refine rs_get C dX12_verified_23 fl_X12_20 hM0 rfl ?_
    refine rn_iconst (v := nI 0) C dX12_verified_26 rfl ?_
    refine rs_vz C dX12_verified_27 mk_X12_decode lv_X12_315 (c_mdec (S := (r1.2.1, r1.2.2.1, S.2.2)) hM (by omega) hm3 (by decide) (by omega) hcn hpc) hM0 rfl rfl rfl rfl (by decide) (Nat.le_of_ble_eq_true rfl) (by decide) (by decide) ?_
    rw [show (mdec_f c (mo) (54) (mo + 3) (0) (r1.2.1, r1.2.2.1, S.2.2)).2.2.2 = S.2.2 from (mdec_F c (mo) (54) (mo + 3) (0) (r1.2.1, r1.2.2.1, S.2.2))]
    generalize hr3 : mdec_f c (mo) (54) (mo + 3) (0) (r1.2.1, r1.2.2.1, S.2.2) = r3
    refine rn_if_ne (tgt := 35) C dX12_verified_30 (by decide) (fun hb4 => ?_) (fun hb4 => ?_)
    · skip
      refine rn_aload_n C dX12_verified_35 rfl ?_
      refine rn_bipush (v := nI 53) C dX12_verified_36 rfl ?_
      refine rs_vv C dX12_verified_38 mk_X12_zero28 lv_X12_168 (c_zero28 (S := (r3.2.1, r3.2.2.1, S.2.2)) hM (by omega)) hM0 rfl rfl rfl rfl (by decide) (Nat.le_of_ble_eq_true rfl) (by decide) (by decide) ?_
      rw [show (zero28_f (mo) (53) (r3.2.1, r3.2.2.1, S.2.2)).2.2 = S.2.2 from (zero28_F (mo) (53) (r3.2.1, r3.2.2.1, S.2.2))]
      generalize hS5 : zero28_f (mo) (53) (r3.2.1, r3.2.2.1, S.2.2) = S5
      refine rn_iconst (v := nI 0) C dX12_verified_41 rfl ?_
      refine rn_istore_n (lv' := [(0, _), (1, _), (2, _), (3, _)]) C dX12_verified_42 (by decide) rfl ?_
      have lp43 : ∀ i43, i43 ≤ cB c → Rn X 43 [(0, .ref (k_b X.1 + (mo))), (1, .int (bI ph)), (2, .int (nI (cB c))), (3, .int (nI (i43)))] [] (inst X.1 L (mveri_l43 c mo (S5.1, S5.2.1, S.2.2) i43) S5.2.1 S.2.2) n 0 0 := by
        refine upto _ _ ?_ (fun i43 hi43 ih43 => ?_)
        · skip
          refine rn_iload_n C dX12_verified_43 rfl ?_
          refine rn_iload_n C dX12_verified_44 rfl ?_
          refine rs_ge (tgt := 108) C dX12_verified_45 (by decide) rfl rfl (by omega) (by omega) (fun _ => ?_) (fun q => absurd q (by omega))
          refine rn_aload_n C dX12_verified_108 rfl ?_
          refine rs_get C dX12_verified_109 fl_X12_41 hM0 rfl ?_
          refine rn_sipush (v := nI 1724) C dX12_verified_112 rfl ?_
          refine rs_iaload C dX12_verified_115 hm7 rfl (by omega) (by decide) ?_
          refine rn_if_ne (tgt := 135) C dX12_verified_116 (by decide) (fun hb6 => ?_) (fun hb6 => ?_)
          · skip
            refine rn_iconst (v := nI 0) C dX12_verified_135 rfl ?_
            have hret : mveri_f c mo mg cx ph S = (nI (0), ((mveri_l43 c mo (S5.1, S5.2.1, S.2.2) (cB c)), S5.2.1, S.2.2)) := by
              subst hS5
              subst hr3
              subst hr1
              first | (dsimp only [mveri_f]; done) | (dsimp only [mveri_f]; exact (((if_neg hb2).trans (if_pos hb4)).trans (if_pos hb6))) | exact (((if_neg hb2).trans (if_pos hb4)).trans (if_pos hb6))
            exact rn_zret C Rt dX12_verified_136 (by first | rfl | exact rfl) (pi_of hret) (Nat.zero_le _) (Nat.zero_le _)
          · skip
            refine rn_aload_n C dX12_verified_119 rfl ?_
            refine rn_bipush (v := nI 53) C dX12_verified_120 rfl ?_
            refine rn_bipush (v := nI 19) C dX12_verified_122 rfl ?_
            refine rn_aload_n C dX12_verified_124 rfl ?_
            refine rs_getFe C dX12_verified_125 fl_X12_51 hM0 rfl hcn ?_
            refine rn_iadd C dX12_verified_128 (nI_add _ _) ?_
            refine rs_vz C dX12_verified_129 mk_X12_atLeast lv_X12_183 (cp_atLeast (S := ((mveri_l43 c mo (S5.1, S5.2.1, S.2.2) (cB c)), S5.2.1, S.2.2)) hM (by omega) (by omega)) hM0 rfl rfl rfl rfl (by decide) (Nat.le_of_ble_eq_true rfl) (by decide) (by decide) ?_
            refine rn_if_eq (tgt := 137) C dX12_verified_132 (by decide) (fun hb8 => ?_) (fun hb8 => ?_)
            · skip
              refine rn_aload_n C dX12_verified_137 rfl ?_
              refine rs_vv C dX12_verified_138 mk_X12_digestMessage lv_X12_299 (c_mdigM (S := ((mveri_l43 c mo (S5.1, S5.2.1, S.2.2) (cB c)), S5.2.1, S.2.2)) hM hmg (by omega) hcn) hM0 rfl rfl rfl rfl (by decide) (Nat.le_of_ble_eq_true rfl) (by decide) (by decide) ?_
              rw [show (mdigM_f c (mo) mg ((mveri_l43 c mo (S5.1, S5.2.1, S.2.2) (cB c)), S5.2.1, S.2.2)).2.2 = fs S.2.2 (mo) 17 (nI (haN c (0 + mg))) from (mdigM_F c (mo) mg ((mveri_l43 c mo (S5.1, S5.2.1, S.2.2) (cB c)), S5.2.1, S.2.2))]
              generalize hS9 : mdigM_f c (mo) mg ((mveri_l43 c mo (S5.1, S5.2.1, S.2.2) (cB c)), S5.2.1, S.2.2) = S9
              refine rn_aload_n C dX12_verified_141 rfl ?_
              refine rn_iload_n C dX12_verified_142 rfl ?_
              refine rs_vv C dX12_verified_143 mk_X12_domain lv_X12_305 (c_mdom (S := (S9.1, S9.2.1, fs S.2.2 (mo) 17 (nI (haN c (0 + mg))))) hM ((fs_oth (by decide)).trans hcn) ((fs_oth (by decide)).trans hcx) (by omega)) hM0 rfl rfl rfl rfl (by decide) (Nat.le_of_ble_eq_true rfl) (by decide) (by decide) ?_
              rw [show (mdom_f c (mo) ph cx (S9.1, S9.2.1, fs S.2.2 (mo) 17 (nI (haN c (0 + mg))))).2.2 = fs S.2.2 (mo) 17 (nI (dmN c ph cx)) from (mdom_F c (mo) ph cx (S9.1, S9.2.1, fs S.2.2 (mo) 17 (nI (haN c (0 + mg))))).trans fs_fs]
              generalize hS10 : mdom_f c (mo) ph cx (S9.1, S9.2.1, fs S.2.2 (mo) 17 (nI (haN c (0 + mg)))) = S10
              refine rn_aload_n C dX12_verified_146 rfl ?_
              refine rn_aload_n C dX12_verified_147 rfl ?_
              refine rs_get C dX12_verified_148 fl_X12_20 hM0 rfl ?_
              refine rn_iconst (v := nI 0) C dX12_verified_151 rfl ?_
              refine rn_iload_n C dX12_verified_152 rfl ?_
              refine rs_vv C dX12_verified_153 mk_X12_inBytes lv_X12_279 (c_minB (S := (S10.1, S10.2.1, fs S.2.2 (mo) 17 (nI (dmN c ph cx)))) hM hm3 (by decide) (by omega) fs_get (by omega)) hM0 rfl rfl rfl rfl (by decide) (Nat.le_of_ble_eq_true rfl) (by decide) (by decide) ?_
              rw [show (minB_f (mo) (mo + 3) (0) (cB c) (dmN c ph cx) (S10.1, S10.2.1, fs S.2.2 (mo) 17 (nI (dmN c ph cx)))).2.2 = fs S.2.2 (mo) 17 (nI (dmN c ph cx + (cB c))) from (minB_F (mo) (mo + 3) (0) (cB c) (dmN c ph cx) (S10.1, S10.2.1, fs S.2.2 (mo) 17 (nI (dmN c ph cx)))).trans fs_fs]
              generalize hS11 : minB_f (mo) (mo + 3) (0) (cB c) (dmN c ph cx) (S10.1, S10.2.1, fs S.2.2 (mo) 17 (nI (dmN c ph cx))) = S11
              refine rn_aload_n C dX12_verified_156 rfl ?_
              refine rn_aload_n C dX12_verified_157 rfl ?_
              refine rs_get C dX12_verified_158 fl_X12_17 hM0 rfl ?_
              refine rn_iconst (v := nI 0) C dX12_verified_161 rfl ?_
              refine rn_iload_n C dX12_verified_162 rfl ?_
              refine rs_vv C dX12_verified_163 mk_X12_inBytes lv_X12_279 (c_minB (S := (S11.1, S11.2.1, fs S.2.2 (mo) 17 (nI (dmN c ph cx + (cB c))))) hM hm2 (by decide) (by omega) fs_get (by omega)) hM0 rfl rfl rfl rfl (by decide) (Nat.le_of_ble_eq_true rfl) (by decide) (by decide) ?_
              rw [show (minB_f (mo) (mo + 2) (0) (cB c) (dmN c ph cx + (cB c)) (S11.1, S11.2.1, fs S.2.2 (mo) 17 (nI (dmN c ph cx + (cB c))))).2.2 = fs S.2.2 (mo) 17 (nI (dmN c ph cx + (cB c) + (cB c))) from (minB_F (mo) (mo + 2) (0) (cB c) (dmN c ph cx + (cB c)) (S11.1, S11.2.1, fs S.2.2 (mo) 17 (nI (dmN c ph cx + (cB c))))).trans fs_fs]
              generalize hS12 : minB_f (mo) (mo + 2) (0) (cB c) (dmN c ph cx + (cB c)) (S11.1, S11.2.1, fs S.2.2 (mo) 17 (nI (dmN c ph cx + (cB c)))) = S12
              refine rn_aload_n C dX12_verified_166 rfl ?_
              refine rn_iload_n C dX12_verified_167 rfl ?_
              refine rs_vv C dX12_verified_168 mk_X12_theMessage lv_X12_309 (c_mtheM (S := (S12.1, S12.2.1, fs S.2.2 (mo) 17 (nI (dmN c ph cx + (cB c) + (cB c))))) hM ((fs_oth (by decide)).trans hmg) (by omega) fs_get (by omega)) hM0 rfl rfl rfl rfl (by decide) (Nat.le_of_ble_eq_true rfl) (by decide) (by decide) ?_
              rw [show (mtheM_f (mo) mg (dmN c ph cx + (cB c) + (cB c)) ph (S12.1, S12.2.1, fs S.2.2 (mo) 17 (nI (dmN c ph cx + (cB c) + (cB c))))).2.2 = fs S.2.2 (mo) 17 (nI (dmN c ph cx + (cB c) + (cB c) + (if ph then 64 else mg))) from (mtheM_F (mo) mg (dmN c ph cx + (cB c) + (cB c)) ph (S12.1, S12.2.1, fs S.2.2 (mo) 17 (nI (dmN c ph cx + (cB c) + (cB c))))).trans fs_fs]
              generalize hS13 : mtheM_f (mo) mg (dmN c ph cx + (cB c) + (cB c)) ph (S12.1, S12.2.1, fs S.2.2 (mo) 17 (nI (dmN c ph cx + (cB c) + (cB c)))) = S13
              refine rn_aload_n C dX12_verified_171 rfl ?_
              refine rs_vv C dX12_verified_172 mk_X12_hashIn lv_X12_289 (c_mhashI (S := (S13.1, S13.2.1, fs S.2.2 (mo) 17 (nI (dmN c ph cx + (cB c) + (cB c) + (if ph then 64 else mg))))) hM fs_get (by omega) ((fs_oth (by decide)).trans hcn)) hM0 rfl rfl rfl rfl (by decide) (Nat.le_of_ble_eq_true rfl) (by decide) (by decide) ?_
              rw [show (mhashI_f c (mo) (dmN c ph cx + (cB c) + (cB c) + (if ph then 64 else mg)) (S13.1, S13.2.1, fs S.2.2 (mo) 17 (nI (dmN c ph cx + (cB c) + (cB c) + (if ph then 64 else mg))))).2.2 = fs S.2.2 (mo) 17 (nI (haN c (dmN c ph cx + (cB c) + (cB c) + (if ph then 64 else mg)))) from (mhashI_F c (mo) (dmN c ph cx + (cB c) + (cB c) + (if ph then 64 else mg)) (S13.1, S13.2.1, fs S.2.2 (mo) 17 (nI (dmN c ph cx + (cB c) + (cB c) + (if ph then 64 else mg))))).trans fs_fs]
              generalize hS14 : mhashI_f c (mo) (dmN c ph cx + (cB c) + (cB c) + (if ph then 64 else mg)) (S13.1, S13.2.1, fs S.2.2 (mo) 17 (nI (dmN c ph cx + (cB c) + (cB c) + (if ph then 64 else mg)))) = S14
              refine rn_aload_n C dX12_verified_175 rfl ?_
              refine rn_aload_n C dX12_verified_176 rfl ?_
              refine rs_get C dX12_verified_177 fl_X12_102 hM0 rfl ?_
              refine rn_aload_n C dX12_verified_180 rfl ?_
              refine rs_get C dX12_verified_181 fl_X12_66 hM0 rfl ?_
              refine rn_iconst (v := nI 2) C dX12_verified_184 rfl ?_
              refine rn_iload_n C dX12_verified_185 rfl ?_
              refine rn_imul C dX12_verified_186 (pk_mul _ _) ?_
              refine rs_vv C dX12_verified_187 mk_X12_modulo lv_X12_235 (c_mmod (S := (S14.1, S14.2.1, fs S.2.2 (mo) 17 (nI (haN c (dmN c ph cx + (cB c) + (cB c) + (if ph then 64 else mg)))))) hM hm24 hm12 (by decide) (by omega) (by omega) (by omega) ((fs_oth (by decide)).trans hcn) ((fs_oth (by decide)).trans hpc)) hM0 rfl rfl rfl rfl (by decide) (Nat.le_of_ble_eq_true rfl) (by decide) (by decide) ?_
              rw [show (mmod_f c (mo) (mo + 24) (mo + 12) (2 * (cB c)) (S14.1, S14.2.1, fs S.2.2 (mo) 17 (nI (haN c (dmN c ph cx + (cB c) + (cB c) + (if ph then 64 else mg)))))).2.2 = fs S.2.2 (mo) 17 (nI (haN c (dmN c ph cx + (cB c) + (cB c) + (if ph then 64 else mg)))) from (mmod_F c (mo) (mo + 24) (mo + 12) (2 * (cB c)) (S14.1, S14.2.1, fs S.2.2 (mo) 17 (nI (haN c (dmN c ph cx + (cB c) + (cB c) + (if ph then 64 else mg))))))]
              generalize hS15 : mmod_f c (mo) (mo + 24) (mo + 12) (2 * (cB c)) (S14.1, S14.2.1, fs S.2.2 (mo) 17 (nI (haN c (dmN c ph cx + (cB c) + (cB c) + (if ph then 64 else mg))))) = S15
              refine rn_aload_n C dX12_verified_190 rfl ?_
              refine rn_bipush (v := nI 46) C dX12_verified_191 rfl ?_
              refine rn_bipush (v := nI 46) C dX12_verified_193 rfl ?_
              refine rn_aload_n C dX12_verified_195 rfl ?_
              refine rs_get C dX12_verified_196 fl_X12_102 hM0 rfl ?_
              refine rn_iload_n C dX12_verified_199 rfl ?_
              refine rs_vv C dX12_verified_200 mk_X12_many lv_X12_292 (c_mmany (S := (S15.1, S15.2.1, fs S.2.2 (mo) 17 (nI (haN c (dmN c ph cx + (cB c) + (cB c) + (if ph then 64 else mg)))))) hM (by omega) (by omega) hm24 (by decide) (by omega) (by omega) (by omega) ((fs_oth (by decide)).trans hcn) ((fs_oth (by decide)).trans hpc)) hM0 rfl rfl rfl rfl (by decide) (Nat.le_of_ble_eq_true rfl) (by decide) (by decide) ?_
              rw [show (mmany_f c (mo) (46) (46) (mo + 24) (57) (cB c) (S15.1, S15.2.1, fs S.2.2 (mo) 17 (nI (haN c (dmN c ph cx + (cB c) + (cB c) + (if ph then 64 else mg)))))).2.2 = fs S.2.2 (mo) 17 (nI (haN c (dmN c ph cx + (cB c) + (cB c) + (if ph then 64 else mg)))) from (mmany_F c (mo) (46) (46) (mo + 24) (57) (cB c) (S15.1, S15.2.1, fs S.2.2 (mo) 17 (nI (haN c (dmN c ph cx + (cB c) + (cB c) + (if ph then 64 else mg))))))]
              generalize hS16 : mmany_f c (mo) (46) (46) (mo + 24) (57) (cB c) (S15.1, S15.2.1, fs S.2.2 (mo) 17 (nI (haN c (dmN c ph cx + (cB c) + (cB c) + (if ph then 64 else mg))))) = S16
              refine rn_aload_n C dX12_verified_203 rfl ?_
              refine rn_bipush (v := nI 54) C dX12_verified_204 rfl ?_
              refine rn_bipush (v := nI 54) C dX12_verified_206 rfl ?_
              refine rn_bipush (v := nI 46) C dX12_verified_208 rfl ?_
              refine rs_vv C dX12_verified_210 mk_X12_sum lv_X12_224 (c_msum (S := (S16.1, S16.2.1, fs S.2.2 (mo) 17 (nI (haN c (dmN c ph cx + (cB c) + (cB c) + (if ph then 64 else mg)))))) hM (by omega) (by omega) (by omega) ((fs_oth (by decide)).trans hcn) ((fs_oth (by decide)).trans hpc)) hM0 rfl rfl rfl rfl (by decide) (Nat.le_of_ble_eq_true rfl) (by decide) (by decide) ?_
              rw [show (msum_f c (mo) (54) (54) (46) (S16.1, S16.2.1, fs S.2.2 (mo) 17 (nI (haN c (dmN c ph cx + (cB c) + (cB c) + (if ph then 64 else mg)))))).2.2 = fs S.2.2 (mo) 17 (nI (haN c (dmN c ph cx + (cB c) + (cB c) + (if ph then 64 else mg)))) from (msum_F c (mo) (54) (54) (46) (S16.1, S16.2.1, fs S.2.2 (mo) 17 (nI (haN c (dmN c ph cx + (cB c) + (cB c) + (if ph then 64 else mg))))))]
              generalize hS17 : msum_f c (mo) (54) (54) (46) (S16.1, S16.2.1, fs S.2.2 (mo) 17 (nI (haN c (dmN c ph cx + (cB c) + (cB c) + (if ph then 64 else mg))))) = S17
              refine rn_aload_n C dX12_verified_213 rfl ?_
              refine rn_bipush (v := nI 57) C dX12_verified_214 rfl ?_
              refine rn_bipush (v := nI 13) C dX12_verified_216 rfl ?_
              refine rn_iconst (v := nI 3) C dX12_verified_218 rfl ?_
              refine rn_aload_n C dX12_verified_219 rfl ?_
              refine rs_getFe C dX12_verified_220 fl_X12_51 hM0 rfl ((fs_oth (by decide)).trans hcn) ?_
              refine rn_imul C dX12_verified_223 (pk_mul _ _) ?_
              refine rn_iadd C dX12_verified_224 (nI_add _ _) ?_
              refine rn_aload_n C dX12_verified_225 rfl ?_
              refine rs_get C dX12_verified_226 fl_X12_99 hM0 rfl ?_
              refine rn_iload_n C dX12_verified_229 rfl ?_
              refine rs_vv C dX12_verified_230 mk_X12_many lv_X12_292 (c_mmany (S := (S17.1, S17.2.1, fs S.2.2 (mo) 17 (nI (haN c (dmN c ph cx + (cB c) + (cB c) + (if ph then 64 else mg)))))) hM (by omega) (by omega) hm23 (by decide) (by omega) (by omega) (by omega) ((fs_oth (by decide)).trans hcn) ((fs_oth (by decide)).trans hpc)) hM0 rfl rfl rfl rfl (by decide) (Nat.le_of_ble_eq_true rfl) (by decide) (by decide) ?_
              rw [show (mmany_f c (mo) (57) (13 + (3 * (bN c))) (mo + 23) (57) (cB c) (S17.1, S17.2.1, fs S.2.2 (mo) 17 (nI (haN c (dmN c ph cx + (cB c) + (cB c) + (if ph then 64 else mg)))))).2.2 = fs S.2.2 (mo) 17 (nI (haN c (dmN c ph cx + (cB c) + (cB c) + (if ph then 64 else mg)))) from (mmany_F c (mo) (57) (13 + (3 * (bN c))) (mo + 23) (57) (cB c) (S17.1, S17.2.1, fs S.2.2 (mo) 17 (nI (haN c (dmN c ph cx + (cB c) + (cB c) + (if ph then 64 else mg))))))]
              generalize hS18 : mmany_f c (mo) (57) (13 + (3 * (bN c))) (mo + 23) (57) (cB c) (S17.1, S17.2.1, fs S.2.2 (mo) 17 (nI (haN c (dmN c ph cx + (cB c) + (cB c) + (if ph then 64 else mg))))) = S18
              refine rn_iconst (v := nI 0) C dX12_verified_233 rfl ?_
              refine rn_istore_n (lv' := [(0, _), (1, _), (2, _), (3, _)]) C dX12_verified_234 (by decide) rfl ?_
              have lp235 : ∀ i235, i235 ≤ vcN c → Rn X 235 [(0, .ref (k_b X.1 + (mo))), (1, .int (bI ph)), (2, .int (nI (cB c))), (3, .int (nI (i235)))] [] (inst X.1 L (mveri_l235 c mo mg cx ph (S18.1, S18.2.1, S.2.2) i235).1 (mveri_l235 c mo mg cx ph (S18.1, S18.2.1, S.2.2) i235).2 (fs S.2.2 (mo) 17 (nI (haN c (dmN c ph cx + (cB c) + (cB c) + (if ph then 64 else mg)))))) n 0 0 := by
                refine upto _ _ ?_ (fun i235 hi235 ih235 => ?_)
                · skip
                  refine rn_iload_n C dX12_verified_235 rfl ?_
                  refine rn_aload_n C dX12_verified_236 rfl ?_
                  refine rs_getFe C dX12_verified_237 fl_X12_51 hM0 rfl ((fs_oth (by decide)).trans hcn) ?_
                  have K240_19 : Rn X 248 [(0, .ref (k_b X.1 + (mo))), (1, .int (bI ph)), (2, .int (nI (cB c))), (3, .int (nI ((vcN c))))] [.int (nI ((if (nI (bN c)) ≠ 0 then 2 else 3))), .int (nI ((vcN c)))] (inst X.1 L (mveri_l235 c mo mg cx ph (S18.1, S18.2.1, S.2.2) (vcN c)).1 (mveri_l235 c mo mg cx ph (S18.1, S18.2.1, S.2.2) (vcN c)).2 (fs S.2.2 (mo) 17 (nI (haN c (dmN c ph cx + (cB c) + (cB c) + (if ph then 64 else mg)))))) n 0 0 := by
                    rw [show nI ((if (nI (bN c)) ≠ 0 then 2 else 3)) = nI (vcN c) from (by cases c <;> rfl)]
                    refine rs_ge (tgt := 277) C dX12_verified_248 (by decide) rfl rfl (by omega) (by omega) (fun _ => ?_) (fun q => absurd q (by omega))
                    refine rn_aload_n C dX12_verified_277 rfl ?_
                    refine rn_bipush (v := nI 54) C dX12_verified_278 rfl ?_
                    refine rn_bipush (v := nI 57) C dX12_verified_280 rfl ?_
                    refine rs_vz C dX12_verified_282 mk_X12_alike lv_X12_319 (c_malike (S := ((mveri_l235 c mo mg cx ph (S18.1, S18.2.1, S.2.2) (vcN c)).1, (mveri_l235 c mo mg cx ph (S18.1, S18.2.1, S.2.2) (vcN c)).2, fs S.2.2 (mo) 17 (nI (haN c (dmN c ph cx + (cB c) + (cB c) + (if ph then 64 else mg)))))) hM (by omega) (by omega) ((fs_oth (by decide)).trans hcn) ((fs_oth (by decide)).trans hpc)) hM0 rfl rfl rfl rfl (by decide) (Nat.le_of_ble_eq_true rfl) (by decide) (by decide) ?_
                    rw [show (malike_f c (mo) (54) (57) ((mveri_l235 c mo mg cx ph (S18.1, S18.2.1, S.2.2) (vcN c)).1, (mveri_l235 c mo mg cx ph (S18.1, S18.2.1, S.2.2) (vcN c)).2, fs S.2.2 (mo) 17 (nI (haN c (dmN c ph cx + (cB c) + (cB c) + (if ph then 64 else mg)))))).2.2.2 = fs S.2.2 (mo) 17 (nI (haN c (dmN c ph cx + (cB c) + (cB c) + (if ph then 64 else mg)))) from (malike_F c (mo) (54) (57) ((mveri_l235 c mo mg cx ph (S18.1, S18.2.1, S.2.2) (vcN c)).1, (mveri_l235 c mo mg cx ph (S18.1, S18.2.1, S.2.2) (vcN c)).2, fs S.2.2 (mo) 17 (nI (haN c (dmN c ph cx + (cB c) + (cB c) + (if ph then 64 else mg))))))]
                    generalize hr20 : malike_f c (mo) (54) (57) ((mveri_l235 c mo mg cx ph (S18.1, S18.2.1, S.2.2) (vcN c)).1, (mveri_l235 c mo mg cx ph (S18.1, S18.2.1, S.2.2) (vcN c)).2, fs S.2.2 (mo) 17 (nI (haN c (dmN c ph cx + (cB c) + (cB c) + (if ph then 64 else mg))))) = r20
                    have hret : mveri_f c mo mg cx ph S = (r20.1, (r20.2.1, r20.2.2.1, fs S.2.2 (mo) 17 (nI (haN c (dmN c ph cx + (cB c) + (cB c) + (if ph then 64 else mg)))))) := by
                      subst hr20
                      subst hS18
                      subst hS17
                      subst hS16
                      subst hS15
                      subst hS14
                      subst hS13
                      subst hS12
                      subst hS11
                      subst hS10
                      subst hS9
                      subst hS5
                      subst hr3
                      subst hr1
                      first | (dsimp only [mveri_f]; done) | (dsimp only [mveri_f]; exact ((((if_neg hb2).trans (if_pos hb4)).trans (if_neg (fun q => q hb6))).trans (if_pos hb8))) | exact ((((if_neg hb2).trans (if_pos hb4)).trans (if_neg (fun q => q hb6))).trans (if_pos hb8))
                    exact rn_zret C Rt dX12_verified_285 (by subst hr20; exact malike_z _ _ _ _ _) (pi_of hret) (Nat.zero_le _) (Nat.zero_le _)
                  refine rn_if_ne (tgt := 247) C dX12_verified_240 (by decide) (fun hb19 => ?_) (fun hb19 => ?_)
                  · skip
                    refine rn_iconst (v := nI 2) C dX12_verified_247 rfl ?_
                    rw [if_pos hb19] at K240_19
                    exact K240_19
                  · skip
                    refine rn_iconst (v := nI 3) C dX12_verified_243 rfl ?_
                    refine rn_goto (tgt := 248) C dX12_verified_244 (by decide) ?_
                    rw [if_neg (fun q => q hb19)] at K240_19
                    exact K240_19
                · skip
                  refine rn_iload_n C dX12_verified_235 rfl ?_
                  refine rn_aload_n C dX12_verified_236 rfl ?_
                  refine rs_getFe C dX12_verified_237 fl_X12_51 hM0 rfl ((fs_oth (by decide)).trans hcn) ?_
                  have K240_21 : Rn X 248 [(0, .ref (k_b X.1 + (mo))), (1, .int (bI ph)), (2, .int (nI (cB c))), (3, .int (nI (i235)))] [.int (nI ((if (nI (bN c)) ≠ 0 then 2 else 3))), .int (nI (i235))] (inst X.1 L (mveri_l235 c mo mg cx ph (S18.1, S18.2.1, S.2.2) i235).1 (mveri_l235 c mo mg cx ph (S18.1, S18.2.1, S.2.2) i235).2 (fs S.2.2 (mo) 17 (nI (haN c (dmN c ph cx + (cB c) + (cB c) + (if ph then 64 else mg)))))) n 0 0 := by
                    rw [show nI ((if (nI (bN c)) ≠ 0 then 2 else 3)) = nI (vcN c) from (by cases c <;> rfl)]
                    refine rs_ge (tgt := 277) C dX12_verified_248 (by decide) rfl rfl (by omega) (by omega) (fun q => absurd q (by omega)) (fun _ => ?_)
                    refine rn_aload_n C dX12_verified_251 rfl ?_
                    refine rn_bipush (v := nI 54) C dX12_verified_252 rfl ?_
                    refine rn_bipush (v := nI 54) C dX12_verified_254 rfl ?_
                    refine rn_bipush (v := nI 54) C dX12_verified_256 rfl ?_
                    refine rs_vv C dX12_verified_258 mk_X12_sum lv_X12_224 (c_msum (S := ((mveri_l235 c mo mg cx ph (S18.1, S18.2.1, S.2.2) i235).1, (mveri_l235 c mo mg cx ph (S18.1, S18.2.1, S.2.2) i235).2, fs S.2.2 (mo) 17 (nI (haN c (dmN c ph cx + (cB c) + (cB c) + (if ph then 64 else mg)))))) hM (by omega) (by omega) (by omega) ((fs_oth (by decide)).trans hcn) ((fs_oth (by decide)).trans hpc)) hM0 rfl rfl rfl rfl (by decide) (Nat.le_of_ble_eq_true rfl) (by decide) (by decide) ?_
                    rw [show (msum_f c (mo) (54) (54) (54) ((mveri_l235 c mo mg cx ph (S18.1, S18.2.1, S.2.2) i235).1, (mveri_l235 c mo mg cx ph (S18.1, S18.2.1, S.2.2) i235).2, fs S.2.2 (mo) 17 (nI (haN c (dmN c ph cx + (cB c) + (cB c) + (if ph then 64 else mg)))))).2.2 = fs S.2.2 (mo) 17 (nI (haN c (dmN c ph cx + (cB c) + (cB c) + (if ph then 64 else mg)))) from (msum_F c (mo) (54) (54) (54) ((mveri_l235 c mo mg cx ph (S18.1, S18.2.1, S.2.2) i235).1, (mveri_l235 c mo mg cx ph (S18.1, S18.2.1, S.2.2) i235).2, fs S.2.2 (mo) 17 (nI (haN c (dmN c ph cx + (cB c) + (cB c) + (if ph then 64 else mg))))))]
                    generalize hS22 : msum_f c (mo) (54) (54) (54) ((mveri_l235 c mo mg cx ph (S18.1, S18.2.1, S.2.2) i235).1, (mveri_l235 c mo mg cx ph (S18.1, S18.2.1, S.2.2) i235).2, fs S.2.2 (mo) 17 (nI (haN c (dmN c ph cx + (cB c) + (cB c) + (if ph then 64 else mg))))) = S22
                    refine rn_aload_n C dX12_verified_261 rfl ?_
                    refine rn_bipush (v := nI 57) C dX12_verified_262 rfl ?_
                    refine rn_bipush (v := nI 57) C dX12_verified_264 rfl ?_
                    refine rn_bipush (v := nI 57) C dX12_verified_266 rfl ?_
                    refine rs_vv C dX12_verified_268 mk_X12_sum lv_X12_224 (c_msum (S := (S22.1, S22.2.1, fs S.2.2 (mo) 17 (nI (haN c (dmN c ph cx + (cB c) + (cB c) + (if ph then 64 else mg)))))) hM (by omega) (by omega) (by omega) ((fs_oth (by decide)).trans hcn) ((fs_oth (by decide)).trans hpc)) hM0 rfl rfl rfl rfl (by decide) (Nat.le_of_ble_eq_true rfl) (by decide) (by decide) ?_
                    rw [show (msum_f c (mo) (57) (57) (57) (S22.1, S22.2.1, fs S.2.2 (mo) 17 (nI (haN c (dmN c ph cx + (cB c) + (cB c) + (if ph then 64 else mg)))))).2.2 = fs S.2.2 (mo) 17 (nI (haN c (dmN c ph cx + (cB c) + (cB c) + (if ph then 64 else mg)))) from (msum_F c (mo) (57) (57) (57) (S22.1, S22.2.1, fs S.2.2 (mo) 17 (nI (haN c (dmN c ph cx + (cB c) + (cB c) + (if ph then 64 else mg))))))]
                    generalize hS23 : msum_f c (mo) (57) (57) (57) (S22.1, S22.2.1, fs S.2.2 (mo) 17 (nI (haN c (dmN c ph cx + (cB c) + (cB c) + (if ph then 64 else mg))))) = S23
                    refine rn_iinc (lv' := [(0, _), (1, _), (2, _), (3, _)]) C dX12_verified_271 rfl (nI_inc _) (by decide) rfl ?_
                    refine rn_goto (tgt := 235) C dX12_verified_274 (by decide) ?_
                    have he235 : mveri_l235 c mo mg cx ph (S18.1, S18.2.1, S.2.2) (i235 + 1) = (S23.1, S23.2.1) := by
                      subst hS23
                      subst hS22
                      first | (dsimp only [mveri_l235]; done) | (dsimp only [mveri_l235]; exact rfl) | exact rfl
                    rw [he235] at ih235
                    exact rn_ks [0, 1, 2, 3] ih235 rfl
                  refine rn_if_ne (tgt := 247) C dX12_verified_240 (by decide) (fun hb21 => ?_) (fun hb21 => ?_)
                  · skip
                    refine rn_iconst (v := nI 2) C dX12_verified_247 rfl ?_
                    rw [if_pos hb21] at K240_21
                    exact K240_21
                  · skip
                    refine rn_iconst (v := nI 3) C dX12_verified_243 rfl ?_
                    refine rn_goto (tgt := 248) C dX12_verified_244 (by decide) ?_
                    rw [if_neg (fun q => q hb21)] at K240_21
                    exact K240_21
              exact lp235 0 (Nat.zero_le _)
            · skip
              refine rn_iconst (v := nI 0) C dX12_verified_135 rfl ?_
              have hret : mveri_f c mo mg cx ph S = (nI (0), ((mveri_l43 c mo (S5.1, S5.2.1, S.2.2) (cB c)), S5.2.1, S.2.2)) := by
                subst hS5
                subst hr3
                subst hr1
                first | (dsimp only [mveri_f]; done) | (dsimp only [mveri_f]; exact ((((if_neg hb2).trans (if_pos hb4)).trans (if_neg (fun q => q hb6))).trans (if_neg hb8))) | exact ((((if_neg hb2).trans (if_pos hb4)).trans (if_neg (fun q => q hb6))).trans (if_neg hb8))
              exact rn_zret C Rt dX12_verified_136 (by first | rfl | exact rfl) (pi_of hret) (Nat.zero_le _) (Nat.zero_le _)
        · skip
          refine rn_iload_n C dX12_verified_43 rfl ?_
          refine rn_iload_n C dX12_verified_44 rfl ?_
          refine rs_ge (tgt := 108) C dX12_verified_45 (by decide) rfl rfl (by omega) (by omega) (fun q => absurd q (by omega)) (fun _ => ?_)
          refine rn_aload_n C dX12_verified_48 rfl ?_
          refine rs_get C dX12_verified_49 fl_X12_41 hM0 rfl ?_
          refine rn_sipush (v := nI 1696) C dX12_verified_52 rfl ?_
          refine rn_iload_n C dX12_verified_55 rfl ?_
          refine rn_iconst (v := nI 1) C dX12_verified_56 rfl ?_
          refine rn_ishr C dX12_verified_57 (pk_shrN (by omega) _ 1 (by decide)) ?_
          refine rn_iadd C dX12_verified_58 (nI_add _ _) ?_
          refine rn_aload_n C dX12_verified_59 rfl ?_
          refine rs_get C dX12_verified_60 fl_X12_41 hM0 rfl ?_
          refine rn_sipush (v := nI 1696) C dX12_verified_63 rfl ?_
          refine rn_iload_n C dX12_verified_66 rfl ?_
          refine rn_iconst (v := nI 1) C dX12_verified_67 rfl ?_
          refine rn_ishr C dX12_verified_68 (pk_shrN (by omega) _ 1 (by decide)) ?_
          refine rn_iadd C dX12_verified_69 (nI_add _ _) ?_
          refine rs_iaload C dX12_verified_70 hm7 rfl (by omega) (by decide) ?_
          refine rn_aload_n C dX12_verified_71 rfl ?_
          refine rs_get C dX12_verified_72 fl_X12_20 hM0 rfl ?_
          refine rn_iload_n C dX12_verified_75 rfl ?_
          refine rn_iload_n C dX12_verified_76 rfl ?_
          refine rn_iadd C dX12_verified_77 (nI_add _ _) ?_
          refine rs_iaload C dX12_verified_78 hm3 rfl (by omega) (by decide) ?_
          refine rn_bipush (v := nI 8) C dX12_verified_79 rfl ?_
          refine rn_iload_n C dX12_verified_81 rfl ?_
          refine rn_iconst (v := nI 1) C dX12_verified_82 rfl ?_
          refine rn_iand C dX12_verified_83 (pk_andN (by omega) 1 (by decide)) ?_
          refine rn_imul C dX12_verified_84 (pk_mul _ _) ?_
          refine rn_ishl C dX12_verified_85 rfl ?_
          refine rn_ior C dX12_verified_86 rfl ?_
          refine rs_iastore C dX12_verified_87 hm7 rfl (by omega) (by decide) ?_
          refine rn_aload_n C dX12_verified_88 rfl ?_
          refine rs_get C dX12_verified_89 fl_X12_99 hM0 rfl ?_
          refine rn_iload_n C dX12_verified_92 rfl ?_
          refine rn_aload_n C dX12_verified_93 rfl ?_
          refine rs_get C dX12_verified_94 fl_X12_20 hM0 rfl ?_
          refine rn_iload_n C dX12_verified_97 rfl ?_
          refine rn_iload_n C dX12_verified_98 rfl ?_
          refine rn_iadd C dX12_verified_99 (nI_add _ _) ?_
          refine rs_iaload C dX12_verified_100 hm3 rfl (by omega) (by decide) ?_
          refine rs_iastore C dX12_verified_101 hm23 rfl (by omega) (by decide) ?_
          refine rn_iinc (lv' := [(0, _), (1, _), (2, _), (3, _)]) C dX12_verified_102 rfl (nI_inc _) (by decide) rfl ?_
          refine rn_goto (tgt := 43) C dX12_verified_105 (by decide) ?_
          have he43 : mveri_l43 c mo (S5.1, S5.2.1, S.2.2) (i43 + 1) = va_up (va_up (mveri_l43 c mo (S5.1, S5.2.1, S.2.2) i43) (mo + 7) (upd ((mveri_l43 c mo (S5.1, S5.2.1, S.2.2) i43) (mo + 7)) (1696 + (i43 / 2 ^ 1)) (((mveri_l43 c mo (S5.1, S5.2.1, S.2.2) i43) (mo + 7) (1696 + (i43 / 2 ^ 1))) ||| (((mveri_l43 c mo (S5.1, S5.2.1, S.2.2) i43) (mo + 3) (cB c + i43)) <<< ((nI (8 * (i43 % 2 ^ 1))) &&& 31))))) (mo + 23) (upd ((va_up (mveri_l43 c mo (S5.1, S5.2.1, S.2.2) i43) (mo + 7) (upd ((mveri_l43 c mo (S5.1, S5.2.1, S.2.2) i43) (mo + 7)) (1696 + (i43 / 2 ^ 1)) (((mveri_l43 c mo (S5.1, S5.2.1, S.2.2) i43) (mo + 7) (1696 + (i43 / 2 ^ 1))) ||| (((mveri_l43 c mo (S5.1, S5.2.1, S.2.2) i43) (mo + 3) (cB c + i43)) <<< ((nI (8 * (i43 % 2 ^ 1))) &&& 31))))) (mo + 23)) (i43) ((va_up (mveri_l43 c mo (S5.1, S5.2.1, S.2.2) i43) (mo + 7) (upd ((mveri_l43 c mo (S5.1, S5.2.1, S.2.2) i43) (mo + 7)) (1696 + (i43 / 2 ^ 1)) (((mveri_l43 c mo (S5.1, S5.2.1, S.2.2) i43) (mo + 7) (1696 + (i43 / 2 ^ 1))) ||| (((mveri_l43 c mo (S5.1, S5.2.1, S.2.2) i43) (mo + 3) (cB c + i43)) <<< ((nI (8 * (i43 % 2 ^ 1))) &&& 31))))) (mo + 3) (cB c + i43))) := by
            first | (dsimp only [mveri_l43]; done) | (dsimp only [mveri_l43]; exact rfl) | exact rfl
          rw [he43] at ih43
          exact rn_ks [0, 1, 2, 3] ih43 rfl
      exact lp43 0 (Nat.zero_le _)
    · skip
      refine rn_iconst (v := nI 0) C dX12_verified_33 rfl ?_
      have hret : mveri_f c mo mg cx ph S = (nI (0), (r3.2.1, r3.2.2.1, S.2.2)) := by
        subst hr3
        subst hr1
        first | (dsimp only [mveri_f]; done) | (dsimp only [mveri_f]; exact ((if_neg hb2).trans (if_neg (fun q => q hb4)))) | exact ((if_neg hb2).trans (if_neg (fun q => q hb4)))
      exact rn_zret C Rt dX12_verified_34 (by first | rfl | exact rfl) (pi_of hret) (Nat.zero_le _) (Nat.zero_le _)
def mlad_l388 (mo : Nat) (S : StT)  : Nat → (Nat → Nat → Int32)
  | 0 => S.1
  | i388 + 1 => let y388_0 := (mlad_l388 mo S i388); (let I16 := va_up y388_0 (mo + 4) (upd (y388_0 (mo + 4)) (i388) (((y388_0 (mo + 7) (672 + (i388 / 2 ^ 1))) >>> ((nI (8 * (i388 % 2 ^ 1))) &&& 31)) &&& (nI (255)))); I16)
def mlad_l310 (c : Bool) (mo : Nat) (S : StT)  : Nat → (Nat → Nat → Int32) × (Nat → Nat → Int64)
  | 0 => (S.1, S.2.1)
  | i310 + 1 => let y310_0 := (mlad_l310 c mo S i310).1; let y310_1 := (mlad_l310 c mo S i310).2; (if (nI ((if (((y310_0 (mo + 20) (((ldN c) - 1 - i310) / 2 ^ 3)) >>> ((nI (((ldN c) - 1 - i310) % 2 ^ 3)) &&& 31)) &&& (nI (1))) ≠ (nI (1)) then 0 else 1))) = 0 then (let S19 := mrung_f c (mo)  (y310_0, y310_1, S.2.2); (S19.1, S19.2.1)) else (let S20 := mswap_f (mo)  (y310_0, y310_1, S.2.2); (let S21 := mrung_f c (mo)  (S20.1, S20.2.1, S.2.2); (let S22 := mswap_f (mo)  (S21.1, S21.2.1, S.2.2); (S22.1, S22.2.1)))))
def mlad_l146 (c : Bool) (mo : Nat) (bs : Bool) (S : StT)  : Nat → (Nat → Nat → Int64)
  | 0 => S.2.1
  | i146 + 1 => let y146_0 := (mlad_l146 c mo bs S i146); (if (bI bs) = 0 then (if (nI (bN c)) ≠ 0 then (let J25 := va_up y146_0 (mo + 8) (vp_updL (y146_0 (mo + 8)) (i146 / 2 ^ 1) ((y146_0 (mo + 8) (i146 / 2 ^ 1)) + (((S.1 (mo + 2) (i146)).toInt64) <<< ((nI (8 * (i146 % 2 ^ 1))).toInt64 &&& 63)))); J25) else (let v27 := (if (nI (i146)) ≠ (nI (31)) then S.1 (mo + 2) (i146) else (S.1 (mo + 2) (i146)) &&& (nI (127))); (let J28 := va_up y146_0 (mo + 8) (vp_updL (y146_0 (mo + 8)) (i146 / 2 ^ 1) ((y146_0 (mo + 8) (i146 / 2 ^ 1)) + (((v27).toInt64) <<< ((nI (8 * (i146 % 2 ^ 1))).toInt64 &&& 63)))); J28))) else (if (nI (i146)) ≤ 0 then (if (nI (bN c)) ≠ 0 then (let J31 := va_up y146_0 (mo + 8) (vp_updL (y146_0 (mo + 8)) (i146 / 2 ^ 1) ((y146_0 (mo + 8) (i146 / 2 ^ 1)) + (((nI (5)).toInt64) <<< ((nI (8 * (i146 % 2 ^ 1))).toInt64 &&& 63)))); J31) else (let J32 := va_up y146_0 (mo + 8) (vp_updL (y146_0 (mo + 8)) (i146 / 2 ^ 1) ((y146_0 (mo + 8) (i146 / 2 ^ 1)) + (((nI (9)).toInt64) <<< ((nI (8 * (i146 % 2 ^ 1))).toInt64 &&& 63)))); J32)) else (let J33 := va_up y146_0 (mo + 8) (vp_updL (y146_0 (mo + 8)) (i146 / 2 ^ 1) ((y146_0 (mo + 8) (i146 / 2 ^ 1)) + (((nI (0)).toInt64) <<< ((nI (8 * (i146 % 2 ^ 1))).toInt64 &&& 63)))); J33)))
def mlad_l125 (mo : Nat) (S : StT)  : Nat → (Nat → Nat → Int64)
  | 0 => S.2.1
  | i125 + 1 => let y125_0 := (mlad_l125 mo S i125); va_up y125_0 (mo + 8) (vp_updL (y125_0 (mo + 8)) (i125) (0))
def mlad_l17 (c : Bool) (mo : Nat) (S : StT)  : Nat → (Nat → Nat → Int32)
  | 0 => S.1
  | i17 + 1 => let y17_0 := (mlad_l17 c mo S i17); (let I35 := va_up y17_0 (mo + 20) (upd (y17_0 (mo + 20)) (i17) ((if (nI (fB c)) ≤ (nI (i17)) then nI (0) else y17_0 (mo + 1) (i17)))); I35)
def mlad_f (c : Bool) (mo : Nat) (bs : Bool) (S : StT) : StT := (let I3 := va_up (mlad_l17 c mo S 57) (mo + 20) (upd ((mlad_l17 c mo S 57) (mo + 20)) (0) (((mlad_l17 c mo S 57) (mo + 20) (0)) &&& (nI ((if (nI (bN c)) ≠ 0 then 252 else 248))))); (let I5 := va_up I3 (mo + 20) (upd (I3 (mo + 20)) (fB c - 1) ((if (nI (bN c)) ≠ 0 then (I3 (mo + 20) (fB c - 1)) ||| (nI (128)) else ((I3 (mo + 20) (fB c - 1)) &&& (nI (127))) ||| (nI (64))))); (let S6 := mfold_f c (mo) (46) (I5, (mlad_l146 c mo bs (I5, (mlad_l125 mo (I5, S.2.1, S.2.2) 64), S.2.2) (fB c)), S.2.2); (let S7 := msmall_f (mo) (21) (nI (1)) (S6.1, S6.2.1, S.2.2); (let S8 := mzero_f (mo) (22) (S7.1, S7.2.1, S.2.2); (let S9 := mcopy_f (mo) (40) (46) (S8.1, S8.2.1, S.2.2); (let S10 := msmall_f (mo) (41) (nI (1)) (S9.1, S9.2.1, S.2.2); (let S12 := msmall_f (mo) (47) ((if (nI (bN c)) ≠ 0 then 39081 else 121665)) (S10.1, S10.2.1, S.2.2); (let S14 := minv_f c (mo) (22) (22) ((mlad_l310 c mo (S12.1, S12.2.1, S.2.2) (ldN c)).1, (mlad_l310 c mo (S12.1, S12.2.1, S.2.2) (ldN c)).2, S.2.2); (let S15 := mmul_f c (mo) (21) (21) (22) (S14.1, S14.2.1, S.2.2); ((mlad_l388 mo (S15.1, S15.2.1, S.2.2) (fB c)), S15.2.1, fs S.2.2 (mo) 5 (nI (fB c)))))))))))))
theorem mlad_F (c : Bool) (mo : Nat) (bs : Bool) (S : StT) : (mlad_f c mo bs S).2.2 = fs S.2.2 (mo) 5 (nI (fB c)) := by
  unfold mlad_f; first | rfl | ((repeat' split) <;> rfl)
set_option maxRecDepth 100000 in
set_option maxHeartbeats 400000 in
theorem c_mlad {k : KX} {L : Nat → Option Sh} {S : StT} {n : Nat} {c : Bool} {mo : Nat} {bs : Bool} (hM : ModelAt k L mo) (hcn : S.2.2 mo 13 = nI (bN c)) (hpc : S.2.2 mo 14 = nI (pN c)) :
    Cs k yX12_ladder cX12_ladder 5 none 5 0 0 [.ref (k_b k + (mo)), .int (bI bs)] (inst k L S.1 S.2.1 S.2.2) n (Pv k L n (mlad_f c mo bs S)) := by
  refine cs_of (by decide) (Nat.le_of_ble_eq_true rfl) ?_
  intro X hXk C Rt hnm
  subst hXk
  have hM9 := hM
  obtain ⟨hM0, hm1, hm2, hm3, hm4, hm5, hm6, hm7, hm8, hm9, hm10, hm11, hm12, hm13, hm14, hm15, hm16, hm17, hm18, hm19, hm20, hm21, hm22, hm23, hm24, hm25, hm26, hm27⟩ := hM9
  obtain ⟨hp1, hp2⟩ := pN_le c
  have hbn := bN_le c
  have hfb : 32 ≤ fB c ∧ fB c ≤ 56 := by cases c <;> decide
  obtain ⟨hf1, hf2⟩ := hfb
  have hld : 255 ≤ ldN c ∧ ldN c ≤ 448 := by cases c <;> decide
  obtain ⟨hl1, hl2⟩ := hld
  refine rn_lv [(0, .ref (k_b X.1 + (mo))), (1, .int (bI bs))] (fun q h => h) ?_
  refine rn_aload_n C dX12_ladder_0 rfl ?_
  refine rs_getFe C dX12_ladder_1 fl_X12_51 hM0 rfl hcn ?_
  have K4_1 : Rn X 14 [(0, .ref (k_b X.1 + (mo))), (1, .int (bI bs))] [.int (nI ((if (nI (bN c)) ≠ 0 then 56 else 32)))] (inst X.1 L S.1 S.2.1 S.2.2) n 0 0 := by
    rw [show nI ((if (nI (bN c)) ≠ 0 then 56 else 32)) = nI (fB c) from (by cases c <;> rfl)]
    refine rn_istore_n (lv' := [(0, _), (1, _), (2, _)]) C dX12_ladder_14 (by decide) rfl ?_
    refine rn_iconst (v := nI 0) C dX12_ladder_15 rfl ?_
    refine rn_istore_n (lv' := [(0, _), (1, _), (2, _), (3, _)]) C dX12_ladder_16 (by decide) rfl ?_
    have lp17 : ∀ i17, i17 ≤ 57 → Rn X 17 [(0, .ref (k_b X.1 + (mo))), (1, .int (bI bs)), (2, .int (nI (fB c))), (3, .int (nI (i17)))] [] (inst X.1 L (mlad_l17 c mo S i17) S.2.1 S.2.2) n 0 0 := by
      refine upto _ _ ?_ (fun i17 hi17 ih17 => ?_)
      · skip
        refine rn_iload_n C dX12_ladder_17 rfl ?_
        refine rn_bipush (v := nI 57) C dX12_ladder_18 rfl ?_
        refine rs_ge (tgt := 50) C dX12_ladder_20 (by decide) rfl rfl (by omega) (by omega) (fun _ => ?_) (fun q => absurd q (by omega))
        refine rn_aload_n C dX12_ladder_50 rfl ?_
        refine rs_get C dX12_ladder_51 fl_X12_90 hM0 rfl ?_
        refine rn_iconst (v := nI 0) C dX12_ladder_54 rfl ?_
        refine rn_aload_n C dX12_ladder_55 rfl ?_
        refine rs_get C dX12_ladder_56 fl_X12_90 hM0 rfl ?_
        refine rn_iconst (v := nI 0) C dX12_ladder_59 rfl ?_
        refine rs_iaload C dX12_ladder_60 hm20 rfl (by omega) (by decide) ?_
        refine rn_aload_n C dX12_ladder_61 rfl ?_
        refine rs_getFe C dX12_ladder_62 fl_X12_51 hM0 rfl hcn ?_
        have K65_2 : Rn X 77 [(0, .ref (k_b X.1 + (mo))), (1, .int (bI bs)), (2, .int (nI (fB c))), (3, .int (nI (57)))] [.int (nI ((if (nI (bN c)) ≠ 0 then 252 else 248))), .int ((mlad_l17 c mo S 57) (mo + 20) (0)), .int (nI (0)), .ref (k_b X.1 + (mo + 20))] (inst X.1 L (mlad_l17 c mo S 57) S.2.1 S.2.2) n 0 0 := by
          refine rn_iand C dX12_ladder_77 rfl ?_
          refine rs_iastore C dX12_ladder_78 hm20 rfl (by omega) (by decide) ?_
          refine rn_aload_n C dX12_ladder_79 rfl ?_
          refine rs_get C dX12_ladder_80 fl_X12_90 hM0 rfl ?_
          refine rn_iload_n C dX12_ladder_83 rfl ?_
          refine rn_iconst (v := nI 1) C dX12_ladder_84 rfl ?_
          refine rn_isub C dX12_ladder_85 (pk_sub (by omega)) ?_
          refine rn_aload_n C dX12_ladder_86 rfl ?_
          refine rs_getFe C dX12_ladder_87 fl_X12_51 hM0 rfl hcn ?_
          have K90_4 : Rn X 122 [(0, .ref (k_b X.1 + (mo))), (1, .int (bI bs)), (2, .int (nI (fB c))), (3, .int (nI (57)))] [.int ((if (nI (bN c)) ≠ 0 then ((va_up (mlad_l17 c mo S 57) (mo + 20) (upd ((mlad_l17 c mo S 57) (mo + 20)) (0) (((mlad_l17 c mo S 57) (mo + 20) (0)) &&& (nI ((if (nI (bN c)) ≠ 0 then 252 else 248)))))) (mo + 20) (fB c - 1)) ||| (nI (128)) else (((va_up (mlad_l17 c mo S 57) (mo + 20) (upd ((mlad_l17 c mo S 57) (mo + 20)) (0) (((mlad_l17 c mo S 57) (mo + 20) (0)) &&& (nI ((if (nI (bN c)) ≠ 0 then 252 else 248)))))) (mo + 20) (fB c - 1)) &&& (nI (127))) ||| (nI (64)))), .int (nI (fB c - 1)), .ref (k_b X.1 + (mo + 20))] (inst X.1 L (va_up (mlad_l17 c mo S 57) (mo + 20) (upd ((mlad_l17 c mo S 57) (mo + 20)) (0) (((mlad_l17 c mo S 57) (mo + 20) (0)) &&& (nI ((if (nI (bN c)) ≠ 0 then 252 else 248)))))) S.2.1 S.2.2) n 0 0 := by
            refine rs_iastore C dX12_ladder_122 hm20 rfl (by omega) (by decide) ?_
            refine rn_iconst (v := nI 0) C dX12_ladder_123 rfl ?_
            refine rn_istore_n (lv' := [(0, _), (1, _), (2, _), (3, _)]) C dX12_ladder_124 (by decide) rfl ?_
            have lp125 : ∀ i125, i125 ≤ 64 → Rn X 125 [(0, .ref (k_b X.1 + (mo))), (1, .int (bI bs)), (2, .int (nI (fB c))), (3, .int (nI (i125)))] [] (inst X.1 L (va_up (va_up (mlad_l17 c mo S 57) (mo + 20) (upd ((mlad_l17 c mo S 57) (mo + 20)) (0) (((mlad_l17 c mo S 57) (mo + 20) (0)) &&& (nI ((if (nI (bN c)) ≠ 0 then 252 else 248)))))) (mo + 20) (upd ((va_up (mlad_l17 c mo S 57) (mo + 20) (upd ((mlad_l17 c mo S 57) (mo + 20)) (0) (((mlad_l17 c mo S 57) (mo + 20) (0)) &&& (nI ((if (nI (bN c)) ≠ 0 then 252 else 248)))))) (mo + 20)) (fB c - 1) ((if (nI (bN c)) ≠ 0 then ((va_up (mlad_l17 c mo S 57) (mo + 20) (upd ((mlad_l17 c mo S 57) (mo + 20)) (0) (((mlad_l17 c mo S 57) (mo + 20) (0)) &&& (nI ((if (nI (bN c)) ≠ 0 then 252 else 248)))))) (mo + 20) (fB c - 1)) ||| (nI (128)) else (((va_up (mlad_l17 c mo S 57) (mo + 20) (upd ((mlad_l17 c mo S 57) (mo + 20)) (0) (((mlad_l17 c mo S 57) (mo + 20) (0)) &&& (nI ((if (nI (bN c)) ≠ 0 then 252 else 248)))))) (mo + 20) (fB c - 1)) &&& (nI (127))) ||| (nI (64)))))) (mlad_l125 mo ((va_up (va_up (mlad_l17 c mo S 57) (mo + 20) (upd ((mlad_l17 c mo S 57) (mo + 20)) (0) (((mlad_l17 c mo S 57) (mo + 20) (0)) &&& (nI ((if (nI (bN c)) ≠ 0 then 252 else 248)))))) (mo + 20) (upd ((va_up (mlad_l17 c mo S 57) (mo + 20) (upd ((mlad_l17 c mo S 57) (mo + 20)) (0) (((mlad_l17 c mo S 57) (mo + 20) (0)) &&& (nI ((if (nI (bN c)) ≠ 0 then 252 else 248)))))) (mo + 20)) (fB c - 1) ((if (nI (bN c)) ≠ 0 then ((va_up (mlad_l17 c mo S 57) (mo + 20) (upd ((mlad_l17 c mo S 57) (mo + 20)) (0) (((mlad_l17 c mo S 57) (mo + 20) (0)) &&& (nI ((if (nI (bN c)) ≠ 0 then 252 else 248)))))) (mo + 20) (fB c - 1)) ||| (nI (128)) else (((va_up (mlad_l17 c mo S 57) (mo + 20) (upd ((mlad_l17 c mo S 57) (mo + 20)) (0) (((mlad_l17 c mo S 57) (mo + 20) (0)) &&& (nI ((if (nI (bN c)) ≠ 0 then 252 else 248)))))) (mo + 20) (fB c - 1)) &&& (nI (127))) ||| (nI (64)))))), S.2.1, S.2.2) i125) S.2.2) n 0 0 := by
              refine upto _ _ ?_ (fun i125 hi125 ih125 => ?_)
              · skip
                refine rn_iload_n C dX12_ladder_125 rfl ?_
                refine rn_bipush (v := nI 64) C dX12_ladder_126 rfl ?_
                refine rs_ge (tgt := 144) C dX12_ladder_128 (by decide) rfl rfl (by omega) (by omega) (fun _ => ?_) (fun q => absurd q (by omega))
                refine rn_iconst (v := nI 0) C dX12_ladder_144 rfl ?_
                refine rn_istore_n (lv' := [(0, _), (1, _), (2, _), (3, _)]) C dX12_ladder_145 (by decide) rfl ?_
                have lp146 : ∀ i146, i146 ≤ fB c → Rn X 146 [(0, .ref (k_b X.1 + (mo))), (1, .int (bI bs)), (2, .int (nI (fB c))), (3, .int (nI (i146)))] [] (inst X.1 L (va_up (va_up (mlad_l17 c mo S 57) (mo + 20) (upd ((mlad_l17 c mo S 57) (mo + 20)) (0) (((mlad_l17 c mo S 57) (mo + 20) (0)) &&& (nI ((if (nI (bN c)) ≠ 0 then 252 else 248)))))) (mo + 20) (upd ((va_up (mlad_l17 c mo S 57) (mo + 20) (upd ((mlad_l17 c mo S 57) (mo + 20)) (0) (((mlad_l17 c mo S 57) (mo + 20) (0)) &&& (nI ((if (nI (bN c)) ≠ 0 then 252 else 248)))))) (mo + 20)) (fB c - 1) ((if (nI (bN c)) ≠ 0 then ((va_up (mlad_l17 c mo S 57) (mo + 20) (upd ((mlad_l17 c mo S 57) (mo + 20)) (0) (((mlad_l17 c mo S 57) (mo + 20) (0)) &&& (nI ((if (nI (bN c)) ≠ 0 then 252 else 248)))))) (mo + 20) (fB c - 1)) ||| (nI (128)) else (((va_up (mlad_l17 c mo S 57) (mo + 20) (upd ((mlad_l17 c mo S 57) (mo + 20)) (0) (((mlad_l17 c mo S 57) (mo + 20) (0)) &&& (nI ((if (nI (bN c)) ≠ 0 then 252 else 248)))))) (mo + 20) (fB c - 1)) &&& (nI (127))) ||| (nI (64)))))) (mlad_l146 c mo bs ((va_up (va_up (mlad_l17 c mo S 57) (mo + 20) (upd ((mlad_l17 c mo S 57) (mo + 20)) (0) (((mlad_l17 c mo S 57) (mo + 20) (0)) &&& (nI ((if (nI (bN c)) ≠ 0 then 252 else 248)))))) (mo + 20) (upd ((va_up (mlad_l17 c mo S 57) (mo + 20) (upd ((mlad_l17 c mo S 57) (mo + 20)) (0) (((mlad_l17 c mo S 57) (mo + 20) (0)) &&& (nI ((if (nI (bN c)) ≠ 0 then 252 else 248)))))) (mo + 20)) (fB c - 1) ((if (nI (bN c)) ≠ 0 then ((va_up (mlad_l17 c mo S 57) (mo + 20) (upd ((mlad_l17 c mo S 57) (mo + 20)) (0) (((mlad_l17 c mo S 57) (mo + 20) (0)) &&& (nI ((if (nI (bN c)) ≠ 0 then 252 else 248)))))) (mo + 20) (fB c - 1)) ||| (nI (128)) else (((va_up (mlad_l17 c mo S 57) (mo + 20) (upd ((mlad_l17 c mo S 57) (mo + 20)) (0) (((mlad_l17 c mo S 57) (mo + 20) (0)) &&& (nI ((if (nI (bN c)) ≠ 0 then 252 else 248)))))) (mo + 20) (fB c - 1)) &&& (nI (127))) ||| (nI (64)))))), (mlad_l125 mo ((va_up (va_up (mlad_l17 c mo S 57) (mo + 20) (upd ((mlad_l17 c mo S 57) (mo + 20)) (0) (((mlad_l17 c mo S 57) (mo + 20) (0)) &&& (nI ((if (nI (bN c)) ≠ 0 then 252 else 248)))))) (mo + 20) (upd ((va_up (mlad_l17 c mo S 57) (mo + 20) (upd ((mlad_l17 c mo S 57) (mo + 20)) (0) (((mlad_l17 c mo S 57) (mo + 20) (0)) &&& (nI ((if (nI (bN c)) ≠ 0 then 252 else 248)))))) (mo + 20)) (fB c - 1) ((if (nI (bN c)) ≠ 0 then ((va_up (mlad_l17 c mo S 57) (mo + 20) (upd ((mlad_l17 c mo S 57) (mo + 20)) (0) (((mlad_l17 c mo S 57) (mo + 20) (0)) &&& (nI ((if (nI (bN c)) ≠ 0 then 252 else 248)))))) (mo + 20) (fB c - 1)) ||| (nI (128)) else (((va_up (mlad_l17 c mo S 57) (mo + 20) (upd ((mlad_l17 c mo S 57) (mo + 20)) (0) (((mlad_l17 c mo S 57) (mo + 20) (0)) &&& (nI ((if (nI (bN c)) ≠ 0 then 252 else 248)))))) (mo + 20) (fB c - 1)) &&& (nI (127))) ||| (nI (64)))))), S.2.1, S.2.2) 64), S.2.2) i146) S.2.2) n 0 0 := by
                  refine upto _ _ ?_ (fun i146 hi146 ih146 => ?_)
                  · skip
                    refine rn_iload_n C dX12_ladder_146 rfl ?_
                    refine rn_iload_n C dX12_ladder_147 rfl ?_
                    refine rs_ge (tgt := 239) C dX12_ladder_148 (by decide) rfl rfl (by omega) (by omega) (fun _ => ?_) (fun q => absurd q (by omega))
                    refine rn_aload_n C dX12_ladder_239 rfl ?_
                    refine rn_bipush (v := nI 46) C dX12_ladder_240 rfl ?_
                    refine rs_vv C dX12_ladder_242 mk_X12_fold lv_X12_189 (c_mfold (S := ((va_up (va_up (mlad_l17 c mo S 57) (mo + 20) (upd ((mlad_l17 c mo S 57) (mo + 20)) (0) (((mlad_l17 c mo S 57) (mo + 20) (0)) &&& (nI ((if (nI (bN c)) ≠ 0 then 252 else 248)))))) (mo + 20) (upd ((va_up (mlad_l17 c mo S 57) (mo + 20) (upd ((mlad_l17 c mo S 57) (mo + 20)) (0) (((mlad_l17 c mo S 57) (mo + 20) (0)) &&& (nI ((if (nI (bN c)) ≠ 0 then 252 else 248)))))) (mo + 20)) (fB c - 1) ((if (nI (bN c)) ≠ 0 then ((va_up (mlad_l17 c mo S 57) (mo + 20) (upd ((mlad_l17 c mo S 57) (mo + 20)) (0) (((mlad_l17 c mo S 57) (mo + 20) (0)) &&& (nI ((if (nI (bN c)) ≠ 0 then 252 else 248)))))) (mo + 20) (fB c - 1)) ||| (nI (128)) else (((va_up (mlad_l17 c mo S 57) (mo + 20) (upd ((mlad_l17 c mo S 57) (mo + 20)) (0) (((mlad_l17 c mo S 57) (mo + 20) (0)) &&& (nI ((if (nI (bN c)) ≠ 0 then 252 else 248)))))) (mo + 20) (fB c - 1)) &&& (nI (127))) ||| (nI (64)))))), (mlad_l146 c mo bs ((va_up (va_up (mlad_l17 c mo S 57) (mo + 20) (upd ((mlad_l17 c mo S 57) (mo + 20)) (0) (((mlad_l17 c mo S 57) (mo + 20) (0)) &&& (nI ((if (nI (bN c)) ≠ 0 then 252 else 248)))))) (mo + 20) (upd ((va_up (mlad_l17 c mo S 57) (mo + 20) (upd ((mlad_l17 c mo S 57) (mo + 20)) (0) (((mlad_l17 c mo S 57) (mo + 20) (0)) &&& (nI ((if (nI (bN c)) ≠ 0 then 252 else 248)))))) (mo + 20)) (fB c - 1) ((if (nI (bN c)) ≠ 0 then ((va_up (mlad_l17 c mo S 57) (mo + 20) (upd ((mlad_l17 c mo S 57) (mo + 20)) (0) (((mlad_l17 c mo S 57) (mo + 20) (0)) &&& (nI ((if (nI (bN c)) ≠ 0 then 252 else 248)))))) (mo + 20) (fB c - 1)) ||| (nI (128)) else (((va_up (mlad_l17 c mo S 57) (mo + 20) (upd ((mlad_l17 c mo S 57) (mo + 20)) (0) (((mlad_l17 c mo S 57) (mo + 20) (0)) &&& (nI ((if (nI (bN c)) ≠ 0 then 252 else 248)))))) (mo + 20) (fB c - 1)) &&& (nI (127))) ||| (nI (64)))))), (mlad_l125 mo ((va_up (va_up (mlad_l17 c mo S 57) (mo + 20) (upd ((mlad_l17 c mo S 57) (mo + 20)) (0) (((mlad_l17 c mo S 57) (mo + 20) (0)) &&& (nI ((if (nI (bN c)) ≠ 0 then 252 else 248)))))) (mo + 20) (upd ((va_up (mlad_l17 c mo S 57) (mo + 20) (upd ((mlad_l17 c mo S 57) (mo + 20)) (0) (((mlad_l17 c mo S 57) (mo + 20) (0)) &&& (nI ((if (nI (bN c)) ≠ 0 then 252 else 248)))))) (mo + 20)) (fB c - 1) ((if (nI (bN c)) ≠ 0 then ((va_up (mlad_l17 c mo S 57) (mo + 20) (upd ((mlad_l17 c mo S 57) (mo + 20)) (0) (((mlad_l17 c mo S 57) (mo + 20) (0)) &&& (nI ((if (nI (bN c)) ≠ 0 then 252 else 248)))))) (mo + 20) (fB c - 1)) ||| (nI (128)) else (((va_up (mlad_l17 c mo S 57) (mo + 20) (upd ((mlad_l17 c mo S 57) (mo + 20)) (0) (((mlad_l17 c mo S 57) (mo + 20) (0)) &&& (nI ((if (nI (bN c)) ≠ 0 then 252 else 248)))))) (mo + 20) (fB c - 1)) &&& (nI (127))) ||| (nI (64)))))), S.2.1, S.2.2) 64), S.2.2) (fB c)), S.2.2)) hM (by omega) hcn hpc) hM0 rfl rfl rfl rfl (by decide) (Nat.le_of_ble_eq_true rfl) (by decide) (by decide) ?_
                    rw [show (mfold_f c (mo) (46) ((va_up (va_up (mlad_l17 c mo S 57) (mo + 20) (upd ((mlad_l17 c mo S 57) (mo + 20)) (0) (((mlad_l17 c mo S 57) (mo + 20) (0)) &&& (nI ((if (nI (bN c)) ≠ 0 then 252 else 248)))))) (mo + 20) (upd ((va_up (mlad_l17 c mo S 57) (mo + 20) (upd ((mlad_l17 c mo S 57) (mo + 20)) (0) (((mlad_l17 c mo S 57) (mo + 20) (0)) &&& (nI ((if (nI (bN c)) ≠ 0 then 252 else 248)))))) (mo + 20)) (fB c - 1) ((if (nI (bN c)) ≠ 0 then ((va_up (mlad_l17 c mo S 57) (mo + 20) (upd ((mlad_l17 c mo S 57) (mo + 20)) (0) (((mlad_l17 c mo S 57) (mo + 20) (0)) &&& (nI ((if (nI (bN c)) ≠ 0 then 252 else 248)))))) (mo + 20) (fB c - 1)) ||| (nI (128)) else (((va_up (mlad_l17 c mo S 57) (mo + 20) (upd ((mlad_l17 c mo S 57) (mo + 20)) (0) (((mlad_l17 c mo S 57) (mo + 20) (0)) &&& (nI ((if (nI (bN c)) ≠ 0 then 252 else 248)))))) (mo + 20) (fB c - 1)) &&& (nI (127))) ||| (nI (64)))))), (mlad_l146 c mo bs ((va_up (va_up (mlad_l17 c mo S 57) (mo + 20) (upd ((mlad_l17 c mo S 57) (mo + 20)) (0) (((mlad_l17 c mo S 57) (mo + 20) (0)) &&& (nI ((if (nI (bN c)) ≠ 0 then 252 else 248)))))) (mo + 20) (upd ((va_up (mlad_l17 c mo S 57) (mo + 20) (upd ((mlad_l17 c mo S 57) (mo + 20)) (0) (((mlad_l17 c mo S 57) (mo + 20) (0)) &&& (nI ((if (nI (bN c)) ≠ 0 then 252 else 248)))))) (mo + 20)) (fB c - 1) ((if (nI (bN c)) ≠ 0 then ((va_up (mlad_l17 c mo S 57) (mo + 20) (upd ((mlad_l17 c mo S 57) (mo + 20)) (0) (((mlad_l17 c mo S 57) (mo + 20) (0)) &&& (nI ((if (nI (bN c)) ≠ 0 then 252 else 248)))))) (mo + 20) (fB c - 1)) ||| (nI (128)) else (((va_up (mlad_l17 c mo S 57) (mo + 20) (upd ((mlad_l17 c mo S 57) (mo + 20)) (0) (((mlad_l17 c mo S 57) (mo + 20) (0)) &&& (nI ((if (nI (bN c)) ≠ 0 then 252 else 248)))))) (mo + 20) (fB c - 1)) &&& (nI (127))) ||| (nI (64)))))), (mlad_l125 mo ((va_up (va_up (mlad_l17 c mo S 57) (mo + 20) (upd ((mlad_l17 c mo S 57) (mo + 20)) (0) (((mlad_l17 c mo S 57) (mo + 20) (0)) &&& (nI ((if (nI (bN c)) ≠ 0 then 252 else 248)))))) (mo + 20) (upd ((va_up (mlad_l17 c mo S 57) (mo + 20) (upd ((mlad_l17 c mo S 57) (mo + 20)) (0) (((mlad_l17 c mo S 57) (mo + 20) (0)) &&& (nI ((if (nI (bN c)) ≠ 0 then 252 else 248)))))) (mo + 20)) (fB c - 1) ((if (nI (bN c)) ≠ 0 then ((va_up (mlad_l17 c mo S 57) (mo + 20) (upd ((mlad_l17 c mo S 57) (mo + 20)) (0) (((mlad_l17 c mo S 57) (mo + 20) (0)) &&& (nI ((if (nI (bN c)) ≠ 0 then 252 else 248)))))) (mo + 20) (fB c - 1)) ||| (nI (128)) else (((va_up (mlad_l17 c mo S 57) (mo + 20) (upd ((mlad_l17 c mo S 57) (mo + 20)) (0) (((mlad_l17 c mo S 57) (mo + 20) (0)) &&& (nI ((if (nI (bN c)) ≠ 0 then 252 else 248)))))) (mo + 20) (fB c - 1)) &&& (nI (127))) ||| (nI (64)))))), S.2.1, S.2.2) 64), S.2.2) (fB c)), S.2.2)).2.2 = S.2.2 from (mfold_F c (mo) (46) ((va_up (va_up (mlad_l17 c mo S 57) (mo + 20) (upd ((mlad_l17 c mo S 57) (mo + 20)) (0) (((mlad_l17 c mo S 57) (mo + 20) (0)) &&& (nI ((if (nI (bN c)) ≠ 0 then 252 else 248)))))) (mo + 20) (upd ((va_up (mlad_l17 c mo S 57) (mo + 20) (upd ((mlad_l17 c mo S 57) (mo + 20)) (0) (((mlad_l17 c mo S 57) (mo + 20) (0)) &&& (nI ((if (nI (bN c)) ≠ 0 then 252 else 248)))))) (mo + 20)) (fB c - 1) ((if (nI (bN c)) ≠ 0 then ((va_up (mlad_l17 c mo S 57) (mo + 20) (upd ((mlad_l17 c mo S 57) (mo + 20)) (0) (((mlad_l17 c mo S 57) (mo + 20) (0)) &&& (nI ((if (nI (bN c)) ≠ 0 then 252 else 248)))))) (mo + 20) (fB c - 1)) ||| (nI (128)) else (((va_up (mlad_l17 c mo S 57) (mo + 20) (upd ((mlad_l17 c mo S 57) (mo + 20)) (0) (((mlad_l17 c mo S 57) (mo + 20) (0)) &&& (nI ((if (nI (bN c)) ≠ 0 then 252 else 248)))))) (mo + 20) (fB c - 1)) &&& (nI (127))) ||| (nI (64)))))), (mlad_l146 c mo bs ((va_up (va_up (mlad_l17 c mo S 57) (mo + 20) (upd ((mlad_l17 c mo S 57) (mo + 20)) (0) (((mlad_l17 c mo S 57) (mo + 20) (0)) &&& (nI ((if (nI (bN c)) ≠ 0 then 252 else 248)))))) (mo + 20) (upd ((va_up (mlad_l17 c mo S 57) (mo + 20) (upd ((mlad_l17 c mo S 57) (mo + 20)) (0) (((mlad_l17 c mo S 57) (mo + 20) (0)) &&& (nI ((if (nI (bN c)) ≠ 0 then 252 else 248)))))) (mo + 20)) (fB c - 1) ((if (nI (bN c)) ≠ 0 then ((va_up (mlad_l17 c mo S 57) (mo + 20) (upd ((mlad_l17 c mo S 57) (mo + 20)) (0) (((mlad_l17 c mo S 57) (mo + 20) (0)) &&& (nI ((if (nI (bN c)) ≠ 0 then 252 else 248)))))) (mo + 20) (fB c - 1)) ||| (nI (128)) else (((va_up (mlad_l17 c mo S 57) (mo + 20) (upd ((mlad_l17 c mo S 57) (mo + 20)) (0) (((mlad_l17 c mo S 57) (mo + 20) (0)) &&& (nI ((if (nI (bN c)) ≠ 0 then 252 else 248)))))) (mo + 20) (fB c - 1)) &&& (nI (127))) ||| (nI (64)))))), (mlad_l125 mo ((va_up (va_up (mlad_l17 c mo S 57) (mo + 20) (upd ((mlad_l17 c mo S 57) (mo + 20)) (0) (((mlad_l17 c mo S 57) (mo + 20) (0)) &&& (nI ((if (nI (bN c)) ≠ 0 then 252 else 248)))))) (mo + 20) (upd ((va_up (mlad_l17 c mo S 57) (mo + 20) (upd ((mlad_l17 c mo S 57) (mo + 20)) (0) (((mlad_l17 c mo S 57) (mo + 20) (0)) &&& (nI ((if (nI (bN c)) ≠ 0 then 252 else 248)))))) (mo + 20)) (fB c - 1) ((if (nI (bN c)) ≠ 0 then ((va_up (mlad_l17 c mo S 57) (mo + 20) (upd ((mlad_l17 c mo S 57) (mo + 20)) (0) (((mlad_l17 c mo S 57) (mo + 20) (0)) &&& (nI ((if (nI (bN c)) ≠ 0 then 252 else 248)))))) (mo + 20) (fB c - 1)) ||| (nI (128)) else (((va_up (mlad_l17 c mo S 57) (mo + 20) (upd ((mlad_l17 c mo S 57) (mo + 20)) (0) (((mlad_l17 c mo S 57) (mo + 20) (0)) &&& (nI ((if (nI (bN c)) ≠ 0 then 252 else 248)))))) (mo + 20) (fB c - 1)) &&& (nI (127))) ||| (nI (64)))))), S.2.1, S.2.2) 64), S.2.2) (fB c)), S.2.2))]
                    generalize hS6 : mfold_f c (mo) (46) ((va_up (va_up (mlad_l17 c mo S 57) (mo + 20) (upd ((mlad_l17 c mo S 57) (mo + 20)) (0) (((mlad_l17 c mo S 57) (mo + 20) (0)) &&& (nI ((if (nI (bN c)) ≠ 0 then 252 else 248)))))) (mo + 20) (upd ((va_up (mlad_l17 c mo S 57) (mo + 20) (upd ((mlad_l17 c mo S 57) (mo + 20)) (0) (((mlad_l17 c mo S 57) (mo + 20) (0)) &&& (nI ((if (nI (bN c)) ≠ 0 then 252 else 248)))))) (mo + 20)) (fB c - 1) ((if (nI (bN c)) ≠ 0 then ((va_up (mlad_l17 c mo S 57) (mo + 20) (upd ((mlad_l17 c mo S 57) (mo + 20)) (0) (((mlad_l17 c mo S 57) (mo + 20) (0)) &&& (nI ((if (nI (bN c)) ≠ 0 then 252 else 248)))))) (mo + 20) (fB c - 1)) ||| (nI (128)) else (((va_up (mlad_l17 c mo S 57) (mo + 20) (upd ((mlad_l17 c mo S 57) (mo + 20)) (0) (((mlad_l17 c mo S 57) (mo + 20) (0)) &&& (nI ((if (nI (bN c)) ≠ 0 then 252 else 248)))))) (mo + 20) (fB c - 1)) &&& (nI (127))) ||| (nI (64)))))), (mlad_l146 c mo bs ((va_up (va_up (mlad_l17 c mo S 57) (mo + 20) (upd ((mlad_l17 c mo S 57) (mo + 20)) (0) (((mlad_l17 c mo S 57) (mo + 20) (0)) &&& (nI ((if (nI (bN c)) ≠ 0 then 252 else 248)))))) (mo + 20) (upd ((va_up (mlad_l17 c mo S 57) (mo + 20) (upd ((mlad_l17 c mo S 57) (mo + 20)) (0) (((mlad_l17 c mo S 57) (mo + 20) (0)) &&& (nI ((if (nI (bN c)) ≠ 0 then 252 else 248)))))) (mo + 20)) (fB c - 1) ((if (nI (bN c)) ≠ 0 then ((va_up (mlad_l17 c mo S 57) (mo + 20) (upd ((mlad_l17 c mo S 57) (mo + 20)) (0) (((mlad_l17 c mo S 57) (mo + 20) (0)) &&& (nI ((if (nI (bN c)) ≠ 0 then 252 else 248)))))) (mo + 20) (fB c - 1)) ||| (nI (128)) else (((va_up (mlad_l17 c mo S 57) (mo + 20) (upd ((mlad_l17 c mo S 57) (mo + 20)) (0) (((mlad_l17 c mo S 57) (mo + 20) (0)) &&& (nI ((if (nI (bN c)) ≠ 0 then 252 else 248)))))) (mo + 20) (fB c - 1)) &&& (nI (127))) ||| (nI (64)))))), (mlad_l125 mo ((va_up (va_up (mlad_l17 c mo S 57) (mo + 20) (upd ((mlad_l17 c mo S 57) (mo + 20)) (0) (((mlad_l17 c mo S 57) (mo + 20) (0)) &&& (nI ((if (nI (bN c)) ≠ 0 then 252 else 248)))))) (mo + 20) (upd ((va_up (mlad_l17 c mo S 57) (mo + 20) (upd ((mlad_l17 c mo S 57) (mo + 20)) (0) (((mlad_l17 c mo S 57) (mo + 20) (0)) &&& (nI ((if (nI (bN c)) ≠ 0 then 252 else 248)))))) (mo + 20)) (fB c - 1) ((if (nI (bN c)) ≠ 0 then ((va_up (mlad_l17 c mo S 57) (mo + 20) (upd ((mlad_l17 c mo S 57) (mo + 20)) (0) (((mlad_l17 c mo S 57) (mo + 20) (0)) &&& (nI ((if (nI (bN c)) ≠ 0 then 252 else 248)))))) (mo + 20) (fB c - 1)) ||| (nI (128)) else (((va_up (mlad_l17 c mo S 57) (mo + 20) (upd ((mlad_l17 c mo S 57) (mo + 20)) (0) (((mlad_l17 c mo S 57) (mo + 20) (0)) &&& (nI ((if (nI (bN c)) ≠ 0 then 252 else 248)))))) (mo + 20) (fB c - 1)) &&& (nI (127))) ||| (nI (64)))))), S.2.1, S.2.2) 64), S.2.2) (fB c)), S.2.2) = S6
                    refine rn_aload_n C dX12_ladder_245 rfl ?_
                    refine rn_bipush (v := nI 21) C dX12_ladder_246 rfl ?_
                    refine rn_iconst (v := nI 1) C dX12_ladder_248 rfl ?_
                    refine rs_vv C dX12_ladder_249 mk_X12_small lv_X12_136 (c_msmall (S := (S6.1, S6.2.1, S.2.2)) hM (by omega)) hM0 rfl rfl rfl rfl (by decide) (Nat.le_of_ble_eq_true rfl) (by decide) (by decide) ?_
                    rw [show (msmall_f (mo) (21) (nI (1)) (S6.1, S6.2.1, S.2.2)).2.2 = S.2.2 from (msmall_F (mo) (21) (nI (1)) (S6.1, S6.2.1, S.2.2))]
                    generalize hS7 : msmall_f (mo) (21) (nI (1)) (S6.1, S6.2.1, S.2.2) = S7
                    refine rn_aload_n C dX12_ladder_252 rfl ?_
                    refine rn_bipush (v := nI 22) C dX12_ladder_253 rfl ?_
                    refine rs_vv C dX12_ladder_255 mk_X12_zero lv_X12_148 (c_mzero (S := (S7.1, S7.2.1, S.2.2)) hM (by omega)) hM0 rfl rfl rfl rfl (by decide) (Nat.le_of_ble_eq_true rfl) (by decide) (by decide) ?_
                    rw [show (mzero_f (mo) (22) (S7.1, S7.2.1, S.2.2)).2.2 = S.2.2 from (mzero_F (mo) (22) (S7.1, S7.2.1, S.2.2))]
                    generalize hS8 : mzero_f (mo) (22) (S7.1, S7.2.1, S.2.2) = S8
                    refine rn_aload_n C dX12_ladder_258 rfl ?_
                    refine rn_bipush (v := nI 40) C dX12_ladder_259 rfl ?_
                    refine rn_bipush (v := nI 46) C dX12_ladder_261 rfl ?_
                    refine rs_vv C dX12_ladder_263 mk_X12_copy lv_X12_194 (c_mcopy (S := (S8.1, S8.2.1, S.2.2)) hM (by omega) (by omega)) hM0 rfl rfl rfl rfl (by decide) (Nat.le_of_ble_eq_true rfl) (by decide) (by decide) ?_
                    rw [show (mcopy_f (mo) (40) (46) (S8.1, S8.2.1, S.2.2)).2.2 = S.2.2 from (mcopy_F (mo) (40) (46) (S8.1, S8.2.1, S.2.2))]
                    generalize hS9 : mcopy_f (mo) (40) (46) (S8.1, S8.2.1, S.2.2) = S9
                    refine rn_aload_n C dX12_ladder_266 rfl ?_
                    refine rn_bipush (v := nI 41) C dX12_ladder_267 rfl ?_
                    refine rn_iconst (v := nI 1) C dX12_ladder_269 rfl ?_
                    refine rs_vv C dX12_ladder_270 mk_X12_small lv_X12_136 (c_msmall (S := (S9.1, S9.2.1, S.2.2)) hM (by omega)) hM0 rfl rfl rfl rfl (by decide) (Nat.le_of_ble_eq_true rfl) (by decide) (by decide) ?_
                    rw [show (msmall_f (mo) (41) (nI (1)) (S9.1, S9.2.1, S.2.2)).2.2 = S.2.2 from (msmall_F (mo) (41) (nI (1)) (S9.1, S9.2.1, S.2.2))]
                    generalize hS10 : msmall_f (mo) (41) (nI (1)) (S9.1, S9.2.1, S.2.2) = S10
                    refine rn_aload_n C dX12_ladder_273 rfl ?_
                    refine rn_bipush (v := nI 47) C dX12_ladder_274 rfl ?_
                    refine rn_aload_n C dX12_ladder_276 rfl ?_
                    refine rs_getFe C dX12_ladder_277 fl_X12_51 hM0 rfl hcn ?_
                    have K280_11 : Rn X 290 [(0, .ref (k_b X.1 + (mo))), (1, .int (bI bs)), (2, .int (nI (fB c))), (3, .int (nI ((fB c))))] [.int ((if (nI (bN c)) ≠ 0 then 39081 else 121665)), .int (nI (47)), .ref (k_b X.1 + (mo))] (inst X.1 L S10.1 S10.2.1 S.2.2) n 0 0 := by
                      refine rs_vv C dX12_ladder_290 mk_X12_small lv_X12_136 (c_msmall (S := (S10.1, S10.2.1, S.2.2)) hM (by omega)) hM0 rfl rfl rfl rfl (by decide) (Nat.le_of_ble_eq_true rfl) (by decide) (by decide) ?_
                      rw [show (msmall_f (mo) (47) ((if (nI (bN c)) ≠ 0 then 39081 else 121665)) (S10.1, S10.2.1, S.2.2)).2.2 = S.2.2 from (msmall_F (mo) (47) ((if (nI (bN c)) ≠ 0 then 39081 else 121665)) (S10.1, S10.2.1, S.2.2))]
                      generalize hS12 : msmall_f (mo) (47) ((if (nI (bN c)) ≠ 0 then 39081 else 121665)) (S10.1, S10.2.1, S.2.2) = S12
                      refine rn_aload_n C dX12_ladder_293 rfl ?_
                      refine rs_getFe C dX12_ladder_294 fl_X12_51 hM0 rfl hcn ?_
                      have K297_13 : Rn X 309 [(0, .ref (k_b X.1 + (mo))), (1, .int (bI bs)), (2, .int (nI (fB c))), (3, .int (nI ((fB c))))] [.int (nI ((if (nI (bN c)) ≠ 0 then 447 else 254)))] (inst X.1 L S12.1 S12.2.1 S.2.2) n 0 0 := by
                        rw [show nI ((if (nI (bN c)) ≠ 0 then 447 else 254)) = nI (ldN c - 1) from (by cases c <;> rfl)]
                        refine rn_istore_n (lv' := [(0, _), (1, _), (2, _), (3, _)]) C dX12_ladder_309 (by decide) rfl ?_
                        have lp310 : ∀ i310, i310 ≤ ldN c → Rn X 310 [(0, .ref (k_b X.1 + (mo))), (1, .int (bI bs)), (2, .int (nI (fB c))), (3, .int (dn ((ldN c) - i310)))] [] (inst X.1 L (mlad_l310 c mo (S12.1, S12.2.1, S.2.2) i310).1 (mlad_l310 c mo (S12.1, S12.2.1, S.2.2) i310).2 S.2.2) n 0 0 := by
                          refine upto _ _ ?_ (fun i310 hi310 ih310 => ?_)
                          · skip
                            rw [dn_end]
                            refine rn_iload_n C dX12_ladder_310 rfl ?_
                            refine rn_if_lt (tgt := 368) C dX12_ladder_311 (by decide) (fun _ => ?_) (fun q => absurd (by decide) q)
                            refine rn_aload_n C dX12_ladder_368 rfl ?_
                            refine rn_bipush (v := nI 22) C dX12_ladder_369 rfl ?_
                            refine rn_bipush (v := nI 22) C dX12_ladder_371 rfl ?_
                            refine rs_vv C dX12_ladder_373 mk_X12_inverse lv_X12_141 (c_minv (S := ((mlad_l310 c mo (S12.1, S12.2.1, S.2.2) (ldN c)).1, (mlad_l310 c mo (S12.1, S12.2.1, S.2.2) (ldN c)).2, S.2.2)) hM (by omega) (by omega) hcn hpc) hM0 rfl rfl rfl rfl (by decide) (Nat.le_of_ble_eq_true rfl) (by decide) (by decide) ?_
                            rw [show (minv_f c (mo) (22) (22) ((mlad_l310 c mo (S12.1, S12.2.1, S.2.2) (ldN c)).1, (mlad_l310 c mo (S12.1, S12.2.1, S.2.2) (ldN c)).2, S.2.2)).2.2 = S.2.2 from (minv_F c (mo) (22) (22) ((mlad_l310 c mo (S12.1, S12.2.1, S.2.2) (ldN c)).1, (mlad_l310 c mo (S12.1, S12.2.1, S.2.2) (ldN c)).2, S.2.2))]
                            generalize hS14 : minv_f c (mo) (22) (22) ((mlad_l310 c mo (S12.1, S12.2.1, S.2.2) (ldN c)).1, (mlad_l310 c mo (S12.1, S12.2.1, S.2.2) (ldN c)).2, S.2.2) = S14
                            refine rn_aload_n C dX12_ladder_376 rfl ?_
                            refine rn_bipush (v := nI 21) C dX12_ladder_377 rfl ?_
                            refine rn_bipush (v := nI 21) C dX12_ladder_379 rfl ?_
                            refine rn_bipush (v := nI 22) C dX12_ladder_381 rfl ?_
                            refine rs_vv C dX12_ladder_383 mk_X12_mul lv_X12_144 (c_mmul (S := (S14.1, S14.2.1, S.2.2)) hM (by omega) (by omega) (by omega) hcn hpc) hM0 rfl rfl rfl rfl (by decide) (Nat.le_of_ble_eq_true rfl) (by decide) (by decide) ?_
                            rw [show (mmul_f c (mo) (21) (21) (22) (S14.1, S14.2.1, S.2.2)).2.2 = S.2.2 from (mmul_F c (mo) (21) (21) (22) (S14.1, S14.2.1, S.2.2))]
                            generalize hS15 : mmul_f c (mo) (21) (21) (22) (S14.1, S14.2.1, S.2.2) = S15
                            refine rn_iconst (v := nI 0) C dX12_ladder_386 rfl ?_
                            refine rn_istore_n (lv' := [(0, _), (1, _), (2, _), (3, _)]) C dX12_ladder_387 (by decide) rfl ?_
                            have lp388 : ∀ i388, i388 ≤ fB c → Rn X 388 [(0, .ref (k_b X.1 + (mo))), (1, .int (bI bs)), (2, .int (nI (fB c))), (3, .int (nI (i388)))] [] (inst X.1 L (mlad_l388 mo (S15.1, S15.2.1, S.2.2) i388) S15.2.1 S.2.2) n 0 0 := by
                              refine upto _ _ ?_ (fun i388 hi388 ih388 => ?_)
                              · skip
                                refine rn_iload_n C dX12_ladder_388 rfl ?_
                                refine rn_iload_n C dX12_ladder_389 rfl ?_
                                refine rs_ge (tgt := 428) C dX12_ladder_390 (by decide) rfl rfl (by omega) (by omega) (fun _ => ?_) (fun q => absurd q (by omega))
                                refine rn_aload_n C dX12_ladder_428 rfl ?_
                                refine rn_iload_n C dX12_ladder_429 rfl ?_
                                refine rs_putF C dX12_ladder_430 fp_X12_26 hM0 rfl ?_
                                have hret : mlad_f c mo bs S = ((mlad_l388 mo (S15.1, S15.2.1, S.2.2) (fB c)), S15.2.1, fs S.2.2 (mo) 5 (nI (fB c))) := by
                                  subst hS15
                                  subst hS14
                                  subst hS12
                                  subst hS10
                                  subst hS9
                                  subst hS8
                                  subst hS7
                                  subst hS6
                                  first | (dsimp only [mlad_f]; done) | (dsimp only [mlad_f]; exact rfl) | exact rfl
                                exact rn_vret C Rt dX12_ladder_433 (pv_of hret) (Nat.zero_le _) (Nat.zero_le _)
                              · skip
                                refine rn_iload_n C dX12_ladder_388 rfl ?_
                                refine rn_iload_n C dX12_ladder_389 rfl ?_
                                refine rs_ge (tgt := 428) C dX12_ladder_390 (by decide) rfl rfl (by omega) (by omega) (fun q => absurd q (by omega)) (fun _ => ?_)
                                refine rn_aload_n C dX12_ladder_393 rfl ?_
                                refine rs_get C dX12_ladder_394 fl_X12_23 hM0 rfl ?_
                                refine rn_iload_n C dX12_ladder_397 rfl ?_
                                refine rn_aload_n C dX12_ladder_398 rfl ?_
                                refine rs_get C dX12_ladder_399 fl_X12_41 hM0 rfl ?_
                                refine rn_sipush (v := nI 672) C dX12_ladder_402 rfl ?_
                                refine rn_iload_n C dX12_ladder_405 rfl ?_
                                refine rn_iconst (v := nI 1) C dX12_ladder_406 rfl ?_
                                refine rn_ishr C dX12_ladder_407 (pk_shrN (by omega) _ 1 (by decide)) ?_
                                refine rn_iadd C dX12_ladder_408 (nI_add _ _) ?_
                                refine rs_iaload C dX12_ladder_409 hm7 rfl (by omega) (by decide) ?_
                                refine rn_bipush (v := nI 8) C dX12_ladder_410 rfl ?_
                                refine rn_iload_n C dX12_ladder_412 rfl ?_
                                refine rn_iconst (v := nI 1) C dX12_ladder_413 rfl ?_
                                refine rn_iand C dX12_ladder_414 (pk_andN (by omega) 1 (by decide)) ?_
                                refine rn_imul C dX12_ladder_415 (pk_mul _ _) ?_
                                refine rn_ishr C dX12_ladder_416 rfl ?_
                                refine rn_sipush (v := nI 255) C dX12_ladder_417 rfl ?_
                                refine rn_iand C dX12_ladder_420 rfl ?_
                                refine rs_iastore C dX12_ladder_421 hm4 rfl (by omega) (by decide) ?_
                                refine rn_iinc (lv' := [(0, _), (1, _), (2, _), (3, _)]) C dX12_ladder_422 rfl (nI_inc _) (by decide) rfl ?_
                                refine rn_goto (tgt := 388) C dX12_ladder_425 (by decide) ?_
                                have he388 : mlad_l388 mo (S15.1, S15.2.1, S.2.2) (i388 + 1) = (va_up (mlad_l388 mo (S15.1, S15.2.1, S.2.2) i388) (mo + 4) (upd ((mlad_l388 mo (S15.1, S15.2.1, S.2.2) i388) (mo + 4)) (i388) ((((mlad_l388 mo (S15.1, S15.2.1, S.2.2) i388) (mo + 7) (672 + (i388 / 2 ^ 1))) >>> ((nI (8 * (i388 % 2 ^ 1))) &&& 31)) &&& (nI (255))))) := by
                                  first | (dsimp only [mlad_l388]; done) | (dsimp only [mlad_l388]; exact rfl) | exact rfl
                                rw [he388] at ih388
                                exact rn_ks [0, 1, 2, 3] ih388 rfl
                            exact lp388 0 (Nat.zero_le _)
                          · skip
                            rw [dn_at hi310]
                            refine rn_iload_n C dX12_ladder_310 rfl ?_
                            refine rs_lt0 (tgt := 368) C dX12_ladder_311 (by decide) rfl (by omega) ?_
                            refine rn_aload_n C dX12_ladder_314 rfl ?_
                            refine rs_get C dX12_ladder_315 fl_X12_90 hM0 rfl ?_
                            refine rn_iload_n C dX12_ladder_318 rfl ?_
                            refine rn_iconst (v := nI 3) C dX12_ladder_319 rfl ?_
                            refine rn_ishr C dX12_ladder_320 (pk_shrN (by omega) _ 3 (by decide)) ?_
                            refine rs_iaload C dX12_ladder_321 hm20 rfl (by omega) (by decide) ?_
                            refine rn_iload_n C dX12_ladder_322 rfl ?_
                            refine rn_bipush (v := nI 7) C dX12_ladder_323 rfl ?_
                            refine rn_iand C dX12_ladder_325 (pk_andN (by omega) 3 (by decide)) ?_
                            refine rn_ishr C dX12_ladder_326 rfl ?_
                            refine rn_iconst (v := nI 1) C dX12_ladder_327 rfl ?_
                            refine rn_iand C dX12_ladder_328 rfl ?_
                            refine rn_iconst (v := nI 1) C dX12_ladder_329 rfl ?_
                            have K330_17 : Rn X 338 [(0, .ref (k_b X.1 + (mo))), (1, .int (bI bs)), (2, .int (nI (fB c))), (3, .int (nI ((ldN c) - 1 - i310)))] [.int (nI ((if ((((mlad_l310 c mo (S12.1, S12.2.1, S.2.2) i310).1 (mo + 20) (((ldN c) - 1 - i310) / 2 ^ 3)) >>> ((nI (((ldN c) - 1 - i310) % 2 ^ 3)) &&& 31)) &&& (nI (1))) ≠ (nI (1)) then 0 else 1)))] (inst X.1 L (mlad_l310 c mo (S12.1, S12.2.1, S.2.2) i310).1 (mlad_l310 c mo (S12.1, S12.2.1, S.2.2) i310).2 S.2.2) n 0 0 := by
                              refine rn_istore (lv' := [(0, _), (1, _), (2, _), (3, _), (4, _)]) C dX12_ladder_338 (by decide) rfl ?_
                              refine rn_iload C dX12_ladder_340 rfl ?_
                              refine rn_if_eq (tgt := 349) C dX12_ladder_342 (by decide) (fun hb18 => ?_) (fun hb18 => ?_)
                              · skip
                                refine rn_aload_n C dX12_ladder_349 rfl ?_
                                refine rs_vv C dX12_ladder_350 mk_X12_rung lv_X12_325 (c_mrung (S := ((mlad_l310 c mo (S12.1, S12.2.1, S.2.2) i310).1, (mlad_l310 c mo (S12.1, S12.2.1, S.2.2) i310).2, S.2.2)) hM  hcn hpc) hM0 rfl rfl rfl rfl (by decide) (Nat.le_of_ble_eq_true rfl) (by decide) (by decide) ?_
                                rw [show (mrung_f c (mo)  ((mlad_l310 c mo (S12.1, S12.2.1, S.2.2) i310).1, (mlad_l310 c mo (S12.1, S12.2.1, S.2.2) i310).2, S.2.2)).2.2 = S.2.2 from (mrung_F c (mo)  ((mlad_l310 c mo (S12.1, S12.2.1, S.2.2) i310).1, (mlad_l310 c mo (S12.1, S12.2.1, S.2.2) i310).2, S.2.2))]
                                generalize hS19 : mrung_f c (mo)  ((mlad_l310 c mo (S12.1, S12.2.1, S.2.2) i310).1, (mlad_l310 c mo (S12.1, S12.2.1, S.2.2) i310).2, S.2.2) = S19
                                refine rn_iload C dX12_ladder_353 rfl ?_
                                refine rn_if_eq (tgt := 362) C dX12_ladder_355 (by decide) (fun _ => ?_) (fun q => absurd hb18 q)
                                refine rn_iinc (lv' := [(0, _), (1, _), (2, _), (3, _), (4, _)]) C dX12_ladder_362 rfl (dn_dec hi310) (by decide) rfl ?_
                                refine rn_goto (tgt := 310) C dX12_ladder_365 (by decide) ?_
                                have he310 : mlad_l310 c mo (S12.1, S12.2.1, S.2.2) (i310 + 1) = (S19.1, S19.2.1) := by
                                  subst hS19
                                  first | (dsimp only [mlad_l310]; done) | (dsimp only [mlad_l310]; exact (if_pos hb18)) | exact (if_pos hb18)
                                rw [he310] at ih310
                                exact rn_ks [0, 1, 2, 3] ih310 rfl
                              · skip
                                refine rn_aload_n C dX12_ladder_345 rfl ?_
                                refine rs_vv C dX12_ladder_346 mk_X12_swap lv_X12_322 (c_mswap (S := ((mlad_l310 c mo (S12.1, S12.2.1, S.2.2) i310).1, (mlad_l310 c mo (S12.1, S12.2.1, S.2.2) i310).2, S.2.2)) hM ) hM0 rfl rfl rfl rfl (by decide) (Nat.le_of_ble_eq_true rfl) (by decide) (by decide) ?_
                                rw [show (mswap_f (mo)  ((mlad_l310 c mo (S12.1, S12.2.1, S.2.2) i310).1, (mlad_l310 c mo (S12.1, S12.2.1, S.2.2) i310).2, S.2.2)).2.2 = S.2.2 from (mswap_F (mo)  ((mlad_l310 c mo (S12.1, S12.2.1, S.2.2) i310).1, (mlad_l310 c mo (S12.1, S12.2.1, S.2.2) i310).2, S.2.2))]
                                generalize hS20 : mswap_f (mo)  ((mlad_l310 c mo (S12.1, S12.2.1, S.2.2) i310).1, (mlad_l310 c mo (S12.1, S12.2.1, S.2.2) i310).2, S.2.2) = S20
                                refine rn_aload_n C dX12_ladder_349 rfl ?_
                                refine rs_vv C dX12_ladder_350 mk_X12_rung lv_X12_325 (c_mrung (S := (S20.1, S20.2.1, S.2.2)) hM  hcn hpc) hM0 rfl rfl rfl rfl (by decide) (Nat.le_of_ble_eq_true rfl) (by decide) (by decide) ?_
                                rw [show (mrung_f c (mo)  (S20.1, S20.2.1, S.2.2)).2.2 = S.2.2 from (mrung_F c (mo)  (S20.1, S20.2.1, S.2.2))]
                                generalize hS21 : mrung_f c (mo)  (S20.1, S20.2.1, S.2.2) = S21
                                refine rn_iload C dX12_ladder_353 rfl ?_
                                refine rn_if_eq (tgt := 362) C dX12_ladder_355 (by decide) (fun q => absurd q hb18) (fun _ => ?_)
                                refine rn_aload_n C dX12_ladder_358 rfl ?_
                                refine rs_vv C dX12_ladder_359 mk_X12_swap lv_X12_322 (c_mswap (S := (S21.1, S21.2.1, S.2.2)) hM ) hM0 rfl rfl rfl rfl (by decide) (Nat.le_of_ble_eq_true rfl) (by decide) (by decide) ?_
                                rw [show (mswap_f (mo)  (S21.1, S21.2.1, S.2.2)).2.2 = S.2.2 from (mswap_F (mo)  (S21.1, S21.2.1, S.2.2))]
                                generalize hS22 : mswap_f (mo)  (S21.1, S21.2.1, S.2.2) = S22
                                refine rn_iinc (lv' := [(0, _), (1, _), (2, _), (3, _), (4, _)]) C dX12_ladder_362 rfl (dn_dec hi310) (by decide) rfl ?_
                                refine rn_goto (tgt := 310) C dX12_ladder_365 (by decide) ?_
                                have he310 : mlad_l310 c mo (S12.1, S12.2.1, S.2.2) (i310 + 1) = (S22.1, S22.2.1) := by
                                  subst hS22
                                  subst hS21
                                  subst hS20
                                  first | (dsimp only [mlad_l310]; done) | (dsimp only [mlad_l310]; exact (if_neg hb18)) | exact (if_neg hb18)
                                rw [he310] at ih310
                                exact rn_ks [0, 1, 2, 3] ih310 rfl
                            refine rn_icmp_ne (tgt := 337) C dX12_ladder_330 (by decide) (fun hb17 => ?_) (fun hb17 => ?_)
                            · skip
                              refine rn_iconst (v := nI 0) C dX12_ladder_337 rfl ?_
                              rw [if_pos hb17] at K330_17
                              exact K330_17
                            · skip
                              refine rn_iconst (v := nI 1) C dX12_ladder_333 rfl ?_
                              refine rn_goto (tgt := 338) C dX12_ladder_334 (by decide) ?_
                              rw [if_neg (fun q => q hb17)] at K330_17
                              exact K330_17
                        have hz310 := lp310 0 (Nat.zero_le _)
                        rw [dn_at (N := ldN c) (i := 0) (by omega)] at hz310
                        exact hz310
                      refine rn_if_ne (tgt := 306) C dX12_ladder_297 (by decide) (fun hb13 => ?_) (fun hb13 => ?_)
                      · skip
                        refine rn_sipush (v := nI 447) C dX12_ladder_306 rfl ?_
                        rw [if_pos hb13] at K297_13
                        exact K297_13
                      · skip
                        refine rn_sipush (v := nI 254) C dX12_ladder_300 rfl ?_
                        refine rn_goto (tgt := 309) C dX12_ladder_303 (by decide) ?_
                        rw [if_neg (fun q => q hb13)] at K297_13
                        exact K297_13
                    refine rn_if_ne (tgt := 288) C dX12_ladder_280 (by decide) (fun hb11 => ?_) (fun hb11 => ?_)
                    · skip
                      refine rn_ldc C dX12_ladder_288 lc_X12_161 ?_
                      rw [if_pos hb11] at K280_11
                      exact K280_11
                    · skip
                      refine rn_ldc C dX12_ladder_283 lc_X12_135 ?_
                      refine rn_goto (tgt := 290) C dX12_ladder_285 (by decide) ?_
                      rw [if_neg (fun q => q hb11)] at K280_11
                      exact K280_11
                  · skip
                    refine rn_iload_n C dX12_ladder_146 rfl ?_
                    refine rn_iload_n C dX12_ladder_147 rfl ?_
                    refine rs_ge (tgt := 239) C dX12_ladder_148 (by decide) rfl rfl (by omega) (by omega) (fun q => absurd q (by omega)) (fun _ => ?_)
                    refine rn_iload_n C dX12_ladder_151 rfl ?_
                    refine rn_if_eq (tgt := 179) C dX12_ladder_152 (by decide) (fun hb23 => ?_) (fun hb23 => ?_)
                    · skip
                      refine rn_aload_n C dX12_ladder_179 rfl ?_
                      refine rs_getFe C dX12_ladder_180 fl_X12_51 hM0 rfl hcn ?_
                      refine rn_if_ne (tgt := 204) C dX12_ladder_183 (by decide) (fun hb24 => ?_) (fun hb24 => ?_)
                      · skip
                        refine rn_aload_n C dX12_ladder_204 rfl ?_
                        refine rs_get C dX12_ladder_205 fl_X12_17 hM0 rfl ?_
                        refine rn_iload_n C dX12_ladder_208 rfl ?_
                        refine rs_iaload C dX12_ladder_209 hm2 rfl (by omega) (by decide) ?_
                        refine rn_istore (lv' := [(0, _), (1, _), (2, _), (3, _), (4, _)]) C dX12_ladder_210 (by decide) rfl ?_
                        refine rn_aload_n C dX12_ladder_212 rfl ?_
                        refine rs_get C dX12_ladder_213 fl_X12_44 hM0 rfl ?_
                        refine rn_iload_n C dX12_ladder_216 rfl ?_
                        refine rn_iconst (v := nI 1) C dX12_ladder_217 rfl ?_
                        refine rn_ishr C dX12_ladder_218 (pk_shrN (by omega) _ 1 (by decide)) ?_
                        refine rn_dup2 C dX12_ladder_219 rfl rfl ?_
                        refine rs_laload C dX12_ladder_220 hm8 rfl (by omega) (by decide) ?_
                        refine rn_iload C dX12_ladder_221 rfl ?_
                        refine rn_i2l C dX12_ladder_223 rfl ?_
                        refine rn_bipush (v := nI 8) C dX12_ladder_224 rfl ?_
                        refine rn_iload_n C dX12_ladder_226 rfl ?_
                        refine rn_iconst (v := nI 1) C dX12_ladder_227 rfl ?_
                        refine rn_iand C dX12_ladder_228 (pk_andN (by omega) 1 (by decide)) ?_
                        refine rn_imul C dX12_ladder_229 (pk_mul _ _) ?_
                        refine rn_lshl C dX12_ladder_230 rfl ?_
                        refine rn_ladd C dX12_ladder_231 rfl ?_
                        refine rs_lastore C dX12_ladder_232 hm8 rfl (by omega) (by decide) ?_
                        refine rn_iinc (lv' := [(0, _), (1, _), (2, _), (3, _), (4, _)]) C dX12_ladder_233 rfl (nI_inc _) (by decide) rfl ?_
                        refine rn_goto (tgt := 146) C dX12_ladder_236 (by decide) ?_
                        have he146 : mlad_l146 c mo bs ((va_up (va_up (mlad_l17 c mo S 57) (mo + 20) (upd ((mlad_l17 c mo S 57) (mo + 20)) (0) (((mlad_l17 c mo S 57) (mo + 20) (0)) &&& (nI ((if (nI (bN c)) ≠ 0 then 252 else 248)))))) (mo + 20) (upd ((va_up (mlad_l17 c mo S 57) (mo + 20) (upd ((mlad_l17 c mo S 57) (mo + 20)) (0) (((mlad_l17 c mo S 57) (mo + 20) (0)) &&& (nI ((if (nI (bN c)) ≠ 0 then 252 else 248)))))) (mo + 20)) (fB c - 1) ((if (nI (bN c)) ≠ 0 then ((va_up (mlad_l17 c mo S 57) (mo + 20) (upd ((mlad_l17 c mo S 57) (mo + 20)) (0) (((mlad_l17 c mo S 57) (mo + 20) (0)) &&& (nI ((if (nI (bN c)) ≠ 0 then 252 else 248)))))) (mo + 20) (fB c - 1)) ||| (nI (128)) else (((va_up (mlad_l17 c mo S 57) (mo + 20) (upd ((mlad_l17 c mo S 57) (mo + 20)) (0) (((mlad_l17 c mo S 57) (mo + 20) (0)) &&& (nI ((if (nI (bN c)) ≠ 0 then 252 else 248)))))) (mo + 20) (fB c - 1)) &&& (nI (127))) ||| (nI (64)))))), (mlad_l125 mo ((va_up (va_up (mlad_l17 c mo S 57) (mo + 20) (upd ((mlad_l17 c mo S 57) (mo + 20)) (0) (((mlad_l17 c mo S 57) (mo + 20) (0)) &&& (nI ((if (nI (bN c)) ≠ 0 then 252 else 248)))))) (mo + 20) (upd ((va_up (mlad_l17 c mo S 57) (mo + 20) (upd ((mlad_l17 c mo S 57) (mo + 20)) (0) (((mlad_l17 c mo S 57) (mo + 20) (0)) &&& (nI ((if (nI (bN c)) ≠ 0 then 252 else 248)))))) (mo + 20)) (fB c - 1) ((if (nI (bN c)) ≠ 0 then ((va_up (mlad_l17 c mo S 57) (mo + 20) (upd ((mlad_l17 c mo S 57) (mo + 20)) (0) (((mlad_l17 c mo S 57) (mo + 20) (0)) &&& (nI ((if (nI (bN c)) ≠ 0 then 252 else 248)))))) (mo + 20) (fB c - 1)) ||| (nI (128)) else (((va_up (mlad_l17 c mo S 57) (mo + 20) (upd ((mlad_l17 c mo S 57) (mo + 20)) (0) (((mlad_l17 c mo S 57) (mo + 20) (0)) &&& (nI ((if (nI (bN c)) ≠ 0 then 252 else 248)))))) (mo + 20) (fB c - 1)) &&& (nI (127))) ||| (nI (64)))))), S.2.1, S.2.2) 64), S.2.2) (i146 + 1) = (va_up (mlad_l146 c mo bs ((va_up (va_up (mlad_l17 c mo S 57) (mo + 20) (upd ((mlad_l17 c mo S 57) (mo + 20)) (0) (((mlad_l17 c mo S 57) (mo + 20) (0)) &&& (nI ((if (nI (bN c)) ≠ 0 then 252 else 248)))))) (mo + 20) (upd ((va_up (mlad_l17 c mo S 57) (mo + 20) (upd ((mlad_l17 c mo S 57) (mo + 20)) (0) (((mlad_l17 c mo S 57) (mo + 20) (0)) &&& (nI ((if (nI (bN c)) ≠ 0 then 252 else 248)))))) (mo + 20)) (fB c - 1) ((if (nI (bN c)) ≠ 0 then ((va_up (mlad_l17 c mo S 57) (mo + 20) (upd ((mlad_l17 c mo S 57) (mo + 20)) (0) (((mlad_l17 c mo S 57) (mo + 20) (0)) &&& (nI ((if (nI (bN c)) ≠ 0 then 252 else 248)))))) (mo + 20) (fB c - 1)) ||| (nI (128)) else (((va_up (mlad_l17 c mo S 57) (mo + 20) (upd ((mlad_l17 c mo S 57) (mo + 20)) (0) (((mlad_l17 c mo S 57) (mo + 20) (0)) &&& (nI ((if (nI (bN c)) ≠ 0 then 252 else 248)))))) (mo + 20) (fB c - 1)) &&& (nI (127))) ||| (nI (64)))))), (mlad_l125 mo ((va_up (va_up (mlad_l17 c mo S 57) (mo + 20) (upd ((mlad_l17 c mo S 57) (mo + 20)) (0) (((mlad_l17 c mo S 57) (mo + 20) (0)) &&& (nI ((if (nI (bN c)) ≠ 0 then 252 else 248)))))) (mo + 20) (upd ((va_up (mlad_l17 c mo S 57) (mo + 20) (upd ((mlad_l17 c mo S 57) (mo + 20)) (0) (((mlad_l17 c mo S 57) (mo + 20) (0)) &&& (nI ((if (nI (bN c)) ≠ 0 then 252 else 248)))))) (mo + 20)) (fB c - 1) ((if (nI (bN c)) ≠ 0 then ((va_up (mlad_l17 c mo S 57) (mo + 20) (upd ((mlad_l17 c mo S 57) (mo + 20)) (0) (((mlad_l17 c mo S 57) (mo + 20) (0)) &&& (nI ((if (nI (bN c)) ≠ 0 then 252 else 248)))))) (mo + 20) (fB c - 1)) ||| (nI (128)) else (((va_up (mlad_l17 c mo S 57) (mo + 20) (upd ((mlad_l17 c mo S 57) (mo + 20)) (0) (((mlad_l17 c mo S 57) (mo + 20) (0)) &&& (nI ((if (nI (bN c)) ≠ 0 then 252 else 248)))))) (mo + 20) (fB c - 1)) &&& (nI (127))) ||| (nI (64)))))), S.2.1, S.2.2) 64), S.2.2) i146) (mo + 8) (vp_updL ((mlad_l146 c mo bs ((va_up (va_up (mlad_l17 c mo S 57) (mo + 20) (upd ((mlad_l17 c mo S 57) (mo + 20)) (0) (((mlad_l17 c mo S 57) (mo + 20) (0)) &&& (nI ((if (nI (bN c)) ≠ 0 then 252 else 248)))))) (mo + 20) (upd ((va_up (mlad_l17 c mo S 57) (mo + 20) (upd ((mlad_l17 c mo S 57) (mo + 20)) (0) (((mlad_l17 c mo S 57) (mo + 20) (0)) &&& (nI ((if (nI (bN c)) ≠ 0 then 252 else 248)))))) (mo + 20)) (fB c - 1) ((if (nI (bN c)) ≠ 0 then ((va_up (mlad_l17 c mo S 57) (mo + 20) (upd ((mlad_l17 c mo S 57) (mo + 20)) (0) (((mlad_l17 c mo S 57) (mo + 20) (0)) &&& (nI ((if (nI (bN c)) ≠ 0 then 252 else 248)))))) (mo + 20) (fB c - 1)) ||| (nI (128)) else (((va_up (mlad_l17 c mo S 57) (mo + 20) (upd ((mlad_l17 c mo S 57) (mo + 20)) (0) (((mlad_l17 c mo S 57) (mo + 20) (0)) &&& (nI ((if (nI (bN c)) ≠ 0 then 252 else 248)))))) (mo + 20) (fB c - 1)) &&& (nI (127))) ||| (nI (64)))))), (mlad_l125 mo ((va_up (va_up (mlad_l17 c mo S 57) (mo + 20) (upd ((mlad_l17 c mo S 57) (mo + 20)) (0) (((mlad_l17 c mo S 57) (mo + 20) (0)) &&& (nI ((if (nI (bN c)) ≠ 0 then 252 else 248)))))) (mo + 20) (upd ((va_up (mlad_l17 c mo S 57) (mo + 20) (upd ((mlad_l17 c mo S 57) (mo + 20)) (0) (((mlad_l17 c mo S 57) (mo + 20) (0)) &&& (nI ((if (nI (bN c)) ≠ 0 then 252 else 248)))))) (mo + 20)) (fB c - 1) ((if (nI (bN c)) ≠ 0 then ((va_up (mlad_l17 c mo S 57) (mo + 20) (upd ((mlad_l17 c mo S 57) (mo + 20)) (0) (((mlad_l17 c mo S 57) (mo + 20) (0)) &&& (nI ((if (nI (bN c)) ≠ 0 then 252 else 248)))))) (mo + 20) (fB c - 1)) ||| (nI (128)) else (((va_up (mlad_l17 c mo S 57) (mo + 20) (upd ((mlad_l17 c mo S 57) (mo + 20)) (0) (((mlad_l17 c mo S 57) (mo + 20) (0)) &&& (nI ((if (nI (bN c)) ≠ 0 then 252 else 248)))))) (mo + 20) (fB c - 1)) &&& (nI (127))) ||| (nI (64)))))), S.2.1, S.2.2) 64), S.2.2) i146) (mo + 8)) (i146 / 2 ^ 1) (((mlad_l146 c mo bs ((va_up (va_up (mlad_l17 c mo S 57) (mo + 20) (upd ((mlad_l17 c mo S 57) (mo + 20)) (0) (((mlad_l17 c mo S 57) (mo + 20) (0)) &&& (nI ((if (nI (bN c)) ≠ 0 then 252 else 248)))))) (mo + 20) (upd ((va_up (mlad_l17 c mo S 57) (mo + 20) (upd ((mlad_l17 c mo S 57) (mo + 20)) (0) (((mlad_l17 c mo S 57) (mo + 20) (0)) &&& (nI ((if (nI (bN c)) ≠ 0 then 252 else 248)))))) (mo + 20)) (fB c - 1) ((if (nI (bN c)) ≠ 0 then ((va_up (mlad_l17 c mo S 57) (mo + 20) (upd ((mlad_l17 c mo S 57) (mo + 20)) (0) (((mlad_l17 c mo S 57) (mo + 20) (0)) &&& (nI ((if (nI (bN c)) ≠ 0 then 252 else 248)))))) (mo + 20) (fB c - 1)) ||| (nI (128)) else (((va_up (mlad_l17 c mo S 57) (mo + 20) (upd ((mlad_l17 c mo S 57) (mo + 20)) (0) (((mlad_l17 c mo S 57) (mo + 20) (0)) &&& (nI ((if (nI (bN c)) ≠ 0 then 252 else 248)))))) (mo + 20) (fB c - 1)) &&& (nI (127))) ||| (nI (64)))))), (mlad_l125 mo ((va_up (va_up (mlad_l17 c mo S 57) (mo + 20) (upd ((mlad_l17 c mo S 57) (mo + 20)) (0) (((mlad_l17 c mo S 57) (mo + 20) (0)) &&& (nI ((if (nI (bN c)) ≠ 0 then 252 else 248)))))) (mo + 20) (upd ((va_up (mlad_l17 c mo S 57) (mo + 20) (upd ((mlad_l17 c mo S 57) (mo + 20)) (0) (((mlad_l17 c mo S 57) (mo + 20) (0)) &&& (nI ((if (nI (bN c)) ≠ 0 then 252 else 248)))))) (mo + 20)) (fB c - 1) ((if (nI (bN c)) ≠ 0 then ((va_up (mlad_l17 c mo S 57) (mo + 20) (upd ((mlad_l17 c mo S 57) (mo + 20)) (0) (((mlad_l17 c mo S 57) (mo + 20) (0)) &&& (nI ((if (nI (bN c)) ≠ 0 then 252 else 248)))))) (mo + 20) (fB c - 1)) ||| (nI (128)) else (((va_up (mlad_l17 c mo S 57) (mo + 20) (upd ((mlad_l17 c mo S 57) (mo + 20)) (0) (((mlad_l17 c mo S 57) (mo + 20) (0)) &&& (nI ((if (nI (bN c)) ≠ 0 then 252 else 248)))))) (mo + 20) (fB c - 1)) &&& (nI (127))) ||| (nI (64)))))), S.2.1, S.2.2) 64), S.2.2) i146) (mo + 8) (i146 / 2 ^ 1)) + (((((va_up (va_up (mlad_l17 c mo S 57) (mo + 20) (upd ((mlad_l17 c mo S 57) (mo + 20)) (0) (((mlad_l17 c mo S 57) (mo + 20) (0)) &&& (nI ((if (nI (bN c)) ≠ 0 then 252 else 248)))))) (mo + 20) (upd ((va_up (mlad_l17 c mo S 57) (mo + 20) (upd ((mlad_l17 c mo S 57) (mo + 20)) (0) (((mlad_l17 c mo S 57) (mo + 20) (0)) &&& (nI ((if (nI (bN c)) ≠ 0 then 252 else 248)))))) (mo + 20)) (fB c - 1) ((if (nI (bN c)) ≠ 0 then ((va_up (mlad_l17 c mo S 57) (mo + 20) (upd ((mlad_l17 c mo S 57) (mo + 20)) (0) (((mlad_l17 c mo S 57) (mo + 20) (0)) &&& (nI ((if (nI (bN c)) ≠ 0 then 252 else 248)))))) (mo + 20) (fB c - 1)) ||| (nI (128)) else (((va_up (mlad_l17 c mo S 57) (mo + 20) (upd ((mlad_l17 c mo S 57) (mo + 20)) (0) (((mlad_l17 c mo S 57) (mo + 20) (0)) &&& (nI ((if (nI (bN c)) ≠ 0 then 252 else 248)))))) (mo + 20) (fB c - 1)) &&& (nI (127))) ||| (nI (64)))))), (mlad_l125 mo ((va_up (va_up (mlad_l17 c mo S 57) (mo + 20) (upd ((mlad_l17 c mo S 57) (mo + 20)) (0) (((mlad_l17 c mo S 57) (mo + 20) (0)) &&& (nI ((if (nI (bN c)) ≠ 0 then 252 else 248)))))) (mo + 20) (upd ((va_up (mlad_l17 c mo S 57) (mo + 20) (upd ((mlad_l17 c mo S 57) (mo + 20)) (0) (((mlad_l17 c mo S 57) (mo + 20) (0)) &&& (nI ((if (nI (bN c)) ≠ 0 then 252 else 248)))))) (mo + 20)) (fB c - 1) ((if (nI (bN c)) ≠ 0 then ((va_up (mlad_l17 c mo S 57) (mo + 20) (upd ((mlad_l17 c mo S 57) (mo + 20)) (0) (((mlad_l17 c mo S 57) (mo + 20) (0)) &&& (nI ((if (nI (bN c)) ≠ 0 then 252 else 248)))))) (mo + 20) (fB c - 1)) ||| (nI (128)) else (((va_up (mlad_l17 c mo S 57) (mo + 20) (upd ((mlad_l17 c mo S 57) (mo + 20)) (0) (((mlad_l17 c mo S 57) (mo + 20) (0)) &&& (nI ((if (nI (bN c)) ≠ 0 then 252 else 248)))))) (mo + 20) (fB c - 1)) &&& (nI (127))) ||| (nI (64)))))), S.2.1, S.2.2) 64), S.2.2).1 (mo + 2) (i146)).toInt64) <<< ((nI (8 * (i146 % 2 ^ 1))).toInt64 &&& 63))))) := by
                          first | (dsimp only [mlad_l146]; done) | (dsimp only [mlad_l146]; exact ((if_pos hb23).trans (if_pos hb24))) | exact ((if_pos hb23).trans (if_pos hb24))
                        rw [he146] at ih146
                        exact rn_ks [0, 1, 2, 3] ih146 rfl
                      · skip
                        refine rn_iload_n C dX12_ladder_186 rfl ?_
                        refine rn_bipush (v := nI 31) C dX12_ladder_187 rfl ?_
                        have K189_26 : Rn X 210 [(0, .ref (k_b X.1 + (mo))), (1, .int (bI bs)), (2, .int (nI (fB c))), (3, .int (nI (i146)))] [.int ((if (nI (i146)) ≠ (nI (31)) then ((va_up (va_up (mlad_l17 c mo S 57) (mo + 20) (upd ((mlad_l17 c mo S 57) (mo + 20)) (0) (((mlad_l17 c mo S 57) (mo + 20) (0)) &&& (nI ((if (nI (bN c)) ≠ 0 then 252 else 248)))))) (mo + 20) (upd ((va_up (mlad_l17 c mo S 57) (mo + 20) (upd ((mlad_l17 c mo S 57) (mo + 20)) (0) (((mlad_l17 c mo S 57) (mo + 20) (0)) &&& (nI ((if (nI (bN c)) ≠ 0 then 252 else 248)))))) (mo + 20)) (fB c - 1) ((if (nI (bN c)) ≠ 0 then ((va_up (mlad_l17 c mo S 57) (mo + 20) (upd ((mlad_l17 c mo S 57) (mo + 20)) (0) (((mlad_l17 c mo S 57) (mo + 20) (0)) &&& (nI ((if (nI (bN c)) ≠ 0 then 252 else 248)))))) (mo + 20) (fB c - 1)) ||| (nI (128)) else (((va_up (mlad_l17 c mo S 57) (mo + 20) (upd ((mlad_l17 c mo S 57) (mo + 20)) (0) (((mlad_l17 c mo S 57) (mo + 20) (0)) &&& (nI ((if (nI (bN c)) ≠ 0 then 252 else 248)))))) (mo + 20) (fB c - 1)) &&& (nI (127))) ||| (nI (64)))))), (mlad_l125 mo ((va_up (va_up (mlad_l17 c mo S 57) (mo + 20) (upd ((mlad_l17 c mo S 57) (mo + 20)) (0) (((mlad_l17 c mo S 57) (mo + 20) (0)) &&& (nI ((if (nI (bN c)) ≠ 0 then 252 else 248)))))) (mo + 20) (upd ((va_up (mlad_l17 c mo S 57) (mo + 20) (upd ((mlad_l17 c mo S 57) (mo + 20)) (0) (((mlad_l17 c mo S 57) (mo + 20) (0)) &&& (nI ((if (nI (bN c)) ≠ 0 then 252 else 248)))))) (mo + 20)) (fB c - 1) ((if (nI (bN c)) ≠ 0 then ((va_up (mlad_l17 c mo S 57) (mo + 20) (upd ((mlad_l17 c mo S 57) (mo + 20)) (0) (((mlad_l17 c mo S 57) (mo + 20) (0)) &&& (nI ((if (nI (bN c)) ≠ 0 then 252 else 248)))))) (mo + 20) (fB c - 1)) ||| (nI (128)) else (((va_up (mlad_l17 c mo S 57) (mo + 20) (upd ((mlad_l17 c mo S 57) (mo + 20)) (0) (((mlad_l17 c mo S 57) (mo + 20) (0)) &&& (nI ((if (nI (bN c)) ≠ 0 then 252 else 248)))))) (mo + 20) (fB c - 1)) &&& (nI (127))) ||| (nI (64)))))), S.2.1, S.2.2) 64), S.2.2).1 (mo + 2) (i146) else (((va_up (va_up (mlad_l17 c mo S 57) (mo + 20) (upd ((mlad_l17 c mo S 57) (mo + 20)) (0) (((mlad_l17 c mo S 57) (mo + 20) (0)) &&& (nI ((if (nI (bN c)) ≠ 0 then 252 else 248)))))) (mo + 20) (upd ((va_up (mlad_l17 c mo S 57) (mo + 20) (upd ((mlad_l17 c mo S 57) (mo + 20)) (0) (((mlad_l17 c mo S 57) (mo + 20) (0)) &&& (nI ((if (nI (bN c)) ≠ 0 then 252 else 248)))))) (mo + 20)) (fB c - 1) ((if (nI (bN c)) ≠ 0 then ((va_up (mlad_l17 c mo S 57) (mo + 20) (upd ((mlad_l17 c mo S 57) (mo + 20)) (0) (((mlad_l17 c mo S 57) (mo + 20) (0)) &&& (nI ((if (nI (bN c)) ≠ 0 then 252 else 248)))))) (mo + 20) (fB c - 1)) ||| (nI (128)) else (((va_up (mlad_l17 c mo S 57) (mo + 20) (upd ((mlad_l17 c mo S 57) (mo + 20)) (0) (((mlad_l17 c mo S 57) (mo + 20) (0)) &&& (nI ((if (nI (bN c)) ≠ 0 then 252 else 248)))))) (mo + 20) (fB c - 1)) &&& (nI (127))) ||| (nI (64)))))), (mlad_l125 mo ((va_up (va_up (mlad_l17 c mo S 57) (mo + 20) (upd ((mlad_l17 c mo S 57) (mo + 20)) (0) (((mlad_l17 c mo S 57) (mo + 20) (0)) &&& (nI ((if (nI (bN c)) ≠ 0 then 252 else 248)))))) (mo + 20) (upd ((va_up (mlad_l17 c mo S 57) (mo + 20) (upd ((mlad_l17 c mo S 57) (mo + 20)) (0) (((mlad_l17 c mo S 57) (mo + 20) (0)) &&& (nI ((if (nI (bN c)) ≠ 0 then 252 else 248)))))) (mo + 20)) (fB c - 1) ((if (nI (bN c)) ≠ 0 then ((va_up (mlad_l17 c mo S 57) (mo + 20) (upd ((mlad_l17 c mo S 57) (mo + 20)) (0) (((mlad_l17 c mo S 57) (mo + 20) (0)) &&& (nI ((if (nI (bN c)) ≠ 0 then 252 else 248)))))) (mo + 20) (fB c - 1)) ||| (nI (128)) else (((va_up (mlad_l17 c mo S 57) (mo + 20) (upd ((mlad_l17 c mo S 57) (mo + 20)) (0) (((mlad_l17 c mo S 57) (mo + 20) (0)) &&& (nI ((if (nI (bN c)) ≠ 0 then 252 else 248)))))) (mo + 20) (fB c - 1)) &&& (nI (127))) ||| (nI (64)))))), S.2.1, S.2.2) 64), S.2.2).1 (mo + 2) (i146)) &&& (nI (127))))] (inst X.1 L ((va_up (va_up (mlad_l17 c mo S 57) (mo + 20) (upd ((mlad_l17 c mo S 57) (mo + 20)) (0) (((mlad_l17 c mo S 57) (mo + 20) (0)) &&& (nI ((if (nI (bN c)) ≠ 0 then 252 else 248)))))) (mo + 20) (upd ((va_up (mlad_l17 c mo S 57) (mo + 20) (upd ((mlad_l17 c mo S 57) (mo + 20)) (0) (((mlad_l17 c mo S 57) (mo + 20) (0)) &&& (nI ((if (nI (bN c)) ≠ 0 then 252 else 248)))))) (mo + 20)) (fB c - 1) ((if (nI (bN c)) ≠ 0 then ((va_up (mlad_l17 c mo S 57) (mo + 20) (upd ((mlad_l17 c mo S 57) (mo + 20)) (0) (((mlad_l17 c mo S 57) (mo + 20) (0)) &&& (nI ((if (nI (bN c)) ≠ 0 then 252 else 248)))))) (mo + 20) (fB c - 1)) ||| (nI (128)) else (((va_up (mlad_l17 c mo S 57) (mo + 20) (upd ((mlad_l17 c mo S 57) (mo + 20)) (0) (((mlad_l17 c mo S 57) (mo + 20) (0)) &&& (nI ((if (nI (bN c)) ≠ 0 then 252 else 248)))))) (mo + 20) (fB c - 1)) &&& (nI (127))) ||| (nI (64)))))), (mlad_l125 mo ((va_up (va_up (mlad_l17 c mo S 57) (mo + 20) (upd ((mlad_l17 c mo S 57) (mo + 20)) (0) (((mlad_l17 c mo S 57) (mo + 20) (0)) &&& (nI ((if (nI (bN c)) ≠ 0 then 252 else 248)))))) (mo + 20) (upd ((va_up (mlad_l17 c mo S 57) (mo + 20) (upd ((mlad_l17 c mo S 57) (mo + 20)) (0) (((mlad_l17 c mo S 57) (mo + 20) (0)) &&& (nI ((if (nI (bN c)) ≠ 0 then 252 else 248)))))) (mo + 20)) (fB c - 1) ((if (nI (bN c)) ≠ 0 then ((va_up (mlad_l17 c mo S 57) (mo + 20) (upd ((mlad_l17 c mo S 57) (mo + 20)) (0) (((mlad_l17 c mo S 57) (mo + 20) (0)) &&& (nI ((if (nI (bN c)) ≠ 0 then 252 else 248)))))) (mo + 20) (fB c - 1)) ||| (nI (128)) else (((va_up (mlad_l17 c mo S 57) (mo + 20) (upd ((mlad_l17 c mo S 57) (mo + 20)) (0) (((mlad_l17 c mo S 57) (mo + 20) (0)) &&& (nI ((if (nI (bN c)) ≠ 0 then 252 else 248)))))) (mo + 20) (fB c - 1)) &&& (nI (127))) ||| (nI (64)))))), S.2.1, S.2.2) 64), S.2.2).1 (mlad_l146 c mo bs ((va_up (va_up (mlad_l17 c mo S 57) (mo + 20) (upd ((mlad_l17 c mo S 57) (mo + 20)) (0) (((mlad_l17 c mo S 57) (mo + 20) (0)) &&& (nI ((if (nI (bN c)) ≠ 0 then 252 else 248)))))) (mo + 20) (upd ((va_up (mlad_l17 c mo S 57) (mo + 20) (upd ((mlad_l17 c mo S 57) (mo + 20)) (0) (((mlad_l17 c mo S 57) (mo + 20) (0)) &&& (nI ((if (nI (bN c)) ≠ 0 then 252 else 248)))))) (mo + 20)) (fB c - 1) ((if (nI (bN c)) ≠ 0 then ((va_up (mlad_l17 c mo S 57) (mo + 20) (upd ((mlad_l17 c mo S 57) (mo + 20)) (0) (((mlad_l17 c mo S 57) (mo + 20) (0)) &&& (nI ((if (nI (bN c)) ≠ 0 then 252 else 248)))))) (mo + 20) (fB c - 1)) ||| (nI (128)) else (((va_up (mlad_l17 c mo S 57) (mo + 20) (upd ((mlad_l17 c mo S 57) (mo + 20)) (0) (((mlad_l17 c mo S 57) (mo + 20) (0)) &&& (nI ((if (nI (bN c)) ≠ 0 then 252 else 248)))))) (mo + 20) (fB c - 1)) &&& (nI (127))) ||| (nI (64)))))), (mlad_l125 mo ((va_up (va_up (mlad_l17 c mo S 57) (mo + 20) (upd ((mlad_l17 c mo S 57) (mo + 20)) (0) (((mlad_l17 c mo S 57) (mo + 20) (0)) &&& (nI ((if (nI (bN c)) ≠ 0 then 252 else 248)))))) (mo + 20) (upd ((va_up (mlad_l17 c mo S 57) (mo + 20) (upd ((mlad_l17 c mo S 57) (mo + 20)) (0) (((mlad_l17 c mo S 57) (mo + 20) (0)) &&& (nI ((if (nI (bN c)) ≠ 0 then 252 else 248)))))) (mo + 20)) (fB c - 1) ((if (nI (bN c)) ≠ 0 then ((va_up (mlad_l17 c mo S 57) (mo + 20) (upd ((mlad_l17 c mo S 57) (mo + 20)) (0) (((mlad_l17 c mo S 57) (mo + 20) (0)) &&& (nI ((if (nI (bN c)) ≠ 0 then 252 else 248)))))) (mo + 20) (fB c - 1)) ||| (nI (128)) else (((va_up (mlad_l17 c mo S 57) (mo + 20) (upd ((mlad_l17 c mo S 57) (mo + 20)) (0) (((mlad_l17 c mo S 57) (mo + 20) (0)) &&& (nI ((if (nI (bN c)) ≠ 0 then 252 else 248)))))) (mo + 20) (fB c - 1)) &&& (nI (127))) ||| (nI (64)))))), S.2.1, S.2.2) 64), S.2.2) i146) S.2.2) n 0 0 := by
                          refine rn_istore (lv' := [(0, _), (1, _), (2, _), (3, _), (4, _)]) C dX12_ladder_210 (by decide) rfl ?_
                          refine rn_aload_n C dX12_ladder_212 rfl ?_
                          refine rs_get C dX12_ladder_213 fl_X12_44 hM0 rfl ?_
                          refine rn_iload_n C dX12_ladder_216 rfl ?_
                          refine rn_iconst (v := nI 1) C dX12_ladder_217 rfl ?_
                          refine rn_ishr C dX12_ladder_218 (pk_shrN (by omega) _ 1 (by decide)) ?_
                          refine rn_dup2 C dX12_ladder_219 rfl rfl ?_
                          refine rs_laload C dX12_ladder_220 hm8 rfl (by omega) (by decide) ?_
                          refine rn_iload C dX12_ladder_221 rfl ?_
                          refine rn_i2l C dX12_ladder_223 rfl ?_
                          refine rn_bipush (v := nI 8) C dX12_ladder_224 rfl ?_
                          refine rn_iload_n C dX12_ladder_226 rfl ?_
                          refine rn_iconst (v := nI 1) C dX12_ladder_227 rfl ?_
                          refine rn_iand C dX12_ladder_228 (pk_andN (by omega) 1 (by decide)) ?_
                          refine rn_imul C dX12_ladder_229 (pk_mul _ _) ?_
                          refine rn_lshl C dX12_ladder_230 rfl ?_
                          refine rn_ladd C dX12_ladder_231 rfl ?_
                          refine rs_lastore C dX12_ladder_232 hm8 rfl (by omega) (by decide) ?_
                          refine rn_iinc (lv' := [(0, _), (1, _), (2, _), (3, _), (4, _)]) C dX12_ladder_233 rfl (nI_inc _) (by decide) rfl ?_
                          refine rn_goto (tgt := 146) C dX12_ladder_236 (by decide) ?_
                          have he146 : mlad_l146 c mo bs ((va_up (va_up (mlad_l17 c mo S 57) (mo + 20) (upd ((mlad_l17 c mo S 57) (mo + 20)) (0) (((mlad_l17 c mo S 57) (mo + 20) (0)) &&& (nI ((if (nI (bN c)) ≠ 0 then 252 else 248)))))) (mo + 20) (upd ((va_up (mlad_l17 c mo S 57) (mo + 20) (upd ((mlad_l17 c mo S 57) (mo + 20)) (0) (((mlad_l17 c mo S 57) (mo + 20) (0)) &&& (nI ((if (nI (bN c)) ≠ 0 then 252 else 248)))))) (mo + 20)) (fB c - 1) ((if (nI (bN c)) ≠ 0 then ((va_up (mlad_l17 c mo S 57) (mo + 20) (upd ((mlad_l17 c mo S 57) (mo + 20)) (0) (((mlad_l17 c mo S 57) (mo + 20) (0)) &&& (nI ((if (nI (bN c)) ≠ 0 then 252 else 248)))))) (mo + 20) (fB c - 1)) ||| (nI (128)) else (((va_up (mlad_l17 c mo S 57) (mo + 20) (upd ((mlad_l17 c mo S 57) (mo + 20)) (0) (((mlad_l17 c mo S 57) (mo + 20) (0)) &&& (nI ((if (nI (bN c)) ≠ 0 then 252 else 248)))))) (mo + 20) (fB c - 1)) &&& (nI (127))) ||| (nI (64)))))), (mlad_l125 mo ((va_up (va_up (mlad_l17 c mo S 57) (mo + 20) (upd ((mlad_l17 c mo S 57) (mo + 20)) (0) (((mlad_l17 c mo S 57) (mo + 20) (0)) &&& (nI ((if (nI (bN c)) ≠ 0 then 252 else 248)))))) (mo + 20) (upd ((va_up (mlad_l17 c mo S 57) (mo + 20) (upd ((mlad_l17 c mo S 57) (mo + 20)) (0) (((mlad_l17 c mo S 57) (mo + 20) (0)) &&& (nI ((if (nI (bN c)) ≠ 0 then 252 else 248)))))) (mo + 20)) (fB c - 1) ((if (nI (bN c)) ≠ 0 then ((va_up (mlad_l17 c mo S 57) (mo + 20) (upd ((mlad_l17 c mo S 57) (mo + 20)) (0) (((mlad_l17 c mo S 57) (mo + 20) (0)) &&& (nI ((if (nI (bN c)) ≠ 0 then 252 else 248)))))) (mo + 20) (fB c - 1)) ||| (nI (128)) else (((va_up (mlad_l17 c mo S 57) (mo + 20) (upd ((mlad_l17 c mo S 57) (mo + 20)) (0) (((mlad_l17 c mo S 57) (mo + 20) (0)) &&& (nI ((if (nI (bN c)) ≠ 0 then 252 else 248)))))) (mo + 20) (fB c - 1)) &&& (nI (127))) ||| (nI (64)))))), S.2.1, S.2.2) 64), S.2.2) (i146 + 1) = (va_up (mlad_l146 c mo bs ((va_up (va_up (mlad_l17 c mo S 57) (mo + 20) (upd ((mlad_l17 c mo S 57) (mo + 20)) (0) (((mlad_l17 c mo S 57) (mo + 20) (0)) &&& (nI ((if (nI (bN c)) ≠ 0 then 252 else 248)))))) (mo + 20) (upd ((va_up (mlad_l17 c mo S 57) (mo + 20) (upd ((mlad_l17 c mo S 57) (mo + 20)) (0) (((mlad_l17 c mo S 57) (mo + 20) (0)) &&& (nI ((if (nI (bN c)) ≠ 0 then 252 else 248)))))) (mo + 20)) (fB c - 1) ((if (nI (bN c)) ≠ 0 then ((va_up (mlad_l17 c mo S 57) (mo + 20) (upd ((mlad_l17 c mo S 57) (mo + 20)) (0) (((mlad_l17 c mo S 57) (mo + 20) (0)) &&& (nI ((if (nI (bN c)) ≠ 0 then 252 else 248)))))) (mo + 20) (fB c - 1)) ||| (nI (128)) else (((va_up (mlad_l17 c mo S 57) (mo + 20) (upd ((mlad_l17 c mo S 57) (mo + 20)) (0) (((mlad_l17 c mo S 57) (mo + 20) (0)) &&& (nI ((if (nI (bN c)) ≠ 0 then 252 else 248)))))) (mo + 20) (fB c - 1)) &&& (nI (127))) ||| (nI (64)))))), (mlad_l125 mo ((va_up (va_up (mlad_l17 c mo S 57) (mo + 20) (upd ((mlad_l17 c mo S 57) (mo + 20)) (0) (((mlad_l17 c mo S 57) (mo + 20) (0)) &&& (nI ((if (nI (bN c)) ≠ 0 then 252 else 248)))))) (mo + 20) (upd ((va_up (mlad_l17 c mo S 57) (mo + 20) (upd ((mlad_l17 c mo S 57) (mo + 20)) (0) (((mlad_l17 c mo S 57) (mo + 20) (0)) &&& (nI ((if (nI (bN c)) ≠ 0 then 252 else 248)))))) (mo + 20)) (fB c - 1) ((if (nI (bN c)) ≠ 0 then ((va_up (mlad_l17 c mo S 57) (mo + 20) (upd ((mlad_l17 c mo S 57) (mo + 20)) (0) (((mlad_l17 c mo S 57) (mo + 20) (0)) &&& (nI ((if (nI (bN c)) ≠ 0 then 252 else 248)))))) (mo + 20) (fB c - 1)) ||| (nI (128)) else (((va_up (mlad_l17 c mo S 57) (mo + 20) (upd ((mlad_l17 c mo S 57) (mo + 20)) (0) (((mlad_l17 c mo S 57) (mo + 20) (0)) &&& (nI ((if (nI (bN c)) ≠ 0 then 252 else 248)))))) (mo + 20) (fB c - 1)) &&& (nI (127))) ||| (nI (64)))))), S.2.1, S.2.2) 64), S.2.2) i146) (mo + 8) (vp_updL ((mlad_l146 c mo bs ((va_up (va_up (mlad_l17 c mo S 57) (mo + 20) (upd ((mlad_l17 c mo S 57) (mo + 20)) (0) (((mlad_l17 c mo S 57) (mo + 20) (0)) &&& (nI ((if (nI (bN c)) ≠ 0 then 252 else 248)))))) (mo + 20) (upd ((va_up (mlad_l17 c mo S 57) (mo + 20) (upd ((mlad_l17 c mo S 57) (mo + 20)) (0) (((mlad_l17 c mo S 57) (mo + 20) (0)) &&& (nI ((if (nI (bN c)) ≠ 0 then 252 else 248)))))) (mo + 20)) (fB c - 1) ((if (nI (bN c)) ≠ 0 then ((va_up (mlad_l17 c mo S 57) (mo + 20) (upd ((mlad_l17 c mo S 57) (mo + 20)) (0) (((mlad_l17 c mo S 57) (mo + 20) (0)) &&& (nI ((if (nI (bN c)) ≠ 0 then 252 else 248)))))) (mo + 20) (fB c - 1)) ||| (nI (128)) else (((va_up (mlad_l17 c mo S 57) (mo + 20) (upd ((mlad_l17 c mo S 57) (mo + 20)) (0) (((mlad_l17 c mo S 57) (mo + 20) (0)) &&& (nI ((if (nI (bN c)) ≠ 0 then 252 else 248)))))) (mo + 20) (fB c - 1)) &&& (nI (127))) ||| (nI (64)))))), (mlad_l125 mo ((va_up (va_up (mlad_l17 c mo S 57) (mo + 20) (upd ((mlad_l17 c mo S 57) (mo + 20)) (0) (((mlad_l17 c mo S 57) (mo + 20) (0)) &&& (nI ((if (nI (bN c)) ≠ 0 then 252 else 248)))))) (mo + 20) (upd ((va_up (mlad_l17 c mo S 57) (mo + 20) (upd ((mlad_l17 c mo S 57) (mo + 20)) (0) (((mlad_l17 c mo S 57) (mo + 20) (0)) &&& (nI ((if (nI (bN c)) ≠ 0 then 252 else 248)))))) (mo + 20)) (fB c - 1) ((if (nI (bN c)) ≠ 0 then ((va_up (mlad_l17 c mo S 57) (mo + 20) (upd ((mlad_l17 c mo S 57) (mo + 20)) (0) (((mlad_l17 c mo S 57) (mo + 20) (0)) &&& (nI ((if (nI (bN c)) ≠ 0 then 252 else 248)))))) (mo + 20) (fB c - 1)) ||| (nI (128)) else (((va_up (mlad_l17 c mo S 57) (mo + 20) (upd ((mlad_l17 c mo S 57) (mo + 20)) (0) (((mlad_l17 c mo S 57) (mo + 20) (0)) &&& (nI ((if (nI (bN c)) ≠ 0 then 252 else 248)))))) (mo + 20) (fB c - 1)) &&& (nI (127))) ||| (nI (64)))))), S.2.1, S.2.2) 64), S.2.2) i146) (mo + 8)) (i146 / 2 ^ 1) (((mlad_l146 c mo bs ((va_up (va_up (mlad_l17 c mo S 57) (mo + 20) (upd ((mlad_l17 c mo S 57) (mo + 20)) (0) (((mlad_l17 c mo S 57) (mo + 20) (0)) &&& (nI ((if (nI (bN c)) ≠ 0 then 252 else 248)))))) (mo + 20) (upd ((va_up (mlad_l17 c mo S 57) (mo + 20) (upd ((mlad_l17 c mo S 57) (mo + 20)) (0) (((mlad_l17 c mo S 57) (mo + 20) (0)) &&& (nI ((if (nI (bN c)) ≠ 0 then 252 else 248)))))) (mo + 20)) (fB c - 1) ((if (nI (bN c)) ≠ 0 then ((va_up (mlad_l17 c mo S 57) (mo + 20) (upd ((mlad_l17 c mo S 57) (mo + 20)) (0) (((mlad_l17 c mo S 57) (mo + 20) (0)) &&& (nI ((if (nI (bN c)) ≠ 0 then 252 else 248)))))) (mo + 20) (fB c - 1)) ||| (nI (128)) else (((va_up (mlad_l17 c mo S 57) (mo + 20) (upd ((mlad_l17 c mo S 57) (mo + 20)) (0) (((mlad_l17 c mo S 57) (mo + 20) (0)) &&& (nI ((if (nI (bN c)) ≠ 0 then 252 else 248)))))) (mo + 20) (fB c - 1)) &&& (nI (127))) ||| (nI (64)))))), (mlad_l125 mo ((va_up (va_up (mlad_l17 c mo S 57) (mo + 20) (upd ((mlad_l17 c mo S 57) (mo + 20)) (0) (((mlad_l17 c mo S 57) (mo + 20) (0)) &&& (nI ((if (nI (bN c)) ≠ 0 then 252 else 248)))))) (mo + 20) (upd ((va_up (mlad_l17 c mo S 57) (mo + 20) (upd ((mlad_l17 c mo S 57) (mo + 20)) (0) (((mlad_l17 c mo S 57) (mo + 20) (0)) &&& (nI ((if (nI (bN c)) ≠ 0 then 252 else 248)))))) (mo + 20)) (fB c - 1) ((if (nI (bN c)) ≠ 0 then ((va_up (mlad_l17 c mo S 57) (mo + 20) (upd ((mlad_l17 c mo S 57) (mo + 20)) (0) (((mlad_l17 c mo S 57) (mo + 20) (0)) &&& (nI ((if (nI (bN c)) ≠ 0 then 252 else 248)))))) (mo + 20) (fB c - 1)) ||| (nI (128)) else (((va_up (mlad_l17 c mo S 57) (mo + 20) (upd ((mlad_l17 c mo S 57) (mo + 20)) (0) (((mlad_l17 c mo S 57) (mo + 20) (0)) &&& (nI ((if (nI (bN c)) ≠ 0 then 252 else 248)))))) (mo + 20) (fB c - 1)) &&& (nI (127))) ||| (nI (64)))))), S.2.1, S.2.2) 64), S.2.2) i146) (mo + 8) (i146 / 2 ^ 1)) + ((((if (nI (i146)) ≠ (nI (31)) then ((va_up (va_up (mlad_l17 c mo S 57) (mo + 20) (upd ((mlad_l17 c mo S 57) (mo + 20)) (0) (((mlad_l17 c mo S 57) (mo + 20) (0)) &&& (nI ((if (nI (bN c)) ≠ 0 then 252 else 248)))))) (mo + 20) (upd ((va_up (mlad_l17 c mo S 57) (mo + 20) (upd ((mlad_l17 c mo S 57) (mo + 20)) (0) (((mlad_l17 c mo S 57) (mo + 20) (0)) &&& (nI ((if (nI (bN c)) ≠ 0 then 252 else 248)))))) (mo + 20)) (fB c - 1) ((if (nI (bN c)) ≠ 0 then ((va_up (mlad_l17 c mo S 57) (mo + 20) (upd ((mlad_l17 c mo S 57) (mo + 20)) (0) (((mlad_l17 c mo S 57) (mo + 20) (0)) &&& (nI ((if (nI (bN c)) ≠ 0 then 252 else 248)))))) (mo + 20) (fB c - 1)) ||| (nI (128)) else (((va_up (mlad_l17 c mo S 57) (mo + 20) (upd ((mlad_l17 c mo S 57) (mo + 20)) (0) (((mlad_l17 c mo S 57) (mo + 20) (0)) &&& (nI ((if (nI (bN c)) ≠ 0 then 252 else 248)))))) (mo + 20) (fB c - 1)) &&& (nI (127))) ||| (nI (64)))))), (mlad_l125 mo ((va_up (va_up (mlad_l17 c mo S 57) (mo + 20) (upd ((mlad_l17 c mo S 57) (mo + 20)) (0) (((mlad_l17 c mo S 57) (mo + 20) (0)) &&& (nI ((if (nI (bN c)) ≠ 0 then 252 else 248)))))) (mo + 20) (upd ((va_up (mlad_l17 c mo S 57) (mo + 20) (upd ((mlad_l17 c mo S 57) (mo + 20)) (0) (((mlad_l17 c mo S 57) (mo + 20) (0)) &&& (nI ((if (nI (bN c)) ≠ 0 then 252 else 248)))))) (mo + 20)) (fB c - 1) ((if (nI (bN c)) ≠ 0 then ((va_up (mlad_l17 c mo S 57) (mo + 20) (upd ((mlad_l17 c mo S 57) (mo + 20)) (0) (((mlad_l17 c mo S 57) (mo + 20) (0)) &&& (nI ((if (nI (bN c)) ≠ 0 then 252 else 248)))))) (mo + 20) (fB c - 1)) ||| (nI (128)) else (((va_up (mlad_l17 c mo S 57) (mo + 20) (upd ((mlad_l17 c mo S 57) (mo + 20)) (0) (((mlad_l17 c mo S 57) (mo + 20) (0)) &&& (nI ((if (nI (bN c)) ≠ 0 then 252 else 248)))))) (mo + 20) (fB c - 1)) &&& (nI (127))) ||| (nI (64)))))), S.2.1, S.2.2) 64), S.2.2).1 (mo + 2) (i146) else (((va_up (va_up (mlad_l17 c mo S 57) (mo + 20) (upd ((mlad_l17 c mo S 57) (mo + 20)) (0) (((mlad_l17 c mo S 57) (mo + 20) (0)) &&& (nI ((if (nI (bN c)) ≠ 0 then 252 else 248)))))) (mo + 20) (upd ((va_up (mlad_l17 c mo S 57) (mo + 20) (upd ((mlad_l17 c mo S 57) (mo + 20)) (0) (((mlad_l17 c mo S 57) (mo + 20) (0)) &&& (nI ((if (nI (bN c)) ≠ 0 then 252 else 248)))))) (mo + 20)) (fB c - 1) ((if (nI (bN c)) ≠ 0 then ((va_up (mlad_l17 c mo S 57) (mo + 20) (upd ((mlad_l17 c mo S 57) (mo + 20)) (0) (((mlad_l17 c mo S 57) (mo + 20) (0)) &&& (nI ((if (nI (bN c)) ≠ 0 then 252 else 248)))))) (mo + 20) (fB c - 1)) ||| (nI (128)) else (((va_up (mlad_l17 c mo S 57) (mo + 20) (upd ((mlad_l17 c mo S 57) (mo + 20)) (0) (((mlad_l17 c mo S 57) (mo + 20) (0)) &&& (nI ((if (nI (bN c)) ≠ 0 then 252 else 248)))))) (mo + 20) (fB c - 1)) &&& (nI (127))) ||| (nI (64)))))), (mlad_l125 mo ((va_up (va_up (mlad_l17 c mo S 57) (mo + 20) (upd ((mlad_l17 c mo S 57) (mo + 20)) (0) (((mlad_l17 c mo S 57) (mo + 20) (0)) &&& (nI ((if (nI (bN c)) ≠ 0 then 252 else 248)))))) (mo + 20) (upd ((va_up (mlad_l17 c mo S 57) (mo + 20) (upd ((mlad_l17 c mo S 57) (mo + 20)) (0) (((mlad_l17 c mo S 57) (mo + 20) (0)) &&& (nI ((if (nI (bN c)) ≠ 0 then 252 else 248)))))) (mo + 20)) (fB c - 1) ((if (nI (bN c)) ≠ 0 then ((va_up (mlad_l17 c mo S 57) (mo + 20) (upd ((mlad_l17 c mo S 57) (mo + 20)) (0) (((mlad_l17 c mo S 57) (mo + 20) (0)) &&& (nI ((if (nI (bN c)) ≠ 0 then 252 else 248)))))) (mo + 20) (fB c - 1)) ||| (nI (128)) else (((va_up (mlad_l17 c mo S 57) (mo + 20) (upd ((mlad_l17 c mo S 57) (mo + 20)) (0) (((mlad_l17 c mo S 57) (mo + 20) (0)) &&& (nI ((if (nI (bN c)) ≠ 0 then 252 else 248)))))) (mo + 20) (fB c - 1)) &&& (nI (127))) ||| (nI (64)))))), S.2.1, S.2.2) 64), S.2.2).1 (mo + 2) (i146)) &&& (nI (127)))).toInt64) <<< ((nI (8 * (i146 % 2 ^ 1))).toInt64 &&& 63))))) := by
                            first | (dsimp only [mlad_l146]; done) | (dsimp only [mlad_l146]; exact ((if_pos hb23).trans (if_neg (fun q => q hb24)))) | exact ((if_pos hb23).trans (if_neg (fun q => q hb24)))
                          rw [he146] at ih146
                          exact rn_ks [0, 1, 2, 3] ih146 rfl
                        refine rn_icmp_ne (tgt := 204) C dX12_ladder_189 (by decide) (fun hb26 => ?_) (fun hb26 => ?_)
                        · skip
                          refine rn_aload_n C dX12_ladder_204 rfl ?_
                          refine rs_get C dX12_ladder_205 fl_X12_17 hM0 rfl ?_
                          refine rn_iload_n C dX12_ladder_208 rfl ?_
                          refine rs_iaload C dX12_ladder_209 hm2 rfl (by omega) (by decide) ?_
                          rw [if_pos hb26] at K189_26
                          exact K189_26
                        · skip
                          refine rn_aload_n C dX12_ladder_192 rfl ?_
                          refine rs_get C dX12_ladder_193 fl_X12_17 hM0 rfl ?_
                          refine rn_iload_n C dX12_ladder_196 rfl ?_
                          refine rs_iaload C dX12_ladder_197 hm2 rfl (by omega) (by decide) ?_
                          refine rn_bipush (v := nI 127) C dX12_ladder_198 rfl ?_
                          refine rn_iand C dX12_ladder_200 rfl ?_
                          refine rn_goto (tgt := 210) C dX12_ladder_201 (by decide) ?_
                          rw [if_neg (fun q => q hb26)] at K189_26
                          exact K189_26
                    · skip
                      refine rn_iload_n C dX12_ladder_155 rfl ?_
                      refine rn_if_le (tgt := 163) C dX12_ladder_156 (by decide) (fun hb29 => ?_) (fun hb29 => ?_)
                      · skip
                        refine rn_aload_n C dX12_ladder_163 rfl ?_
                        refine rs_getFe C dX12_ladder_164 fl_X12_51 hM0 rfl hcn ?_
                        refine rn_if_ne (tgt := 175) C dX12_ladder_167 (by decide) (fun hb30 => ?_) (fun hb30 => ?_)
                        · skip
                          refine rn_iconst (v := nI 5) C dX12_ladder_175 rfl ?_
                          refine rn_goto (tgt := 210) C dX12_ladder_176 (by decide) ?_
                          refine rn_istore (lv' := [(0, _), (1, _), (2, _), (3, _), (4, _)]) C dX12_ladder_210 (by decide) rfl ?_
                          refine rn_aload_n C dX12_ladder_212 rfl ?_
                          refine rs_get C dX12_ladder_213 fl_X12_44 hM0 rfl ?_
                          refine rn_iload_n C dX12_ladder_216 rfl ?_
                          refine rn_iconst (v := nI 1) C dX12_ladder_217 rfl ?_
                          refine rn_ishr C dX12_ladder_218 (pk_shrN (by omega) _ 1 (by decide)) ?_
                          refine rn_dup2 C dX12_ladder_219 rfl rfl ?_
                          refine rs_laload C dX12_ladder_220 hm8 rfl (by omega) (by decide) ?_
                          refine rn_iload C dX12_ladder_221 rfl ?_
                          refine rn_i2l C dX12_ladder_223 rfl ?_
                          refine rn_bipush (v := nI 8) C dX12_ladder_224 rfl ?_
                          refine rn_iload_n C dX12_ladder_226 rfl ?_
                          refine rn_iconst (v := nI 1) C dX12_ladder_227 rfl ?_
                          refine rn_iand C dX12_ladder_228 (pk_andN (by omega) 1 (by decide)) ?_
                          refine rn_imul C dX12_ladder_229 (pk_mul _ _) ?_
                          refine rn_lshl C dX12_ladder_230 rfl ?_
                          refine rn_ladd C dX12_ladder_231 rfl ?_
                          refine rs_lastore C dX12_ladder_232 hm8 rfl (by omega) (by decide) ?_
                          refine rn_iinc (lv' := [(0, _), (1, _), (2, _), (3, _), (4, _)]) C dX12_ladder_233 rfl (nI_inc _) (by decide) rfl ?_
                          refine rn_goto (tgt := 146) C dX12_ladder_236 (by decide) ?_
                          have he146 : mlad_l146 c mo bs ((va_up (va_up (mlad_l17 c mo S 57) (mo + 20) (upd ((mlad_l17 c mo S 57) (mo + 20)) (0) (((mlad_l17 c mo S 57) (mo + 20) (0)) &&& (nI ((if (nI (bN c)) ≠ 0 then 252 else 248)))))) (mo + 20) (upd ((va_up (mlad_l17 c mo S 57) (mo + 20) (upd ((mlad_l17 c mo S 57) (mo + 20)) (0) (((mlad_l17 c mo S 57) (mo + 20) (0)) &&& (nI ((if (nI (bN c)) ≠ 0 then 252 else 248)))))) (mo + 20)) (fB c - 1) ((if (nI (bN c)) ≠ 0 then ((va_up (mlad_l17 c mo S 57) (mo + 20) (upd ((mlad_l17 c mo S 57) (mo + 20)) (0) (((mlad_l17 c mo S 57) (mo + 20) (0)) &&& (nI ((if (nI (bN c)) ≠ 0 then 252 else 248)))))) (mo + 20) (fB c - 1)) ||| (nI (128)) else (((va_up (mlad_l17 c mo S 57) (mo + 20) (upd ((mlad_l17 c mo S 57) (mo + 20)) (0) (((mlad_l17 c mo S 57) (mo + 20) (0)) &&& (nI ((if (nI (bN c)) ≠ 0 then 252 else 248)))))) (mo + 20) (fB c - 1)) &&& (nI (127))) ||| (nI (64)))))), (mlad_l125 mo ((va_up (va_up (mlad_l17 c mo S 57) (mo + 20) (upd ((mlad_l17 c mo S 57) (mo + 20)) (0) (((mlad_l17 c mo S 57) (mo + 20) (0)) &&& (nI ((if (nI (bN c)) ≠ 0 then 252 else 248)))))) (mo + 20) (upd ((va_up (mlad_l17 c mo S 57) (mo + 20) (upd ((mlad_l17 c mo S 57) (mo + 20)) (0) (((mlad_l17 c mo S 57) (mo + 20) (0)) &&& (nI ((if (nI (bN c)) ≠ 0 then 252 else 248)))))) (mo + 20)) (fB c - 1) ((if (nI (bN c)) ≠ 0 then ((va_up (mlad_l17 c mo S 57) (mo + 20) (upd ((mlad_l17 c mo S 57) (mo + 20)) (0) (((mlad_l17 c mo S 57) (mo + 20) (0)) &&& (nI ((if (nI (bN c)) ≠ 0 then 252 else 248)))))) (mo + 20) (fB c - 1)) ||| (nI (128)) else (((va_up (mlad_l17 c mo S 57) (mo + 20) (upd ((mlad_l17 c mo S 57) (mo + 20)) (0) (((mlad_l17 c mo S 57) (mo + 20) (0)) &&& (nI ((if (nI (bN c)) ≠ 0 then 252 else 248)))))) (mo + 20) (fB c - 1)) &&& (nI (127))) ||| (nI (64)))))), S.2.1, S.2.2) 64), S.2.2) (i146 + 1) = (va_up (mlad_l146 c mo bs ((va_up (va_up (mlad_l17 c mo S 57) (mo + 20) (upd ((mlad_l17 c mo S 57) (mo + 20)) (0) (((mlad_l17 c mo S 57) (mo + 20) (0)) &&& (nI ((if (nI (bN c)) ≠ 0 then 252 else 248)))))) (mo + 20) (upd ((va_up (mlad_l17 c mo S 57) (mo + 20) (upd ((mlad_l17 c mo S 57) (mo + 20)) (0) (((mlad_l17 c mo S 57) (mo + 20) (0)) &&& (nI ((if (nI (bN c)) ≠ 0 then 252 else 248)))))) (mo + 20)) (fB c - 1) ((if (nI (bN c)) ≠ 0 then ((va_up (mlad_l17 c mo S 57) (mo + 20) (upd ((mlad_l17 c mo S 57) (mo + 20)) (0) (((mlad_l17 c mo S 57) (mo + 20) (0)) &&& (nI ((if (nI (bN c)) ≠ 0 then 252 else 248)))))) (mo + 20) (fB c - 1)) ||| (nI (128)) else (((va_up (mlad_l17 c mo S 57) (mo + 20) (upd ((mlad_l17 c mo S 57) (mo + 20)) (0) (((mlad_l17 c mo S 57) (mo + 20) (0)) &&& (nI ((if (nI (bN c)) ≠ 0 then 252 else 248)))))) (mo + 20) (fB c - 1)) &&& (nI (127))) ||| (nI (64)))))), (mlad_l125 mo ((va_up (va_up (mlad_l17 c mo S 57) (mo + 20) (upd ((mlad_l17 c mo S 57) (mo + 20)) (0) (((mlad_l17 c mo S 57) (mo + 20) (0)) &&& (nI ((if (nI (bN c)) ≠ 0 then 252 else 248)))))) (mo + 20) (upd ((va_up (mlad_l17 c mo S 57) (mo + 20) (upd ((mlad_l17 c mo S 57) (mo + 20)) (0) (((mlad_l17 c mo S 57) (mo + 20) (0)) &&& (nI ((if (nI (bN c)) ≠ 0 then 252 else 248)))))) (mo + 20)) (fB c - 1) ((if (nI (bN c)) ≠ 0 then ((va_up (mlad_l17 c mo S 57) (mo + 20) (upd ((mlad_l17 c mo S 57) (mo + 20)) (0) (((mlad_l17 c mo S 57) (mo + 20) (0)) &&& (nI ((if (nI (bN c)) ≠ 0 then 252 else 248)))))) (mo + 20) (fB c - 1)) ||| (nI (128)) else (((va_up (mlad_l17 c mo S 57) (mo + 20) (upd ((mlad_l17 c mo S 57) (mo + 20)) (0) (((mlad_l17 c mo S 57) (mo + 20) (0)) &&& (nI ((if (nI (bN c)) ≠ 0 then 252 else 248)))))) (mo + 20) (fB c - 1)) &&& (nI (127))) ||| (nI (64)))))), S.2.1, S.2.2) 64), S.2.2) i146) (mo + 8) (vp_updL ((mlad_l146 c mo bs ((va_up (va_up (mlad_l17 c mo S 57) (mo + 20) (upd ((mlad_l17 c mo S 57) (mo + 20)) (0) (((mlad_l17 c mo S 57) (mo + 20) (0)) &&& (nI ((if (nI (bN c)) ≠ 0 then 252 else 248)))))) (mo + 20) (upd ((va_up (mlad_l17 c mo S 57) (mo + 20) (upd ((mlad_l17 c mo S 57) (mo + 20)) (0) (((mlad_l17 c mo S 57) (mo + 20) (0)) &&& (nI ((if (nI (bN c)) ≠ 0 then 252 else 248)))))) (mo + 20)) (fB c - 1) ((if (nI (bN c)) ≠ 0 then ((va_up (mlad_l17 c mo S 57) (mo + 20) (upd ((mlad_l17 c mo S 57) (mo + 20)) (0) (((mlad_l17 c mo S 57) (mo + 20) (0)) &&& (nI ((if (nI (bN c)) ≠ 0 then 252 else 248)))))) (mo + 20) (fB c - 1)) ||| (nI (128)) else (((va_up (mlad_l17 c mo S 57) (mo + 20) (upd ((mlad_l17 c mo S 57) (mo + 20)) (0) (((mlad_l17 c mo S 57) (mo + 20) (0)) &&& (nI ((if (nI (bN c)) ≠ 0 then 252 else 248)))))) (mo + 20) (fB c - 1)) &&& (nI (127))) ||| (nI (64)))))), (mlad_l125 mo ((va_up (va_up (mlad_l17 c mo S 57) (mo + 20) (upd ((mlad_l17 c mo S 57) (mo + 20)) (0) (((mlad_l17 c mo S 57) (mo + 20) (0)) &&& (nI ((if (nI (bN c)) ≠ 0 then 252 else 248)))))) (mo + 20) (upd ((va_up (mlad_l17 c mo S 57) (mo + 20) (upd ((mlad_l17 c mo S 57) (mo + 20)) (0) (((mlad_l17 c mo S 57) (mo + 20) (0)) &&& (nI ((if (nI (bN c)) ≠ 0 then 252 else 248)))))) (mo + 20)) (fB c - 1) ((if (nI (bN c)) ≠ 0 then ((va_up (mlad_l17 c mo S 57) (mo + 20) (upd ((mlad_l17 c mo S 57) (mo + 20)) (0) (((mlad_l17 c mo S 57) (mo + 20) (0)) &&& (nI ((if (nI (bN c)) ≠ 0 then 252 else 248)))))) (mo + 20) (fB c - 1)) ||| (nI (128)) else (((va_up (mlad_l17 c mo S 57) (mo + 20) (upd ((mlad_l17 c mo S 57) (mo + 20)) (0) (((mlad_l17 c mo S 57) (mo + 20) (0)) &&& (nI ((if (nI (bN c)) ≠ 0 then 252 else 248)))))) (mo + 20) (fB c - 1)) &&& (nI (127))) ||| (nI (64)))))), S.2.1, S.2.2) 64), S.2.2) i146) (mo + 8)) (i146 / 2 ^ 1) (((mlad_l146 c mo bs ((va_up (va_up (mlad_l17 c mo S 57) (mo + 20) (upd ((mlad_l17 c mo S 57) (mo + 20)) (0) (((mlad_l17 c mo S 57) (mo + 20) (0)) &&& (nI ((if (nI (bN c)) ≠ 0 then 252 else 248)))))) (mo + 20) (upd ((va_up (mlad_l17 c mo S 57) (mo + 20) (upd ((mlad_l17 c mo S 57) (mo + 20)) (0) (((mlad_l17 c mo S 57) (mo + 20) (0)) &&& (nI ((if (nI (bN c)) ≠ 0 then 252 else 248)))))) (mo + 20)) (fB c - 1) ((if (nI (bN c)) ≠ 0 then ((va_up (mlad_l17 c mo S 57) (mo + 20) (upd ((mlad_l17 c mo S 57) (mo + 20)) (0) (((mlad_l17 c mo S 57) (mo + 20) (0)) &&& (nI ((if (nI (bN c)) ≠ 0 then 252 else 248)))))) (mo + 20) (fB c - 1)) ||| (nI (128)) else (((va_up (mlad_l17 c mo S 57) (mo + 20) (upd ((mlad_l17 c mo S 57) (mo + 20)) (0) (((mlad_l17 c mo S 57) (mo + 20) (0)) &&& (nI ((if (nI (bN c)) ≠ 0 then 252 else 248)))))) (mo + 20) (fB c - 1)) &&& (nI (127))) ||| (nI (64)))))), (mlad_l125 mo ((va_up (va_up (mlad_l17 c mo S 57) (mo + 20) (upd ((mlad_l17 c mo S 57) (mo + 20)) (0) (((mlad_l17 c mo S 57) (mo + 20) (0)) &&& (nI ((if (nI (bN c)) ≠ 0 then 252 else 248)))))) (mo + 20) (upd ((va_up (mlad_l17 c mo S 57) (mo + 20) (upd ((mlad_l17 c mo S 57) (mo + 20)) (0) (((mlad_l17 c mo S 57) (mo + 20) (0)) &&& (nI ((if (nI (bN c)) ≠ 0 then 252 else 248)))))) (mo + 20)) (fB c - 1) ((if (nI (bN c)) ≠ 0 then ((va_up (mlad_l17 c mo S 57) (mo + 20) (upd ((mlad_l17 c mo S 57) (mo + 20)) (0) (((mlad_l17 c mo S 57) (mo + 20) (0)) &&& (nI ((if (nI (bN c)) ≠ 0 then 252 else 248)))))) (mo + 20) (fB c - 1)) ||| (nI (128)) else (((va_up (mlad_l17 c mo S 57) (mo + 20) (upd ((mlad_l17 c mo S 57) (mo + 20)) (0) (((mlad_l17 c mo S 57) (mo + 20) (0)) &&& (nI ((if (nI (bN c)) ≠ 0 then 252 else 248)))))) (mo + 20) (fB c - 1)) &&& (nI (127))) ||| (nI (64)))))), S.2.1, S.2.2) 64), S.2.2) i146) (mo + 8) (i146 / 2 ^ 1)) + (((nI (5)).toInt64) <<< ((nI (8 * (i146 % 2 ^ 1))).toInt64 &&& 63))))) := by
                            first | (dsimp only [mlad_l146]; done) | (dsimp only [mlad_l146]; exact (((if_neg hb23).trans (if_pos hb29)).trans (if_pos hb30))) | exact (((if_neg hb23).trans (if_pos hb29)).trans (if_pos hb30))
                          rw [he146] at ih146
                          exact rn_ks [0, 1, 2, 3] ih146 rfl
                        · skip
                          refine rn_bipush (v := nI 9) C dX12_ladder_170 rfl ?_
                          refine rn_goto (tgt := 210) C dX12_ladder_172 (by decide) ?_
                          refine rn_istore (lv' := [(0, _), (1, _), (2, _), (3, _), (4, _)]) C dX12_ladder_210 (by decide) rfl ?_
                          refine rn_aload_n C dX12_ladder_212 rfl ?_
                          refine rs_get C dX12_ladder_213 fl_X12_44 hM0 rfl ?_
                          refine rn_iload_n C dX12_ladder_216 rfl ?_
                          refine rn_iconst (v := nI 1) C dX12_ladder_217 rfl ?_
                          refine rn_ishr C dX12_ladder_218 (pk_shrN (by omega) _ 1 (by decide)) ?_
                          refine rn_dup2 C dX12_ladder_219 rfl rfl ?_
                          refine rs_laload C dX12_ladder_220 hm8 rfl (by omega) (by decide) ?_
                          refine rn_iload C dX12_ladder_221 rfl ?_
                          refine rn_i2l C dX12_ladder_223 rfl ?_
                          refine rn_bipush (v := nI 8) C dX12_ladder_224 rfl ?_
                          refine rn_iload_n C dX12_ladder_226 rfl ?_
                          refine rn_iconst (v := nI 1) C dX12_ladder_227 rfl ?_
                          refine rn_iand C dX12_ladder_228 (pk_andN (by omega) 1 (by decide)) ?_
                          refine rn_imul C dX12_ladder_229 (pk_mul _ _) ?_
                          refine rn_lshl C dX12_ladder_230 rfl ?_
                          refine rn_ladd C dX12_ladder_231 rfl ?_
                          refine rs_lastore C dX12_ladder_232 hm8 rfl (by omega) (by decide) ?_
                          refine rn_iinc (lv' := [(0, _), (1, _), (2, _), (3, _), (4, _)]) C dX12_ladder_233 rfl (nI_inc _) (by decide) rfl ?_
                          refine rn_goto (tgt := 146) C dX12_ladder_236 (by decide) ?_
                          have he146 : mlad_l146 c mo bs ((va_up (va_up (mlad_l17 c mo S 57) (mo + 20) (upd ((mlad_l17 c mo S 57) (mo + 20)) (0) (((mlad_l17 c mo S 57) (mo + 20) (0)) &&& (nI ((if (nI (bN c)) ≠ 0 then 252 else 248)))))) (mo + 20) (upd ((va_up (mlad_l17 c mo S 57) (mo + 20) (upd ((mlad_l17 c mo S 57) (mo + 20)) (0) (((mlad_l17 c mo S 57) (mo + 20) (0)) &&& (nI ((if (nI (bN c)) ≠ 0 then 252 else 248)))))) (mo + 20)) (fB c - 1) ((if (nI (bN c)) ≠ 0 then ((va_up (mlad_l17 c mo S 57) (mo + 20) (upd ((mlad_l17 c mo S 57) (mo + 20)) (0) (((mlad_l17 c mo S 57) (mo + 20) (0)) &&& (nI ((if (nI (bN c)) ≠ 0 then 252 else 248)))))) (mo + 20) (fB c - 1)) ||| (nI (128)) else (((va_up (mlad_l17 c mo S 57) (mo + 20) (upd ((mlad_l17 c mo S 57) (mo + 20)) (0) (((mlad_l17 c mo S 57) (mo + 20) (0)) &&& (nI ((if (nI (bN c)) ≠ 0 then 252 else 248)))))) (mo + 20) (fB c - 1)) &&& (nI (127))) ||| (nI (64)))))), (mlad_l125 mo ((va_up (va_up (mlad_l17 c mo S 57) (mo + 20) (upd ((mlad_l17 c mo S 57) (mo + 20)) (0) (((mlad_l17 c mo S 57) (mo + 20) (0)) &&& (nI ((if (nI (bN c)) ≠ 0 then 252 else 248)))))) (mo + 20) (upd ((va_up (mlad_l17 c mo S 57) (mo + 20) (upd ((mlad_l17 c mo S 57) (mo + 20)) (0) (((mlad_l17 c mo S 57) (mo + 20) (0)) &&& (nI ((if (nI (bN c)) ≠ 0 then 252 else 248)))))) (mo + 20)) (fB c - 1) ((if (nI (bN c)) ≠ 0 then ((va_up (mlad_l17 c mo S 57) (mo + 20) (upd ((mlad_l17 c mo S 57) (mo + 20)) (0) (((mlad_l17 c mo S 57) (mo + 20) (0)) &&& (nI ((if (nI (bN c)) ≠ 0 then 252 else 248)))))) (mo + 20) (fB c - 1)) ||| (nI (128)) else (((va_up (mlad_l17 c mo S 57) (mo + 20) (upd ((mlad_l17 c mo S 57) (mo + 20)) (0) (((mlad_l17 c mo S 57) (mo + 20) (0)) &&& (nI ((if (nI (bN c)) ≠ 0 then 252 else 248)))))) (mo + 20) (fB c - 1)) &&& (nI (127))) ||| (nI (64)))))), S.2.1, S.2.2) 64), S.2.2) (i146 + 1) = (va_up (mlad_l146 c mo bs ((va_up (va_up (mlad_l17 c mo S 57) (mo + 20) (upd ((mlad_l17 c mo S 57) (mo + 20)) (0) (((mlad_l17 c mo S 57) (mo + 20) (0)) &&& (nI ((if (nI (bN c)) ≠ 0 then 252 else 248)))))) (mo + 20) (upd ((va_up (mlad_l17 c mo S 57) (mo + 20) (upd ((mlad_l17 c mo S 57) (mo + 20)) (0) (((mlad_l17 c mo S 57) (mo + 20) (0)) &&& (nI ((if (nI (bN c)) ≠ 0 then 252 else 248)))))) (mo + 20)) (fB c - 1) ((if (nI (bN c)) ≠ 0 then ((va_up (mlad_l17 c mo S 57) (mo + 20) (upd ((mlad_l17 c mo S 57) (mo + 20)) (0) (((mlad_l17 c mo S 57) (mo + 20) (0)) &&& (nI ((if (nI (bN c)) ≠ 0 then 252 else 248)))))) (mo + 20) (fB c - 1)) ||| (nI (128)) else (((va_up (mlad_l17 c mo S 57) (mo + 20) (upd ((mlad_l17 c mo S 57) (mo + 20)) (0) (((mlad_l17 c mo S 57) (mo + 20) (0)) &&& (nI ((if (nI (bN c)) ≠ 0 then 252 else 248)))))) (mo + 20) (fB c - 1)) &&& (nI (127))) ||| (nI (64)))))), (mlad_l125 mo ((va_up (va_up (mlad_l17 c mo S 57) (mo + 20) (upd ((mlad_l17 c mo S 57) (mo + 20)) (0) (((mlad_l17 c mo S 57) (mo + 20) (0)) &&& (nI ((if (nI (bN c)) ≠ 0 then 252 else 248)))))) (mo + 20) (upd ((va_up (mlad_l17 c mo S 57) (mo + 20) (upd ((mlad_l17 c mo S 57) (mo + 20)) (0) (((mlad_l17 c mo S 57) (mo + 20) (0)) &&& (nI ((if (nI (bN c)) ≠ 0 then 252 else 248)))))) (mo + 20)) (fB c - 1) ((if (nI (bN c)) ≠ 0 then ((va_up (mlad_l17 c mo S 57) (mo + 20) (upd ((mlad_l17 c mo S 57) (mo + 20)) (0) (((mlad_l17 c mo S 57) (mo + 20) (0)) &&& (nI ((if (nI (bN c)) ≠ 0 then 252 else 248)))))) (mo + 20) (fB c - 1)) ||| (nI (128)) else (((va_up (mlad_l17 c mo S 57) (mo + 20) (upd ((mlad_l17 c mo S 57) (mo + 20)) (0) (((mlad_l17 c mo S 57) (mo + 20) (0)) &&& (nI ((if (nI (bN c)) ≠ 0 then 252 else 248)))))) (mo + 20) (fB c - 1)) &&& (nI (127))) ||| (nI (64)))))), S.2.1, S.2.2) 64), S.2.2) i146) (mo + 8) (vp_updL ((mlad_l146 c mo bs ((va_up (va_up (mlad_l17 c mo S 57) (mo + 20) (upd ((mlad_l17 c mo S 57) (mo + 20)) (0) (((mlad_l17 c mo S 57) (mo + 20) (0)) &&& (nI ((if (nI (bN c)) ≠ 0 then 252 else 248)))))) (mo + 20) (upd ((va_up (mlad_l17 c mo S 57) (mo + 20) (upd ((mlad_l17 c mo S 57) (mo + 20)) (0) (((mlad_l17 c mo S 57) (mo + 20) (0)) &&& (nI ((if (nI (bN c)) ≠ 0 then 252 else 248)))))) (mo + 20)) (fB c - 1) ((if (nI (bN c)) ≠ 0 then ((va_up (mlad_l17 c mo S 57) (mo + 20) (upd ((mlad_l17 c mo S 57) (mo + 20)) (0) (((mlad_l17 c mo S 57) (mo + 20) (0)) &&& (nI ((if (nI (bN c)) ≠ 0 then 252 else 248)))))) (mo + 20) (fB c - 1)) ||| (nI (128)) else (((va_up (mlad_l17 c mo S 57) (mo + 20) (upd ((mlad_l17 c mo S 57) (mo + 20)) (0) (((mlad_l17 c mo S 57) (mo + 20) (0)) &&& (nI ((if (nI (bN c)) ≠ 0 then 252 else 248)))))) (mo + 20) (fB c - 1)) &&& (nI (127))) ||| (nI (64)))))), (mlad_l125 mo ((va_up (va_up (mlad_l17 c mo S 57) (mo + 20) (upd ((mlad_l17 c mo S 57) (mo + 20)) (0) (((mlad_l17 c mo S 57) (mo + 20) (0)) &&& (nI ((if (nI (bN c)) ≠ 0 then 252 else 248)))))) (mo + 20) (upd ((va_up (mlad_l17 c mo S 57) (mo + 20) (upd ((mlad_l17 c mo S 57) (mo + 20)) (0) (((mlad_l17 c mo S 57) (mo + 20) (0)) &&& (nI ((if (nI (bN c)) ≠ 0 then 252 else 248)))))) (mo + 20)) (fB c - 1) ((if (nI (bN c)) ≠ 0 then ((va_up (mlad_l17 c mo S 57) (mo + 20) (upd ((mlad_l17 c mo S 57) (mo + 20)) (0) (((mlad_l17 c mo S 57) (mo + 20) (0)) &&& (nI ((if (nI (bN c)) ≠ 0 then 252 else 248)))))) (mo + 20) (fB c - 1)) ||| (nI (128)) else (((va_up (mlad_l17 c mo S 57) (mo + 20) (upd ((mlad_l17 c mo S 57) (mo + 20)) (0) (((mlad_l17 c mo S 57) (mo + 20) (0)) &&& (nI ((if (nI (bN c)) ≠ 0 then 252 else 248)))))) (mo + 20) (fB c - 1)) &&& (nI (127))) ||| (nI (64)))))), S.2.1, S.2.2) 64), S.2.2) i146) (mo + 8)) (i146 / 2 ^ 1) (((mlad_l146 c mo bs ((va_up (va_up (mlad_l17 c mo S 57) (mo + 20) (upd ((mlad_l17 c mo S 57) (mo + 20)) (0) (((mlad_l17 c mo S 57) (mo + 20) (0)) &&& (nI ((if (nI (bN c)) ≠ 0 then 252 else 248)))))) (mo + 20) (upd ((va_up (mlad_l17 c mo S 57) (mo + 20) (upd ((mlad_l17 c mo S 57) (mo + 20)) (0) (((mlad_l17 c mo S 57) (mo + 20) (0)) &&& (nI ((if (nI (bN c)) ≠ 0 then 252 else 248)))))) (mo + 20)) (fB c - 1) ((if (nI (bN c)) ≠ 0 then ((va_up (mlad_l17 c mo S 57) (mo + 20) (upd ((mlad_l17 c mo S 57) (mo + 20)) (0) (((mlad_l17 c mo S 57) (mo + 20) (0)) &&& (nI ((if (nI (bN c)) ≠ 0 then 252 else 248)))))) (mo + 20) (fB c - 1)) ||| (nI (128)) else (((va_up (mlad_l17 c mo S 57) (mo + 20) (upd ((mlad_l17 c mo S 57) (mo + 20)) (0) (((mlad_l17 c mo S 57) (mo + 20) (0)) &&& (nI ((if (nI (bN c)) ≠ 0 then 252 else 248)))))) (mo + 20) (fB c - 1)) &&& (nI (127))) ||| (nI (64)))))), (mlad_l125 mo ((va_up (va_up (mlad_l17 c mo S 57) (mo + 20) (upd ((mlad_l17 c mo S 57) (mo + 20)) (0) (((mlad_l17 c mo S 57) (mo + 20) (0)) &&& (nI ((if (nI (bN c)) ≠ 0 then 252 else 248)))))) (mo + 20) (upd ((va_up (mlad_l17 c mo S 57) (mo + 20) (upd ((mlad_l17 c mo S 57) (mo + 20)) (0) (((mlad_l17 c mo S 57) (mo + 20) (0)) &&& (nI ((if (nI (bN c)) ≠ 0 then 252 else 248)))))) (mo + 20)) (fB c - 1) ((if (nI (bN c)) ≠ 0 then ((va_up (mlad_l17 c mo S 57) (mo + 20) (upd ((mlad_l17 c mo S 57) (mo + 20)) (0) (((mlad_l17 c mo S 57) (mo + 20) (0)) &&& (nI ((if (nI (bN c)) ≠ 0 then 252 else 248)))))) (mo + 20) (fB c - 1)) ||| (nI (128)) else (((va_up (mlad_l17 c mo S 57) (mo + 20) (upd ((mlad_l17 c mo S 57) (mo + 20)) (0) (((mlad_l17 c mo S 57) (mo + 20) (0)) &&& (nI ((if (nI (bN c)) ≠ 0 then 252 else 248)))))) (mo + 20) (fB c - 1)) &&& (nI (127))) ||| (nI (64)))))), S.2.1, S.2.2) 64), S.2.2) i146) (mo + 8) (i146 / 2 ^ 1)) + (((nI (9)).toInt64) <<< ((nI (8 * (i146 % 2 ^ 1))).toInt64 &&& 63))))) := by
                            first | (dsimp only [mlad_l146]; done) | (dsimp only [mlad_l146]; exact (((if_neg hb23).trans (if_pos hb29)).trans (if_neg (fun q => q hb30)))) | exact (((if_neg hb23).trans (if_pos hb29)).trans (if_neg (fun q => q hb30)))
                          rw [he146] at ih146
                          exact rn_ks [0, 1, 2, 3] ih146 rfl
                      · skip
                        refine rn_iconst (v := nI 0) C dX12_ladder_159 rfl ?_
                        refine rn_goto (tgt := 210) C dX12_ladder_160 (by decide) ?_
                        refine rn_istore (lv' := [(0, _), (1, _), (2, _), (3, _), (4, _)]) C dX12_ladder_210 (by decide) rfl ?_
                        refine rn_aload_n C dX12_ladder_212 rfl ?_
                        refine rs_get C dX12_ladder_213 fl_X12_44 hM0 rfl ?_
                        refine rn_iload_n C dX12_ladder_216 rfl ?_
                        refine rn_iconst (v := nI 1) C dX12_ladder_217 rfl ?_
                        refine rn_ishr C dX12_ladder_218 (pk_shrN (by omega) _ 1 (by decide)) ?_
                        refine rn_dup2 C dX12_ladder_219 rfl rfl ?_
                        refine rs_laload C dX12_ladder_220 hm8 rfl (by omega) (by decide) ?_
                        refine rn_iload C dX12_ladder_221 rfl ?_
                        refine rn_i2l C dX12_ladder_223 rfl ?_
                        refine rn_bipush (v := nI 8) C dX12_ladder_224 rfl ?_
                        refine rn_iload_n C dX12_ladder_226 rfl ?_
                        refine rn_iconst (v := nI 1) C dX12_ladder_227 rfl ?_
                        refine rn_iand C dX12_ladder_228 (pk_andN (by omega) 1 (by decide)) ?_
                        refine rn_imul C dX12_ladder_229 (pk_mul _ _) ?_
                        refine rn_lshl C dX12_ladder_230 rfl ?_
                        refine rn_ladd C dX12_ladder_231 rfl ?_
                        refine rs_lastore C dX12_ladder_232 hm8 rfl (by omega) (by decide) ?_
                        refine rn_iinc (lv' := [(0, _), (1, _), (2, _), (3, _), (4, _)]) C dX12_ladder_233 rfl (nI_inc _) (by decide) rfl ?_
                        refine rn_goto (tgt := 146) C dX12_ladder_236 (by decide) ?_
                        have he146 : mlad_l146 c mo bs ((va_up (va_up (mlad_l17 c mo S 57) (mo + 20) (upd ((mlad_l17 c mo S 57) (mo + 20)) (0) (((mlad_l17 c mo S 57) (mo + 20) (0)) &&& (nI ((if (nI (bN c)) ≠ 0 then 252 else 248)))))) (mo + 20) (upd ((va_up (mlad_l17 c mo S 57) (mo + 20) (upd ((mlad_l17 c mo S 57) (mo + 20)) (0) (((mlad_l17 c mo S 57) (mo + 20) (0)) &&& (nI ((if (nI (bN c)) ≠ 0 then 252 else 248)))))) (mo + 20)) (fB c - 1) ((if (nI (bN c)) ≠ 0 then ((va_up (mlad_l17 c mo S 57) (mo + 20) (upd ((mlad_l17 c mo S 57) (mo + 20)) (0) (((mlad_l17 c mo S 57) (mo + 20) (0)) &&& (nI ((if (nI (bN c)) ≠ 0 then 252 else 248)))))) (mo + 20) (fB c - 1)) ||| (nI (128)) else (((va_up (mlad_l17 c mo S 57) (mo + 20) (upd ((mlad_l17 c mo S 57) (mo + 20)) (0) (((mlad_l17 c mo S 57) (mo + 20) (0)) &&& (nI ((if (nI (bN c)) ≠ 0 then 252 else 248)))))) (mo + 20) (fB c - 1)) &&& (nI (127))) ||| (nI (64)))))), (mlad_l125 mo ((va_up (va_up (mlad_l17 c mo S 57) (mo + 20) (upd ((mlad_l17 c mo S 57) (mo + 20)) (0) (((mlad_l17 c mo S 57) (mo + 20) (0)) &&& (nI ((if (nI (bN c)) ≠ 0 then 252 else 248)))))) (mo + 20) (upd ((va_up (mlad_l17 c mo S 57) (mo + 20) (upd ((mlad_l17 c mo S 57) (mo + 20)) (0) (((mlad_l17 c mo S 57) (mo + 20) (0)) &&& (nI ((if (nI (bN c)) ≠ 0 then 252 else 248)))))) (mo + 20)) (fB c - 1) ((if (nI (bN c)) ≠ 0 then ((va_up (mlad_l17 c mo S 57) (mo + 20) (upd ((mlad_l17 c mo S 57) (mo + 20)) (0) (((mlad_l17 c mo S 57) (mo + 20) (0)) &&& (nI ((if (nI (bN c)) ≠ 0 then 252 else 248)))))) (mo + 20) (fB c - 1)) ||| (nI (128)) else (((va_up (mlad_l17 c mo S 57) (mo + 20) (upd ((mlad_l17 c mo S 57) (mo + 20)) (0) (((mlad_l17 c mo S 57) (mo + 20) (0)) &&& (nI ((if (nI (bN c)) ≠ 0 then 252 else 248)))))) (mo + 20) (fB c - 1)) &&& (nI (127))) ||| (nI (64)))))), S.2.1, S.2.2) 64), S.2.2) (i146 + 1) = (va_up (mlad_l146 c mo bs ((va_up (va_up (mlad_l17 c mo S 57) (mo + 20) (upd ((mlad_l17 c mo S 57) (mo + 20)) (0) (((mlad_l17 c mo S 57) (mo + 20) (0)) &&& (nI ((if (nI (bN c)) ≠ 0 then 252 else 248)))))) (mo + 20) (upd ((va_up (mlad_l17 c mo S 57) (mo + 20) (upd ((mlad_l17 c mo S 57) (mo + 20)) (0) (((mlad_l17 c mo S 57) (mo + 20) (0)) &&& (nI ((if (nI (bN c)) ≠ 0 then 252 else 248)))))) (mo + 20)) (fB c - 1) ((if (nI (bN c)) ≠ 0 then ((va_up (mlad_l17 c mo S 57) (mo + 20) (upd ((mlad_l17 c mo S 57) (mo + 20)) (0) (((mlad_l17 c mo S 57) (mo + 20) (0)) &&& (nI ((if (nI (bN c)) ≠ 0 then 252 else 248)))))) (mo + 20) (fB c - 1)) ||| (nI (128)) else (((va_up (mlad_l17 c mo S 57) (mo + 20) (upd ((mlad_l17 c mo S 57) (mo + 20)) (0) (((mlad_l17 c mo S 57) (mo + 20) (0)) &&& (nI ((if (nI (bN c)) ≠ 0 then 252 else 248)))))) (mo + 20) (fB c - 1)) &&& (nI (127))) ||| (nI (64)))))), (mlad_l125 mo ((va_up (va_up (mlad_l17 c mo S 57) (mo + 20) (upd ((mlad_l17 c mo S 57) (mo + 20)) (0) (((mlad_l17 c mo S 57) (mo + 20) (0)) &&& (nI ((if (nI (bN c)) ≠ 0 then 252 else 248)))))) (mo + 20) (upd ((va_up (mlad_l17 c mo S 57) (mo + 20) (upd ((mlad_l17 c mo S 57) (mo + 20)) (0) (((mlad_l17 c mo S 57) (mo + 20) (0)) &&& (nI ((if (nI (bN c)) ≠ 0 then 252 else 248)))))) (mo + 20)) (fB c - 1) ((if (nI (bN c)) ≠ 0 then ((va_up (mlad_l17 c mo S 57) (mo + 20) (upd ((mlad_l17 c mo S 57) (mo + 20)) (0) (((mlad_l17 c mo S 57) (mo + 20) (0)) &&& (nI ((if (nI (bN c)) ≠ 0 then 252 else 248)))))) (mo + 20) (fB c - 1)) ||| (nI (128)) else (((va_up (mlad_l17 c mo S 57) (mo + 20) (upd ((mlad_l17 c mo S 57) (mo + 20)) (0) (((mlad_l17 c mo S 57) (mo + 20) (0)) &&& (nI ((if (nI (bN c)) ≠ 0 then 252 else 248)))))) (mo + 20) (fB c - 1)) &&& (nI (127))) ||| (nI (64)))))), S.2.1, S.2.2) 64), S.2.2) i146) (mo + 8) (vp_updL ((mlad_l146 c mo bs ((va_up (va_up (mlad_l17 c mo S 57) (mo + 20) (upd ((mlad_l17 c mo S 57) (mo + 20)) (0) (((mlad_l17 c mo S 57) (mo + 20) (0)) &&& (nI ((if (nI (bN c)) ≠ 0 then 252 else 248)))))) (mo + 20) (upd ((va_up (mlad_l17 c mo S 57) (mo + 20) (upd ((mlad_l17 c mo S 57) (mo + 20)) (0) (((mlad_l17 c mo S 57) (mo + 20) (0)) &&& (nI ((if (nI (bN c)) ≠ 0 then 252 else 248)))))) (mo + 20)) (fB c - 1) ((if (nI (bN c)) ≠ 0 then ((va_up (mlad_l17 c mo S 57) (mo + 20) (upd ((mlad_l17 c mo S 57) (mo + 20)) (0) (((mlad_l17 c mo S 57) (mo + 20) (0)) &&& (nI ((if (nI (bN c)) ≠ 0 then 252 else 248)))))) (mo + 20) (fB c - 1)) ||| (nI (128)) else (((va_up (mlad_l17 c mo S 57) (mo + 20) (upd ((mlad_l17 c mo S 57) (mo + 20)) (0) (((mlad_l17 c mo S 57) (mo + 20) (0)) &&& (nI ((if (nI (bN c)) ≠ 0 then 252 else 248)))))) (mo + 20) (fB c - 1)) &&& (nI (127))) ||| (nI (64)))))), (mlad_l125 mo ((va_up (va_up (mlad_l17 c mo S 57) (mo + 20) (upd ((mlad_l17 c mo S 57) (mo + 20)) (0) (((mlad_l17 c mo S 57) (mo + 20) (0)) &&& (nI ((if (nI (bN c)) ≠ 0 then 252 else 248)))))) (mo + 20) (upd ((va_up (mlad_l17 c mo S 57) (mo + 20) (upd ((mlad_l17 c mo S 57) (mo + 20)) (0) (((mlad_l17 c mo S 57) (mo + 20) (0)) &&& (nI ((if (nI (bN c)) ≠ 0 then 252 else 248)))))) (mo + 20)) (fB c - 1) ((if (nI (bN c)) ≠ 0 then ((va_up (mlad_l17 c mo S 57) (mo + 20) (upd ((mlad_l17 c mo S 57) (mo + 20)) (0) (((mlad_l17 c mo S 57) (mo + 20) (0)) &&& (nI ((if (nI (bN c)) ≠ 0 then 252 else 248)))))) (mo + 20) (fB c - 1)) ||| (nI (128)) else (((va_up (mlad_l17 c mo S 57) (mo + 20) (upd ((mlad_l17 c mo S 57) (mo + 20)) (0) (((mlad_l17 c mo S 57) (mo + 20) (0)) &&& (nI ((if (nI (bN c)) ≠ 0 then 252 else 248)))))) (mo + 20) (fB c - 1)) &&& (nI (127))) ||| (nI (64)))))), S.2.1, S.2.2) 64), S.2.2) i146) (mo + 8)) (i146 / 2 ^ 1) (((mlad_l146 c mo bs ((va_up (va_up (mlad_l17 c mo S 57) (mo + 20) (upd ((mlad_l17 c mo S 57) (mo + 20)) (0) (((mlad_l17 c mo S 57) (mo + 20) (0)) &&& (nI ((if (nI (bN c)) ≠ 0 then 252 else 248)))))) (mo + 20) (upd ((va_up (mlad_l17 c mo S 57) (mo + 20) (upd ((mlad_l17 c mo S 57) (mo + 20)) (0) (((mlad_l17 c mo S 57) (mo + 20) (0)) &&& (nI ((if (nI (bN c)) ≠ 0 then 252 else 248)))))) (mo + 20)) (fB c - 1) ((if (nI (bN c)) ≠ 0 then ((va_up (mlad_l17 c mo S 57) (mo + 20) (upd ((mlad_l17 c mo S 57) (mo + 20)) (0) (((mlad_l17 c mo S 57) (mo + 20) (0)) &&& (nI ((if (nI (bN c)) ≠ 0 then 252 else 248)))))) (mo + 20) (fB c - 1)) ||| (nI (128)) else (((va_up (mlad_l17 c mo S 57) (mo + 20) (upd ((mlad_l17 c mo S 57) (mo + 20)) (0) (((mlad_l17 c mo S 57) (mo + 20) (0)) &&& (nI ((if (nI (bN c)) ≠ 0 then 252 else 248)))))) (mo + 20) (fB c - 1)) &&& (nI (127))) ||| (nI (64)))))), (mlad_l125 mo ((va_up (va_up (mlad_l17 c mo S 57) (mo + 20) (upd ((mlad_l17 c mo S 57) (mo + 20)) (0) (((mlad_l17 c mo S 57) (mo + 20) (0)) &&& (nI ((if (nI (bN c)) ≠ 0 then 252 else 248)))))) (mo + 20) (upd ((va_up (mlad_l17 c mo S 57) (mo + 20) (upd ((mlad_l17 c mo S 57) (mo + 20)) (0) (((mlad_l17 c mo S 57) (mo + 20) (0)) &&& (nI ((if (nI (bN c)) ≠ 0 then 252 else 248)))))) (mo + 20)) (fB c - 1) ((if (nI (bN c)) ≠ 0 then ((va_up (mlad_l17 c mo S 57) (mo + 20) (upd ((mlad_l17 c mo S 57) (mo + 20)) (0) (((mlad_l17 c mo S 57) (mo + 20) (0)) &&& (nI ((if (nI (bN c)) ≠ 0 then 252 else 248)))))) (mo + 20) (fB c - 1)) ||| (nI (128)) else (((va_up (mlad_l17 c mo S 57) (mo + 20) (upd ((mlad_l17 c mo S 57) (mo + 20)) (0) (((mlad_l17 c mo S 57) (mo + 20) (0)) &&& (nI ((if (nI (bN c)) ≠ 0 then 252 else 248)))))) (mo + 20) (fB c - 1)) &&& (nI (127))) ||| (nI (64)))))), S.2.1, S.2.2) 64), S.2.2) i146) (mo + 8) (i146 / 2 ^ 1)) + (((nI (0)).toInt64) <<< ((nI (8 * (i146 % 2 ^ 1))).toInt64 &&& 63))))) := by
                          first | (dsimp only [mlad_l146]; done) | (dsimp only [mlad_l146]; exact ((if_neg hb23).trans (if_neg hb29))) | exact ((if_neg hb23).trans (if_neg hb29))
                        rw [he146] at ih146
                        exact rn_ks [0, 1, 2, 3] ih146 rfl
                exact lp146 0 (Nat.zero_le _)
              · skip
                refine rn_iload_n C dX12_ladder_125 rfl ?_
                refine rn_bipush (v := nI 64) C dX12_ladder_126 rfl ?_
                refine rs_ge (tgt := 144) C dX12_ladder_128 (by decide) rfl rfl (by omega) (by omega) (fun q => absurd q (by omega)) (fun _ => ?_)
                refine rn_aload_n C dX12_ladder_131 rfl ?_
                refine rs_get C dX12_ladder_132 fl_X12_44 hM0 rfl ?_
                refine rn_iload_n C dX12_ladder_135 rfl ?_
                refine rn_lconst (v := 0) C dX12_ladder_136 rfl ?_
                refine rs_lastore C dX12_ladder_137 hm8 rfl (by omega) (by decide) ?_
                refine rn_iinc (lv' := [(0, _), (1, _), (2, _), (3, _)]) C dX12_ladder_138 rfl (nI_inc _) (by decide) rfl ?_
                refine rn_goto (tgt := 125) C dX12_ladder_141 (by decide) ?_
                have he125 : mlad_l125 mo ((va_up (va_up (mlad_l17 c mo S 57) (mo + 20) (upd ((mlad_l17 c mo S 57) (mo + 20)) (0) (((mlad_l17 c mo S 57) (mo + 20) (0)) &&& (nI ((if (nI (bN c)) ≠ 0 then 252 else 248)))))) (mo + 20) (upd ((va_up (mlad_l17 c mo S 57) (mo + 20) (upd ((mlad_l17 c mo S 57) (mo + 20)) (0) (((mlad_l17 c mo S 57) (mo + 20) (0)) &&& (nI ((if (nI (bN c)) ≠ 0 then 252 else 248)))))) (mo + 20)) (fB c - 1) ((if (nI (bN c)) ≠ 0 then ((va_up (mlad_l17 c mo S 57) (mo + 20) (upd ((mlad_l17 c mo S 57) (mo + 20)) (0) (((mlad_l17 c mo S 57) (mo + 20) (0)) &&& (nI ((if (nI (bN c)) ≠ 0 then 252 else 248)))))) (mo + 20) (fB c - 1)) ||| (nI (128)) else (((va_up (mlad_l17 c mo S 57) (mo + 20) (upd ((mlad_l17 c mo S 57) (mo + 20)) (0) (((mlad_l17 c mo S 57) (mo + 20) (0)) &&& (nI ((if (nI (bN c)) ≠ 0 then 252 else 248)))))) (mo + 20) (fB c - 1)) &&& (nI (127))) ||| (nI (64)))))), S.2.1, S.2.2) (i125 + 1) = va_up (mlad_l125 mo ((va_up (va_up (mlad_l17 c mo S 57) (mo + 20) (upd ((mlad_l17 c mo S 57) (mo + 20)) (0) (((mlad_l17 c mo S 57) (mo + 20) (0)) &&& (nI ((if (nI (bN c)) ≠ 0 then 252 else 248)))))) (mo + 20) (upd ((va_up (mlad_l17 c mo S 57) (mo + 20) (upd ((mlad_l17 c mo S 57) (mo + 20)) (0) (((mlad_l17 c mo S 57) (mo + 20) (0)) &&& (nI ((if (nI (bN c)) ≠ 0 then 252 else 248)))))) (mo + 20)) (fB c - 1) ((if (nI (bN c)) ≠ 0 then ((va_up (mlad_l17 c mo S 57) (mo + 20) (upd ((mlad_l17 c mo S 57) (mo + 20)) (0) (((mlad_l17 c mo S 57) (mo + 20) (0)) &&& (nI ((if (nI (bN c)) ≠ 0 then 252 else 248)))))) (mo + 20) (fB c - 1)) ||| (nI (128)) else (((va_up (mlad_l17 c mo S 57) (mo + 20) (upd ((mlad_l17 c mo S 57) (mo + 20)) (0) (((mlad_l17 c mo S 57) (mo + 20) (0)) &&& (nI ((if (nI (bN c)) ≠ 0 then 252 else 248)))))) (mo + 20) (fB c - 1)) &&& (nI (127))) ||| (nI (64)))))), S.2.1, S.2.2) i125) (mo + 8) (vp_updL ((mlad_l125 mo ((va_up (va_up (mlad_l17 c mo S 57) (mo + 20) (upd ((mlad_l17 c mo S 57) (mo + 20)) (0) (((mlad_l17 c mo S 57) (mo + 20) (0)) &&& (nI ((if (nI (bN c)) ≠ 0 then 252 else 248)))))) (mo + 20) (upd ((va_up (mlad_l17 c mo S 57) (mo + 20) (upd ((mlad_l17 c mo S 57) (mo + 20)) (0) (((mlad_l17 c mo S 57) (mo + 20) (0)) &&& (nI ((if (nI (bN c)) ≠ 0 then 252 else 248)))))) (mo + 20)) (fB c - 1) ((if (nI (bN c)) ≠ 0 then ((va_up (mlad_l17 c mo S 57) (mo + 20) (upd ((mlad_l17 c mo S 57) (mo + 20)) (0) (((mlad_l17 c mo S 57) (mo + 20) (0)) &&& (nI ((if (nI (bN c)) ≠ 0 then 252 else 248)))))) (mo + 20) (fB c - 1)) ||| (nI (128)) else (((va_up (mlad_l17 c mo S 57) (mo + 20) (upd ((mlad_l17 c mo S 57) (mo + 20)) (0) (((mlad_l17 c mo S 57) (mo + 20) (0)) &&& (nI ((if (nI (bN c)) ≠ 0 then 252 else 248)))))) (mo + 20) (fB c - 1)) &&& (nI (127))) ||| (nI (64)))))), S.2.1, S.2.2) i125) (mo + 8)) (i125) (0)) := by
                  first | (dsimp only [mlad_l125]; done) | (dsimp only [mlad_l125]; exact rfl) | exact rfl
                rw [he125] at ih125
                exact rn_ks [0, 1, 2, 3] ih125 rfl
            exact lp125 0 (Nat.zero_le _)
          refine rn_if_ne (tgt := 110) C dX12_ladder_90 (by decide) (fun hb4 => ?_) (fun hb4 => ?_)
          · skip
            refine rn_aload_n C dX12_ladder_110 rfl ?_
            refine rs_get C dX12_ladder_111 fl_X12_90 hM0 rfl ?_
            refine rn_iload_n C dX12_ladder_114 rfl ?_
            refine rn_iconst (v := nI 1) C dX12_ladder_115 rfl ?_
            refine rn_isub C dX12_ladder_116 (pk_sub (by omega)) ?_
            refine rs_iaload C dX12_ladder_117 hm20 rfl (by omega) (by decide) ?_
            refine rn_sipush (v := nI 128) C dX12_ladder_118 rfl ?_
            refine rn_ior C dX12_ladder_121 rfl ?_
            rw [if_pos hb4] at K90_4
            exact K90_4
          · skip
            refine rn_aload_n C dX12_ladder_93 rfl ?_
            refine rs_get C dX12_ladder_94 fl_X12_90 hM0 rfl ?_
            refine rn_iload_n C dX12_ladder_97 rfl ?_
            refine rn_iconst (v := nI 1) C dX12_ladder_98 rfl ?_
            refine rn_isub C dX12_ladder_99 (pk_sub (by omega)) ?_
            refine rs_iaload C dX12_ladder_100 hm20 rfl (by omega) (by decide) ?_
            refine rn_bipush (v := nI 127) C dX12_ladder_101 rfl ?_
            refine rn_iand C dX12_ladder_103 rfl ?_
            refine rn_bipush (v := nI 64) C dX12_ladder_104 rfl ?_
            refine rn_ior C dX12_ladder_106 rfl ?_
            refine rn_goto (tgt := 122) C dX12_ladder_107 (by decide) ?_
            rw [if_neg (fun q => q hb4)] at K90_4
            exact K90_4
        refine rn_if_ne (tgt := 74) C dX12_ladder_65 (by decide) (fun hb2 => ?_) (fun hb2 => ?_)
        · skip
          refine rn_sipush (v := nI 252) C dX12_ladder_74 rfl ?_
          rw [if_pos hb2] at K65_2
          exact K65_2
        · skip
          refine rn_sipush (v := nI 248) C dX12_ladder_68 rfl ?_
          refine rn_goto (tgt := 77) C dX12_ladder_71 (by decide) ?_
          rw [if_neg (fun q => q hb2)] at K65_2
          exact K65_2
      · skip
        refine rn_iload_n C dX12_ladder_17 rfl ?_
        refine rn_bipush (v := nI 57) C dX12_ladder_18 rfl ?_
        refine rs_ge (tgt := 50) C dX12_ladder_20 (by decide) rfl rfl (by omega) (by omega) (fun q => absurd q (by omega)) (fun _ => ?_)
        refine rn_aload_n C dX12_ladder_23 rfl ?_
        refine rs_get C dX12_ladder_24 fl_X12_90 hM0 rfl ?_
        refine rn_iload_n C dX12_ladder_27 rfl ?_
        refine rn_iload_n C dX12_ladder_28 rfl ?_
        refine rn_iload_n C dX12_ladder_29 rfl ?_
        have K30_34 : Rn X 43 [(0, .ref (k_b X.1 + (mo))), (1, .int (bI bs)), (2, .int (nI (fB c))), (3, .int (nI (i17)))] [.int ((if (nI (fB c)) ≤ (nI (i17)) then nI (0) else (mlad_l17 c mo S i17) (mo + 1) (i17))), .int (nI (i17)), .ref (k_b X.1 + (mo + 20))] (inst X.1 L (mlad_l17 c mo S i17) S.2.1 S.2.2) n 0 0 := by
          refine rs_iastore C dX12_ladder_43 hm20 rfl (by omega) (by decide) ?_
          refine rn_iinc (lv' := [(0, _), (1, _), (2, _), (3, _)]) C dX12_ladder_44 rfl (nI_inc _) (by decide) rfl ?_
          refine rn_goto (tgt := 17) C dX12_ladder_47 (by decide) ?_
          have he17 : mlad_l17 c mo S (i17 + 1) = (va_up (mlad_l17 c mo S i17) (mo + 20) (upd ((mlad_l17 c mo S i17) (mo + 20)) (i17) ((if (nI (fB c)) ≤ (nI (i17)) then nI (0) else (mlad_l17 c mo S i17) (mo + 1) (i17))))) := by
            first | (dsimp only [mlad_l17]; done) | (dsimp only [mlad_l17]; exact rfl) | exact rfl
          rw [he17] at ih17
          exact rn_ks [0, 1, 2, 3] ih17 rfl
        refine rn_icmp_ge (tgt := 42) C dX12_ladder_30 (by decide) (fun hb34 => ?_) (fun hb34 => ?_)
        · skip
          refine rn_iconst (v := nI 0) C dX12_ladder_42 rfl ?_
          rw [if_pos hb34] at K30_34
          exact K30_34
        · skip
          refine rn_aload_n C dX12_ladder_33 rfl ?_
          refine rs_get C dX12_ladder_34 fl_X12_13 hM0 rfl ?_
          refine rn_iload_n C dX12_ladder_37 rfl ?_
          refine rs_iaload C dX12_ladder_38 hm1 rfl (by omega) (by decide) ?_
          refine rn_goto (tgt := 43) C dX12_ladder_39 (by decide) ?_
          rw [if_neg hb34] at K30_34
          exact K30_34
    exact lp17 0 (Nat.zero_le _)
  refine rn_if_ne (tgt := 12) C dX12_ladder_4 (by decide) (fun hb1 => ?_) (fun hb1 => ?_)
  · skip
    refine rn_bipush (v := nI 56) C dX12_ladder_12 rfl ?_
    rw [if_pos hb1] at K4_1
    exact K4_1
  · skip
    refine rn_bipush (v := nI 32) C dX12_ladder_7 rfl ?_
    refine rn_goto (tgt := 14) C dX12_ladder_9 (by decide) ?_
    rw [if_neg (fun q => q hb1)] at K4_1
    exact K4_1
