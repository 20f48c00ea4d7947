/-! CurveSuiteModel: its maker, behind the rows (spec_model11.py) -/
def mbody_l265 (mo : Nat) (S1 : StT) (S : StT)  : Nat → (Nat → Nat → Int32)
  | 0 => S.1
  | i265 + 1 => let y265_0 := (mbody_l265 mo S1 S i265); (if (nI (15)) ≤ (nI (i265)) then (let I30 := va_up y265_0 (mo + 7) (upd (y265_0 (mo + 7)) (288 + i265) (nI ((if (nI (i265)) ≠ (nI (15)) then 0 else 32767)))); va_up I30 (mo + 7) (upd (I30 (mo + 7)) (320 + i265) (65535))) else (let I31 := va_up (va_up y265_0 (mo + 7) (upd (y265_0 (mo + 7)) (288 + i265) (65535))) (mo + 7) (upd ((va_up y265_0 (mo + 7) (upd (y265_0 (mo + 7)) (288 + i265) (65535))) (mo + 7)) (320 + i265) (65535)); I31))
def mbody_f (mo : Nat) (S : StT) : StT := (let S1 := mrtC_f (mo)  S; (let I2 := va_up (mbody_l265 mo S1 (S1.1, S1.2.1, S.2.2) 28) (mo + 7) (upd ((mbody_l265 mo S1 (S1.1, S1.2.1, S.2.2) 28) (mo + 7)) (288) (65517)); (let S3 := mpiece_f (mo) (19) (0) (6346243789798364141) (va_up I2 (mo + 7) (upd (I2 (mo + 7)) (334) (65534)), S1.2.1, S.2.2); (let S4 := mpiece_f (mo) (19) (4) (1503914060200516822) (S3.1, S3.2.1, S.2.2); (let S5 := mo448_f (mo)  (va_up S4.1 (mo + 7) (upd (S4.1 (mo + 7)) (623) (nI (4096))), S4.2.1, S.2.2); (let S6 := mcho_f false (mo) (S5.1, S5.2.1, S.2.2); (let S7 := msmall_f (mo) (21) (121665) (S6.1, S6.2.1, fs (fs S.2.2 (mo) 13 (nI (bN false))) (mo) 14 (nI (pN false))); (let S8 := msmall_f (mo) (22) (121666) (S7.1, S7.2.1, fs (fs S.2.2 (mo) 13 (nI (bN false))) (mo) 14 (nI (pN false))); (let S9 := minv_f false (mo) (22) (22) (S8.1, S8.2.1, fs (fs S.2.2 (mo) 13 (nI (bN false))) (mo) 14 (nI (pN false))); (let S10 := mmul_f false (mo) (21) (21) (22) (S9.1, S9.2.1, fs (fs S.2.2 (mo) 13 (nI (bN false))) (mo) 14 (nI (pN false))); (let S11 := mzero_f (mo) (22) (S10.1, S10.2.1, fs (fs S.2.2 (mo) 13 (nI (bN false))) (mo) 14 (nI (pN false))); (let S12 := mminus_f false (mo) (11) (22) (21) (S11.1, S11.2.1, fs (fs S.2.2 (mo) 13 (nI (bN false))) (mo) 14 (nI (pN false))); (let S13 := msmall_f (mo) (21) (nI (4)) (S12.1, S12.2.1, fs (fs S.2.2 (mo) 13 (nI (bN false))) (mo) 14 (nI (pN false))); (let S14 := msmall_f (mo) (22) (nI (5)) (S13.1, S13.2.1, fs (fs S.2.2 (mo) 13 (nI (bN false))) (mo) 14 (nI (pN false))); (let S15 := minv_f false (mo) (22) (22) (S14.1, S14.2.1, fs (fs S.2.2 (mo) 13 (nI (bN false))) (mo) 14 (nI (pN false))); (let S16 := mmul_f false (mo) (14) (21) (22) (S15.1, S15.2.1, fs (fs S.2.2 (mo) 13 (nI (bN false))) (mo) 14 (nI (pN false))); (let r17 := mroot_f false (mo) (13) (14) (S16.1, S16.2.1, fs (fs S.2.2 (mo) 13 (nI (bN false))) (mo) 14 (nI (pN false))); (let S18 := mbase_f false (mo) (13) (nI (0)) (r17.2.1, r17.2.2.1, fs (fs S.2.2 (mo) 13 (nI (bN false))) (mo) 14 (nI (pN false))); (let S19 := mcho_f true (mo) (S18.1, S18.2.1, fs (fs S.2.2 (mo) 13 (nI (bN false))) (mo) 14 (nI (pN false))); (let S20 := mzero_f (mo) (22) (S19.1, S19.2.1, fs (fs (fs (fs S.2.2 (mo) 13 (nI (bN false))) (mo) 14 (nI (pN false))) (mo) 13 (nI (bN true))) (mo) 14 (nI (pN true))); (let S21 := msmall_f (mo) (21) (39081) (S20.1, S20.2.1, fs (fs (fs (fs S.2.2 (mo) 13 (nI (bN false))) (mo) 14 (nI (pN false))) (mo) 13 (nI (bN true))) (mo) 14 (nI (pN true))); (let S22 := mminus_f true (mo) (12) (22) (21) (S21.1, S21.2.1, fs (fs (fs (fs S.2.2 (mo) 13 (nI (bN false))) (mo) 14 (nI (pN false))) (mo) 13 (nI (bN true))) (mo) 14 (nI (pN true))); (let S23 := mb448_f true (mo)  (S22.1, S22.2.1, fs (fs (fs (fs S.2.2 (mo) 13 (nI (bN false))) (mo) 14 (nI (pN false))) (mo) 13 (nI (bN true))) (mo) 14 (nI (pN true))); (let S24 := mcho_f false (mo) (S23.1, S23.2.1, fs (fs (fs (fs S.2.2 (mo) 13 (nI (bN false))) (mo) 14 (nI (pN false))) (mo) 13 (nI (bN true))) (mo) 14 (nI (pN true))); (let S25 := mneutral_f (mo) (3 * 0) (S24.1, S24.2.1, fs (fs (fs (fs (fs (fs S.2.2 (mo) 13 (nI (bN false))) (mo) 14 (nI (pN false))) (mo) 13 (nI (bN true))) (mo) 14 (nI (pN true))) (mo) 13 (nI (bN false))) (mo) 14 (nI (pN false))); (let S26 := mneutral_f (mo) (3 * (0 + 1)) (S25.1, S25.2.1, fs (fs (fs (fs (fs (fs S.2.2 (mo) 13 (nI (bN false))) (mo) 14 (nI (pN false))) (mo) 13 (nI (bN true))) (mo) 14 (nI (pN true))) (mo) 13 (nI (bN false))) (mo) 14 (nI (pN false))); (let S27 := mneutral_f (mo) (3 * (0 + 1 + 1)) (S26.1, S26.2.1, fs (fs (fs (fs (fs (fs S.2.2 (mo) 13 (nI (bN false))) (mo) 14 (nI (pN false))) (mo) 13 (nI (bN true))) (mo) 14 (nI (pN true))) (mo) 13 (nI (bN false))) (mo) 14 (nI (pN false))); (S27.1, S27.2.1, fs (fs (fs (fs (fs (fs S.2.2 (mo) 13 (nI (bN false))) (mo) 14 (nI (pN false))) (mo) 13 (nI (bN true))) (mo) 14 (nI (pN true))) (mo) 13 (nI (bN false))) (mo) 14 (nI (pN false))))))))))))))))))))))))))))))
set_option maxRecDepth 100000 in
set_option maxHeartbeats 8000000 in
theorem rn_mbody {X : CX} {L : Nat → Option Sh} {S : StT} {n mo h mc ms ce sl : Nat} (C : OkX X cX12_init 2 RX12 h mc ms) (hh : h = 7) (Rt : RetX X none mc ms (Pv X.1 L n (mbody_f mo S))) (hM : ModelAt X.1 L mo) (hce : ce ≤ mc) (hsl : sl ≤ ms) :
    Rn X 259 [(0, .ref (k_b X.1 + (mo)))] [] (inst X.1 L S.1 S.2.1 S.2.2) n ce sl := by
  subst hh
  have hM9 := hM
  obtain ⟨hM0, hm1, hm2, hm3, hm4, hm5, hm6, hm7, hm8, hm9, hm10, hm11, hm12, hm13, hm14, hm15, hm16, hm17, hm18, hm19, hm20, hm21, hm22, hm23, hm24, hm25, hm26, hm27⟩ := hM9
  refine rn_aload_n C dX12_init_259 rfl ?_
  refine rs_vv C dX12_init_260 mk_X12_rootConstants lv_X12_114 (c_mrtC hM ) hM0 rfl rfl rfl rfl (by decide) (Nat.le_of_ble_eq_true rfl) hce hsl ?_
  rw [show (mrtC_f (mo)  S).2.2 = S.2.2 from (mrtC_F (mo)  S)]
  generalize hS1 : mrtC_f (mo)  S = S1
  refine rn_iconst (v := nI 0) C dX12_init_263 rfl ?_
  refine rn_istore_n (lv' := [(0, _), (1, _)]) C dX12_init_264 (by decide) rfl ?_
  have lp265 : ∀ i265, i265 ≤ 28 → Rn X 265 [(0, .ref (k_b X.1 + (mo))), (1, .int (nI (i265)))] [] (inst X.1 L (mbody_l265 mo S1 (S1.1, S1.2.1, S.2.2) i265) S1.2.1 S.2.2) n ce sl := by
    refine upto _ _ ?_ (fun i265 hi265 ih265 => ?_)
    · skip
      refine rn_iload_n C dX12_init_265 rfl ?_
      refine rn_bipush (v := nI 28) C dX12_init_266 rfl ?_
      refine rs_ge (tgt := 323) C dX12_init_268 (by decide) rfl rfl (by omega) (by omega) (fun _ => ?_) (fun q => absurd q (by omega))
      refine rn_aload_n C dX12_init_323 rfl ?_
      refine rs_get C dX12_init_324 fl_X12_41 hM0 rfl ?_
      refine rn_sipush (v := nI 288) C dX12_init_327 rfl ?_
      refine rn_ldc C dX12_init_330 lc_X12_118 ?_
      refine rs_iastore C dX12_init_332 hm7 rfl (by omega) (by decide) ?_
      refine rn_aload_n C dX12_init_333 rfl ?_
      refine rs_get C dX12_init_334 fl_X12_41 hM0 rfl ?_
      refine rn_sipush (v := nI 334) C dX12_init_337 rfl ?_
      refine rn_ldc C dX12_init_340 lc_X12_119 ?_
      refine rs_iastore C dX12_init_342 hm7 rfl (by omega) (by decide) ?_
      refine rn_aload_n C dX12_init_343 rfl ?_
      refine rn_bipush (v := nI 19) C dX12_init_344 rfl ?_
      refine rn_iconst (v := nI 0) C dX12_init_346 rfl ?_
      refine rn_ldc2 C dX12_init_347 lc_X12_120 ?_
      refine rs_vv C dX12_init_350 mk_X12_pieceLong lv_X12_122 (c_mpiece (S := (va_up (va_up (mbody_l265 mo S1 (S1.1, S1.2.1, S.2.2) 28) (mo + 7) (upd ((mbody_l265 mo S1 (S1.1, S1.2.1, S.2.2) 28) (mo + 7)) (288) (65517))) (mo + 7) (upd ((va_up (mbody_l265 mo S1 (S1.1, S1.2.1, S.2.2) 28) (mo + 7) (upd ((mbody_l265 mo S1 (S1.1, S1.2.1, S.2.2) 28) (mo + 7)) (288) (65517))) (mo + 7)) (334) (65534)), S1.2.1, S.2.2)) hM (by omega) (by omega)) hM0 rfl rfl rfl rfl (by decide) (Nat.le_of_ble_eq_true rfl) hce hsl ?_
      rw [show (mpiece_f (mo) (19) (0) (6346243789798364141) (va_up (va_up (mbody_l265 mo S1 (S1.1, S1.2.1, S.2.2) 28) (mo + 7) (upd ((mbody_l265 mo S1 (S1.1, S1.2.1, S.2.2) 28) (mo + 7)) (288) (65517))) (mo + 7) (upd ((va_up (mbody_l265 mo S1 (S1.1, S1.2.1, S.2.2) 28) (mo + 7) (upd ((mbody_l265 mo S1 (S1.1, S1.2.1, S.2.2) 28) (mo + 7)) (288) (65517))) (mo + 7)) (334) (65534)), S1.2.1, S.2.2)).2.2 = S.2.2 from (mpiece_F (mo) (19) (0) (6346243789798364141) (va_up (va_up (mbody_l265 mo S1 (S1.1, S1.2.1, S.2.2) 28) (mo + 7) (upd ((mbody_l265 mo S1 (S1.1, S1.2.1, S.2.2) 28) (mo + 7)) (288) (65517))) (mo + 7) (upd ((va_up (mbody_l265 mo S1 (S1.1, S1.2.1, S.2.2) 28) (mo + 7) (upd ((mbody_l265 mo S1 (S1.1, S1.2.1, S.2.2) 28) (mo + 7)) (288) (65517))) (mo + 7)) (334) (65534)), S1.2.1, S.2.2))]
      generalize hS3 : mpiece_f (mo) (19) (0) (6346243789798364141) (va_up (va_up (mbody_l265 mo S1 (S1.1, S1.2.1, S.2.2) 28) (mo + 7) (upd ((mbody_l265 mo S1 (S1.1, S1.2.1, S.2.2) 28) (mo + 7)) (288) (65517))) (mo + 7) (upd ((va_up (mbody_l265 mo S1 (S1.1, S1.2.1, S.2.2) 28) (mo + 7) (upd ((mbody_l265 mo S1 (S1.1, S1.2.1, S.2.2) 28) (mo + 7)) (288) (65517))) (mo + 7)) (334) (65534)), S1.2.1, S.2.2) = S3
      refine rn_aload_n C dX12_init_353 rfl ?_
      refine rn_bipush (v := nI 19) C dX12_init_354 rfl ?_
      refine rn_iconst (v := nI 4) C dX12_init_356 rfl ?_
      refine rn_ldc2 C dX12_init_357 lc_X12_126 ?_
      refine rs_vv C dX12_init_360 mk_X12_pieceLong lv_X12_122 (c_mpiece (S := (S3.1, S3.2.1, S.2.2)) hM (by omega) (by omega)) hM0 rfl rfl rfl rfl (by decide) (Nat.le_of_ble_eq_true rfl) hce hsl ?_
      rw [show (mpiece_f (mo) (19) (4) (1503914060200516822) (S3.1, S3.2.1, S.2.2)).2.2 = S.2.2 from (mpiece_F (mo) (19) (4) (1503914060200516822) (S3.1, S3.2.1, S.2.2))]
      generalize hS4 : mpiece_f (mo) (19) (4) (1503914060200516822) (S3.1, S3.2.1, S.2.2) = S4
      refine rn_aload_n C dX12_init_363 rfl ?_
      refine rs_get C dX12_init_364 fl_X12_41 hM0 rfl ?_
      refine rn_sipush (v := nI 623) C dX12_init_367 rfl ?_
      refine rn_sipush (v := nI 4096) C dX12_init_370 rfl ?_
      refine rs_iastore C dX12_init_373 hm7 rfl (by omega) (by decide) ?_
      refine rn_aload_n C dX12_init_374 rfl ?_
      refine rs_vv C dX12_init_375 mk_X12_order448 lv_X12_128 (c_mo448 (S := (va_up S4.1 (mo + 7) (upd (S4.1 (mo + 7)) (623) (nI (4096))), S4.2.1, S.2.2)) hM ) hM0 rfl rfl rfl rfl (by decide) (Nat.le_of_ble_eq_true rfl) hce hsl ?_
      rw [show (mo448_f (mo)  (va_up S4.1 (mo + 7) (upd (S4.1 (mo + 7)) (623) (nI (4096))), S4.2.1, S.2.2)).2.2 = S.2.2 from (mo448_F (mo)  (va_up S4.1 (mo + 7) (upd (S4.1 (mo + 7)) (623) (nI (4096))), S4.2.1, S.2.2))]
      generalize hS5 : mo448_f (mo)  (va_up S4.1 (mo + 7) (upd (S4.1 (mo + 7)) (623) (nI (4096))), S4.2.1, S.2.2) = S5
      refine rn_aload_n C dX12_init_378 rfl ?_
      refine rn_iconst (v := nI 0) C dX12_init_379 rfl ?_
      refine rs_vv C dX12_init_380 mk_X12_choose lv_X12_131 (c_mcho (S := (S5.1, S5.2.1, S.2.2)) (c := false) hM) hM0 rfl rfl rfl rfl (by decide) (Nat.le_of_ble_eq_true rfl) hce hsl ?_
      rw [show (mcho_f false (mo) (S5.1, S5.2.1, S.2.2)).2.2 = fs (fs S.2.2 (mo) 13 (nI (bN false))) (mo) 14 (nI (pN false)) from (mcho_F false (mo) (S5.1, S5.2.1, S.2.2))]
      generalize hS6 : mcho_f false (mo) (S5.1, S5.2.1, S.2.2) = S6
      refine rn_aload_n C dX12_init_383 rfl ?_
      refine rn_bipush (v := nI 21) C dX12_init_384 rfl ?_
      refine rn_ldc C dX12_init_386 lc_X12_135 ?_
      refine rs_vv C dX12_init_388 mk_X12_small lv_X12_136 (c_msmall (S := (S6.1, S6.2.1, fs (fs S.2.2 (mo) 13 (nI (bN false))) (mo) 14 (nI (pN false)))) hM (by omega)) hM0 rfl rfl rfl rfl (by decide) (Nat.le_of_ble_eq_true rfl) hce hsl ?_
      rw [show (msmall_f (mo) (21) (121665) (S6.1, S6.2.1, fs (fs S.2.2 (mo) 13 (nI (bN false))) (mo) 14 (nI (pN false)))).2.2 = fs (fs S.2.2 (mo) 13 (nI (bN false))) (mo) 14 (nI (pN false)) from (msmall_F (mo) (21) (121665) (S6.1, S6.2.1, fs (fs S.2.2 (mo) 13 (nI (bN false))) (mo) 14 (nI (pN false))))]
      generalize hS7 : msmall_f (mo) (21) (121665) (S6.1, S6.2.1, fs (fs S.2.2 (mo) 13 (nI (bN false))) (mo) 14 (nI (pN false))) = S7
      refine rn_aload_n C dX12_init_391 rfl ?_
      refine rn_bipush (v := nI 22) C dX12_init_392 rfl ?_
      refine rn_ldc C dX12_init_394 lc_X12_140 ?_
      refine rs_vv C dX12_init_396 mk_X12_small lv_X12_136 (c_msmall (S := (S7.1, S7.2.1, fs (fs S.2.2 (mo) 13 (nI (bN false))) (mo) 14 (nI (pN false)))) hM (by omega)) hM0 rfl rfl rfl rfl (by decide) (Nat.le_of_ble_eq_true rfl) hce hsl ?_
      rw [show (msmall_f (mo) (22) (121666) (S7.1, S7.2.1, fs (fs S.2.2 (mo) 13 (nI (bN false))) (mo) 14 (nI (pN false)))).2.2 = fs (fs S.2.2 (mo) 13 (nI (bN false))) (mo) 14 (nI (pN false)) from (msmall_F (mo) (22) (121666) (S7.1, S7.2.1, fs (fs S.2.2 (mo) 13 (nI (bN false))) (mo) 14 (nI (pN false))))]
      generalize hS8 : msmall_f (mo) (22) (121666) (S7.1, S7.2.1, fs (fs S.2.2 (mo) 13 (nI (bN false))) (mo) 14 (nI (pN false))) = S8
      refine rn_aload_n C dX12_init_399 rfl ?_
      refine rn_bipush (v := nI 22) C dX12_init_400 rfl ?_
      refine rn_bipush (v := nI 22) C dX12_init_402 rfl ?_
      refine rs_vv C dX12_init_404 mk_X12_inverse lv_X12_141 (c_minv (S := (S8.1, S8.2.1, fs (fs S.2.2 (mo) 13 (nI (bN false))) (mo) 14 (nI (pN false)))) hM (by omega) (by omega) ((fs_oth (by decide)).trans fs_get) fs_get) hM0 rfl rfl rfl rfl (by decide) (Nat.le_of_ble_eq_true rfl) hce hsl ?_
      rw [show (minv_f false (mo) (22) (22) (S8.1, S8.2.1, fs (fs S.2.2 (mo) 13 (nI (bN false))) (mo) 14 (nI (pN false)))).2.2 = fs (fs S.2.2 (mo) 13 (nI (bN false))) (mo) 14 (nI (pN false)) from (minv_F false (mo) (22) (22) (S8.1, S8.2.1, fs (fs S.2.2 (mo) 13 (nI (bN false))) (mo) 14 (nI (pN false))))]
      generalize hS9 : minv_f false (mo) (22) (22) (S8.1, S8.2.1, fs (fs S.2.2 (mo) 13 (nI (bN false))) (mo) 14 (nI (pN false))) = S9
      refine rn_aload_n C dX12_init_407 rfl ?_
      refine rn_bipush (v := nI 21) C dX12_init_408 rfl ?_
      refine rn_bipush (v := nI 21) C dX12_init_410 rfl ?_
      refine rn_bipush (v := nI 22) C dX12_init_412 rfl ?_
      refine rs_vv C dX12_init_414 mk_X12_mul lv_X12_144 (c_mmul (S := (S9.1, S9.2.1, fs (fs S.2.2 (mo) 13 (nI (bN false))) (mo) 14 (nI (pN false)))) hM (by omega) (by omega) (by omega) ((fs_oth (by decide)).trans fs_get) fs_get) hM0 rfl rfl rfl rfl (by decide) (Nat.le_of_ble_eq_true rfl) hce hsl ?_
      rw [show (mmul_f false (mo) (21) (21) (22) (S9.1, S9.2.1, fs (fs S.2.2 (mo) 13 (nI (bN false))) (mo) 14 (nI (pN false)))).2.2 = fs (fs S.2.2 (mo) 13 (nI (bN false))) (mo) 14 (nI (pN false)) from (mmul_F false (mo) (21) (21) (22) (S9.1, S9.2.1, fs (fs S.2.2 (mo) 13 (nI (bN false))) (mo) 14 (nI (pN false))))]
      generalize hS10 : mmul_f false (mo) (21) (21) (22) (S9.1, S9.2.1, fs (fs S.2.2 (mo) 13 (nI (bN false))) (mo) 14 (nI (pN false))) = S10
      refine rn_aload_n C dX12_init_417 rfl ?_
      refine rn_bipush (v := nI 22) C dX12_init_418 rfl ?_
      refine rs_vv C dX12_init_420 mk_X12_zero lv_X12_148 (c_mzero (S := (S10.1, S10.2.1, fs (fs S.2.2 (mo) 13 (nI (bN false))) (mo) 14 (nI (pN false)))) hM (by omega)) hM0 rfl rfl rfl rfl (by decide) (Nat.le_of_ble_eq_true rfl) hce hsl ?_
      rw [show (mzero_f (mo) (22) (S10.1, S10.2.1, fs (fs S.2.2 (mo) 13 (nI (bN false))) (mo) 14 (nI (pN false)))).2.2 = fs (fs S.2.2 (mo) 13 (nI (bN false))) (mo) 14 (nI (pN false)) from (mzero_F (mo) (22) (S10.1, S10.2.1, fs (fs S.2.2 (mo) 13 (nI (bN false))) (mo) 14 (nI (pN false))))]
      generalize hS11 : mzero_f (mo) (22) (S10.1, S10.2.1, fs (fs S.2.2 (mo) 13 (nI (bN false))) (mo) 14 (nI (pN false))) = S11
      refine rn_aload_n C dX12_init_423 rfl ?_
      refine rn_bipush (v := nI 11) C dX12_init_424 rfl ?_
      refine rn_bipush (v := nI 22) C dX12_init_426 rfl ?_
      refine rn_bipush (v := nI 21) C dX12_init_428 rfl ?_
      refine rs_vv C dX12_init_430 mk_X12_minus lv_X12_151 (c_mminus (S := (S11.1, S11.2.1, fs (fs S.2.2 (mo) 13 (nI (bN false))) (mo) 14 (nI (pN false)))) hM (by omega) (by omega) (by omega) ((fs_oth (by decide)).trans fs_get) fs_get) hM0 rfl rfl rfl rfl (by decide) (Nat.le_of_ble_eq_true rfl) hce hsl ?_
      rw [show (mminus_f false (mo) (11) (22) (21) (S11.1, S11.2.1, fs (fs S.2.2 (mo) 13 (nI (bN false))) (mo) 14 (nI (pN false)))).2.2 = fs (fs S.2.2 (mo) 13 (nI (bN false))) (mo) 14 (nI (pN false)) from (mminus_F false (mo) (11) (22) (21) (S11.1, S11.2.1, fs (fs S.2.2 (mo) 13 (nI (bN false))) (mo) 14 (nI (pN false))))]
      generalize hS12 : mminus_f false (mo) (11) (22) (21) (S11.1, S11.2.1, fs (fs S.2.2 (mo) 13 (nI (bN false))) (mo) 14 (nI (pN false))) = S12
      refine rn_aload_n C dX12_init_433 rfl ?_
      refine rn_bipush (v := nI 21) C dX12_init_434 rfl ?_
      refine rn_iconst (v := nI 4) C dX12_init_436 rfl ?_
      refine rs_vv C dX12_init_437 mk_X12_small lv_X12_136 (c_msmall (S := (S12.1, S12.2.1, fs (fs S.2.2 (mo) 13 (nI (bN false))) (mo) 14 (nI (pN false)))) hM (by omega)) hM0 rfl rfl rfl rfl (by decide) (Nat.le_of_ble_eq_true rfl) hce hsl ?_
      rw [show (msmall_f (mo) (21) (nI (4)) (S12.1, S12.2.1, fs (fs S.2.2 (mo) 13 (nI (bN false))) (mo) 14 (nI (pN false)))).2.2 = fs (fs S.2.2 (mo) 13 (nI (bN false))) (mo) 14 (nI (pN false)) from (msmall_F (mo) (21) (nI (4)) (S12.1, S12.2.1, fs (fs S.2.2 (mo) 13 (nI (bN false))) (mo) 14 (nI (pN false))))]
      generalize hS13 : msmall_f (mo) (21) (nI (4)) (S12.1, S12.2.1, fs (fs S.2.2 (mo) 13 (nI (bN false))) (mo) 14 (nI (pN false))) = S13
      refine rn_aload_n C dX12_init_440 rfl ?_
      refine rn_bipush (v := nI 22) C dX12_init_441 rfl ?_
      refine rn_iconst (v := nI 5) C dX12_init_443 rfl ?_
      refine rs_vv C dX12_init_444 mk_X12_small lv_X12_136 (c_msmall (S := (S13.1, S13.2.1, fs (fs S.2.2 (mo) 13 (nI (bN false))) (mo) 14 (nI (pN false)))) hM (by omega)) hM0 rfl rfl rfl rfl (by decide) (Nat.le_of_ble_eq_true rfl) hce hsl ?_
      rw [show (msmall_f (mo) (22) (nI (5)) (S13.1, S13.2.1, fs (fs S.2.2 (mo) 13 (nI (bN false))) (mo) 14 (nI (pN false)))).2.2 = fs (fs S.2.2 (mo) 13 (nI (bN false))) (mo) 14 (nI (pN false)) from (msmall_F (mo) (22) (nI (5)) (S13.1, S13.2.1, fs (fs S.2.2 (mo) 13 (nI (bN false))) (mo) 14 (nI (pN false))))]
      generalize hS14 : msmall_f (mo) (22) (nI (5)) (S13.1, S13.2.1, fs (fs S.2.2 (mo) 13 (nI (bN false))) (mo) 14 (nI (pN false))) = S14
      refine rn_aload_n C dX12_init_447 rfl ?_
      refine rn_bipush (v := nI 22) C dX12_init_448 rfl ?_
      refine rn_bipush (v := nI 22) C dX12_init_450 rfl ?_
      refine rs_vv C dX12_init_452 mk_X12_inverse lv_X12_141 (c_minv (S := (S14.1, S14.2.1, fs (fs S.2.2 (mo) 13 (nI (bN false))) (mo) 14 (nI (pN false)))) hM (by omega) (by omega) ((fs_oth (by decide)).trans fs_get) fs_get) hM0 rfl rfl rfl rfl (by decide) (Nat.le_of_ble_eq_true rfl) hce hsl ?_
      rw [show (minv_f false (mo) (22) (22) (S14.1, S14.2.1, fs (fs S.2.2 (mo) 13 (nI (bN false))) (mo) 14 (nI (pN false)))).2.2 = fs (fs S.2.2 (mo) 13 (nI (bN false))) (mo) 14 (nI (pN false)) from (minv_F false (mo) (22) (22) (S14.1, S14.2.1, fs (fs S.2.2 (mo) 13 (nI (bN false))) (mo) 14 (nI (pN false))))]
      generalize hS15 : minv_f false (mo) (22) (22) (S14.1, S14.2.1, fs (fs S.2.2 (mo) 13 (nI (bN false))) (mo) 14 (nI (pN false))) = S15
      refine rn_aload_n C dX12_init_455 rfl ?_
      refine rn_bipush (v := nI 14) C dX12_init_456 rfl ?_
      refine rn_bipush (v := nI 21) C dX12_init_458 rfl ?_
      refine rn_bipush (v := nI 22) C dX12_init_460 rfl ?_
      refine rs_vv C dX12_init_462 mk_X12_mul lv_X12_144 (c_mmul (S := (S15.1, S15.2.1, fs (fs S.2.2 (mo) 13 (nI (bN false))) (mo) 14 (nI (pN false)))) hM (by omega) (by omega) (by omega) ((fs_oth (by decide)).trans fs_get) fs_get) hM0 rfl rfl rfl rfl (by decide) (Nat.le_of_ble_eq_true rfl) hce hsl ?_
      rw [show (mmul_f false (mo) (14) (21) (22) (S15.1, S15.2.1, fs (fs S.2.2 (mo) 13 (nI (bN false))) (mo) 14 (nI (pN false)))).2.2 = fs (fs S.2.2 (mo) 13 (nI (bN false))) (mo) 14 (nI (pN false)) from (mmul_F false (mo) (14) (21) (22) (S15.1, S15.2.1, fs (fs S.2.2 (mo) 13 (nI (bN false))) (mo) 14 (nI (pN false))))]
      generalize hS16 : mmul_f false (mo) (14) (21) (22) (S15.1, S15.2.1, fs (fs S.2.2 (mo) 13 (nI (bN false))) (mo) 14 (nI (pN false))) = S16
      refine rn_aload_n C dX12_init_465 rfl ?_
      refine rn_bipush (v := nI 13) C dX12_init_466 rfl ?_
      refine rn_bipush (v := nI 14) C dX12_init_468 rfl ?_
      refine rs_vz C dX12_init_470 mk_X12_rootOf lv_X12_154 (c_mroot (S := (S16.1, S16.2.1, fs (fs S.2.2 (mo) 13 (nI (bN false))) (mo) 14 (nI (pN false)))) hM (by omega) (by omega) ((fs_oth (by decide)).trans fs_get) fs_get) hM0 rfl rfl rfl rfl (by decide) (Nat.le_of_ble_eq_true rfl) hce hsl ?_
      rw [show (mroot_f false (mo) (13) (14) (S16.1, S16.2.1, fs (fs S.2.2 (mo) 13 (nI (bN false))) (mo) 14 (nI (pN false)))).2.2.2 = fs (fs S.2.2 (mo) 13 (nI (bN false))) (mo) 14 (nI (pN false)) from (mroot_F false (mo) (13) (14) (S16.1, S16.2.1, fs (fs S.2.2 (mo) 13 (nI (bN false))) (mo) 14 (nI (pN false))))]
      generalize hr17 : mroot_f false (mo) (13) (14) (S16.1, S16.2.1, fs (fs S.2.2 (mo) 13 (nI (bN false))) (mo) 14 (nI (pN false))) = r17
      refine rn_pop C dX12_init_473 rfl ?_
      refine rn_aload_n C dX12_init_474 rfl ?_
      refine rn_bipush (v := nI 13) C dX12_init_475 rfl ?_
      refine rn_iconst (v := nI 0) C dX12_init_477 rfl ?_
      refine rs_vv C dX12_init_478 mk_X12_baseOf lv_X12_158 (c_mbase (S := (r17.2.1, r17.2.2.1, fs (fs S.2.2 (mo) 13 (nI (bN false))) (mo) 14 (nI (pN false)))) hM (by omega) ((fs_oth (by decide)).trans fs_get) fs_get) hM0 rfl rfl rfl rfl (by decide) (Nat.le_of_ble_eq_true rfl) hce hsl ?_
      rw [show (mbase_f false (mo) (13) (nI (0)) (r17.2.1, r17.2.2.1, fs (fs S.2.2 (mo) 13 (nI (bN false))) (mo) 14 (nI (pN false)))).2.2 = fs (fs S.2.2 (mo) 13 (nI (bN false))) (mo) 14 (nI (pN false)) from (mbase_F false (mo) (13) (nI (0)) (r17.2.1, r17.2.2.1, fs (fs S.2.2 (mo) 13 (nI (bN false))) (mo) 14 (nI (pN false))))]
      generalize hS18 : mbase_f false (mo) (13) (nI (0)) (r17.2.1, r17.2.2.1, fs (fs S.2.2 (mo) 13 (nI (bN false))) (mo) 14 (nI (pN false))) = S18
      refine rn_aload_n C dX12_init_481 rfl ?_
      refine rn_iconst (v := nI 1) C dX12_init_482 rfl ?_
      refine rs_vv C dX12_init_483 mk_X12_choose lv_X12_131 (c_mcho (S := (S18.1, S18.2.1, fs (fs S.2.2 (mo) 13 (nI (bN false))) (mo) 14 (nI (pN false)))) (c := true) hM) hM0 rfl rfl rfl rfl (by decide) (Nat.le_of_ble_eq_true rfl) hce hsl ?_
      rw [show (mcho_f true (mo) (S18.1, S18.2.1, fs (fs S.2.2 (mo) 13 (nI (bN false))) (mo) 14 (nI (pN false)))).2.2 = fs (fs (fs (fs S.2.2 (mo) 13 (nI (bN false))) (mo) 14 (nI (pN false))) (mo) 13 (nI (bN true))) (mo) 14 (nI (pN true)) from (mcho_F true (mo) (S18.1, S18.2.1, fs (fs S.2.2 (mo) 13 (nI (bN false))) (mo) 14 (nI (pN false))))]
      generalize hS19 : mcho_f true (mo) (S18.1, S18.2.1, fs (fs S.2.2 (mo) 13 (nI (bN false))) (mo) 14 (nI (pN false))) = S19
      refine rn_aload_n C dX12_init_486 rfl ?_
      refine rn_bipush (v := nI 22) C dX12_init_487 rfl ?_
      refine rs_vv C dX12_init_489 mk_X12_zero lv_X12_148 (c_mzero (S := (S19.1, S19.2.1, fs (fs (fs (fs S.2.2 (mo) 13 (nI (bN false))) (mo) 14 (nI (pN false))) (mo) 13 (nI (bN true))) (mo) 14 (nI (pN true)))) hM (by omega)) hM0 rfl rfl rfl rfl (by decide) (Nat.le_of_ble_eq_true rfl) hce hsl ?_
      rw [show (mzero_f (mo) (22) (S19.1, S19.2.1, fs (fs (fs (fs S.2.2 (mo) 13 (nI (bN false))) (mo) 14 (nI (pN false))) (mo) 13 (nI (bN true))) (mo) 14 (nI (pN true)))).2.2 = fs (fs (fs (fs S.2.2 (mo) 13 (nI (bN false))) (mo) 14 (nI (pN false))) (mo) 13 (nI (bN true))) (mo) 14 (nI (pN true)) from (mzero_F (mo) (22) (S19.1, S19.2.1, fs (fs (fs (fs S.2.2 (mo) 13 (nI (bN false))) (mo) 14 (nI (pN false))) (mo) 13 (nI (bN true))) (mo) 14 (nI (pN true))))]
      generalize hS20 : mzero_f (mo) (22) (S19.1, S19.2.1, fs (fs (fs (fs S.2.2 (mo) 13 (nI (bN false))) (mo) 14 (nI (pN false))) (mo) 13 (nI (bN true))) (mo) 14 (nI (pN true))) = S20
      refine rn_aload_n C dX12_init_492 rfl ?_
      refine rn_bipush (v := nI 21) C dX12_init_493 rfl ?_
      refine rn_ldc C dX12_init_495 lc_X12_161 ?_
      refine rs_vv C dX12_init_497 mk_X12_small lv_X12_136 (c_msmall (S := (S20.1, S20.2.1, fs (fs (fs (fs S.2.2 (mo) 13 (nI (bN false))) (mo) 14 (nI (pN false))) (mo) 13 (nI (bN true))) (mo) 14 (nI (pN true)))) hM (by omega)) hM0 rfl rfl rfl rfl (by decide) (Nat.le_of_ble_eq_true rfl) hce hsl ?_
      rw [show (msmall_f (mo) (21) (39081) (S20.1, S20.2.1, fs (fs (fs (fs S.2.2 (mo) 13 (nI (bN false))) (mo) 14 (nI (pN false))) (mo) 13 (nI (bN true))) (mo) 14 (nI (pN true)))).2.2 = fs (fs (fs (fs S.2.2 (mo) 13 (nI (bN false))) (mo) 14 (nI (pN false))) (mo) 13 (nI (bN true))) (mo) 14 (nI (pN true)) from (msmall_F (mo) (21) (39081) (S20.1, S20.2.1, fs (fs (fs (fs S.2.2 (mo) 13 (nI (bN false))) (mo) 14 (nI (pN false))) (mo) 13 (nI (bN true))) (mo) 14 (nI (pN true))))]
      generalize hS21 : msmall_f (mo) (21) (39081) (S20.1, S20.2.1, fs (fs (fs (fs S.2.2 (mo) 13 (nI (bN false))) (mo) 14 (nI (pN false))) (mo) 13 (nI (bN true))) (mo) 14 (nI (pN true))) = S21
      refine rn_aload_n C dX12_init_500 rfl ?_
      refine rn_bipush (v := nI 12) C dX12_init_501 rfl ?_
      refine rn_bipush (v := nI 22) C dX12_init_503 rfl ?_
      refine rn_bipush (v := nI 21) C dX12_init_505 rfl ?_
      refine rs_vv C dX12_init_507 mk_X12_minus lv_X12_151 (c_mminus (S := (S21.1, S21.2.1, fs (fs (fs (fs S.2.2 (mo) 13 (nI (bN false))) (mo) 14 (nI (pN false))) (mo) 13 (nI (bN true))) (mo) 14 (nI (pN true)))) hM (by omega) (by omega) (by omega) ((fs_oth (by decide)).trans fs_get) fs_get) hM0 rfl rfl rfl rfl (by decide) (Nat.le_of_ble_eq_true rfl) hce hsl ?_
      rw [show (mminus_f true (mo) (12) (22) (21) (S21.1, S21.2.1, fs (fs (fs (fs S.2.2 (mo) 13 (nI (bN false))) (mo) 14 (nI (pN false))) (mo) 13 (nI (bN true))) (mo) 14 (nI (pN true)))).2.2 = fs (fs (fs (fs S.2.2 (mo) 13 (nI (bN false))) (mo) 14 (nI (pN false))) (mo) 13 (nI (bN true))) (mo) 14 (nI (pN true)) from (mminus_F true (mo) (12) (22) (21) (S21.1, S21.2.1, fs (fs (fs (fs S.2.2 (mo) 13 (nI (bN false))) (mo) 14 (nI (pN false))) (mo) 13 (nI (bN true))) (mo) 14 (nI (pN true))))]
      generalize hS22 : mminus_f true (mo) (12) (22) (21) (S21.1, S21.2.1, fs (fs (fs (fs S.2.2 (mo) 13 (nI (bN false))) (mo) 14 (nI (pN false))) (mo) 13 (nI (bN true))) (mo) 14 (nI (pN true))) = S22
      refine rn_aload_n C dX12_init_510 rfl ?_
      refine rs_vv C dX12_init_511 mk_X12_base448 lv_X12_162 (c_mb448 (S := (S22.1, S22.2.1, fs (fs (fs (fs S.2.2 (mo) 13 (nI (bN false))) (mo) 14 (nI (pN false))) (mo) 13 (nI (bN true))) (mo) 14 (nI (pN true)))) hM  ((fs_oth (by decide)).trans fs_get) fs_get) hM0 rfl rfl rfl rfl (by decide) (Nat.le_of_ble_eq_true rfl) hce hsl ?_
      rw [show (mb448_f true (mo)  (S22.1, S22.2.1, fs (fs (fs (fs S.2.2 (mo) 13 (nI (bN false))) (mo) 14 (nI (pN false))) (mo) 13 (nI (bN true))) (mo) 14 (nI (pN true)))).2.2 = fs (fs (fs (fs S.2.2 (mo) 13 (nI (bN false))) (mo) 14 (nI (pN false))) (mo) 13 (nI (bN true))) (mo) 14 (nI (pN true)) from (mb448_F true (mo)  (S22.1, S22.2.1, fs (fs (fs (fs S.2.2 (mo) 13 (nI (bN false))) (mo) 14 (nI (pN false))) (mo) 13 (nI (bN true))) (mo) 14 (nI (pN true))))]
      generalize hS23 : mb448_f true (mo)  (S22.1, S22.2.1, fs (fs (fs (fs S.2.2 (mo) 13 (nI (bN false))) (mo) 14 (nI (pN false))) (mo) 13 (nI (bN true))) (mo) 14 (nI (pN true))) = S23
      refine rn_aload_n C dX12_init_514 rfl ?_
      refine rn_iconst (v := nI 0) C dX12_init_515 rfl ?_
      refine rs_vv C dX12_init_516 mk_X12_choose lv_X12_131 (c_mcho (S := (S23.1, S23.2.1, fs (fs (fs (fs S.2.2 (mo) 13 (nI (bN false))) (mo) 14 (nI (pN false))) (mo) 13 (nI (bN true))) (mo) 14 (nI (pN true)))) (c := false) hM) hM0 rfl rfl rfl rfl (by decide) (Nat.le_of_ble_eq_true rfl) hce hsl ?_
      rw [show (mcho_f false (mo) (S23.1, S23.2.1, fs (fs (fs (fs S.2.2 (mo) 13 (nI (bN false))) (mo) 14 (nI (pN false))) (mo) 13 (nI (bN true))) (mo) 14 (nI (pN true)))).2.2 = fs (fs (fs (fs (fs (fs S.2.2 (mo) 13 (nI (bN false))) (mo) 14 (nI (pN false))) (mo) 13 (nI (bN true))) (mo) 14 (nI (pN true))) (mo) 13 (nI (bN false))) (mo) 14 (nI (pN false)) from (mcho_F false (mo) (S23.1, S23.2.1, fs (fs (fs (fs S.2.2 (mo) 13 (nI (bN false))) (mo) 14 (nI (pN false))) (mo) 13 (nI (bN true))) (mo) 14 (nI (pN true))))]
      generalize hS24 : mcho_f false (mo) (S23.1, S23.2.1, fs (fs (fs (fs S.2.2 (mo) 13 (nI (bN false))) (mo) 14 (nI (pN false))) (mo) 13 (nI (bN true))) (mo) 14 (nI (pN true))) = S24
      refine rn_iconst (v := nI 0) C dX12_init_519 rfl ?_
      refine rn_istore_n (lv' := [(0, _), (1, _)]) C dX12_init_520 (by decide) rfl ?_
      refine rn_iload_n C dX12_init_521 rfl ?_
      refine rn_iconst (v := nI 3) C dX12_init_522 rfl ?_
      refine rn_icmp_ge (tgt := 539) C dX12_init_523 (by decide) (fun hb => absurd hb (show ¬ (nI (3)) ≤ (nI (0)) from by decide)) (fun hb => ?_)
      refine rn_aload_n C dX12_init_526 rfl ?_
      refine rn_iconst (v := nI 3) C dX12_init_527 rfl ?_
      refine rn_iload_n C dX12_init_528 rfl ?_
      refine rn_imul C dX12_init_529 (pk_mul _ _) ?_
      refine rs_vv C dX12_init_530 mk_X12_neutral lv_X12_165 (c_mneutral (S := (S24.1, S24.2.1, fs (fs (fs (fs (fs (fs S.2.2 (mo) 13 (nI (bN false))) (mo) 14 (nI (pN false))) (mo) 13 (nI (bN true))) (mo) 14 (nI (pN true))) (mo) 13 (nI (bN false))) (mo) 14 (nI (pN false)))) hM (by omega)) hM0 rfl rfl rfl rfl (by decide) (Nat.le_of_ble_eq_true rfl) hce hsl ?_
      rw [show (mneutral_f (mo) (3 * 0) (S24.1, S24.2.1, fs (fs (fs (fs (fs (fs S.2.2 (mo) 13 (nI (bN false))) (mo) 14 (nI (pN false))) (mo) 13 (nI (bN true))) (mo) 14 (nI (pN true))) (mo) 13 (nI (bN false))) (mo) 14 (nI (pN false)))).2.2 = fs (fs (fs (fs (fs (fs S.2.2 (mo) 13 (nI (bN false))) (mo) 14 (nI (pN false))) (mo) 13 (nI (bN true))) (mo) 14 (nI (pN true))) (mo) 13 (nI (bN false))) (mo) 14 (nI (pN false)) from (mneutral_F (mo) (3 * 0) (S24.1, S24.2.1, fs (fs (fs (fs (fs (fs S.2.2 (mo) 13 (nI (bN false))) (mo) 14 (nI (pN false))) (mo) 13 (nI (bN true))) (mo) 14 (nI (pN true))) (mo) 13 (nI (bN false))) (mo) 14 (nI (pN false))))]
      generalize hS25 : mneutral_f (mo) (3 * 0) (S24.1, S24.2.1, fs (fs (fs (fs (fs (fs S.2.2 (mo) 13 (nI (bN false))) (mo) 14 (nI (pN false))) (mo) 13 (nI (bN true))) (mo) 14 (nI (pN true))) (mo) 13 (nI (bN false))) (mo) 14 (nI (pN false))) = S25
      refine rn_iinc (lv' := [(0, _), (1, _)]) C dX12_init_533 rfl (nI_inc _) (by decide) rfl ?_
      refine rn_goto (tgt := 521) C dX12_init_536 (by decide) ?_
      refine rn_iload_n C dX12_init_521 rfl ?_
      refine rn_iconst (v := nI 3) C dX12_init_522 rfl ?_
      refine rn_icmp_ge (tgt := 539) C dX12_init_523 (by decide) (fun hb => absurd hb (show ¬ (nI (3)) ≤ (nI (0 + 1)) from by decide)) (fun hb => ?_)
      refine rn_aload_n C dX12_init_526 rfl ?_
      refine rn_iconst (v := nI 3) C dX12_init_527 rfl ?_
      refine rn_iload_n C dX12_init_528 rfl ?_
      refine rn_imul C dX12_init_529 (pk_mul _ _) ?_
      refine rs_vv C dX12_init_530 mk_X12_neutral lv_X12_165 (c_mneutral (S := (S25.1, S25.2.1, fs (fs (fs (fs (fs (fs S.2.2 (mo) 13 (nI (bN false))) (mo) 14 (nI (pN false))) (mo) 13 (nI (bN true))) (mo) 14 (nI (pN true))) (mo) 13 (nI (bN false))) (mo) 14 (nI (pN false)))) hM (by omega)) hM0 rfl rfl rfl rfl (by decide) (Nat.le_of_ble_eq_true rfl) hce hsl ?_
      rw [show (mneutral_f (mo) (3 * (0 + 1)) (S25.1, S25.2.1, fs (fs (fs (fs (fs (fs S.2.2 (mo) 13 (nI (bN false))) (mo) 14 (nI (pN false))) (mo) 13 (nI (bN true))) (mo) 14 (nI (pN true))) (mo) 13 (nI (bN false))) (mo) 14 (nI (pN false)))).2.2 = fs (fs (fs (fs (fs (fs S.2.2 (mo) 13 (nI (bN false))) (mo) 14 (nI (pN false))) (mo) 13 (nI (bN true))) (mo) 14 (nI (pN true))) (mo) 13 (nI (bN false))) (mo) 14 (nI (pN false)) from (mneutral_F (mo) (3 * (0 + 1)) (S25.1, S25.2.1, fs (fs (fs (fs (fs (fs S.2.2 (mo) 13 (nI (bN false))) (mo) 14 (nI (pN false))) (mo) 13 (nI (bN true))) (mo) 14 (nI (pN true))) (mo) 13 (nI (bN false))) (mo) 14 (nI (pN false))))]
      generalize hS26 : mneutral_f (mo) (3 * (0 + 1)) (S25.1, S25.2.1, fs (fs (fs (fs (fs (fs S.2.2 (mo) 13 (nI (bN false))) (mo) 14 (nI (pN false))) (mo) 13 (nI (bN true))) (mo) 14 (nI (pN true))) (mo) 13 (nI (bN false))) (mo) 14 (nI (pN false))) = S26
      refine rn_iinc (lv' := [(0, _), (1, _)]) C dX12_init_533 rfl (nI_inc _) (by decide) rfl ?_
      refine rn_goto (tgt := 521) C dX12_init_536 (by decide) ?_
      refine rn_iload_n C dX12_init_521 rfl ?_
      refine rn_iconst (v := nI 3) C dX12_init_522 rfl ?_
      refine rn_icmp_ge (tgt := 539) C dX12_init_523 (by decide) (fun hb => absurd hb (show ¬ (nI (3)) ≤ (nI (0 + 1 + 1)) from by decide)) (fun hb => ?_)
      refine rn_aload_n C dX12_init_526 rfl ?_
      refine rn_iconst (v := nI 3) C dX12_init_527 rfl ?_
      refine rn_iload_n C dX12_init_528 rfl ?_
      refine rn_imul C dX12_init_529 (pk_mul _ _) ?_
      refine rs_vv C dX12_init_530 mk_X12_neutral lv_X12_165 (c_mneutral (S := (S26.1, S26.2.1, fs (fs (fs (fs (fs (fs S.2.2 (mo) 13 (nI (bN false))) (mo) 14 (nI (pN false))) (mo) 13 (nI (bN true))) (mo) 14 (nI (pN true))) (mo) 13 (nI (bN false))) (mo) 14 (nI (pN false)))) hM (by omega)) hM0 rfl rfl rfl rfl (by decide) (Nat.le_of_ble_eq_true rfl) hce hsl ?_
      rw [show (mneutral_f (mo) (3 * (0 + 1 + 1)) (S26.1, S26.2.1, fs (fs (fs (fs (fs (fs S.2.2 (mo) 13 (nI (bN false))) (mo) 14 (nI (pN false))) (mo) 13 (nI (bN true))) (mo) 14 (nI (pN true))) (mo) 13 (nI (bN false))) (mo) 14 (nI (pN false)))).2.2 = fs (fs (fs (fs (fs (fs S.2.2 (mo) 13 (nI (bN false))) (mo) 14 (nI (pN false))) (mo) 13 (nI (bN true))) (mo) 14 (nI (pN true))) (mo) 13 (nI (bN false))) (mo) 14 (nI (pN false)) from (mneutral_F (mo) (3 * (0 + 1 + 1)) (S26.1, S26.2.1, fs (fs (fs (fs (fs (fs S.2.2 (mo) 13 (nI (bN false))) (mo) 14 (nI (pN false))) (mo) 13 (nI (bN true))) (mo) 14 (nI (pN true))) (mo) 13 (nI (bN false))) (mo) 14 (nI (pN false))))]
      generalize hS27 : mneutral_f (mo) (3 * (0 + 1 + 1)) (S26.1, S26.2.1, fs (fs (fs (fs (fs (fs S.2.2 (mo) 13 (nI (bN false))) (mo) 14 (nI (pN false))) (mo) 13 (nI (bN true))) (mo) 14 (nI (pN true))) (mo) 13 (nI (bN false))) (mo) 14 (nI (pN false))) = S27
      refine rn_iinc (lv' := [(0, _), (1, _)]) C dX12_init_533 rfl (nI_inc _) (by decide) rfl ?_
      refine rn_goto (tgt := 521) C dX12_init_536 (by decide) ?_
      refine rn_iload_n C dX12_init_521 rfl ?_
      refine rn_iconst (v := nI 3) C dX12_init_522 rfl ?_
      refine rn_icmp_ge (tgt := 539) C dX12_init_523 (by decide) (fun hb => ?_) (fun hb => absurd (show (nI (3)) ≤ (nI (0 + 1 + 1 + 1)) from by decide) hb)
      have hret : mbody_f mo S = (S27.1, S27.2.1, fs (fs (fs (fs (fs (fs S.2.2 (mo) 13 (nI (bN false))) (mo) 14 (nI (pN false))) (mo) 13 (nI (bN true))) (mo) 14 (nI (pN true))) (mo) 13 (nI (bN false))) (mo) 14 (nI (pN false))) := by
        subst hS27
        subst hS26
        subst hS25
        subst hS24
        subst hS23
        subst hS22
        subst hS21
        subst hS20
        subst hS19
        subst hS18
        subst hr17
        subst hS16
        subst hS15
        subst hS14
        subst hS13
        subst hS12
        subst hS11
        subst hS10
        subst hS9
        subst hS8
        subst hS7
        subst hS6
        subst hS5
        subst hS4
        subst hS3
        subst hS1
        first | (dsimp only [mbody_f]; done) | (dsimp only [mbody_f]; exact rfl) | exact rfl
      exact rn_vret C Rt dX12_init_539 (pv_of hret) hce hsl
    · skip
      refine rn_iload_n C dX12_init_265 rfl ?_
      refine rn_bipush (v := nI 28) C dX12_init_266 rfl ?_
      refine rs_ge (tgt := 323) C dX12_init_268 (by decide) rfl rfl (by omega) (by omega) (fun q => absurd q (by omega)) (fun _ => ?_)
      refine rn_aload_n C dX12_init_271 rfl ?_
      refine rs_get C dX12_init_272 fl_X12_41 hM0 rfl ?_
      refine rn_sipush (v := nI 288) C dX12_init_275 rfl ?_
      refine rn_iload_n C dX12_init_278 rfl ?_
      refine rn_iadd C dX12_init_279 (nI_add _ _) ?_
      refine rn_iload_n C dX12_init_280 rfl ?_
      refine rn_bipush (v := nI 15) C dX12_init_281 rfl ?_
      refine rn_icmp_ge (tgt := 291) C dX12_init_283 (by decide) (fun hb28 => ?_) (fun hb28 => ?_)
      · skip
        refine rn_iload_n C dX12_init_291 rfl ?_
        refine rn_bipush (v := nI 15) C dX12_init_292 rfl ?_
        have K294_29 : Rn X 304 [(0, .ref (k_b X.1 + (mo))), (1, .int (nI (i265)))] [.int (nI ((if (nI (i265)) ≠ (nI (15)) then 0 else 32767))), .int (nI (288 + i265)), .ref (k_b X.1 + (mo + 7))] (inst X.1 L (mbody_l265 mo S1 (S1.1, S1.2.1, S.2.2) i265) (S1.1, S1.2.1, S.2.2).2.1 S.2.2) n ce sl := by
          refine rs_iastore C dX12_init_304 hm7 rfl (by omega) (by decide) ?_
          refine rn_aload_n C dX12_init_305 rfl ?_
          refine rs_get C dX12_init_306 fl_X12_41 hM0 rfl ?_
          refine rn_sipush (v := nI 320) C dX12_init_309 rfl ?_
          refine rn_iload_n C dX12_init_312 rfl ?_
          refine rn_iadd C dX12_init_313 (nI_add _ _) ?_
          refine rn_ldc C dX12_init_314 lc_X12_117 ?_
          refine rs_iastore C dX12_init_316 hm7 rfl (by omega) (by decide) ?_
          refine rn_iinc (lv' := [(0, _), (1, _)]) C dX12_init_317 rfl (nI_inc _) (by decide) rfl ?_
          refine rn_goto (tgt := 265) C dX12_init_320 (by decide) ?_
          have he265 : mbody_l265 mo S1 (S1.1, S1.2.1, S.2.2) (i265 + 1) = va_up (va_up (mbody_l265 mo S1 (S1.1, S1.2.1, S.2.2) i265) (mo + 7) (upd ((mbody_l265 mo S1 (S1.1, S1.2.1, S.2.2) i265) (mo + 7)) (288 + i265) (nI ((if (nI (i265)) ≠ (nI (15)) then 0 else 32767))))) (mo + 7) (upd ((va_up (mbody_l265 mo S1 (S1.1, S1.2.1, S.2.2) i265) (mo + 7) (upd ((mbody_l265 mo S1 (S1.1, S1.2.1, S.2.2) i265) (mo + 7)) (288 + i265) (nI ((if (nI (i265)) ≠ (nI (15)) then 0 else 32767))))) (mo + 7)) (320 + i265) (65535)) := by
            first | (dsimp only [mbody_l265]; done) | (dsimp only [mbody_l265]; exact (if_pos hb28)) | exact (if_pos hb28)
          rw [he265] at ih265
          exact rn_ks [0, 1] ih265 rfl
        refine rn_icmp_ne (tgt := 303) C dX12_init_294 (by decide) (fun hb29 => ?_) (fun hb29 => ?_)
        · skip
          refine rn_iconst (v := nI 0) C dX12_init_303 rfl ?_
          rw [if_pos hb29] at K294_29
          exact K294_29
        · skip
          refine rn_sipush (v := nI 32767) C dX12_init_297 rfl ?_
          refine rn_goto (tgt := 304) C dX12_init_300 (by decide) ?_
          rw [if_neg (fun q => q hb29)] at K294_29
          exact K294_29
      · skip
        refine rn_ldc C dX12_init_286 lc_X12_117 ?_
        refine rn_goto (tgt := 304) C dX12_init_288 (by decide) ?_
        refine rs_iastore C dX12_init_304 hm7 rfl (by omega) (by decide) ?_
        refine rn_aload_n C dX12_init_305 rfl ?_
        refine rs_get C dX12_init_306 fl_X12_41 hM0 rfl ?_
        refine rn_sipush (v := nI 320) C dX12_init_309 rfl ?_
        refine rn_iload_n C dX12_init_312 rfl ?_
        refine rn_iadd C dX12_init_313 (nI_add _ _) ?_
        refine rn_ldc C dX12_init_314 lc_X12_117 ?_
        refine rs_iastore C dX12_init_316 hm7 rfl (by omega) (by decide) ?_
        refine rn_iinc (lv' := [(0, _), (1, _)]) C dX12_init_317 rfl (nI_inc _) (by decide) rfl ?_
        refine rn_goto (tgt := 265) C dX12_init_320 (by decide) ?_
        have he265 : mbody_l265 mo S1 (S1.1, S1.2.1, S.2.2) (i265 + 1) = (va_up (va_up (mbody_l265 mo S1 (S1.1, S1.2.1, S.2.2) i265) (mo + 7) (upd ((mbody_l265 mo S1 (S1.1, S1.2.1, S.2.2) i265) (mo + 7)) (288 + i265) (65535))) (mo + 7) (upd ((va_up (mbody_l265 mo S1 (S1.1, S1.2.1, S.2.2) i265) (mo + 7) (upd ((mbody_l265 mo S1 (S1.1, S1.2.1, S.2.2) i265) (mo + 7)) (288 + i265) (65535))) (mo + 7)) (320 + i265) (65535))) := by
          first | (dsimp only [mbody_l265]; done) | (dsimp only [mbody_l265]; exact (if_neg hb28)) | exact (if_neg hb28)
        rw [he265] at ih265
        exact rn_ks [0, 1] ih265 rfl
  exact lp265 0 (Nat.zero_le _)
