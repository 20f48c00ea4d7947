/-! CurveSuiteModel: further methods, by program (dc.py, spec_model5.py) -/
def mpiece_l3 (mo : Nat) (a : Nat) (at_ : Nat) (v : Int64) (S : StT)  : Nat → (Nat → Nat → Int32)
  | 0 => S.1
  | i3 + 1 => let y3_0 := (mpiece_l3 mo a at_ v S i3); (let I1 := va_up y3_0 (mo + 7) (upd (y3_0 (mo + 7)) (32 * a + at_ + i3) (((v >>> ((nI (16 * i3)).toInt64 &&& 63)).toInt32) &&& (65535))); I1)
def mpiece_f (mo : Nat) (a : Nat) (at_ : Nat) (v : Int64) (S : StT) : StT := ((mpiece_l3 mo a at_ v S 4), S.2.1, S.2.2)
theorem mpiece_F (mo : Nat) (a : Nat) (at_ : Nat) (v : Int64) (S : StT) : (mpiece_f mo a at_ v S).2.2 = S.2.2 := by
  unfold mpiece_f; first | rfl | (simp only [zero28_F, mzero_F, msmall_F, mcopy_F, takeOff_F, mfold_F, mmul_F, mplus_F, mminus_F, mpow_F, minv_F, mneutral_F, mcopyP_F, mneg_F, msum_F, mmany_F, mroot_F, mbase_F, menc_F, mmod_F, mcomb_F, mswap_F, mrung_F, mshaB_F]; done) | ((repeat' split) <;> first | rfl | (simp only [zero28_F, mzero_F, msmall_F, mcopy_F, takeOff_F, mfold_F, mmul_F, mplus_F, mminus_F, mpow_F, minv_F, mneutral_F, mcopyP_F, mneg_F, msum_F, mmany_F, mroot_F, mbase_F, menc_F, mmod_F, mcomb_F, mswap_F, mrung_F, mshaB_F]; done))
set_option maxRecDepth 100000 in
set_option maxHeartbeats 4000000 in
theorem c_mpiece {k : KX} {L : Nat → Option Sh} {S : StT} {n : Nat} {mo : Nat} {a : Nat} {at_ : Nat} {v : Int64} (hM : ModelAt k L mo) (ha : a < 64) (hat : at_ ≤ 28) :
    Cs k yX12_pieceLong cX12_pieceLong 6 none 0 0 0 [.ref (k_b k + (mo)), .int (nI (a)), .int (nI (at_)), .long (v)] (inst k L S.1 S.2.1 S.2.2) n (Pv k L n (mpiece_f mo a at_ v S)) := by
  refine cs_of (by decide) (Nat.le_of_ble_eq_true rfl) ?_
  intro X hXk C Rt hnm
  subst hXk
  have hM9 := hM
  obtain ⟨hM0, hm1, hm2, hm3, hm4, hm5, hm6, hm7, hm8, hm9, hm10, hm11, hm12, hm13, hm14, hm15, hm16, hm17, hm18, hm19, hm20, hm21, hm22, hm23, hm24, hm25, hm26, hm27⟩ := hM9
  refine rn_lv [(0, .ref (k_b X.1 + (mo))), (1, .int (nI (a))), (2, .int (nI (at_))), (3, .long (v))] (fun q h => h) ?_
  refine rn_iconst (v := nI 0) C dX12_pieceLong_0 rfl ?_
  refine rn_istore (lv' := [(0, _), (1, _), (2, _), (3, _), (5, _)]) C dX12_pieceLong_1 (by decide) rfl ?_
  have lp3 : ∀ i3, i3 ≤ 4 → Rn X 3 [(0, .ref (k_b X.1 + (mo))), (1, .int (nI (a))), (2, .int (nI (at_))), (3, .long (v)), (5, .int (nI (i3)))] [] (inst X.1 L (mpiece_l3 mo a at_ v S i3) S.2.1 S.2.2) n 0 0 := by
    refine upto _ _ ?_ (fun i3 hi3 ih3 => ?_)
    · skip
      refine rn_iload C dX12_pieceLong_3 rfl ?_
      refine rn_iconst (v := nI 4) C dX12_pieceLong_5 rfl ?_
      refine rs_ge (tgt := 40) C dX12_pieceLong_6 (by decide) rfl rfl (by omega) (by omega) (fun _ => ?_) (fun q => absurd q (by omega))
      exact rn_vret C Rt dX12_pieceLong_40 (pv_of rfl) (Nat.zero_le _) (Nat.zero_le _)
    · skip
      refine rn_iload C dX12_pieceLong_3 rfl ?_
      refine rn_iconst (v := nI 4) C dX12_pieceLong_5 rfl ?_
      refine rs_ge (tgt := 40) C dX12_pieceLong_6 (by decide) rfl rfl (by omega) (by omega) (fun q => absurd q (by omega)) (fun _ => ?_)
      refine rn_aload_n C dX12_pieceLong_9 rfl ?_
      refine rs_get C dX12_pieceLong_10 fl_X12_41 hM0 rfl ?_
      refine rn_bipush (v := nI 32) C dX12_pieceLong_13 rfl ?_
      refine rn_iload_n C dX12_pieceLong_15 rfl ?_
      refine rn_imul C dX12_pieceLong_16 (pk_mul _ _) ?_
      refine rn_iload_n C dX12_pieceLong_17 rfl ?_
      refine rn_iadd C dX12_pieceLong_18 (nI_add _ _) ?_
      refine rn_iload C dX12_pieceLong_19 rfl ?_
      refine rn_iadd C dX12_pieceLong_21 (nI_add _ _) ?_
      refine rn_lload_n C dX12_pieceLong_22 rfl ?_
      refine rn_bipush (v := nI 16) C dX12_pieceLong_23 rfl ?_
      refine rn_iload C dX12_pieceLong_25 rfl ?_
      refine rn_imul C dX12_pieceLong_27 (pk_mul _ _) ?_
      refine rn_lshr C dX12_pieceLong_28 rfl ?_
      refine rn_l2i C dX12_pieceLong_29 rfl ?_
      refine rn_ldc C dX12_pieceLong_30 lc_X12_117 ?_
      refine rn_iand C dX12_pieceLong_32 rfl ?_
      refine rs_iastore C dX12_pieceLong_33 hm7 rfl (by omega) (by decide) ?_
      refine rn_iinc (lv' := [(0, _), (1, _), (2, _), (3, _), (5, _)]) C dX12_pieceLong_34 rfl (nI_inc _) (by decide) rfl ?_
      refine rn_goto (tgt := 3) C dX12_pieceLong_37 (by decide) ?_
      exact rn_ks [0, 1, 2, 3, 5] ih3 rfl
  exact lp3 0 (Nat.zero_le _)
def mt28_l111 (mo : Nat) (d : Nat) (a : Nat) (b : Nat) (S1 : StT) (S : StT) (z4 : Int64) : Nat → Int64 × (Nat → Nat → Int32)
  | 0 => (z4, S.1)
  | i111 + 1 => let y111_0 := (mt28_l111 mo d a b S1 S z4 i111).1; let y111_1 := (mt28_l111 mo d a b S1 S z4 i111).2; (let I2 := va_up y111_1 (mo + 7) (upd (y111_1 (mo + 7)) (32 * d + i111) (((y111_0 + (S.2.1 (mo + 8) (i111))) &&& 65535).toInt32)); ((y111_0 + (S.2.1 (mo + 8) (i111))) >>> ((nI (16)).toInt64 &&& 63), I2))
def mt28_l52 (mo : Nat) (d : Nat) (a : Nat) (b : Nat) (i27 : Nat) (y27_0 : (Nat → Nat → Int64)) (v3 : Int64) (S : StT)  : Nat → (Nat → Nat → Int64)
  | 0 => S.2.1
  | i52 + 1 => let y52_0 := (mt28_l52 mo d a b i27 y27_0 v3 S i52); (let J4 := va_up y52_0 (mo + 8) (vp_updL (y52_0 (mo + 8)) (i27 + i52) ((y52_0 (mo + 8) (i27 + i52)) + (v3 * ((S.1 (mo + 7) (32 * b + i52)).toInt64)))); J4)
def mt28_l27 (mo : Nat) (d : Nat) (a : Nat) (b : Nat) (S : StT)  : Nat → (Nat → Nat → Int64)
  | 0 => S.2.1
  | i27 + 1 => let y27_0 := (mt28_l27 mo d a b S i27); (let v3 := (S.1 (mo + 7) (32 * a + i27)).toInt64; (mt28_l52 mo d a b i27 y27_0 v3 (S.1, y27_0, S.2.2) 14))
def mt28_l3 (mo : Nat) (d : Nat) (a : Nat) (b : Nat) (S : StT)  : Nat → (Nat → Nat → Int64)
  | 0 => S.2.1
  | i3 + 1 => let y3_0 := (mt28_l3 mo d a b S i3); va_up y3_0 (mo + 8) (vp_updL (y3_0 (mo + 8)) (i3) (0))
def mt28_f (mo : Nat) (d : Nat) (a : Nat) (b : Nat) (S : StT) : StT := (let S1 := zero28_f (mo) (d) (S.1, (mt28_l27 mo d a b (S.1, (mt28_l3 mo d a b S 64), S.2.2) 14), S.2.2); ((mt28_l111 mo d a b S1 S1 0 28).2, S1.2.1, S1.2.2))
theorem mt28_F (mo : Nat) (d : Nat) (a : Nat) (b : Nat) (S : StT) : (mt28_f mo d a b S).2.2 = S.2.2 := by
  unfold mt28_f; simp only [zero28_F]
set_option maxRecDepth 100000 in
set_option maxHeartbeats 4000000 in
theorem c_mt28 {k : KX} {L : Nat → Option Sh} {S : StT} {n : Nat} {mo : Nat} {d : Nat} {a : Nat} {b : Nat} (hM : ModelAt k L mo) (hd : d < 64) (ha : a < 64) (hb : b < 64) :
    Cs k yX12_times28 cX12_times28 8 none 1 0 0 [.ref (k_b k + (mo)), .int (nI (d)), .int (nI (a)), .int (nI (b))] (inst k L S.1 S.2.1 S.2.2) n (Pv k L n (mt28_f mo d a b S)) := by
  refine cs_of (by decide) (Nat.le_of_ble_eq_true rfl) ?_
  intro X hXk C Rt hnm
  subst hXk
  have hM9 := hM
  obtain ⟨hM0, hm1, hm2, hm3, hm4, hm5, hm6, hm7, hm8, hm9, hm10, hm11, hm12, hm13, hm14, hm15, hm16, hm17, hm18, hm19, hm20, hm21, hm22, hm23, hm24, hm25, hm26, hm27⟩ := hM9
  refine rn_lv [(0, .ref (k_b X.1 + (mo))), (1, .int (nI (d))), (2, .int (nI (a))), (3, .int (nI (b)))] (fun q h => h) ?_
  refine rn_iconst (v := nI 0) C dX12_times28_0 rfl ?_
  refine rn_istore (lv' := [(0, _), (1, _), (2, _), (3, _), (4, _)]) C dX12_times28_1 (by decide) rfl ?_
  have lp3 : ∀ i3, i3 ≤ 64 → Rn X 3 [(0, .ref (k_b X.1 + (mo))), (1, .int (nI (d))), (2, .int (nI (a))), (3, .int (nI (b))), (4, .int (nI (i3)))] [] (inst X.1 L S.1 (mt28_l3 mo d a b S i3) S.2.2) n 0 0 := by
    refine upto _ _ ?_ (fun i3 hi3 ih3 => ?_)
    · skip
      refine rn_iload C dX12_times28_3 rfl ?_
      refine rn_bipush (v := nI 64) C dX12_times28_5 rfl ?_
      refine rs_ge (tgt := 24) C dX12_times28_7 (by decide) rfl rfl (by omega) (by omega) (fun _ => ?_) (fun q => absurd q (by omega))
      refine rn_iconst (v := nI 0) C dX12_times28_24 rfl ?_
      refine rn_istore (lv' := [(0, _), (1, _), (2, _), (3, _), (4, _)]) C dX12_times28_25 (by decide) rfl ?_
      have lp27 : ∀ i27, i27 ≤ 14 → Rn X 27 [(0, .ref (k_b X.1 + (mo))), (1, .int (nI (d))), (2, .int (nI (a))), (3, .int (nI (b))), (4, .int (nI (i27)))] [] (inst X.1 L S.1 (mt28_l27 mo d a b (S.1, (mt28_l3 mo d a b S 64), S.2.2) i27) S.2.2) n 0 0 := by
        refine upto _ _ ?_ (fun i27 hi27 ih27 => ?_)
        · skip
          refine rn_iload C dX12_times28_27 rfl ?_
          refine rn_bipush (v := nI 14) C dX12_times28_29 rfl ?_
          refine rs_ge (tgt := 100) C dX12_times28_31 (by decide) rfl rfl (by omega) (by omega) (fun _ => ?_) (fun q => absurd q (by omega))
          refine rn_aload_n C dX12_times28_100 rfl ?_
          refine rn_iload_n C dX12_times28_101 rfl ?_
          refine rs_vv C dX12_times28_102 mk_X12_zero28 lv_X12_168 (c_zero28 (S := (S.1, (mt28_l27 mo d a b (S.1, (mt28_l3 mo d a b S 64), S.2.2) 14), S.2.2)) hM (by omega)) hM0 rfl rfl rfl rfl (by decide) (Nat.le_of_ble_eq_true rfl) (by decide) (by decide) ?_
          refine rn_lconst (v := 0) C dX12_times28_105 rfl ?_
          refine rn_lstore (lv' := [(0, _), (1, _), (2, _), (3, _), (4, _)]) C dX12_times28_106 (by decide) rfl ?_
          refine rn_iconst (v := nI 0) C dX12_times28_108 rfl ?_
          refine rn_istore (lv' := [(0, _), (1, _), (2, _), (3, _), (4, _), (6, _)]) C dX12_times28_109 (by decide) rfl ?_
          have lp111 : ∀ i111, i111 ≤ 28 → Rn X 111 [(0, .ref (k_b X.1 + (mo))), (1, .int (nI (d))), (2, .int (nI (a))), (3, .int (nI (b))), (4, .long ((mt28_l111 mo d a b (zero28_f (mo) (d) (S.1, (mt28_l27 mo d a b (S.1, (mt28_l3 mo d a b S 64), S.2.2) 14), S.2.2)) (zero28_f (mo) (d) (S.1, (mt28_l27 mo d a b (S.1, (mt28_l3 mo d a b S 64), S.2.2) 14), S.2.2)) 0 i111).1)), (6, .int (nI (i111)))] [] (inst X.1 L (mt28_l111 mo d a b (zero28_f (mo) (d) (S.1, (mt28_l27 mo d a b (S.1, (mt28_l3 mo d a b S 64), S.2.2) 14), S.2.2)) (zero28_f (mo) (d) (S.1, (mt28_l27 mo d a b (S.1, (mt28_l3 mo d a b S 64), S.2.2) 14), S.2.2)) 0 i111).2 (zero28_f (mo) (d) (S.1, (mt28_l27 mo d a b (S.1, (mt28_l3 mo d a b S 64), S.2.2) 14), S.2.2)).2.1 (zero28_f (mo) (d) (S.1, (mt28_l27 mo d a b (S.1, (mt28_l3 mo d a b S 64), S.2.2) 14), S.2.2)).2.2) n 0 0 := by
            refine upto _ _ ?_ (fun i111 hi111 ih111 => ?_)
            · skip
              refine rn_iload C dX12_times28_111 rfl ?_
              refine rn_bipush (v := nI 28) C dX12_times28_113 rfl ?_
              refine rs_ge (tgt := 162) C dX12_times28_115 (by decide) rfl rfl (by omega) (by omega) (fun _ => ?_) (fun q => absurd q (by omega))
              exact rn_vret C Rt dX12_times28_162 (pv_of rfl) (Nat.zero_le _) (Nat.zero_le _)
            · skip
              refine rn_iload C dX12_times28_111 rfl ?_
              refine rn_bipush (v := nI 28) C dX12_times28_113 rfl ?_
              refine rs_ge (tgt := 162) C dX12_times28_115 (by decide) rfl rfl (by omega) (by omega) (fun q => absurd q (by omega)) (fun _ => ?_)
              refine rn_lload C dX12_times28_118 rfl ?_
              refine rn_aload_n C dX12_times28_120 rfl ?_
              refine rs_get C dX12_times28_121 fl_X12_44 hM0 rfl ?_
              refine rn_iload C dX12_times28_124 rfl ?_
              refine rs_laload C dX12_times28_126 hm8 rfl (by omega) (by decide) ?_
              refine rn_ladd C dX12_times28_127 rfl ?_
              refine rn_lstore (lv' := [(0, _), (1, _), (2, _), (3, _), (4, _), (6, _)]) C dX12_times28_128 (by decide) rfl ?_
              refine rn_aload_n C dX12_times28_130 rfl ?_
              refine rs_get C dX12_times28_131 fl_X12_41 hM0 rfl ?_
              refine rn_bipush (v := nI 32) C dX12_times28_134 rfl ?_
              refine rn_iload_n C dX12_times28_136 rfl ?_
              refine rn_imul C dX12_times28_137 (pk_mul _ _) ?_
              refine rn_iload C dX12_times28_138 rfl ?_
              refine rn_iadd C dX12_times28_140 (nI_add _ _) ?_
              refine rn_lload C dX12_times28_141 rfl ?_
              refine rn_ldc2 C dX12_times28_143 lc_X12_181 ?_
              refine rn_land C dX12_times28_146 rfl ?_
              refine rn_l2i C dX12_times28_147 rfl ?_
              refine rs_iastore C dX12_times28_148 hm7 rfl (by omega) (by decide) ?_
              refine rn_lload C dX12_times28_149 rfl ?_
              refine rn_bipush (v := nI 16) C dX12_times28_151 rfl ?_
              refine rn_lshr C dX12_times28_153 rfl ?_
              refine rn_lstore (lv' := [(0, _), (1, _), (2, _), (3, _), (4, _), (6, _)]) C dX12_times28_154 (by decide) rfl ?_
              refine rn_iinc (lv' := [(0, _), (1, _), (2, _), (3, _), (4, _), (6, _)]) C dX12_times28_156 rfl (nI_inc _) (by decide) rfl ?_
              refine rn_goto (tgt := 111) C dX12_times28_159 (by decide) ?_
              exact rn_ks [0, 1, 2, 3, 4, 6] ih111 rfl
          exact lp111 0 (Nat.zero_le _)
        · skip
          refine rn_iload C dX12_times28_27 rfl ?_
          refine rn_bipush (v := nI 14) C dX12_times28_29 rfl ?_
          refine rs_ge (tgt := 100) C dX12_times28_31 (by decide) rfl rfl (by omega) (by omega) (fun q => absurd q (by omega)) (fun _ => ?_)
          refine rn_aload_n C dX12_times28_34 rfl ?_
          refine rs_get C dX12_times28_35 fl_X12_41 hM0 rfl ?_
          refine rn_bipush (v := nI 32) C dX12_times28_38 rfl ?_
          refine rn_iload_n C dX12_times28_40 rfl ?_
          refine rn_imul C dX12_times28_41 (pk_mul _ _) ?_
          refine rn_iload C dX12_times28_42 rfl ?_
          refine rn_iadd C dX12_times28_44 (nI_add _ _) ?_
          refine rs_iaload C dX12_times28_45 hm7 rfl (by omega) (by decide) ?_
          refine rn_i2l C dX12_times28_46 rfl ?_
          refine rn_lstore (lv' := [(0, _), (1, _), (2, _), (3, _), (4, _), (5, _)]) C dX12_times28_47 (by decide) rfl ?_
          refine rn_iconst (v := nI 0) C dX12_times28_49 rfl ?_
          refine rn_istore (lv' := [(0, _), (1, _), (2, _), (3, _), (4, _), (5, _), (7, _)]) C dX12_times28_50 (by decide) rfl ?_
          have lp52 : ∀ i52, i52 ≤ 14 → Rn X 52 [(0, .ref (k_b X.1 + (mo))), (1, .int (nI (d))), (2, .int (nI (a))), (3, .int (nI (b))), (4, .int (nI (i27))), (5, .long ((((S.1, (mt28_l3 mo d a b S 64), S.2.2).1 (mo + 7) (32 * a + i27)).toInt64))), (7, .int (nI (i52)))] [] (inst X.1 L (S.1, (mt28_l3 mo d a b S 64), S.2.2).1 (mt28_l52 mo d a b i27 (mt28_l27 mo d a b (S.1, (mt28_l3 mo d a b S 64), S.2.2) i27) (((S.1, (mt28_l3 mo d a b S 64), S.2.2).1 (mo + 7) (32 * a + i27)).toInt64) ((S.1, (mt28_l3 mo d a b S 64), S.2.2).1, (mt28_l27 mo d a b (S.1, (mt28_l3 mo d a b S 64), S.2.2) i27), (S.1, (mt28_l3 mo d a b S 64), S.2.2).2.2) i52) (S.1, (mt28_l3 mo d a b S 64), S.2.2).2.2) n 0 0 := by
            refine upto _ _ ?_ (fun i52 hi52 ih52 => ?_)
            · skip
              refine rn_iload C dX12_times28_52 rfl ?_
              refine rn_bipush (v := nI 14) C dX12_times28_54 rfl ?_
              refine rs_ge (tgt := 94) C dX12_times28_56 (by decide) rfl rfl (by omega) (by omega) (fun _ => ?_) (fun q => absurd q (by omega))
              refine rn_iinc (lv' := [(0, _), (1, _), (2, _), (3, _), (4, _), (5, _), (7, _)]) C dX12_times28_94 rfl (nI_inc _) (by decide) rfl ?_
              refine rn_goto (tgt := 27) C dX12_times28_97 (by decide) ?_
              exact rn_ks [0, 1, 2, 3, 4] ih27 rfl
            · skip
              refine rn_iload C dX12_times28_52 rfl ?_
              refine rn_bipush (v := nI 14) C dX12_times28_54 rfl ?_
              refine rs_ge (tgt := 94) C dX12_times28_56 (by decide) rfl rfl (by omega) (by omega) (fun q => absurd q (by omega)) (fun _ => ?_)
              refine rn_aload_n C dX12_times28_59 rfl ?_
              refine rs_get C dX12_times28_60 fl_X12_44 hM0 rfl ?_
              refine rn_iload C dX12_times28_63 rfl ?_
              refine rn_iload C dX12_times28_65 rfl ?_
              refine rn_iadd C dX12_times28_67 (nI_add _ _) ?_
              refine rn_dup2 C dX12_times28_68 rfl rfl ?_
              refine rs_laload C dX12_times28_69 hm8 rfl (by omega) (by decide) ?_
              refine rn_lload C dX12_times28_70 rfl ?_
              refine rn_aload_n C dX12_times28_72 rfl ?_
              refine rs_get C dX12_times28_73 fl_X12_41 hM0 rfl ?_
              refine rn_bipush (v := nI 32) C dX12_times28_76 rfl ?_
              refine rn_iload_n C dX12_times28_78 rfl ?_
              refine rn_imul C dX12_times28_79 (pk_mul _ _) ?_
              refine rn_iload C dX12_times28_80 rfl ?_
              refine rn_iadd C dX12_times28_82 (nI_add _ _) ?_
              refine rs_iaload C dX12_times28_83 hm7 rfl (by omega) (by decide) ?_
              refine rn_i2l C dX12_times28_84 rfl ?_
              refine rn_lmul C dX12_times28_85 rfl ?_
              refine rn_ladd C dX12_times28_86 rfl ?_
              refine rs_lastore C dX12_times28_87 hm8 rfl (by omega) (by decide) ?_
              refine rn_iinc (lv' := [(0, _), (1, _), (2, _), (3, _), (4, _), (5, _), (7, _)]) C dX12_times28_88 rfl (nI_inc _) (by decide) rfl ?_
              refine rn_goto (tgt := 52) C dX12_times28_91 (by decide) ?_
              exact rn_ks [0, 1, 2, 3, 4, 5, 7] ih52 rfl
          exact lp52 0 (Nat.zero_le _)
      exact lp27 0 (Nat.zero_le _)
    · skip
      refine rn_iload C dX12_times28_3 rfl ?_
      refine rn_bipush (v := nI 64) C dX12_times28_5 rfl ?_
      refine rs_ge (tgt := 24) C dX12_times28_7 (by decide) rfl rfl (by omega) (by omega) (fun q => absurd q (by omega)) (fun _ => ?_)
      refine rn_aload_n C dX12_times28_10 rfl ?_
      refine rs_get C dX12_times28_11 fl_X12_44 hM0 rfl ?_
      refine rn_iload C dX12_times28_14 rfl ?_
      refine rn_lconst (v := 0) C dX12_times28_16 rfl ?_
      refine rs_lastore C dX12_times28_17 hm8 rfl (by omega) (by decide) ?_
      refine rn_iinc (lv' := [(0, _), (1, _), (2, _), (3, _), (4, _)]) C dX12_times28_18 rfl (nI_inc _) (by decide) rfl ?_
      refine rn_goto (tgt := 3) C dX12_times28_21 (by decide) ?_
      exact rn_ks [0, 1, 2, 3, 4] ih3 rfl
  exact lp3 0 (Nat.zero_le _)
def mset_f (mo : Nat) (rg : Int32) (q : Nat) (x : Int32) (S : StT) : StT := (if (rg) ≠ 0 then (if (rg) ≠ (nI (1)) then (va_up S.1 (mo + 3) (upd (S.1 (mo + 3)) (q) (x)), S.2.1, S.2.2) else (va_up S.1 (mo + 2) (upd (S.1 (mo + 2)) (q) (x)), S.2.1, S.2.2)) else (va_up S.1 (mo + 1) (upd (S.1 (mo + 1)) (q) (x)), S.2.1, S.2.2))
theorem mset_F (mo : Nat) (rg : Int32) (q : Nat) (x : Int32) (S : StT) : (mset_f mo rg q x S).2.2 = S.2.2 := by
  unfold mset_f; first | rfl | (simp only [zero28_F, mzero_F, msmall_F, mcopy_F, takeOff_F, mfold_F, mmul_F, mplus_F, mminus_F, mpow_F, minv_F, mneutral_F, mcopyP_F, mneg_F, msum_F, mmany_F, mroot_F, mbase_F, menc_F, mmod_F, mcomb_F, mswap_F, mrung_F, mshaB_F, mpiece_F, mt28_F]; done) | ((repeat' split) <;> first | rfl | (simp only [zero28_F, mzero_F, msmall_F, mcopy_F, takeOff_F, mfold_F, mmul_F, mplus_F, mminus_F, mpow_F, minv_F, mneutral_F, mcopyP_F, mneg_F, msum_F, mmany_F, mroot_F, mbase_F, menc_F, mmod_F, mcomb_F, mswap_F, mrung_F, mshaB_F, mpiece_F, mt28_F]; done))
set_option maxRecDepth 100000 in
set_option maxHeartbeats 4000000 in
theorem c_mset {k : KX} {L : Nat → Option Sh} {S : StT} {n : Nat} {mo : Nat} {rg : Int32} {q : Nat} {x : Int32} (hM : ModelAt k L mo) (hq : q < 114) (hq0 : rg = 0 → q < 57) (hq1 : rg = 1 → q < 57) :
    Cs k yX12_set cX12_set 4 none 0 0 0 [.ref (k_b k + (mo)), .int (rg), .int (nI (q)), .int (x)] (inst k L S.1 S.2.1 S.2.2) n (Pv k L n (mset_f mo rg q x S)) := by
  refine cs_of (by decide) (Nat.le_of_ble_eq_true rfl) ?_
  intro X hXk C Rt hnm
  subst hXk
  have hM9 := hM
  obtain ⟨hM0, hm1, hm2, hm3, hm4, hm5, hm6, hm7, hm8, hm9, hm10, hm11, hm12, hm13, hm14, hm15, hm16, hm17, hm18, hm19, hm20, hm21, hm22, hm23, hm24, hm25, hm26, hm27⟩ := hM9
  refine rn_lv [(0, .ref (k_b X.1 + (mo))), (1, .int (rg)), (2, .int (nI (q))), (3, .int (x))] (fun q h => h) ?_
  refine rn_iload_n C dX12_set_0 rfl ?_
  refine rn_if_ne (tgt := 14) C dX12_set_1 (by decide) (fun hb1 => ?_) (fun hb1 => ?_)
  · skip
    refine rn_iload_n C dX12_set_14 rfl ?_
    refine rn_iconst (v := nI 1) C dX12_set_15 rfl ?_
    refine rn_icmp_ne (tgt := 29) C dX12_set_16 (by decide) (fun hb2 => ?_) (fun hb2 => ?_)
    · skip
      refine rn_aload_n C dX12_set_29 rfl ?_
      refine rs_get C dX12_set_30 fl_X12_20 hM0 rfl ?_
      refine rn_iload_n C dX12_set_33 rfl ?_
      refine rn_iload_n C dX12_set_34 rfl ?_
      refine rs_iastore C dX12_set_35 hm3 rfl (by omega) (by decide) ?_
      exact rn_vret C Rt dX12_set_36 (pv_of ((if_pos hb1).trans (if_pos hb2))) (Nat.zero_le _) (Nat.zero_le _)
    · skip
      have hz := hq1 hb2
      refine rn_aload_n C dX12_set_19 rfl ?_
      refine rs_get C dX12_set_20 fl_X12_17 hM0 rfl ?_
      refine rn_iload_n C dX12_set_23 rfl ?_
      refine rn_iload_n C dX12_set_24 rfl ?_
      refine rs_iastore C dX12_set_25 hm2 rfl (by omega) (by decide) ?_
      refine rn_goto (tgt := 36) C dX12_set_26 (by decide) ?_
      exact rn_vret C Rt dX12_set_36 (pv_of ((if_pos hb1).trans (if_neg (fun q => q hb2)))) (Nat.zero_le _) (Nat.zero_le _)
  · skip
    have hz := hq0 (by first | exact hb1 | (have := hb1; simpa using this))
    refine rn_aload_n C dX12_set_4 rfl ?_
    refine rs_get C dX12_set_5 fl_X12_13 hM0 rfl ?_
    refine rn_iload_n C dX12_set_8 rfl ?_
    refine rn_iload_n C dX12_set_9 rfl ?_
    refine rs_iastore C dX12_set_10 hm1 rfl (by omega) (by decide) ?_
    refine rn_goto (tgt := 36) C dX12_set_11 (by decide) ?_
    exact rn_vret C Rt dX12_set_36 (pv_of (if_neg (fun q => q hb1))) (Nat.zero_le _) (Nat.zero_le _)
def mthrown_f (mo : Nat) (S : StT) : Int32 × StT := (S.2.2 (mo) 0, S)
set_option maxRecDepth 100000 in
set_option maxHeartbeats 4000000 in
theorem c_mthrown {k : KX} {L : Nat → Option Sh} {S : StT} {n : Nat} {mo : Nat} (hM : ModelAt k L mo) :
    Cs k yX12_thrown cX12_thrown 1 (some .int) 0 0 0 [.ref (k_b k + (mo))] (inst k L S.1 S.2.1 S.2.2) n (Pi k L n (mthrown_f mo S)) := by
  refine cs_of (by decide) (Nat.le_of_ble_eq_true rfl) ?_
  intro X hXk C Rt hnm
  subst hXk
  have hM9 := hM
  obtain ⟨hM0, hm1, hm2, hm3, hm4, hm5, hm6, hm7, hm8, hm9, hm10, hm11, hm12, hm13, hm14, hm15, hm16, hm17, hm18, hm19, hm20, hm21, hm22, hm23, hm24, hm25, hm26, hm27⟩ := hM9
  refine rn_lv [(0, .ref (k_b X.1 + (mo)))] (fun q h => h) ?_
  refine rn_aload_n C dX12_thrown_0 rfl ?_
  refine rs_getF C dX12_thrown_1 fl_X12_7 hM0 rfl ?_
  exact rn_iret C Rt dX12_thrown_4 (pi_of rfl) (Nat.zero_le _) (Nat.zero_le _)
theorem mthrown_S (mo : Nat) (S : StT) : (mthrown_f mo S).2 = S := rfl
theorem cp_mthrown {k : KX} {L : Nat → Option Sh} {S : StT} {n : Nat} {mo : Nat} (hM : ModelAt k L mo) :
    Cs k yX12_thrown cX12_thrown 1 (some .int) 0 0 0 [.ref (k_b k + (mo))] (inst k L S.1 S.2.1 S.2.2) n (Pi k L n ((mthrown_f mo S).1, S)) := by
  have h := c_mthrown (k := k) (L := L) (S := S) (n := n) (mo := mo) hM
  have e : mthrown_f mo S = ((mthrown_f mo S).1, S) := Prod.ext rfl (mthrown_S mo S)
  rwa [e] at h
def msize_f (mo : Nat) (S : StT) : Int32 × StT := ((va_up S.2.2 (mo) (upd (S.2.2 (mo)) 0 (nI (0)))) (mo) 5, (S.1, S.2.1, va_up S.2.2 (mo) (upd (S.2.2 (mo)) 0 (nI (0)))))
set_option maxRecDepth 100000 in
set_option maxHeartbeats 4000000 in
theorem c_msize {k : KX} {L : Nat → Option Sh} {S : StT} {n : Nat} {mo : Nat} (hM : ModelAt k L mo) :
    Cs k yX12_size cX12_size 1 (some .int) 0 0 0 [.ref (k_b k + (mo))] (inst k L S.1 S.2.1 S.2.2) n (Pi k L n (msize_f mo S)) := by
  refine cs_of (by decide) (Nat.le_of_ble_eq_true rfl) ?_
  intro X hXk C Rt hnm
  subst hXk
  have hM9 := hM
  obtain ⟨hM0, hm1, hm2, hm3, hm4, hm5, hm6, hm7, hm8, hm9, hm10, hm11, hm12, hm13, hm14, hm15, hm16, hm17, hm18, hm19, hm20, hm21, hm22, hm23, hm24, hm25, hm26, hm27⟩ := hM9
  refine rn_lv [(0, .ref (k_b X.1 + (mo)))] (fun q h => h) ?_
  refine rn_aload_n C dX12_size_0 rfl ?_
  refine rn_iconst (v := nI 0) C dX12_size_1 rfl ?_
  refine rs_putF C dX12_size_2 fp_X12_7 hM0 rfl ?_
  refine rn_aload_n C dX12_size_5 rfl ?_
  refine rs_getF C dX12_size_6 fl_X12_26 hM0 rfl ?_
  exact rn_iret C Rt dX12_size_9 (pi_of rfl) (Nat.zero_le _) (Nat.zero_le _)
def mclear_f (mo : Nat) (cx : Int32) (S : StT) : StT := (if (cx) = 0 then (let F2 := va_up (va_up S.2.2 (mo) (upd (S.2.2 (mo)) 0 (nI (0)))) (mo) (upd ((va_up S.2.2 (mo) (upd (S.2.2 (mo)) 0 (nI (0)))) (mo)) 7 (nI (0))); (S.1, S.2.1, F2)) else (let F3 := va_up (va_up S.2.2 (mo) (upd (S.2.2 (mo)) 0 (nI (0)))) (mo) (upd ((va_up S.2.2 (mo) (upd (S.2.2 (mo)) 0 (nI (0)))) (mo)) 9 (nI (0))); (S.1, S.2.1, F3)))
set_option maxRecDepth 100000 in
set_option maxHeartbeats 4000000 in
theorem c_mclear {k : KX} {L : Nat → Option Sh} {S : StT} {n : Nat} {mo : Nat} {cx : Int32} (hM : ModelAt k L mo) :
    Cs k yX12_clear cX12_clear 2 none 0 0 0 [.ref (k_b k + (mo)), .int (cx)] (inst k L S.1 S.2.1 S.2.2) n (Pv k L n (mclear_f mo cx S)) := by
  refine cs_of (by decide) (Nat.le_of_ble_eq_true rfl) ?_
  intro X hXk C Rt hnm
  subst hXk
  have hM9 := hM
  obtain ⟨hM0, hm1, hm2, hm3, hm4, hm5, hm6, hm7, hm8, hm9, hm10, hm11, hm12, hm13, hm14, hm15, hm16, hm17, hm18, hm19, hm20, hm21, hm22, hm23, hm24, hm25, hm26, hm27⟩ := hM9
  refine rn_lv [(0, .ref (k_b X.1 + (mo))), (1, .int (cx))] (fun q h => h) ?_
  refine rn_aload_n C dX12_clear_0 rfl ?_
  refine rn_iconst (v := nI 0) C dX12_clear_1 rfl ?_
  refine rs_putF C dX12_clear_2 fp_X12_7 hM0 rfl ?_
  refine rn_iload_n C dX12_clear_5 rfl ?_
  refine rn_if_eq (tgt := 17) C dX12_clear_6 (by decide) (fun hb1 => ?_) (fun hb1 => ?_)
  · skip
    refine rn_aload_n C dX12_clear_17 rfl ?_
    refine rn_iconst (v := nI 0) C dX12_clear_18 rfl ?_
    refine rs_putF C dX12_clear_19 fp_X12_32 hM0 rfl ?_
    exact rn_vret C Rt dX12_clear_22 (pv_of (if_pos hb1)) (Nat.zero_le _) (Nat.zero_le _)
  · skip
    refine rn_aload_n C dX12_clear_9 rfl ?_
    refine rn_iconst (v := nI 0) C dX12_clear_10 rfl ?_
    refine rs_putF C dX12_clear_11 fp_X12_38 hM0 rfl ?_
    refine rn_goto (tgt := 22) C dX12_clear_14 (by decide) ?_
    exact rn_vret C Rt dX12_clear_22 (pv_of (if_neg hb1)) (Nat.zero_le _) (Nat.zero_le _)
