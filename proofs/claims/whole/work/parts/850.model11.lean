/-! CurveSuiteModel: what its maker calls (dc.py, spec_model11.py) -/
def mo448_l67 (mo : Nat) (S : StT) (z1 : Nat) : Nat → Nat × (Nat → Nat → Int32)
  | 0 => (z1, S.1)
  | i67 + 1 => let y67_0 := (mo448_l67 mo S z1 i67).1; let y67_1 := (mo448_l67 mo S z1 i67).2; (let v8 := ((nI ((if (nI (i67)) ≠ (nI (27)) then 0 else 16384))) - (y67_1 (mo + 7) (672 + i67))) - (nI (y67_0)); ((if 0 ≤ (v8) then 0 else 1), va_up y67_1 (mo + 7) (upd (y67_1 (mo + 7)) (640 + i67) ((v8) &&& (65535)))))
def mo448_f (mo : Nat) (S : StT) : StT := (let S1 := zero28_f (mo) (21) S; (let S2 := mpiece_f (mo) (21) (0) ((-2556006723728458995)) (S1.1, S1.2.1, S.2.2); (let S3 := mpiece_f (mo) (21) (4) ((-2408513697996967766)) (S2.1, S2.2.1, S.2.2); (let S4 := mpiece_f (mo) (21) (8) (4301259484579875183) (S3.1, S3.2.1, S.2.2); (let I5 := va_up (va_up S4.1 (mo + 7) (upd (S4.1 (mo + 7)) (684) (56342))) (mo + 7) (upd ((va_up S4.1 (mo + 7) (upd (S4.1 (mo + 7)) (684) (56342))) (mo + 7)) (685) (33589)); (let S6 := zero28_f (mo) (20) (I5, S4.2.1, S.2.2); ((mo448_l67 mo (S6.1, S6.2.1, S.2.2) 0 28).2, S6.2.1, S.2.2)))))))
theorem mo448_F (mo : Nat) (S : StT) : (mo448_f mo S).2.2 = S.2.2 := by
  unfold mo448_f; first | rfl | ((repeat' split) <;> rfl) | (dsimp only; (repeat' split) <;> rfl)
set_option maxRecDepth 100000 in
set_option maxHeartbeats 4000000 in
theorem c_mo448 {k : KX} {L : Nat → Option Sh} {S : StT} {n : Nat} {mo : Nat} (hM : ModelAt k L mo) :
    Cs k yX12_order448 cX12_order448 4 none 1 0 0 [.ref (k_b k + (mo))] (inst k L S.1 S.2.1 S.2.2) n (Pv k L n (mo448_f mo S)) := by
  refine cs_of (by decide) (Nat.le_of_ble_eq_true rfl) ?_
  intro X hXk C Rt hnm
  subst hXk
  have hM9 := hM
  obtain ⟨hM0, hm1, hm2, hm3, hm4, hm5, hm6, hm7, hm8, hm9, hm10, hm11, hm12, hm13, hm14, hm15, hm16, hm17, hm18, hm19, hm20, hm21, hm22, hm23, hm24, hm25, hm26, hm27⟩ := hM9
  refine rn_lv [(0, .ref (k_b X.1 + (mo)))] (fun q h => h) ?_
  refine rn_aload_n C dX12_order448_0 rfl ?_
  refine rn_bipush (v := nI 21) C dX12_order448_1 rfl ?_
  refine rs_vv C dX12_order448_3 mk_X12_zero28 lv_X12_168 (c_zero28 hM (by omega)) hM0 rfl rfl rfl rfl (by decide) (Nat.le_of_ble_eq_true rfl) (by decide) (by decide) ?_
  rw [show (zero28_f (mo) (21) S).2.2 = S.2.2 from (zero28_F (mo) (21) S)]
  generalize hS1 : zero28_f (mo) (21) S = S1
  refine rn_aload_n C dX12_order448_6 rfl ?_
  refine rn_bipush (v := nI 21) C dX12_order448_7 rfl ?_
  refine rn_iconst (v := nI 0) C dX12_order448_9 rfl ?_
  refine rn_ldc2 C dX12_order448_10 lc_X12_171 ?_
  refine rs_vv C dX12_order448_13 mk_X12_pieceLong lv_X12_122 (c_mpiece (S := (S1.1, S1.2.1, S.2.2)) hM (by omega) (by omega)) hM0 rfl rfl rfl rfl (by decide) (Nat.le_of_ble_eq_true rfl) (by decide) (by decide) ?_
  rw [show (mpiece_f (mo) (21) (0) ((-2556006723728458995)) (S1.1, S1.2.1, S.2.2)).2.2 = S.2.2 from (mpiece_F (mo) (21) (0) ((-2556006723728458995)) (S1.1, S1.2.1, S.2.2))]
  generalize hS2 : mpiece_f (mo) (21) (0) ((-2556006723728458995)) (S1.1, S1.2.1, S.2.2) = S2
  refine rn_aload_n C dX12_order448_16 rfl ?_
  refine rn_bipush (v := nI 21) C dX12_order448_17 rfl ?_
  refine rn_iconst (v := nI 4) C dX12_order448_19 rfl ?_
  refine rn_ldc2 C dX12_order448_20 lc_X12_173 ?_
  refine rs_vv C dX12_order448_23 mk_X12_pieceLong lv_X12_122 (c_mpiece (S := (S2.1, S2.2.1, S.2.2)) hM (by omega) (by omega)) hM0 rfl rfl rfl rfl (by decide) (Nat.le_of_ble_eq_true rfl) (by decide) (by decide) ?_
  rw [show (mpiece_f (mo) (21) (4) ((-2408513697996967766)) (S2.1, S2.2.1, S.2.2)).2.2 = S.2.2 from (mpiece_F (mo) (21) (4) ((-2408513697996967766)) (S2.1, S2.2.1, S.2.2))]
  generalize hS3 : mpiece_f (mo) (21) (4) ((-2408513697996967766)) (S2.1, S2.2.1, S.2.2) = S3
  refine rn_aload_n C dX12_order448_26 rfl ?_
  refine rn_bipush (v := nI 21) C dX12_order448_27 rfl ?_
  refine rn_bipush (v := nI 8) C dX12_order448_29 rfl ?_
  refine rn_ldc2 C dX12_order448_31 lc_X12_175 ?_
  refine rs_vv C dX12_order448_34 mk_X12_pieceLong lv_X12_122 (c_mpiece (S := (S3.1, S3.2.1, S.2.2)) hM (by omega) (by omega)) hM0 rfl rfl rfl rfl (by decide) (Nat.le_of_ble_eq_true rfl) (by decide) (by decide) ?_
  rw [show (mpiece_f (mo) (21) (8) (4301259484579875183) (S3.1, S3.2.1, S.2.2)).2.2 = S.2.2 from (mpiece_F (mo) (21) (8) (4301259484579875183) (S3.1, S3.2.1, S.2.2))]
  generalize hS4 : mpiece_f (mo) (21) (8) (4301259484579875183) (S3.1, S3.2.1, S.2.2) = S4
  refine rn_aload_n C dX12_order448_37 rfl ?_
  refine rs_get C dX12_order448_38 fl_X12_41 hM0 rfl ?_
  refine rn_sipush (v := nI 684) C dX12_order448_41 rfl ?_
  refine rn_ldc C dX12_order448_44 lc_X12_177 ?_
  refine rs_iastore C dX12_order448_46 hm7 rfl (by omega) (by decide) ?_
  refine rn_aload_n C dX12_order448_47 rfl ?_
  refine rs_get C dX12_order448_48 fl_X12_41 hM0 rfl ?_
  refine rn_sipush (v := nI 685) C dX12_order448_51 rfl ?_
  refine rn_ldc C dX12_order448_54 lc_X12_178 ?_
  refine rs_iastore C dX12_order448_56 hm7 rfl (by omega) (by decide) ?_
  refine rn_aload_n C dX12_order448_57 rfl ?_
  refine rn_bipush (v := nI 20) C dX12_order448_58 rfl ?_
  refine rs_vv C dX12_order448_60 mk_X12_zero28 lv_X12_168 (c_zero28 (S := ((va_up (va_up S4.1 (mo + 7) (upd (S4.1 (mo + 7)) (684) (56342))) (mo + 7) (upd ((va_up S4.1 (mo + 7) (upd (S4.1 (mo + 7)) (684) (56342))) (mo + 7)) (685) (33589))), S4.2.1, S.2.2)) hM (by omega)) hM0 rfl rfl rfl rfl (by decide) (Nat.le_of_ble_eq_true rfl) (by decide) (by decide) ?_
  rw [show (zero28_f (mo) (20) ((va_up (va_up S4.1 (mo + 7) (upd (S4.1 (mo + 7)) (684) (56342))) (mo + 7) (upd ((va_up S4.1 (mo + 7) (upd (S4.1 (mo + 7)) (684) (56342))) (mo + 7)) (685) (33589))), S4.2.1, S.2.2)).2.2 = S.2.2 from (zero28_F (mo) (20) ((va_up (va_up S4.1 (mo + 7) (upd (S4.1 (mo + 7)) (684) (56342))) (mo + 7) (upd ((va_up S4.1 (mo + 7) (upd (S4.1 (mo + 7)) (684) (56342))) (mo + 7)) (685) (33589))), S4.2.1, S.2.2))]
  generalize hS6 : zero28_f (mo) (20) ((va_up (va_up S4.1 (mo + 7) (upd (S4.1 (mo + 7)) (684) (56342))) (mo + 7) (upd ((va_up S4.1 (mo + 7) (upd (S4.1 (mo + 7)) (684) (56342))) (mo + 7)) (685) (33589))), S4.2.1, S.2.2) = S6
  refine rn_iconst (v := nI 0) C dX12_order448_63 rfl ?_
  refine rn_istore_n (lv' := [(0, _), (1, _)]) C dX12_order448_64 (by decide) rfl ?_
  refine rn_iconst (v := nI 0) C dX12_order448_65 rfl ?_
  refine rn_istore_n (lv' := [(0, _), (1, _), (2, _)]) C dX12_order448_66 (by decide) rfl ?_
  have lp67 : ∀ i67, i67 ≤ 28 → Rn X 67 [(0, .ref (k_b X.1 + (mo))), (1, .int (nI ((mo448_l67 mo (S6.1, S6.2.1, S.2.2) 0 i67).1))), (2, .int (nI (i67)))] [] (inst X.1 L (mo448_l67 mo (S6.1, S6.2.1, S.2.2) 0 i67).2 S6.2.1 S.2.2) n 0 0 := by
    refine upto _ _ ?_ (fun i67 hi67 ih67 => ?_)
    · skip
      refine rn_iload_n C dX12_order448_67 rfl ?_
      refine rn_bipush (v := nI 28) C dX12_order448_68 rfl ?_
      refine rs_ge (tgt := 130) C dX12_order448_70 (by decide) rfl rfl (by omega) (by omega) (fun _ => ?_) (fun q => absurd q (by omega))
      have hret : mo448_f mo S = ((mo448_l67 mo (S6.1, S6.2.1, S.2.2) 0 28).2, S6.2.1, S.2.2) := by
        subst hS6
        subst hS4
        subst hS3
        subst hS2
        subst hS1
        first | (dsimp only [mo448_f]; done) | (dsimp only [mo448_f]; exact rfl) | exact rfl
      exact rn_vret C Rt dX12_order448_130 (pv_of hret) (Nat.zero_le _) (Nat.zero_le _)
    · skip
      refine rn_iload_n C dX12_order448_67 rfl ?_
      refine rn_bipush (v := nI 28) C dX12_order448_68 rfl ?_
      refine rs_ge (tgt := 130) C dX12_order448_70 (by decide) rfl rfl (by omega) (by omega) (fun q => absurd q (by omega)) (fun _ => ?_)
      refine rn_iload_n C dX12_order448_73 rfl ?_
      refine rn_bipush (v := nI 27) C dX12_order448_74 rfl ?_
      have K76_7 : Rn X 86 [(0, .ref (k_b X.1 + (mo))), (1, .int (nI ((mo448_l67 mo (S6.1, S6.2.1, S.2.2) 0 i67).1))), (2, .int (nI (i67)))] [.int (nI ((if (nI (i67)) ≠ (nI (27)) then 0 else 16384)))] (inst X.1 L (mo448_l67 mo (S6.1, S6.2.1, S.2.2) 0 i67).2 (S6.1, S6.2.1, S.2.2).2.1 S.2.2) n 0 0 := by
        refine rn_aload_n C dX12_order448_86 rfl ?_
        refine rs_get C dX12_order448_87 fl_X12_41 hM0 rfl ?_
        refine rn_sipush (v := nI 672) C dX12_order448_90 rfl ?_
        refine rn_iload_n C dX12_order448_93 rfl ?_
        refine rn_iadd C dX12_order448_94 (nI_add _ _) ?_
        refine rs_iaload C dX12_order448_95 hm7 rfl (by omega) (by decide) ?_
        refine rn_isub C dX12_order448_96 rfl ?_
        refine rn_iload_n C dX12_order448_97 rfl ?_
        refine rn_isub C dX12_order448_98 rfl ?_
        refine rn_istore_n (lv' := [(0, _), (1, _), (2, _), (3, _)]) C dX12_order448_99 (by decide) rfl ?_
        refine rn_iload_n C dX12_order448_100 rfl ?_
        have K101_9 : Rn X 109 [(0, .ref (k_b X.1 + (mo))), (1, .int (nI ((mo448_l67 mo (S6.1, S6.2.1, S.2.2) 0 i67).1))), (2, .int (nI (i67))), (3, .int ((((nI ((if (nI (i67)) ≠ (nI (27)) then 0 else 16384))) - ((mo448_l67 mo (S6.1, S6.2.1, S.2.2) 0 i67).2 (mo + 7) (672 + i67))) - (nI ((mo448_l67 mo (S6.1, S6.2.1, S.2.2) 0 i67).1)))))] [.int (nI ((if 0 ≤ ((((nI ((if (nI (i67)) ≠ (nI (27)) then 0 else 16384))) - ((mo448_l67 mo (S6.1, S6.2.1, S.2.2) 0 i67).2 (mo + 7) (672 + i67))) - (nI ((mo448_l67 mo (S6.1, S6.2.1, S.2.2) 0 i67).1)))) then 0 else 1)))] (inst X.1 L (mo448_l67 mo (S6.1, S6.2.1, S.2.2) 0 i67).2 (S6.1, S6.2.1, S.2.2).2.1 S.2.2) n 0 0 := by
          refine rn_istore_n (lv' := [(0, _), (1, _), (2, _), (3, _)]) C dX12_order448_109 (by decide) rfl ?_
          refine rn_aload_n C dX12_order448_110 rfl ?_
          refine rs_get C dX12_order448_111 fl_X12_41 hM0 rfl ?_
          refine rn_sipush (v := nI 640) C dX12_order448_114 rfl ?_
          refine rn_iload_n C dX12_order448_117 rfl ?_
          refine rn_iadd C dX12_order448_118 (nI_add _ _) ?_
          refine rn_iload_n C dX12_order448_119 rfl ?_
          refine rn_ldc C dX12_order448_120 lc_X12_117 ?_
          refine rn_iand C dX12_order448_122 rfl ?_
          refine rs_iastore C dX12_order448_123 hm7 rfl (by omega) (by decide) ?_
          refine rn_iinc (lv' := [(0, _), (1, _), (2, _), (3, _)]) C dX12_order448_124 rfl (nI_inc _) (by decide) rfl ?_
          refine rn_goto (tgt := 67) C dX12_order448_127 (by decide) ?_
          have he67 : mo448_l67 mo (S6.1, S6.2.1, S.2.2) 0 (i67 + 1) = ((if 0 ≤ ((((nI ((if (nI (i67)) ≠ (nI (27)) then 0 else 16384))) - ((mo448_l67 mo (S6.1, S6.2.1, S.2.2) 0 i67).2 (mo + 7) (672 + i67))) - (nI ((mo448_l67 mo (S6.1, S6.2.1, S.2.2) 0 i67).1)))) then 0 else 1), va_up (mo448_l67 mo (S6.1, S6.2.1, S.2.2) 0 i67).2 (mo + 7) (upd ((mo448_l67 mo (S6.1, S6.2.1, S.2.2) 0 i67).2 (mo + 7)) (640 + i67) (((((nI ((if (nI (i67)) ≠ (nI (27)) then 0 else 16384))) - ((mo448_l67 mo (S6.1, S6.2.1, S.2.2) 0 i67).2 (mo + 7) (672 + i67))) - (nI ((mo448_l67 mo (S6.1, S6.2.1, S.2.2) 0 i67).1)))) &&& (65535)))) := by
            first | (dsimp only [mo448_l67]; done) | (dsimp only [mo448_l67]; exact rfl) | exact rfl
          rw [he67] at ih67
          exact rn_ks [0, 1, 2] ih67 rfl
        refine rn_if_ge (tgt := 108) C dX12_order448_101 (by decide) (fun hb9 => ?_) (fun hb9 => ?_)
        · skip
          refine rn_iconst (v := nI 0) C dX12_order448_108 rfl ?_
          rw [if_pos hb9] at K101_9
          exact K101_9
        · skip
          refine rn_iconst (v := nI 1) C dX12_order448_104 rfl ?_
          refine rn_goto (tgt := 109) C dX12_order448_105 (by decide) ?_
          rw [if_neg hb9] at K101_9
          exact K101_9
      refine rn_icmp_ne (tgt := 85) C dX12_order448_76 (by decide) (fun hb7 => ?_) (fun hb7 => ?_)
      · skip
        refine rn_iconst (v := nI 0) C dX12_order448_85 rfl ?_
        rw [if_pos hb7] at K76_7
        exact K76_7
      · skip
        refine rn_sipush (v := nI 16384) C dX12_order448_79 rfl ?_
        refine rn_goto (tgt := 86) C dX12_order448_82 (by decide) ?_
        rw [if_neg (fun q => q hb7)] at K76_7
        exact K76_7
  exact lp67 0 (Nat.zero_le _)
def mrtB_l121 (mo : Nat) (S : StT) (z3 : Int64) : Nat → Int64
  | 0 => z3
  | i121 + 1 => let y121_0 := (mrtB_l121 mo S z3 i121); (let v2 := (y121_0 <<< ((nI (16)).toInt64 &&& 63)) ||| ((S.1 (mo + 7) (672 + (4 - 1 - i121))).toInt64); v2)
def mrtB_l9 (mo : Nat) (e : Nat) (p : Int32) (S : StT)  : Nat → (Nat → Nat → Int32) × (Nat → Nat → Int64)
  | 0 => (S.1, S.2.1)
  | i9 + 1 => let y9_0 := (mrtB_l9 mo e p S i9).1; let y9_1 := (mrtB_l9 mo e p S i9).2; (let I3 := va_up y9_0 (mo + 7) (upd (y9_0 (mo + 7)) (672 + ((70 - 1 - i9) / 2 ^ 4)) ((y9_0 (mo + 7) (672 + ((70 - 1 - i9) / 2 ^ 4))) + ((nI (1)) <<< ((nI ((70 - 1 - i9) % 2 ^ 4)) &&& 31)))); (let S4 := mt28_f (mo) (22) (21) (21) (I3, y9_1, S.2.2); (if (nI (e)) ≠ (nI (3)) then (let S6 := zero28_f (mo) (23) (S4.1, S4.2.1, S.2.2); (let r7 := (atLeast_f (mo) (23) (22) (va_up S6.1 (mo + 7) (upd (S6.1 (mo + 7)) (736 + (4 * e)) (p)), S6.2.1, S.2.2)).1; (if (r7) ≠ 0 then (va_up S6.1 (mo + 7) (upd (S6.1 (mo + 7)) (736 + (4 * e)) (p)), S6.2.1) else (let I9 := va_up (va_up S6.1 (mo + 7) (upd (S6.1 (mo + 7)) (736 + (4 * e)) (p))) (mo + 7) (upd ((va_up S6.1 (mo + 7) (upd (S6.1 (mo + 7)) (736 + (4 * e)) (p))) (mo + 7)) (672 + ((70 - 1 - i9) / 2 ^ 4)) (((va_up S6.1 (mo + 7) (upd (S6.1 (mo + 7)) (736 + (4 * e)) (p))) (mo + 7) (672 + ((70 - 1 - i9) / 2 ^ 4))) - ((nI (1)) <<< ((nI ((70 - 1 - i9) % 2 ^ 4)) &&& 31)))); (I9, S6.2.1))))) else (let S10 := mt28_f (mo) (22) (22) (21) (S4.1, S4.2.1, S.2.2); (let S11 := zero28_f (mo) (23) (S10.1, S10.2.1, S.2.2); (let r12 := (atLeast_f (mo) (23) (22) (va_up S11.1 (mo + 7) (upd (S11.1 (mo + 7)) (736 + (4 * e)) (p)), S11.2.1, S.2.2)).1; (if (r12) ≠ 0 then (va_up S11.1 (mo + 7) (upd (S11.1 (mo + 7)) (736 + (4 * e)) (p)), S11.2.1) else (let I14 := va_up (va_up S11.1 (mo + 7) (upd (S11.1 (mo + 7)) (736 + (4 * e)) (p))) (mo + 7) (upd ((va_up S11.1 (mo + 7) (upd (S11.1 (mo + 7)) (736 + (4 * e)) (p))) (mo + 7)) (672 + ((70 - 1 - i9) / 2 ^ 4)) (((va_up S11.1 (mo + 7) (upd (S11.1 (mo + 7)) (736 + (4 * e)) (p))) (mo + 7) (672 + ((70 - 1 - i9) / 2 ^ 4))) - ((nI (1)) <<< ((nI ((70 - 1 - i9) % 2 ^ 4)) &&& 31)))); (I14, S11.2.1)))))))))
def mrtB_f (mo : Nat) (e : Nat) (p : Int32) (S : StT) : Int64 × StT := (let S1 := zero28_f (mo) (21) S; ((mrtB_l121 mo ((mrtB_l9 mo e p (S1.1, S1.2.1, S.2.2) 70).1, (mrtB_l9 mo e p (S1.1, S1.2.1, S.2.2) 70).2, S.2.2) 0 4), ((mrtB_l9 mo e p (S1.1, S1.2.1, S.2.2) 70).1, (mrtB_l9 mo e p (S1.1, S1.2.1, S.2.2) 70).2, S.2.2)))
theorem mrtB_F (mo : Nat) (e : Nat) (p : Int32) (S : StT) : (mrtB_f mo e p S).2.2.2 = S.2.2 := by
  unfold mrtB_f; first | rfl | ((repeat' split) <;> rfl) | (dsimp only; (repeat' split) <;> rfl)
set_option maxRecDepth 100000 in
set_option maxHeartbeats 4000000 in
theorem c_mrtB {k : KX} {L : Nat → Option Sh} {S : StT} {n : Nat} {mo : Nat} {e : Nat} {p : Int32} (hM : ModelAt k L mo) (he1 : 2 ≤ e) (he : e ≤ 3) :
    Cs k yX12_rootBits cX12_rootBits 6 (some .long) 2 0 0 [.ref (k_b k + (mo)), .int (p), .int (nI (e))] (inst k L S.1 S.2.1 S.2.2) n (Pl k L n (mrtB_f mo e p S)) := by
  refine cs_of (by decide) (Nat.le_of_ble_eq_true rfl) ?_
  intro X hXk C Rt hnm
  subst hXk
  have hM9 := hM
  obtain ⟨hM0, hm1, hm2, hm3, hm4, hm5, hm6, hm7, hm8, hm9, hm10, hm11, hm12, hm13, hm14, hm15, hm16, hm17, hm18, hm19, hm20, hm21, hm22, hm23, hm24, hm25, hm26, hm27⟩ := hM9
  refine rn_lv [(0, .ref (k_b X.1 + (mo))), (1, .int (p)), (2, .int (nI (e)))] (fun q h => h) ?_
  refine rn_aload_n C dX12_rootBits_0 rfl ?_
  refine rn_bipush (v := nI 21) C dX12_rootBits_1 rfl ?_
  refine rs_vv C dX12_rootBits_3 mk_X12_zero28 lv_X12_168 (c_zero28 hM (by omega)) hM0 rfl rfl rfl rfl (by decide) (Nat.le_of_ble_eq_true rfl) (by decide) (by decide) ?_
  rw [show (zero28_f (mo) (21) S).2.2 = S.2.2 from (zero28_F (mo) (21) S)]
  generalize hS1 : zero28_f (mo) (21) S = S1
  refine rn_bipush (v := nI 69) C dX12_rootBits_6 rfl ?_
  refine rn_istore_n (lv' := [(0, _), (1, _), (2, _), (3, _)]) C dX12_rootBits_8 (by decide) rfl ?_
  have lp9 : ∀ i9, i9 ≤ 70 → Rn X 9 [(0, .ref (k_b X.1 + (mo))), (1, .int (p)), (2, .int (nI (e))), (3, .int (dn (70 - i9)))] [] (inst X.1 L (mrtB_l9 mo e p (S1.1, S1.2.1, S.2.2) i9).1 (mrtB_l9 mo e p (S1.1, S1.2.1, S.2.2) i9).2 S.2.2) n 0 0 := by
    refine upto _ _ ?_ (fun i9 hi9 ih9 => ?_)
    · skip
      rw [dn_end]
      refine rn_iload_n C dX12_rootBits_9 rfl ?_
      refine rn_if_lt (tgt := 116) C dX12_rootBits_10 (by decide) (fun _ => ?_) (fun q => absurd (by decide) q)
      refine rn_lconst (v := 0) C dX12_rootBits_116 rfl ?_
      refine rn_lstore_n (lv' := [(0, _), (1, _), (2, _), (3, _)]) C dX12_rootBits_117 (by decide) rfl ?_
      refine rn_iconst (v := nI 3) C dX12_rootBits_118 rfl ?_
      refine rn_istore (lv' := [(0, _), (1, _), (2, _), (3, _), (5, _)]) C dX12_rootBits_119 (by decide) rfl ?_
      have lp121 : ∀ i121, i121 ≤ 4 → Rn X 121 [(0, .ref (k_b X.1 + (mo))), (1, .int (p)), (2, .int (nI (e))), (3, .long ((mrtB_l121 mo ((mrtB_l9 mo e p (S1.1, S1.2.1, S.2.2) 70).1, (mrtB_l9 mo e p (S1.1, S1.2.1, S.2.2) 70).2, S.2.2) 0 i121))), (5, .int (dn (4 - i121)))] [] (inst X.1 L (mrtB_l9 mo e p (S1.1, S1.2.1, S.2.2) 70).1 (mrtB_l9 mo e p (S1.1, S1.2.1, S.2.2) 70).2 S.2.2) n 0 0 := by
        refine upto _ _ ?_ (fun i121 hi121 ih121 => ?_)
        · skip
          rw [dn_end]
          refine rn_iload C dX12_rootBits_121 rfl ?_
          refine rn_if_lt (tgt := 150) C dX12_rootBits_123 (by decide) (fun _ => ?_) (fun q => absurd (by decide) q)
          refine rn_lload_n C dX12_rootBits_150 rfl ?_
          have hret : mrtB_f mo e p S = ((mrtB_l121 mo ((mrtB_l9 mo e p (S1.1, S1.2.1, S.2.2) 70).1, (mrtB_l9 mo e p (S1.1, S1.2.1, S.2.2) 70).2, S.2.2) 0 4), ((mrtB_l9 mo e p (S1.1, S1.2.1, S.2.2) 70).1, (mrtB_l9 mo e p (S1.1, S1.2.1, S.2.2) 70).2, S.2.2)) := by
            subst hS1
            first | (dsimp only [mrtB_f]; done) | (dsimp only [mrtB_f]; exact rfl) | exact rfl
          exact rn_lret C Rt dX12_rootBits_151 (pl_of hret) (Nat.zero_le _) (Nat.zero_le _)
        · skip
          rw [dn_at hi121]
          refine rn_iload C dX12_rootBits_121 rfl ?_
          refine rs_lt0 (tgt := 150) C dX12_rootBits_123 (by decide) rfl (by omega) ?_
          refine rn_lload_n C dX12_rootBits_126 rfl ?_
          refine rn_bipush (v := nI 16) C dX12_rootBits_127 rfl ?_
          refine rn_lshl C dX12_rootBits_129 rfl ?_
          refine rn_aload_n C dX12_rootBits_130 rfl ?_
          refine rs_get C dX12_rootBits_131 fl_X12_41 hM0 rfl ?_
          refine rn_sipush (v := nI 672) C dX12_rootBits_134 rfl ?_
          refine rn_iload C dX12_rootBits_137 rfl ?_
          refine rn_iadd C dX12_rootBits_139 (nI_add _ _) ?_
          refine rs_iaload C dX12_rootBits_140 hm7 rfl (by omega) (by decide) ?_
          refine rn_i2l C dX12_rootBits_141 rfl ?_
          refine rn_lor C dX12_rootBits_142 rfl ?_
          refine rn_lstore_n (lv' := [(0, _), (1, _), (2, _), (3, _), (5, _)]) C dX12_rootBits_143 (by decide) rfl ?_
          refine rn_iinc (lv' := [(0, _), (1, _), (2, _), (3, _), (5, _)]) C dX12_rootBits_144 rfl (dn_dec hi121) (by decide) rfl ?_
          refine rn_goto (tgt := 121) C dX12_rootBits_147 (by decide) ?_
          have he121 : mrtB_l121 mo ((mrtB_l9 mo e p (S1.1, S1.2.1, S.2.2) 70).1, (mrtB_l9 mo e p (S1.1, S1.2.1, S.2.2) 70).2, S.2.2) 0 (i121 + 1) = (((mrtB_l121 mo ((mrtB_l9 mo e p (S1.1, S1.2.1, S.2.2) 70).1, (mrtB_l9 mo e p (S1.1, S1.2.1, S.2.2) 70).2, S.2.2) 0 i121) <<< ((nI (16)).toInt64 &&& 63)) ||| ((((mrtB_l9 mo e p (S1.1, S1.2.1, S.2.2) 70).1, (mrtB_l9 mo e p (S1.1, S1.2.1, S.2.2) 70).2, S.2.2).1 (mo + 7) (672 + (4 - 1 - i121))).toInt64)) := by
            first | (dsimp only [mrtB_l121]; done) | (dsimp only [mrtB_l121]; exact rfl) | exact rfl
          rw [he121] at ih121
          exact rn_ks [0, 1, 2, 3, 5] ih121 rfl
      exact lp121 0 (Nat.zero_le _)
    · skip
      rw [dn_at hi9]
      refine rn_iload_n C dX12_rootBits_9 rfl ?_
      refine rs_lt0 (tgt := 116) C dX12_rootBits_10 (by decide) rfl (by omega) ?_
      refine rn_aload_n C dX12_rootBits_13 rfl ?_
      refine rs_get C dX12_rootBits_14 fl_X12_41 hM0 rfl ?_
      refine rn_sipush (v := nI 672) C dX12_rootBits_17 rfl ?_
      refine rn_iload_n C dX12_rootBits_20 rfl ?_
      refine rn_iconst (v := nI 4) C dX12_rootBits_21 rfl ?_
      refine rn_ishr C dX12_rootBits_22 (pk_shrN (by omega) _ 4 (by decide)) ?_
      refine rn_iadd C dX12_rootBits_23 (nI_add _ _) ?_
      refine rn_dup2 C dX12_rootBits_24 rfl rfl ?_
      refine rs_iaload C dX12_rootBits_25 hm7 rfl (by omega) (by decide) ?_
      refine rn_iconst (v := nI 1) C dX12_rootBits_26 rfl ?_
      refine rn_iload_n C dX12_rootBits_27 rfl ?_
      refine rn_bipush (v := nI 15) C dX12_rootBits_28 rfl ?_
      refine rn_iand C dX12_rootBits_30 (pk_andN (by omega) 4 (by decide)) ?_
      refine rn_ishl C dX12_rootBits_31 rfl ?_
      refine rn_iadd C dX12_rootBits_32 rfl ?_
      refine rs_iastore C dX12_rootBits_33 hm7 rfl (by omega) (by decide) ?_
      refine rn_aload_n C dX12_rootBits_34 rfl ?_
      refine rn_bipush (v := nI 22) C dX12_rootBits_35 rfl ?_
      refine rn_bipush (v := nI 21) C dX12_rootBits_37 rfl ?_
      refine rn_bipush (v := nI 21) C dX12_rootBits_39 rfl ?_
      refine rs_vv C dX12_rootBits_41 mk_X12_times28 lv_X12_247 (c_mt28 (S := ((va_up (mrtB_l9 mo e p (S1.1, S1.2.1, S.2.2) i9).1 (mo + 7) (upd ((mrtB_l9 mo e p (S1.1, S1.2.1, S.2.2) i9).1 (mo + 7)) (672 + ((70 - 1 - i9) / 2 ^ 4)) (((mrtB_l9 mo e p (S1.1, S1.2.1, S.2.2) i9).1 (mo + 7) (672 + ((70 - 1 - i9) / 2 ^ 4))) + ((nI (1)) <<< ((nI ((70 - 1 - i9) % 2 ^ 4)) &&& 31))))), (mrtB_l9 mo e p (S1.1, S1.2.1, S.2.2) i9).2, S.2.2)) hM (by omega) (by omega) (by omega)) hM0 rfl rfl rfl rfl (by decide) (Nat.le_of_ble_eq_true rfl) (by decide) (by decide) ?_
      rw [show (mt28_f (mo) (22) (21) (21) ((va_up (mrtB_l9 mo e p (S1.1, S1.2.1, S.2.2) i9).1 (mo + 7) (upd ((mrtB_l9 mo e p (S1.1, S1.2.1, S.2.2) i9).1 (mo + 7)) (672 + ((70 - 1 - i9) / 2 ^ 4)) (((mrtB_l9 mo e p (S1.1, S1.2.1, S.2.2) i9).1 (mo + 7) (672 + ((70 - 1 - i9) / 2 ^ 4))) + ((nI (1)) <<< ((nI ((70 - 1 - i9) % 2 ^ 4)) &&& 31))))), (mrtB_l9 mo e p (S1.1, S1.2.1, S.2.2) i9).2, S.2.2)).2.2 = S.2.2 from (mt28_F (mo) (22) (21) (21) ((va_up (mrtB_l9 mo e p (S1.1, S1.2.1, S.2.2) i9).1 (mo + 7) (upd ((mrtB_l9 mo e p (S1.1, S1.2.1, S.2.2) i9).1 (mo + 7)) (672 + ((70 - 1 - i9) / 2 ^ 4)) (((mrtB_l9 mo e p (S1.1, S1.2.1, S.2.2) i9).1 (mo + 7) (672 + ((70 - 1 - i9) / 2 ^ 4))) + ((nI (1)) <<< ((nI ((70 - 1 - i9) % 2 ^ 4)) &&& 31))))), (mrtB_l9 mo e p (S1.1, S1.2.1, S.2.2) i9).2, S.2.2))]
      generalize hS4 : mt28_f (mo) (22) (21) (21) ((va_up (mrtB_l9 mo e p (S1.1, S1.2.1, S.2.2) i9).1 (mo + 7) (upd ((mrtB_l9 mo e p (S1.1, S1.2.1, S.2.2) i9).1 (mo + 7)) (672 + ((70 - 1 - i9) / 2 ^ 4)) (((mrtB_l9 mo e p (S1.1, S1.2.1, S.2.2) i9).1 (mo + 7) (672 + ((70 - 1 - i9) / 2 ^ 4))) + ((nI (1)) <<< ((nI ((70 - 1 - i9) % 2 ^ 4)) &&& 31))))), (mrtB_l9 mo e p (S1.1, S1.2.1, S.2.2) i9).2, S.2.2) = S4
      refine rn_iload_n C dX12_rootBits_44 rfl ?_
      refine rn_iconst (v := nI 3) C dX12_rootBits_45 rfl ?_
      refine rn_icmp_ne (tgt := 59) C dX12_rootBits_46 (by decide) (fun hb5 => ?_) (fun hb5 => ?_)
      · skip
        refine rn_aload_n C dX12_rootBits_59 rfl ?_
        refine rn_bipush (v := nI 23) C dX12_rootBits_60 rfl ?_
        refine rs_vv C dX12_rootBits_62 mk_X12_zero28 lv_X12_168 (c_zero28 (S := (S4.1, S4.2.1, S.2.2)) hM (by omega)) hM0 rfl rfl rfl rfl (by decide) (Nat.le_of_ble_eq_true rfl) (by decide) (by decide) ?_
        rw [show (zero28_f (mo) (23) (S4.1, S4.2.1, S.2.2)).2.2 = S.2.2 from (zero28_F (mo) (23) (S4.1, S4.2.1, S.2.2))]
        generalize hS6 : zero28_f (mo) (23) (S4.1, S4.2.1, S.2.2) = S6
        refine rn_aload_n C dX12_rootBits_65 rfl ?_
        refine rs_get C dX12_rootBits_66 fl_X12_41 hM0 rfl ?_
        refine rn_sipush (v := nI 736) C dX12_rootBits_69 rfl ?_
        refine rn_iconst (v := nI 4) C dX12_rootBits_72 rfl ?_
        refine rn_iload_n C dX12_rootBits_73 rfl ?_
        refine rn_imul C dX12_rootBits_74 (pk_mul _ _) ?_
        refine rn_iadd C dX12_rootBits_75 (nI_add _ _) ?_
        refine rn_iload_n C dX12_rootBits_76 rfl ?_
        refine rs_iastore C dX12_rootBits_77 hm7 rfl (by omega) (by decide) ?_
        refine rn_aload_n C dX12_rootBits_78 rfl ?_
        refine rn_bipush (v := nI 23) C dX12_rootBits_79 rfl ?_
        refine rn_bipush (v := nI 22) C dX12_rootBits_81 rfl ?_
        refine rs_vz C dX12_rootBits_83 mk_X12_atLeast lv_X12_183 (cp_atLeast (S := (va_up S6.1 (mo + 7) (upd (S6.1 (mo + 7)) (736 + (4 * e)) (p)), S6.2.1, S.2.2)) hM (by omega) (by omega)) hM0 rfl rfl rfl rfl (by decide) (Nat.le_of_ble_eq_true rfl) (by decide) (by decide) ?_
        refine rn_if_ne (tgt := 110) C dX12_rootBits_86 (by decide) (fun hb8 => ?_) (fun hb8 => ?_)
        · skip
          refine rn_iinc (lv' := [(0, _), (1, _), (2, _), (3, _)]) C dX12_rootBits_110 rfl (dn_dec hi9) (by decide) rfl ?_
          refine rn_goto (tgt := 9) C dX12_rootBits_113 (by decide) ?_
          have he9 : mrtB_l9 mo e p (S1.1, S1.2.1, S.2.2) (i9 + 1) = (va_up S6.1 (mo + 7) (upd (S6.1 (mo + 7)) (736 + (4 * e)) (p)), S6.2.1) := by
            subst hS6
            subst hS4
            first | (dsimp only [mrtB_l9]; done) | (dsimp only [mrtB_l9]; exact ((if_pos hb5).trans (if_pos hb8))) | exact ((if_pos hb5).trans (if_pos hb8))
          rw [he9] at ih9
          exact rn_ks [0, 1, 2, 3] ih9 rfl
        · skip
          refine rn_aload_n C dX12_rootBits_89 rfl ?_
          refine rs_get C dX12_rootBits_90 fl_X12_41 hM0 rfl ?_
          refine rn_sipush (v := nI 672) C dX12_rootBits_93 rfl ?_
          refine rn_iload_n C dX12_rootBits_96 rfl ?_
          refine rn_iconst (v := nI 4) C dX12_rootBits_97 rfl ?_
          refine rn_ishr C dX12_rootBits_98 (pk_shrN (by omega) _ 4 (by decide)) ?_
          refine rn_iadd C dX12_rootBits_99 (nI_add _ _) ?_
          refine rn_dup2 C dX12_rootBits_100 rfl rfl ?_
          refine rs_iaload C dX12_rootBits_101 hm7 rfl (by omega) (by decide) ?_
          refine rn_iconst (v := nI 1) C dX12_rootBits_102 rfl ?_
          refine rn_iload_n C dX12_rootBits_103 rfl ?_
          refine rn_bipush (v := nI 15) C dX12_rootBits_104 rfl ?_
          refine rn_iand C dX12_rootBits_106 (pk_andN (by omega) 4 (by decide)) ?_
          refine rn_ishl C dX12_rootBits_107 rfl ?_
          refine rn_isub C dX12_rootBits_108 rfl ?_
          refine rs_iastore C dX12_rootBits_109 hm7 rfl (by omega) (by decide) ?_
          refine rn_iinc (lv' := [(0, _), (1, _), (2, _), (3, _)]) C dX12_rootBits_110 rfl (dn_dec hi9) (by decide) rfl ?_
          refine rn_goto (tgt := 9) C dX12_rootBits_113 (by decide) ?_
          have he9 : mrtB_l9 mo e p (S1.1, S1.2.1, S.2.2) (i9 + 1) = ((va_up (va_up S6.1 (mo + 7) (upd (S6.1 (mo + 7)) (736 + (4 * e)) (p))) (mo + 7) (upd ((va_up S6.1 (mo + 7) (upd (S6.1 (mo + 7)) (736 + (4 * e)) (p))) (mo + 7)) (672 + ((70 - 1 - i9) / 2 ^ 4)) (((va_up S6.1 (mo + 7) (upd (S6.1 (mo + 7)) (736 + (4 * e)) (p))) (mo + 7) (672 + ((70 - 1 - i9) / 2 ^ 4))) - ((nI (1)) <<< ((nI ((70 - 1 - i9) % 2 ^ 4)) &&& 31))))), S6.2.1) := by
            subst hS6
            subst hS4
            first | (dsimp only [mrtB_l9]; done) | (dsimp only [mrtB_l9]; exact ((if_pos hb5).trans (if_neg (fun q => q hb8)))) | exact ((if_pos hb5).trans (if_neg (fun q => q hb8)))
          rw [he9] at ih9
          exact rn_ks [0, 1, 2, 3] ih9 rfl
      · skip
        refine rn_aload_n C dX12_rootBits_49 rfl ?_
        refine rn_bipush (v := nI 22) C dX12_rootBits_50 rfl ?_
        refine rn_bipush (v := nI 22) C dX12_rootBits_52 rfl ?_
        refine rn_bipush (v := nI 21) C dX12_rootBits_54 rfl ?_
        refine rs_vv C dX12_rootBits_56 mk_X12_times28 lv_X12_247 (c_mt28 (S := (S4.1, S4.2.1, S.2.2)) hM (by omega) (by omega) (by omega)) hM0 rfl rfl rfl rfl (by decide) (Nat.le_of_ble_eq_true rfl) (by decide) (by decide) ?_
        rw [show (mt28_f (mo) (22) (22) (21) (S4.1, S4.2.1, S.2.2)).2.2 = S.2.2 from (mt28_F (mo) (22) (22) (21) (S4.1, S4.2.1, S.2.2))]
        generalize hS10 : mt28_f (mo) (22) (22) (21) (S4.1, S4.2.1, S.2.2) = S10
        refine rn_aload_n C dX12_rootBits_59 rfl ?_
        refine rn_bipush (v := nI 23) C dX12_rootBits_60 rfl ?_
        refine rs_vv C dX12_rootBits_62 mk_X12_zero28 lv_X12_168 (c_zero28 (S := (S10.1, S10.2.1, S.2.2)) hM (by omega)) hM0 rfl rfl rfl rfl (by decide) (Nat.le_of_ble_eq_true rfl) (by decide) (by decide) ?_
        rw [show (zero28_f (mo) (23) (S10.1, S10.2.1, S.2.2)).2.2 = S.2.2 from (zero28_F (mo) (23) (S10.1, S10.2.1, S.2.2))]
        generalize hS11 : zero28_f (mo) (23) (S10.1, S10.2.1, S.2.2) = S11
        refine rn_aload_n C dX12_rootBits_65 rfl ?_
        refine rs_get C dX12_rootBits_66 fl_X12_41 hM0 rfl ?_
        refine rn_sipush (v := nI 736) C dX12_rootBits_69 rfl ?_
        refine rn_iconst (v := nI 4) C dX12_rootBits_72 rfl ?_
        refine rn_iload_n C dX12_rootBits_73 rfl ?_
        refine rn_imul C dX12_rootBits_74 (pk_mul _ _) ?_
        refine rn_iadd C dX12_rootBits_75 (nI_add _ _) ?_
        refine rn_iload_n C dX12_rootBits_76 rfl ?_
        refine rs_iastore C dX12_rootBits_77 hm7 rfl (by omega) (by decide) ?_
        refine rn_aload_n C dX12_rootBits_78 rfl ?_
        refine rn_bipush (v := nI 23) C dX12_rootBits_79 rfl ?_
        refine rn_bipush (v := nI 22) C dX12_rootBits_81 rfl ?_
        refine rs_vz C dX12_rootBits_83 mk_X12_atLeast lv_X12_183 (cp_atLeast (S := (va_up S11.1 (mo + 7) (upd (S11.1 (mo + 7)) (736 + (4 * e)) (p)), S11.2.1, S.2.2)) hM (by omega) (by omega)) hM0 rfl rfl rfl rfl (by decide) (Nat.le_of_ble_eq_true rfl) (by decide) (by decide) ?_
        refine rn_if_ne (tgt := 110) C dX12_rootBits_86 (by decide) (fun hb13 => ?_) (fun hb13 => ?_)
        · skip
          refine rn_iinc (lv' := [(0, _), (1, _), (2, _), (3, _)]) C dX12_rootBits_110 rfl (dn_dec hi9) (by decide) rfl ?_
          refine rn_goto (tgt := 9) C dX12_rootBits_113 (by decide) ?_
          have he9 : mrtB_l9 mo e p (S1.1, S1.2.1, S.2.2) (i9 + 1) = (va_up S11.1 (mo + 7) (upd (S11.1 (mo + 7)) (736 + (4 * e)) (p)), S11.2.1) := by
            subst hS11
            subst hS10
            subst hS4
            first | (dsimp only [mrtB_l9]; done) | (dsimp only [mrtB_l9]; exact ((if_neg (fun q => q hb5)).trans (if_pos hb13))) | exact ((if_neg (fun q => q hb5)).trans (if_pos hb13))
          rw [he9] at ih9
          exact rn_ks [0, 1, 2, 3] ih9 rfl
        · skip
          refine rn_aload_n C dX12_rootBits_89 rfl ?_
          refine rs_get C dX12_rootBits_90 fl_X12_41 hM0 rfl ?_
          refine rn_sipush (v := nI 672) C dX12_rootBits_93 rfl ?_
          refine rn_iload_n C dX12_rootBits_96 rfl ?_
          refine rn_iconst (v := nI 4) C dX12_rootBits_97 rfl ?_
          refine rn_ishr C dX12_rootBits_98 (pk_shrN (by omega) _ 4 (by decide)) ?_
          refine rn_iadd C dX12_rootBits_99 (nI_add _ _) ?_
          refine rn_dup2 C dX12_rootBits_100 rfl rfl ?_
          refine rs_iaload C dX12_rootBits_101 hm7 rfl (by omega) (by decide) ?_
          refine rn_iconst (v := nI 1) C dX12_rootBits_102 rfl ?_
          refine rn_iload_n C dX12_rootBits_103 rfl ?_
          refine rn_bipush (v := nI 15) C dX12_rootBits_104 rfl ?_
          refine rn_iand C dX12_rootBits_106 (pk_andN (by omega) 4 (by decide)) ?_
          refine rn_ishl C dX12_rootBits_107 rfl ?_
          refine rn_isub C dX12_rootBits_108 rfl ?_
          refine rs_iastore C dX12_rootBits_109 hm7 rfl (by omega) (by decide) ?_
          refine rn_iinc (lv' := [(0, _), (1, _), (2, _), (3, _)]) C dX12_rootBits_110 rfl (dn_dec hi9) (by decide) rfl ?_
          refine rn_goto (tgt := 9) C dX12_rootBits_113 (by decide) ?_
          have he9 : mrtB_l9 mo e p (S1.1, S1.2.1, S.2.2) (i9 + 1) = ((va_up (va_up S11.1 (mo + 7) (upd (S11.1 (mo + 7)) (736 + (4 * e)) (p))) (mo + 7) (upd ((va_up S11.1 (mo + 7) (upd (S11.1 (mo + 7)) (736 + (4 * e)) (p))) (mo + 7)) (672 + ((70 - 1 - i9) / 2 ^ 4)) (((va_up S11.1 (mo + 7) (upd (S11.1 (mo + 7)) (736 + (4 * e)) (p))) (mo + 7) (672 + ((70 - 1 - i9) / 2 ^ 4))) - ((nI (1)) <<< ((nI ((70 - 1 - i9) % 2 ^ 4)) &&& 31))))), S11.2.1) := by
            subst hS11
            subst hS10
            subst hS4
            first | (dsimp only [mrtB_l9]; done) | (dsimp only [mrtB_l9]; exact ((if_neg (fun q => q hb5)).trans (if_neg (fun q => q hb13)))) | exact ((if_neg (fun q => q hb5)).trans (if_neg (fun q => q hb13)))
          rw [he9] at ih9
          exact rn_ks [0, 1, 2, 3] ih9 rfl
  exact lp9 0 (Nat.zero_le _)
def mb448_f (c : Bool) (mo : Nat) (S : StT) : StT := (let S1 := zero28_f (mo) (17) S; (let S2 := mpiece_f (mo) (17) (0) ((-7491604544318539244)) (S1.1, S1.2.1, S.2.2); (let S3 := mpiece_f (mo) (17) (4) ((-162952930493216595)) (S2.1, S2.2.1, S.2.2); (let S4 := mpiece_f (mo) (17) (8) (4239012173876836804) (S3.1, S3.2.1, S.2.2); (let S5 := mpiece_f (mo) (17) (12) ((-8685020228626627881)) (S4.1, S4.2.1, S.2.2); (let S6 := mpiece_f (mo) (17) (16) (5470311636975982656) (S5.1, S5.2.1, S.2.2); (let S7 := mpiece_f (mo) (17) (20) ((-8613661815248140446)) (S6.1, S6.2.1, S.2.2); (let S8 := mpiece_f (mo) (17) (24) (7583857750517922852) (S7.1, S7.2.1, S.2.2); (let r9 := mroot_f c (mo) (16) (17) (S8.1, S8.2.1, S.2.2); (let S10 := mbase_f c (mo) (16) (nI (0)) (r9.2.1, r9.2.2.1, S.2.2); (S10.1, S10.2.1, S.2.2)))))))))))
theorem mb448_F (c : Bool) (mo : Nat) (S : StT) : (mb448_f c mo S).2.2 = S.2.2 := by
  unfold mb448_f; first | rfl | ((repeat' split) <;> rfl) | (dsimp only; (repeat' split) <;> rfl)
set_option maxRecDepth 100000 in
set_option maxHeartbeats 4000000 in
theorem c_mb448 {k : KX} {L : Nat → Option Sh} {S : StT} {n : Nat} {c : Bool} {mo : Nat} (hM : ModelAt k L mo) (hcn : S.2.2 mo 13 = nI (bN c)) (hpc : S.2.2 mo 14 = nI (pN c)) :
    Cs k yX12_base448 cX12_base448 1 none 6 0 0 [.ref (k_b k + (mo))] (inst k L S.1 S.2.1 S.2.2) n (Pv k L n (mb448_f c mo S)) := by
  refine cs_of (by decide) (Nat.le_of_ble_eq_true rfl) ?_
  intro X hXk C Rt hnm
  subst hXk
  have hM9 := hM
  obtain ⟨hM0, hm1, hm2, hm3, hm4, hm5, hm6, hm7, hm8, hm9, hm10, hm11, hm12, hm13, hm14, hm15, hm16, hm17, hm18, hm19, hm20, hm21, hm22, hm23, hm24, hm25, hm26, hm27⟩ := hM9
  obtain ⟨hp1, hp2⟩ := pN_le c
  have hbn := bN_le c
  refine rn_lv [(0, .ref (k_b X.1 + (mo)))] (fun q h => h) ?_
  refine rn_aload_n C dX12_base448_0 rfl ?_
  refine rn_bipush (v := nI 17) C dX12_base448_1 rfl ?_
  refine rs_vv C dX12_base448_3 mk_X12_zero28 lv_X12_168 (c_zero28 hM (by omega)) hM0 rfl rfl rfl rfl (by decide) (Nat.le_of_ble_eq_true rfl) (by decide) (by decide) ?_
  rw [show (zero28_f (mo) (17) S).2.2 = S.2.2 from (zero28_F (mo) (17) S)]
  generalize hS1 : zero28_f (mo) (17) S = S1
  refine rn_aload_n C dX12_base448_6 rfl ?_
  refine rn_bipush (v := nI 17) C dX12_base448_7 rfl ?_
  refine rn_iconst (v := nI 0) C dX12_base448_9 rfl ?_
  refine rn_ldc2 C dX12_base448_10 lc_X12_207 ?_
  refine rs_vv C dX12_base448_13 mk_X12_pieceLong lv_X12_122 (c_mpiece (S := (S1.1, S1.2.1, S.2.2)) hM (by omega) (by omega)) hM0 rfl rfl rfl rfl (by decide) (Nat.le_of_ble_eq_true rfl) (by decide) (by decide) ?_
  rw [show (mpiece_f (mo) (17) (0) ((-7491604544318539244)) (S1.1, S1.2.1, S.2.2)).2.2 = S.2.2 from (mpiece_F (mo) (17) (0) ((-7491604544318539244)) (S1.1, S1.2.1, S.2.2))]
  generalize hS2 : mpiece_f (mo) (17) (0) ((-7491604544318539244)) (S1.1, S1.2.1, S.2.2) = S2
  refine rn_aload_n C dX12_base448_16 rfl ?_
  refine rn_bipush (v := nI 17) C dX12_base448_17 rfl ?_
  refine rn_iconst (v := nI 4) C dX12_base448_19 rfl ?_
  refine rn_ldc2 C dX12_base448_20 lc_X12_209 ?_
  refine rs_vv C dX12_base448_23 mk_X12_pieceLong lv_X12_122 (c_mpiece (S := (S2.1, S2.2.1, S.2.2)) hM (by omega) (by omega)) hM0 rfl rfl rfl rfl (by decide) (Nat.le_of_ble_eq_true rfl) (by decide) (by decide) ?_
  rw [show (mpiece_f (mo) (17) (4) ((-162952930493216595)) (S2.1, S2.2.1, S.2.2)).2.2 = S.2.2 from (mpiece_F (mo) (17) (4) ((-162952930493216595)) (S2.1, S2.2.1, S.2.2))]
  generalize hS3 : mpiece_f (mo) (17) (4) ((-162952930493216595)) (S2.1, S2.2.1, S.2.2) = S3
  refine rn_aload_n C dX12_base448_26 rfl ?_
  refine rn_bipush (v := nI 17) C dX12_base448_27 rfl ?_
  refine rn_bipush (v := nI 8) C dX12_base448_29 rfl ?_
  refine rn_ldc2 C dX12_base448_31 lc_X12_211 ?_
  refine rs_vv C dX12_base448_34 mk_X12_pieceLong lv_X12_122 (c_mpiece (S := (S3.1, S3.2.1, S.2.2)) hM (by omega) (by omega)) hM0 rfl rfl rfl rfl (by decide) (Nat.le_of_ble_eq_true rfl) (by decide) (by decide) ?_
  rw [show (mpiece_f (mo) (17) (8) (4239012173876836804) (S3.1, S3.2.1, S.2.2)).2.2 = S.2.2 from (mpiece_F (mo) (17) (8) (4239012173876836804) (S3.1, S3.2.1, S.2.2))]
  generalize hS4 : mpiece_f (mo) (17) (8) (4239012173876836804) (S3.1, S3.2.1, S.2.2) = S4
  refine rn_aload_n C dX12_base448_37 rfl ?_
  refine rn_bipush (v := nI 17) C dX12_base448_38 rfl ?_
  refine rn_bipush (v := nI 12) C dX12_base448_40 rfl ?_
  refine rn_ldc2 C dX12_base448_42 lc_X12_213 ?_
  refine rs_vv C dX12_base448_45 mk_X12_pieceLong lv_X12_122 (c_mpiece (S := (S4.1, S4.2.1, S.2.2)) hM (by omega) (by omega)) hM0 rfl rfl rfl rfl (by decide) (Nat.le_of_ble_eq_true rfl) (by decide) (by decide) ?_
  rw [show (mpiece_f (mo) (17) (12) ((-8685020228626627881)) (S4.1, S4.2.1, S.2.2)).2.2 = S.2.2 from (mpiece_F (mo) (17) (12) ((-8685020228626627881)) (S4.1, S4.2.1, S.2.2))]
  generalize hS5 : mpiece_f (mo) (17) (12) ((-8685020228626627881)) (S4.1, S4.2.1, S.2.2) = S5
  refine rn_aload_n C dX12_base448_48 rfl ?_
  refine rn_bipush (v := nI 17) C dX12_base448_49 rfl ?_
  refine rn_bipush (v := nI 16) C dX12_base448_51 rfl ?_
  refine rn_ldc2 C dX12_base448_53 lc_X12_215 ?_
  refine rs_vv C dX12_base448_56 mk_X12_pieceLong lv_X12_122 (c_mpiece (S := (S5.1, S5.2.1, S.2.2)) hM (by omega) (by omega)) hM0 rfl rfl rfl rfl (by decide) (Nat.le_of_ble_eq_true rfl) (by decide) (by decide) ?_
  rw [show (mpiece_f (mo) (17) (16) (5470311636975982656) (S5.1, S5.2.1, S.2.2)).2.2 = S.2.2 from (mpiece_F (mo) (17) (16) (5470311636975982656) (S5.1, S5.2.1, S.2.2))]
  generalize hS6 : mpiece_f (mo) (17) (16) (5470311636975982656) (S5.1, S5.2.1, S.2.2) = S6
  refine rn_aload_n C dX12_base448_59 rfl ?_
  refine rn_bipush (v := nI 17) C dX12_base448_60 rfl ?_
  refine rn_bipush (v := nI 20) C dX12_base448_62 rfl ?_
  refine rn_ldc2 C dX12_base448_64 lc_X12_217 ?_
  refine rs_vv C dX12_base448_67 mk_X12_pieceLong lv_X12_122 (c_mpiece (S := (S6.1, S6.2.1, S.2.2)) hM (by omega) (by omega)) hM0 rfl rfl rfl rfl (by decide) (Nat.le_of_ble_eq_true rfl) (by decide) (by decide) ?_
  rw [show (mpiece_f (mo) (17) (20) ((-8613661815248140446)) (S6.1, S6.2.1, S.2.2)).2.2 = S.2.2 from (mpiece_F (mo) (17) (20) ((-8613661815248140446)) (S6.1, S6.2.1, S.2.2))]
  generalize hS7 : mpiece_f (mo) (17) (20) ((-8613661815248140446)) (S6.1, S6.2.1, S.2.2) = S7
  refine rn_aload_n C dX12_base448_70 rfl ?_
  refine rn_bipush (v := nI 17) C dX12_base448_71 rfl ?_
  refine rn_bipush (v := nI 24) C dX12_base448_73 rfl ?_
  refine rn_ldc2 C dX12_base448_75 lc_X12_219 ?_
  refine rs_vv C dX12_base448_78 mk_X12_pieceLong lv_X12_122 (c_mpiece (S := (S7.1, S7.2.1, S.2.2)) hM (by omega) (by omega)) hM0 rfl rfl rfl rfl (by decide) (Nat.le_of_ble_eq_true rfl) (by decide) (by decide) ?_
  rw [show (mpiece_f (mo) (17) (24) (7583857750517922852) (S7.1, S7.2.1, S.2.2)).2.2 = S.2.2 from (mpiece_F (mo) (17) (24) (7583857750517922852) (S7.1, S7.2.1, S.2.2))]
  generalize hS8 : mpiece_f (mo) (17) (24) (7583857750517922852) (S7.1, S7.2.1, S.2.2) = S8
  refine rn_aload_n C dX12_base448_81 rfl ?_
  refine rn_bipush (v := nI 16) C dX12_base448_82 rfl ?_
  refine rn_bipush (v := nI 17) C dX12_base448_84 rfl ?_
  refine rs_vz C dX12_base448_86 mk_X12_rootOf lv_X12_154 (c_mroot (S := (S8.1, S8.2.1, S.2.2)) hM (by omega) (by omega) hcn hpc) hM0 rfl rfl rfl rfl (by decide) (Nat.le_of_ble_eq_true rfl) (by decide) (by decide) ?_
  rw [show (mroot_f c (mo) (16) (17) (S8.1, S8.2.1, S.2.2)).2.2.2 = S.2.2 from (mroot_F c (mo) (16) (17) (S8.1, S8.2.1, S.2.2))]
  generalize hr9 : mroot_f c (mo) (16) (17) (S8.1, S8.2.1, S.2.2) = r9
  refine rn_pop C dX12_base448_89 rfl ?_
  refine rn_aload_n C dX12_base448_90 rfl ?_
  refine rn_bipush (v := nI 16) C dX12_base448_91 rfl ?_
  refine rn_iconst (v := nI 0) C dX12_base448_93 rfl ?_
  refine rs_vv C dX12_base448_94 mk_X12_baseOf lv_X12_158 (c_mbase (S := (r9.2.1, r9.2.2.1, S.2.2)) hM (by omega) hcn hpc) hM0 rfl rfl rfl rfl (by decide) (Nat.le_of_ble_eq_true rfl) (by decide) (by decide) ?_
  rw [show (mbase_f c (mo) (16) (nI (0)) (r9.2.1, r9.2.2.1, S.2.2)).2.2 = S.2.2 from (mbase_F c (mo) (16) (nI (0)) (r9.2.1, r9.2.2.1, S.2.2))]
  generalize hS10 : mbase_f c (mo) (16) (nI (0)) (r9.2.1, r9.2.2.1, S.2.2) = S10
  have hret : mb448_f c mo S = (S10.1, S10.2.1, S.2.2) := by
    subst hS10
    subst hr9
    subst hS8
    subst hS7
    subst hS6
    subst hS5
    subst hS4
    subst hS3
    subst hS2
    subst hS1
    first | (dsimp only [mb448_f]; done) | (dsimp only [mb448_f]; exact rfl) | exact rfl
  exact rn_vret C Rt dX12_base448_97 (pv_of hret) (Nat.zero_le _) (Nat.zero_le _)
