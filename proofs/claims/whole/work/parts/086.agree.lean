/-! CurveSuite$Agreement: further methods, by program (dc.py, spec_agree.py) -/
def abase_f (c : Bool) (ao : Nat) (fo : Nat) (S : StT) : StT := (let J2 := va_up (fill_f (ao + 2) (16) (0) S).2.1 (ao + 2) (vp_updL ((fill_f (ao + 2) (16) (0) S).2.1 (ao + 2)) (0) ((if (bI c) = 0 then 9 else 5))); ((fill_f (ao + 2) (16) (0) S).1, J2, (fill_f (ao + 2) (16) (0) S).2.2))
set_option maxRecDepth 100000 in
set_option maxHeartbeats 4000000 in
theorem c_abase {k : KX} {L : Nat → Option Sh} {S : StT} {n : Nat} {c : Bool} {ao : Nat} {fo : Nat} (hA : AgreeAt k L ao fo c) :
    Cs k yX0_startFromBase cX0_startFromBase 1 none 1 0 0 [.ref (k_b k + (ao))] (inst k L S.1 S.2.1 S.2.2) n (Pv k L n (abase_f c ao fo S)) := by
  refine cs_of (by decide) (Nat.le_of_ble_eq_true rfl) ?_
  intro X hXk C Rt hnm
  subst hXk
  have hA9 := hA
  obtain ⟨hA0, hF, ha1, ha2, ha3, ha4, ha5, ha6, ha7, ha8, ha9, ha10, ha11⟩ := hA9
  have hF9 := hF
  obtain ⟨hF0, -⟩ := hF9
  refine rn_lv [(0, .ref (k_b X.1 + (ao)))] (fun q h => h) ?_
  refine rn_aload_n C dX0_startFromBase_0 rfl ?_
  refine rs_get C dX0_startFromBase_1 fl_X0_17 hA0 rfl ?_
  refine rn_lconst (v := 0) C dX0_startFromBase_4 rfl ?_
  refine rs_sv C dX0_startFromBase_5 mk_J7_fill_d0a16 ls_X0_60 (c_fill ha2 (by decide)) rfl rfl (by decide) (Nat.le_of_ble_eq_true rfl) (by decide) (by decide) ?_
  refine rn_aload_n C dX0_startFromBase_8 rfl ?_
  refine rs_get C dX0_startFromBase_9 fl_X0_17 hA0 rfl ?_
  refine rn_iconst (v := nI 0) C dX0_startFromBase_12 rfl ?_
  refine rn_aload_n C dX0_startFromBase_13 rfl ?_
  refine rs_get C dX0_startFromBase_14 fl_X0_48 hA0 rfl ?_
  have K17_1 : Rn X 29 [(0, .ref (k_b X.1 + (ao)))] [.long ((if (bI c) = 0 then 9 else 5)), .int (nI (0)), .ref (k_b X.1 + (ao + 2))] (inst X.1 L (fill_f (ao + 2) (16) (0) S).1 (fill_f (ao + 2) (16) (0) S).2.1 (fill_f (ao + 2) (16) (0) S).2.2) n 0 0 := by
    refine rs_lastore C dX0_startFromBase_29 ha2 rfl (by omega) (by decide) ?_
    exact rn_vret C Rt dX0_startFromBase_30 (pv_of rfl) (Nat.zero_le _) (Nat.zero_le _)
  refine rn_if_eq (tgt := 26) C dX0_startFromBase_17 (by decide) (fun hb1 => ?_) (fun hb1 => ?_)
  · skip
    refine rn_ldc2 C dX0_startFromBase_26 lc_X0_68 ?_
    rw [if_pos hb1] at K17_1
    exact K17_1
  · skip
    refine rn_ldc2 C dX0_startFromBase_20 lc_X0_66 ?_
    refine rn_goto (tgt := 29) C dX0_startFromBase_23 (by decide) ?_
    rw [if_neg hb1] at K17_1
    exact K17_1
def aload_f (c : Bool) (ao : Nat) (fo : Nat) (sc : Nat) (S : StT) : StT := (if (bI c) = 0 then (let I2 := va_up (va_up S.1 (ao + 1) (va_cpy (S.1 (sc)) (S.1 (ao + 1)) (0) (0) (fB c))) (ao + 1) (upd ((va_up S.1 (ao + 1) (va_cpy (S.1 (sc)) (S.1 (ao + 1)) (0) (0) (fB c))) (ao + 1)) (0) (((va_up S.1 (ao + 1) (va_cpy (S.1 (sc)) (S.1 (ao + 1)) (0) (0) (fB c))) (ao + 1) (0)) &&& (nI (248)))); (let I3 := va_up I2 (ao + 1) (upd (I2 (ao + 1)) (31) (((I2 (ao + 1) (31)) &&& (nI (127))) ||| (nI (64)))); (I3, S.2.1, S.2.2))) else (let I4 := va_up (va_up S.1 (ao + 1) (va_cpy (S.1 (sc)) (S.1 (ao + 1)) (0) (0) (fB c))) (ao + 1) (upd ((va_up S.1 (ao + 1) (va_cpy (S.1 (sc)) (S.1 (ao + 1)) (0) (0) (fB c))) (ao + 1)) (0) (((va_up S.1 (ao + 1) (va_cpy (S.1 (sc)) (S.1 (ao + 1)) (0) (0) (fB c))) (ao + 1) (0)) &&& (nI (252)))); (va_up I4 (ao + 1) (upd (I4 (ao + 1)) (55) ((I4 (ao + 1) (55)) ||| (nI (128)))), S.2.1, S.2.2)))
set_option maxRecDepth 100000 in
set_option maxHeartbeats 4000000 in
theorem c_aload {k : KX} {L : Nat → Option Sh} {S : StT} {n : Nat} {c : Bool} {ao : Nat} {fo : Nat} {sc : Nat} (hA : AgreeAt k L ao fo c) (hsc : L sc = some (sI 57)) :
    Cs k yX0_loadScalar cX0_loadScalar 2 none 1 0 0 [.ref (k_b k + (ao)), .ref (k_b k + (sc))] (inst k L S.1 S.2.1 S.2.2) n (Pv k L n (aload_f c ao fo sc S)) := by
  refine cs_of (by decide) (Nat.le_of_ble_eq_true rfl) ?_
  intro X hXk C Rt hnm
  subst hXk
  have hA9 := hA
  obtain ⟨hA0, hF, ha1, ha2, ha3, ha4, ha5, ha6, ha7, ha8, ha9, ha10, ha11⟩ := hA9
  have hF9 := hF
  obtain ⟨hF0, -⟩ := hF9
  have hB1 : 32 ≤ fB c ∧ fB c ≤ 56 := by cases c <;> decide
  refine rn_lv [(0, .ref (k_b X.1 + (ao))), (1, .ref (k_b X.1 + (sc)))] (fun q h => h) ?_
  refine rn_aload_n C dX0_loadScalar_0 rfl ?_
  refine rn_iconst (v := nI 0) C dX0_loadScalar_1 rfl ?_
  refine rn_aload_n C dX0_loadScalar_2 rfl ?_
  refine rs_get C dX0_loadScalar_3 fl_X0_9 hA0 rfl ?_
  refine rn_iconst (v := nI 0) C dX0_loadScalar_6 rfl ?_
  refine rn_aload_n C dX0_loadScalar_7 rfl ?_
  refine rs_get C dX0_loadScalar_8 fl_X0_56 hA0 rfl ?_
  refine rs_copyI C dX0_loadScalar_11 lcp_X0_106 hsc ha1 rfl rfl rfl (by omega) (by omega) (by decide) (by decide) (by decide) (by decide) ?_
  refine rn_aload_n C dX0_loadScalar_14 rfl ?_
  refine rs_get C dX0_loadScalar_15 fl_X0_48 hA0 rfl ?_
  refine rn_if_eq (tgt := 49) C dX0_loadScalar_18 (by decide) (fun hb1 => ?_) (fun hb1 => ?_)
  · skip
    refine rn_aload_n C dX0_loadScalar_49 rfl ?_
    refine rs_get C dX0_loadScalar_50 fl_X0_9 hA0 rfl ?_
    refine rn_iconst (v := nI 0) C dX0_loadScalar_53 rfl ?_
    refine rn_dup2 C dX0_loadScalar_54 rfl rfl ?_
    refine rs_iaload C dX0_loadScalar_55 ha1 rfl (by omega) (by decide) ?_
    refine rn_sipush (v := nI 248) C dX0_loadScalar_56 rfl ?_
    refine rn_iand C dX0_loadScalar_59 rfl ?_
    refine rs_iastore C dX0_loadScalar_60 ha1 rfl (by omega) (by decide) ?_
    refine rn_aload_n C dX0_loadScalar_61 rfl ?_
    refine rs_get C dX0_loadScalar_62 fl_X0_9 hA0 rfl ?_
    refine rn_bipush (v := nI 31) C dX0_loadScalar_65 rfl ?_
    refine rn_aload_n C dX0_loadScalar_67 rfl ?_
    refine rs_get C dX0_loadScalar_68 fl_X0_9 hA0 rfl ?_
    refine rn_bipush (v := nI 31) C dX0_loadScalar_71 rfl ?_
    refine rs_iaload C dX0_loadScalar_73 ha1 rfl (by omega) (by decide) ?_
    refine rn_bipush (v := nI 127) C dX0_loadScalar_74 rfl ?_
    refine rn_iand C dX0_loadScalar_76 rfl ?_
    refine rn_bipush (v := nI 64) C dX0_loadScalar_77 rfl ?_
    refine rn_ior C dX0_loadScalar_79 rfl ?_
    refine rs_iastore C dX0_loadScalar_80 ha1 rfl (by omega) (by decide) ?_
    exact rn_vret C Rt dX0_loadScalar_81 (pv_of (if_pos hb1)) (Nat.zero_le _) (Nat.zero_le _)
  · skip
    refine rn_aload_n C dX0_loadScalar_21 rfl ?_
    refine rs_get C dX0_loadScalar_22 fl_X0_9 hA0 rfl ?_
    refine rn_iconst (v := nI 0) C dX0_loadScalar_25 rfl ?_
    refine rn_dup2 C dX0_loadScalar_26 rfl rfl ?_
    refine rs_iaload C dX0_loadScalar_27 ha1 rfl (by omega) (by decide) ?_
    refine rn_sipush (v := nI 252) C dX0_loadScalar_28 rfl ?_
    refine rn_iand C dX0_loadScalar_31 rfl ?_
    refine rs_iastore C dX0_loadScalar_32 ha1 rfl (by omega) (by decide) ?_
    refine rn_aload_n C dX0_loadScalar_33 rfl ?_
    refine rs_get C dX0_loadScalar_34 fl_X0_9 hA0 rfl ?_
    refine rn_bipush (v := nI 55) C dX0_loadScalar_37 rfl ?_
    refine rn_dup2 C dX0_loadScalar_39 rfl rfl ?_
    refine rs_iaload C dX0_loadScalar_40 ha1 rfl (by omega) (by decide) ?_
    refine rn_sipush (v := nI 128) C dX0_loadScalar_41 rfl ?_
    refine rn_ior C dX0_loadScalar_44 rfl ?_
    refine rs_iastore C dX0_loadScalar_45 ha1 rfl (by omega) (by decide) ?_
    refine rn_goto (tgt := 81) C dX0_loadScalar_46 (by decide) ?_
    exact rn_vret C Rt dX0_loadScalar_81 (pv_of (if_neg hb1)) (Nat.zero_le _) (Nat.zero_le _)
