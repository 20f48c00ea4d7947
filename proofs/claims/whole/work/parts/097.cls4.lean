/-! CurveSuite$Signer, by program (dc.py, spec_cls4.py) -/
theorem rn_ldcS {X : CX} {cc : ByteArray} {nL : Nat} {own tx : String} {h mc ms pc : Nat} {lv : List (Nat × Value)} {rest : List Value} {P : PT} {n ce sl idx a : Nat} (C : OkX X cc nL own h mc ms) (hd : decode cc pc = .ok (.ldc idx, 2)) (hZ : vk_R own idx tx a (x_s X)) (k : Rn X (pc + 2) lv (.ref a :: rest) P n ce sl) : Rn X pc lv rest P n ce sl :=
  fun H ls locs hH hl ho => va_ldcS C.1 C.2.1 C.2.2.2.2.1 hZ hd (k H ls locs hH hl ho)
def lb4 (j : Nat) : Nat := ([83, 105, 103, 69, 100, 52, 52, 56] : List Nat).getD j 0
def lb2 (j : Nat) : Nat := ([83, 105, 103, 69, 100, 50, 53, 53, 49, 57, 32, 110, 111, 32, 69, 100, 50, 53, 53, 49, 57, 32, 99, 111, 108, 108, 105, 115, 105, 111, 110, 115] : List Nat).getD j 0
theorem cisN_z (c : Bool) (co fo p : Nat) (S : StT) : narrow .boolean (.int (cisN_f c co fo p S).1) = .int (cisN_f c co fo p S).1 := by
  unfold cisN_f
  (repeat' split) <;> first | exact nz0 | exact nz1
theorem cdec_sF (c : Bool) (co fo to nb : Nat) (S3 : StT) (v4 : Nat) : ∀ (f i : Nat) (S : StT), (cdec_s48 c co fo to nb S3 v4 S f i).2.2.2 = S.2.2 := by
  intro f
  induction f with
  | zero =>
    intro i S
    exact (ft_let (v := cfx_f c (co) fo  S) (f := fun r5 => (if (r5.1) = 0 then (nI (0), (S.1, r5.2.2.1, S.2.2)) else (if (nI (v4)) = 0 then (let r8 := fisOdd_f c (fo) (co + 8) (S.1, r5.2.2.1, S.2.2); (let S11 := (if (r8.1) = (nI (v4)) then (S.1, r8.2.2.1, S.2.2) else (let S10 := fneg_f c (co + 8) (co + 8) (S.1, r8.2.2.1, S.2.2); (S.1, S10.2.1, S.2.2))); (let S12 := fcopy_f c (to + 1) (co + 8) (S.1, S11.2.1, S.2.2); (let S13 := fcopy_f c (to + 2) (co + 9) (S.1, S12.2.1, S.2.2); (let S14 := fcopy_f c (to + 3) (fo + 1) (S.1, S13.2.1, S.2.2); (nI (1), (S.1, S14.2.1, S.2.2))))))) else (let r15 := fisZero_f c (fo) (co + 8) (S.1, r5.2.2.1, S.2.2); (if (r15.1) = 0 then (let r17 := fisOdd_f c (fo) (co + 8) (S.1, r15.2.2.1, S.2.2); (let S20 := (if (r17.1) = (nI (v4)) then (S.1, r17.2.2.1, S.2.2) else (let S19 := fneg_f c (co + 8) (co + 8) (S.1, r17.2.2.1, S.2.2); (S.1, S19.2.1, S.2.2))); (let S21 := fcopy_f c (to + 1) (co + 8) (S.1, S20.2.1, S.2.2); (let S22 := fcopy_f c (to + 2) (co + 9) (S.1, S21.2.1, S.2.2); (let S23 := fcopy_f c (to + 3) (fo + 1) (S.1, S22.2.1, S.2.2); (nI (1), (S.1, S23.2.1, S.2.2))))))) else (nI (0), (S.1, r15.2.2.1, S.2.2))))))) (fun r5 e_r5 => (ft_ite rfl (ft_ite (ft_let (v := fisOdd_f c (fo) (co + 8) (S.1, r5.2.2.1, S.2.2)) (f := fun r8 => (let S11 := (if (r8.1) = (nI (v4)) then (S.1, r8.2.2.1, S.2.2) else (let S10 := fneg_f c (co + 8) (co + 8) (S.1, r8.2.2.1, S.2.2); (S.1, S10.2.1, S.2.2))); (let S12 := fcopy_f c (to + 1) (co + 8) (S.1, S11.2.1, S.2.2); (let S13 := fcopy_f c (to + 2) (co + 9) (S.1, S12.2.1, S.2.2); (let S14 := fcopy_f c (to + 3) (fo + 1) (S.1, S13.2.1, S.2.2); (nI (1), (S.1, S14.2.1, S.2.2))))))) (fun r8 e_r8 => (ft_let (v := (if (r8.1) = (nI (v4)) then (S.1, r8.2.2.1, S.2.2) else (let S10 := fneg_f c (co + 8) (co + 8) (S.1, r8.2.2.1, S.2.2); (S.1, S10.2.1, S.2.2)))) (f := fun S11 => (let S12 := fcopy_f c (to + 1) (co + 8) (S.1, S11.2.1, S.2.2); (let S13 := fcopy_f c (to + 2) (co + 9) (S.1, S12.2.1, S.2.2); (let S14 := fcopy_f c (to + 3) (fo + 1) (S.1, S13.2.1, S.2.2); (nI (1), (S.1, S14.2.1, S.2.2)))))) (fun S11 e_S11 => (ft_let (v := fcopy_f c (to + 1) (co + 8) (S.1, S11.2.1, S.2.2)) (f := fun S12 => (let S13 := fcopy_f c (to + 2) (co + 9) (S.1, S12.2.1, S.2.2); (let S14 := fcopy_f c (to + 3) (fo + 1) (S.1, S13.2.1, S.2.2); (nI (1), (S.1, S14.2.1, S.2.2))))) (fun S12 e_S12 => (ft_let (v := fcopy_f c (to + 2) (co + 9) (S.1, S12.2.1, S.2.2)) (f := fun S13 => (let S14 := fcopy_f c (to + 3) (fo + 1) (S.1, S13.2.1, S.2.2); (nI (1), (S.1, S14.2.1, S.2.2)))) (fun S13 e_S13 => (ft_let (v := fcopy_f c (to + 3) (fo + 1) (S.1, S13.2.1, S.2.2)) (f := fun S14 => (nI (1), (S.1, S14.2.1, S.2.2))) (fun S14 e_S14 => rfl)))))))))) (ft_let (v := fisZero_f c (fo) (co + 8) (S.1, r5.2.2.1, S.2.2)) (f := fun r15 => (if (r15.1) = 0 then (let r17 := fisOdd_f c (fo) (co + 8) (S.1, r15.2.2.1, S.2.2); (let S20 := (if (r17.1) = (nI (v4)) then (S.1, r17.2.2.1, S.2.2) else (let S19 := fneg_f c (co + 8) (co + 8) (S.1, r17.2.2.1, S.2.2); (S.1, S19.2.1, S.2.2))); (let S21 := fcopy_f c (to + 1) (co + 8) (S.1, S20.2.1, S.2.2); (let S22 := fcopy_f c (to + 2) (co + 9) (S.1, S21.2.1, S.2.2); (let S23 := fcopy_f c (to + 3) (fo + 1) (S.1, S22.2.1, S.2.2); (nI (1), (S.1, S23.2.1, S.2.2))))))) else (nI (0), (S.1, r15.2.2.1, S.2.2)))) (fun r15 e_r15 => (ft_ite (ft_let (v := fisOdd_f c (fo) (co + 8) (S.1, r15.2.2.1, S.2.2)) (f := fun r17 => (let S20 := (if (r17.1) = (nI (v4)) then (S.1, r17.2.2.1, S.2.2) else (let S19 := fneg_f c (co + 8) (co + 8) (S.1, r17.2.2.1, S.2.2); (S.1, S19.2.1, S.2.2))); (let S21 := fcopy_f c (to + 1) (co + 8) (S.1, S20.2.1, S.2.2); (let S22 := fcopy_f c (to + 2) (co + 9) (S.1, S21.2.1, S.2.2); (let S23 := fcopy_f c (to + 3) (fo + 1) (S.1, S22.2.1, S.2.2); (nI (1), (S.1, S23.2.1, S.2.2))))))) (fun r17 e_r17 => (ft_let (v := (if (r17.1) = (nI (v4)) then (S.1, r17.2.2.1, S.2.2) else (let S19 := fneg_f c (co + 8) (co + 8) (S.1, r17.2.2.1, S.2.2); (S.1, S19.2.1, S.2.2)))) (f := fun S20 => (let S21 := fcopy_f c (to + 1) (co + 8) (S.1, S20.2.1, S.2.2); (let S22 := fcopy_f c (to + 2) (co + 9) (S.1, S21.2.1, S.2.2); (let S23 := fcopy_f c (to + 3) (fo + 1) (S.1, S22.2.1, S.2.2); (nI (1), (S.1, S23.2.1, S.2.2)))))) (fun S20 e_S20 => (ft_let (v := fcopy_f c (to + 1) (co + 8) (S.1, S20.2.1, S.2.2)) (f := fun S21 => (let S22 := fcopy_f c (to + 2) (co + 9) (S.1, S21.2.1, S.2.2); (let S23 := fcopy_f c (to + 3) (fo + 1) (S.1, S22.2.1, S.2.2); (nI (1), (S.1, S23.2.1, S.2.2))))) (fun S21 e_S21 => (ft_let (v := fcopy_f c (to + 2) (co + 9) (S.1, S21.2.1, S.2.2)) (f := fun S22 => (let S23 := fcopy_f c (to + 3) (fo + 1) (S.1, S22.2.1, S.2.2); (nI (1), (S.1, S23.2.1, S.2.2)))) (fun S22 e_S22 => (ft_let (v := fcopy_f c (to + 3) (fo + 1) (S.1, S22.2.1, S.2.2)) (f := fun S23 => (nI (1), (S.1, S23.2.1, S.2.2))) (fun S23 e_S23 => rfl)))))))))) rfl)))))))
  | succ f ih =>
    intro i S
    unfold cdec_s48
    by_cases h : S.1 (co + 7) i = S.1 nb i
    · rw [if_pos h]
      exact ih _ _
    · rw [if_neg h]
theorem cdec_F (c : Bool) (co fo to nb : Nat) (S : StT) : (cdec_f c co fo to nb S).2.2.2 = S.2.2 := by
  unfold cdec_f
  exact cdec_sF _ _ _ _ _ _ _ _ _ _
def gexp_f (c : Bool) (so : Nat) (co : Nat) (fo : Nat) (hs : Nat) (sk : Nat) (S : StT) : StT := (let S1 := rpart_f (so + 5) (0) (sk) (0) (cB c) (S.1, S.2.1, fs S.2.2 (so + 5) 1 (nI (0))); (let S2 := dig_f c (hs) (so + 7) (so + 5) (0 + (cB c)) (2 * (cB c)) (S1.1, S1.2.1, fs S.2.2 (so + 5) 1 (nI (0 + (cB c)))); (if (bI c) = 0 then (let I4 := va_up (va_up S2.1 (so + 7) (upd (S2.1 (so + 7)) (0) ((S2.1 (so + 7) (0)) &&& (nI (248))))) (so + 7) (upd ((va_up S2.1 (so + 7) (upd (S2.1 (so + 7)) (0) ((S2.1 (so + 7) (0)) &&& (nI (248))))) (so + 7)) (31) ((((va_up S2.1 (so + 7) (upd (S2.1 (so + 7)) (0) ((S2.1 (so + 7) (0)) &&& (nI (248))))) (so + 7) (31)) &&& (nI (127))) ||| (nI (64)))); (I4, S2.2.1, fs S.2.2 (so + 5) 1 (nI (0 + (cB c))))) else (let I5 := va_up (va_up S2.1 (so + 7) (upd (S2.1 (so + 7)) (0) ((S2.1 (so + 7) (0)) &&& (nI (252))))) (so + 7) (upd ((va_up S2.1 (so + 7) (upd (S2.1 (so + 7)) (0) ((S2.1 (so + 7) (0)) &&& (nI (252))))) (so + 7)) (55) (((va_up S2.1 (so + 7) (upd (S2.1 (so + 7)) (0) ((S2.1 (so + 7) (0)) &&& (nI (252))))) (so + 7) (55)) ||| (nI (128)))); (va_up I5 (so + 7) (upd (I5 (so + 7)) (56) (nI (0))), S2.2.1, fs S.2.2 (so + 5) 1 (nI (0 + (cB c))))))))
theorem gexp_F (c : Bool) (so : Nat) (co : Nat) (fo : Nat) (hs : Nat) (sk : Nat) (S : StT) : (gexp_f c so co fo hs sk S).2.2 = fs S.2.2 (so + 5) 1 (nI (0 + (cB c))) := by
  unfold gexp_f; first | rfl | ((repeat' split) <;> rfl) | (dsimp only; (repeat' split) <;> rfl)
set_option maxRecDepth 100000 in
set_option maxHeartbeats 400000 in
theorem c_gexp {k : KX} {L : Nat → Option Sh} {S : StT} {n : Nat} {c : Bool} {so : Nat} {co : Nat} {fo : Nat} {hs : Nat} {sk : Nat} (hS : SignAt k L so co fo hs c) (hst : ∀ U, k_F k U → HsS k U) (hsk : L sk = some (sI 57)) :
    Cs k yX10_expand cX10_expand 2 none 5 0 0 [.ref (k_b k + (so)), .ref (k_b k + (sk))] (inst k L S.1 S.2.1 S.2.2) n (Pv k L n (gexp_f c so co fo hs sk S)) := by
  refine cs_of (by decide) (Nat.le_of_ble_eq_true rfl) ?_
  intro X hXk C Rt hnm
  subst hXk
  have hS9 := hS
  obtain ⟨hS0, hC, hsc, hH, hr1, hr3, hr5, hw7, hw8, hw9, hw10, hw11, hw12, hw13, hw14, hp15, hp19, hp23, hd6⟩ := hS9
  have hC9 := hC
  obtain ⟨hC0, hF, hc1, hc2, hc3, hc4, hc5, hc6, hc7, hc8, hcr, hcd, hct, hff, hdg, hca, hbs, htb⟩ := hC9
  have hsc9 := hsc
  obtain ⟨hsc0, -⟩ := hsc9
  have hr19 := hr1
  obtain ⟨hr1a, hr1b⟩ := hr19
  have hr39 := hr3
  obtain ⟨hr3a, hr3b⟩ := hr39
  have hr59 := hr5
  obtain ⟨hr5a, hr5b⟩ := hr59
  have hp159 := hp15
  obtain ⟨hp150, hp151, hp152, hp153⟩ := hp159
  have hp199 := hp19
  obtain ⟨hp190, hp191, hp192, hp193⟩ := hp199
  have hp239 := hp23
  obtain ⟨hp230, hp231, hp232, hp233⟩ := hp239
  have hbs9 := hbs
  obtain ⟨hbs0, hbs1, hbs2, hbs3⟩ := hbs9
  obtain ⟨hk1, hk2⟩ := cB_le c
  refine rn_lv [(0, .ref (k_b X.1 + (so))), (1, .ref (k_b X.1 + (sk)))] (fun q h => h) ?_
  refine rn_aload_n C dX10_expand_0 rfl ?_
  refine rs_get C dX10_expand_1 fl_X10_23 hS0 rfl ?_
  refine rn_iconst (v := nI 0) C dX10_expand_4 rfl ?_
  refine rs_putF C dX10_expand_5 fp_X10_95 hr5a rfl ?_
  refine rn_aload_n C dX10_expand_8 rfl ?_
  refine rs_get C dX10_expand_9 fl_X10_23 hS0 rfl ?_
  refine rn_aload_n C dX10_expand_12 rfl ?_
  refine rn_iconst (v := nI 0) C dX10_expand_13 rfl ?_
  refine rn_aload_n C dX10_expand_14 rfl ?_
  refine rs_get C dX10_expand_15 fl_X10_85 hS0 rfl ?_
  refine rs_vv C dX10_expand_18 mk_X6_appendPart lv_X10_112 (c_rpart (S := (S.1, S.2.1, fs S.2.2 (so + 5) 1 (nI (0)))) hr5 (by decide) fs_get hsk (by decide) (by omega) (by omega)) hr5a rfl rfl rfl rfl (by decide) (Nat.le_of_ble_eq_true rfl) (by decide) (by decide) ?_
  rw [show (rpart_f (so + 5) (0) (sk) (0) (cB c) (S.1, S.2.1, fs S.2.2 (so + 5) 1 (nI (0)))).2.2 = fs S.2.2 (so + 5) 1 (nI (0 + (cB c))) from (rpart_F (so + 5) (0) (sk) (0) (cB c) (S.1, S.2.1, fs S.2.2 (so + 5) 1 (nI (0)))).trans fs_fs]
  generalize hS1 : rpart_f (so + 5) (0) (sk) (0) (cB c) (S.1, S.2.1, fs S.2.2 (so + 5) 1 (nI (0))) = S1
  refine rn_aload_n C dX10_expand_21 rfl ?_
  refine rs_get C dX10_expand_22 fl_X10_75 hS0 rfl ?_
  refine rn_aload_n C dX10_expand_25 rfl ?_
  refine rs_get C dX10_expand_26 fl_X10_26 hS0 rfl ?_
  refine rn_aload_n C dX10_expand_29 rfl ?_
  refine rs_get C dX10_expand_30 fl_X10_23 hS0 rfl ?_
  refine rn_iconst (v := nI 2) C dX10_expand_33 rfl ?_
  refine rn_aload_n C dX10_expand_34 rfl ?_
  refine rs_get C dX10_expand_35 fl_X10_85 hS0 rfl ?_
  refine rn_imul C dX10_expand_38 (pk_mul _ _) ?_
  refine rs_dig (c := c) (S := (S1.1, S1.2.1, fs S.2.2 (so + 5) 1 (nI (0 + (cB c))))) C dX10_expand_39 dg_l10 hst hH hw7 (by decide) (by omega) hr5 (by decide) fs_get (by omega) (by omega) (by cases c <;> decide) (by decide) (Nat.le_of_ble_eq_true rfl) (by decide) (by decide) ?_
  rw [show (dig_f c (hs) (so + 7) (so + 5) (0 + (cB c)) (2 * (cB c)) (S1.1, S1.2.1, fs S.2.2 (so + 5) 1 (nI (0 + (cB c))))).2.2 = fs S.2.2 (so + 5) 1 (nI (0 + (cB c))) from dig_F _ _ _ _ _ _ _]
  generalize hS2 : dig_f c (hs) (so + 7) (so + 5) (0 + (cB c)) (2 * (cB c)) (S1.1, S1.2.1, fs S.2.2 (so + 5) 1 (nI (0 + (cB c)))) = S2
  refine rn_aload_n C dX10_expand_44 rfl ?_
  refine rs_get C dX10_expand_45 fl_X10_67 hS0 rfl ?_
  refine rn_if_eq (tgt := 87) C dX10_expand_48 (by decide) (fun hb3 => ?_) (fun hb3 => ?_)
  · skip
    refine rn_aload_n C dX10_expand_87 rfl ?_
    refine rs_get C dX10_expand_88 fl_X10_26 hS0 rfl ?_
    refine rn_iconst (v := nI 0) C dX10_expand_91 rfl ?_
    refine rn_dup2 C dX10_expand_92 rfl rfl ?_
    refine rs_iaload C dX10_expand_93 hw7 rfl (by omega) (by decide) ?_
    refine rn_sipush (v := nI 248) C dX10_expand_94 rfl ?_
    refine rn_iand C dX10_expand_97 rfl ?_
    refine rs_iastore C dX10_expand_98 hw7 rfl (by omega) (by decide) ?_
    refine rn_aload_n C dX10_expand_99 rfl ?_
    refine rs_get C dX10_expand_100 fl_X10_26 hS0 rfl ?_
    refine rn_bipush (v := nI 31) C dX10_expand_103 rfl ?_
    refine rn_aload_n C dX10_expand_105 rfl ?_
    refine rs_get C dX10_expand_106 fl_X10_26 hS0 rfl ?_
    refine rn_bipush (v := nI 31) C dX10_expand_109 rfl ?_
    refine rs_iaload C dX10_expand_111 hw7 rfl (by omega) (by decide) ?_
    refine rn_bipush (v := nI 127) C dX10_expand_112 rfl ?_
    refine rn_iand C dX10_expand_114 rfl ?_
    refine rn_bipush (v := nI 64) C dX10_expand_115 rfl ?_
    refine rn_ior C dX10_expand_117 rfl ?_
    refine rs_iastore C dX10_expand_118 hw7 rfl (by omega) (by decide) ?_
    have hret : gexp_f c so co fo hs sk S = ((va_up (va_up S2.1 (so + 7) (upd (S2.1 (so + 7)) (0) ((S2.1 (so + 7) (0)) &&& (nI (248))))) (so + 7) (upd ((va_up S2.1 (so + 7) (upd (S2.1 (so + 7)) (0) ((S2.1 (so + 7) (0)) &&& (nI (248))))) (so + 7)) (31) ((((va_up S2.1 (so + 7) (upd (S2.1 (so + 7)) (0) ((S2.1 (so + 7) (0)) &&& (nI (248))))) (so + 7) (31)) &&& (nI (127))) ||| (nI (64))))), S2.2.1, fs S.2.2 (so + 5) 1 (nI (0 + (cB c)))) := by
      subst hS2
      subst hS1
      first | (dsimp only [gexp_f]; done) | (dsimp only [gexp_f]; exact (if_pos hb3)) | exact (if_pos hb3)
    exact rn_vret C Rt dX10_expand_119 (pv_of hret) (Nat.zero_le _) (Nat.zero_le _)
  · skip
    refine rn_aload_n C dX10_expand_51 rfl ?_
    refine rs_get C dX10_expand_52 fl_X10_26 hS0 rfl ?_
    refine rn_iconst (v := nI 0) C dX10_expand_55 rfl ?_
    refine rn_dup2 C dX10_expand_56 rfl rfl ?_
    refine rs_iaload C dX10_expand_57 hw7 rfl (by omega) (by decide) ?_
    refine rn_sipush (v := nI 252) C dX10_expand_58 rfl ?_
    refine rn_iand C dX10_expand_61 rfl ?_
    refine rs_iastore C dX10_expand_62 hw7 rfl (by omega) (by decide) ?_
    refine rn_aload_n C dX10_expand_63 rfl ?_
    refine rs_get C dX10_expand_64 fl_X10_26 hS0 rfl ?_
    refine rn_bipush (v := nI 55) C dX10_expand_67 rfl ?_
    refine rn_dup2 C dX10_expand_69 rfl rfl ?_
    refine rs_iaload C dX10_expand_70 hw7 rfl (by omega) (by decide) ?_
    refine rn_sipush (v := nI 128) C dX10_expand_71 rfl ?_
    refine rn_ior C dX10_expand_74 rfl ?_
    refine rs_iastore C dX10_expand_75 hw7 rfl (by omega) (by decide) ?_
    refine rn_aload_n C dX10_expand_76 rfl ?_
    refine rs_get C dX10_expand_77 fl_X10_26 hS0 rfl ?_
    refine rn_bipush (v := nI 56) C dX10_expand_80 rfl ?_
    refine rn_iconst (v := nI 0) C dX10_expand_82 rfl ?_
    refine rs_iastore C dX10_expand_83 hw7 rfl (by omega) (by decide) ?_
    refine rn_goto (tgt := 119) C dX10_expand_84 (by decide) ?_
    have hret : gexp_f c so co fo hs sk S = (va_up (va_up (va_up S2.1 (so + 7) (upd (S2.1 (so + 7)) (0) ((S2.1 (so + 7) (0)) &&& (nI (252))))) (so + 7) (upd ((va_up S2.1 (so + 7) (upd (S2.1 (so + 7)) (0) ((S2.1 (so + 7) (0)) &&& (nI (252))))) (so + 7)) (55) (((va_up S2.1 (so + 7) (upd (S2.1 (so + 7)) (0) ((S2.1 (so + 7) (0)) &&& (nI (252))))) (so + 7) (55)) ||| (nI (128))))) (so + 7) (upd ((va_up (va_up S2.1 (so + 7) (upd (S2.1 (so + 7)) (0) ((S2.1 (so + 7) (0)) &&& (nI (252))))) (so + 7) (upd ((va_up S2.1 (so + 7) (upd (S2.1 (so + 7)) (0) ((S2.1 (so + 7) (0)) &&& (nI (252))))) (so + 7)) (55) (((va_up S2.1 (so + 7) (upd (S2.1 (so + 7)) (0) ((S2.1 (so + 7) (0)) &&& (nI (252))))) (so + 7) (55)) ||| (nI (128))))) (so + 7)) (56) (nI (0))), S2.2.1, fs S.2.2 (so + 5) 1 (nI (0 + (cB c)))) := by
      subst hS2
      subst hS1
      first | (dsimp only [gexp_f]; done) | (dsimp only [gexp_f]; exact (if_neg hb3)) | exact (if_neg hb3)
    exact rn_vret C Rt dX10_expand_119 (pv_of hret) (Nat.zero_le _) (Nat.zero_le _)
def gnon_f (c : Bool) (so : Nat) (co : Nat) (fo : Nat) (hs : Nat) (pf : Nat) (bd : Nat) (S : StT) : StT := (let S1 := rpart_f (so + 5) (0) (so + 1 + 1) (0) (pf) (S.1, S.2.1, fs S.2.2 (so + 5) 1 (nI (0))); (let S2 := rpart_f (so + 5) (0 + pf) (so + 7) (cB c) (cB c) (S1.1, S1.2.1, fs S.2.2 (so + 5) 1 (nI (0 + pf))); (let S3 := rpart_f (so + 5) (0 + pf + (cB c)) (so + 3 + 1) (0) (bd) (S2.1, S2.2.1, fs S.2.2 (so + 5) 1 (nI (0 + pf + (cB c)))); (let S4 := dig_f c (hs) (so + 8) (so + 5) (0 + pf + (cB c) + bd) (2 * (cB c)) (S3.1, S3.2.1, fs S.2.2 (so + 5) 1 (nI (0 + pf + (cB c) + bd))); (S4.1, S4.2.1, fs S.2.2 (so + 5) 1 (nI (0 + pf + (cB c) + bd)))))))
theorem gnon_F (c : Bool) (so : Nat) (co : Nat) (fo : Nat) (hs : Nat) (pf : Nat) (bd : Nat) (S : StT) : (gnon_f c so co fo hs pf bd S).2.2 = fs S.2.2 (so + 5) 1 (nI (0 + pf + (cB c) + bd)) := by
  unfold gnon_f; first | rfl | ((repeat' split) <;> rfl) | (dsimp only; (repeat' split) <;> rfl)
set_option maxRecDepth 100000 in
set_option maxHeartbeats 400000 in
theorem c_gnon {k : KX} {L : Nat → Option Sh} {S : StT} {n : Nat} {c : Bool} {so : Nat} {co : Nat} {fo : Nat} {hs : Nat} {pf : Nat} {bd : Nat} (hS : SignAt k L so co fo hs c) (hst : ∀ U, k_F k U → HsS k U) (hpf : S.2.2 (so + 1) 1 = nI pf) (hpf1 : pf ≤ 98) (hbd : S.2.2 (so + 3) 1 = nI bd) (hbd1 : bd ≤ 256) :
    Cs k yX10_hashNonce cX10_hashNonce 1 none 5 0 0 [.ref (k_b k + (so))] (inst k L S.1 S.2.1 S.2.2) n (Pv k L n (gnon_f c so co fo hs pf bd S)) := by
  refine cs_of (by decide) (Nat.le_of_ble_eq_true rfl) ?_
  intro X hXk C Rt hnm
  subst hXk
  have hS9 := hS
  obtain ⟨hS0, hC, hsc, hH, hr1, hr3, hr5, hw7, hw8, hw9, hw10, hw11, hw12, hw13, hw14, hp15, hp19, hp23, hd6⟩ := hS9
  have hC9 := hC
  obtain ⟨hC0, hF, hc1, hc2, hc3, hc4, hc5, hc6, hc7, hc8, hcr, hcd, hct, hff, hdg, hca, hbs, htb⟩ := hC9
  have hsc9 := hsc
  obtain ⟨hsc0, -⟩ := hsc9
  have hr19 := hr1
  obtain ⟨hr1a, hr1b⟩ := hr19
  have hr39 := hr3
  obtain ⟨hr3a, hr3b⟩ := hr39
  have hr59 := hr5
  obtain ⟨hr5a, hr5b⟩ := hr59
  have hp159 := hp15
  obtain ⟨hp150, hp151, hp152, hp153⟩ := hp159
  have hp199 := hp19
  obtain ⟨hp190, hp191, hp192, hp193⟩ := hp199
  have hp239 := hp23
  obtain ⟨hp230, hp231, hp232, hp233⟩ := hp239
  have hbs9 := hbs
  obtain ⟨hbs0, hbs1, hbs2, hbs3⟩ := hbs9
  obtain ⟨hk1, hk2⟩ := cB_le c
  refine rn_lv [(0, .ref (k_b X.1 + (so)))] (fun q h => h) ?_
  refine rn_aload_n C dX10_hashNonce_0 rfl ?_
  refine rs_get C dX10_hashNonce_1 fl_X10_23 hS0 rfl ?_
  refine rn_iconst (v := nI 0) C dX10_hashNonce_4 rfl ?_
  refine rs_putF C dX10_hashNonce_5 fp_X10_95 hr5a rfl ?_
  refine rn_aload_n C dX10_hashNonce_8 rfl ?_
  refine rs_get C dX10_hashNonce_9 fl_X10_23 hS0 rfl ?_
  refine rn_aload_n C dX10_hashNonce_12 rfl ?_
  refine rs_get C dX10_hashNonce_13 fl_X10_16 hS0 rfl ?_
  refine rs_get C dX10_hashNonce_16 fl_X10_109 hr1a rfl ?_
  refine rn_iconst (v := nI 0) C dX10_hashNonce_19 rfl ?_
  refine rn_aload_n C dX10_hashNonce_20 rfl ?_
  refine rs_get C dX10_hashNonce_21 fl_X10_16 hS0 rfl ?_
  refine rs_getFe C dX10_hashNonce_24 fl_X10_95 hr1a rfl ((fs_nob (by omega)).trans hpf) ?_
  refine rs_vv C dX10_hashNonce_27 mk_X6_appendPart lv_X10_112 (c_rpart (S := (S.1, S.2.1, fs S.2.2 (so + 5) 1 (nI (0)))) hr5 (by decide) fs_get hr1b (by decide) (by omega) (by omega)) hr5a rfl rfl rfl rfl (by decide) (Nat.le_of_ble_eq_true rfl) (by decide) (by decide) ?_
  rw [show (rpart_f (so + 5) (0) (so + 1 + 1) (0) (pf) (S.1, S.2.1, fs S.2.2 (so + 5) 1 (nI (0)))).2.2 = fs S.2.2 (so + 5) 1 (nI (0 + pf)) from (rpart_F (so + 5) (0) (so + 1 + 1) (0) (pf) (S.1, S.2.1, fs S.2.2 (so + 5) 1 (nI (0)))).trans fs_fs]
  generalize hS1 : rpart_f (so + 5) (0) (so + 1 + 1) (0) (pf) (S.1, S.2.1, fs S.2.2 (so + 5) 1 (nI (0))) = S1
  refine rn_aload_n C dX10_hashNonce_30 rfl ?_
  refine rs_get C dX10_hashNonce_31 fl_X10_23 hS0 rfl ?_
  refine rn_aload_n C dX10_hashNonce_34 rfl ?_
  refine rs_get C dX10_hashNonce_35 fl_X10_26 hS0 rfl ?_
  refine rn_aload_n C dX10_hashNonce_38 rfl ?_
  refine rs_get C dX10_hashNonce_39 fl_X10_85 hS0 rfl ?_
  refine rn_aload_n C dX10_hashNonce_42 rfl ?_
  refine rs_get C dX10_hashNonce_43 fl_X10_85 hS0 rfl ?_
  refine rs_vv C dX10_hashNonce_46 mk_X6_appendPart lv_X10_112 (c_rpart (S := (S1.1, S1.2.1, fs S.2.2 (so + 5) 1 (nI (0 + pf)))) hr5 (by decide) fs_get hw7 (by decide) (by omega) (by omega)) hr5a rfl rfl rfl rfl (by decide) (Nat.le_of_ble_eq_true rfl) (by decide) (by decide) ?_
  rw [show (rpart_f (so + 5) (0 + pf) (so + 7) (cB c) (cB c) (S1.1, S1.2.1, fs S.2.2 (so + 5) 1 (nI (0 + pf)))).2.2 = fs S.2.2 (so + 5) 1 (nI (0 + pf + (cB c))) from (rpart_F (so + 5) (0 + pf) (so + 7) (cB c) (cB c) (S1.1, S1.2.1, fs S.2.2 (so + 5) 1 (nI (0 + pf)))).trans fs_fs]
  generalize hS2 : rpart_f (so + 5) (0 + pf) (so + 7) (cB c) (cB c) (S1.1, S1.2.1, fs S.2.2 (so + 5) 1 (nI (0 + pf))) = S2
  refine rn_aload_n C dX10_hashNonce_49 rfl ?_
  refine rs_get C dX10_hashNonce_50 fl_X10_23 hS0 rfl ?_
  refine rn_aload_n C dX10_hashNonce_53 rfl ?_
  refine rs_get C dX10_hashNonce_54 fl_X10_20 hS0 rfl ?_
  refine rs_get C dX10_hashNonce_57 fl_X10_109 hr3a rfl ?_
  refine rn_iconst (v := nI 0) C dX10_hashNonce_60 rfl ?_
  refine rn_aload_n C dX10_hashNonce_61 rfl ?_
  refine rs_get C dX10_hashNonce_62 fl_X10_20 hS0 rfl ?_
  refine rs_getFe C dX10_hashNonce_65 fl_X10_95 hr3a rfl ((fs_nob (by omega)).trans hbd) ?_
  refine rs_vv C dX10_hashNonce_68 mk_X6_appendPart lv_X10_112 (c_rpart (S := (S2.1, S2.2.1, fs S.2.2 (so + 5) 1 (nI (0 + pf + (cB c))))) hr5 (by decide) fs_get hr3b (by decide) (by omega) (by omega)) hr5a rfl rfl rfl rfl (by decide) (Nat.le_of_ble_eq_true rfl) (by decide) (by decide) ?_
  rw [show (rpart_f (so + 5) (0 + pf + (cB c)) (so + 3 + 1) (0) (bd) (S2.1, S2.2.1, fs S.2.2 (so + 5) 1 (nI (0 + pf + (cB c))))).2.2 = fs S.2.2 (so + 5) 1 (nI (0 + pf + (cB c) + bd)) from (rpart_F (so + 5) (0 + pf + (cB c)) (so + 3 + 1) (0) (bd) (S2.1, S2.2.1, fs S.2.2 (so + 5) 1 (nI (0 + pf + (cB c))))).trans fs_fs]
  generalize hS3 : rpart_f (so + 5) (0 + pf + (cB c)) (so + 3 + 1) (0) (bd) (S2.1, S2.2.1, fs S.2.2 (so + 5) 1 (nI (0 + pf + (cB c)))) = S3
  refine rn_aload_n C dX10_hashNonce_71 rfl ?_
  refine rs_get C dX10_hashNonce_72 fl_X10_75 hS0 rfl ?_
  refine rn_aload_n C dX10_hashNonce_75 rfl ?_
  refine rs_get C dX10_hashNonce_76 fl_X10_30 hS0 rfl ?_
  refine rn_aload_n C dX10_hashNonce_79 rfl ?_
  refine rs_get C dX10_hashNonce_80 fl_X10_23 hS0 rfl ?_
  refine rn_iconst (v := nI 2) C dX10_hashNonce_83 rfl ?_
  refine rn_aload_n C dX10_hashNonce_84 rfl ?_
  refine rs_get C dX10_hashNonce_85 fl_X10_85 hS0 rfl ?_
  refine rn_imul C dX10_hashNonce_88 (pk_mul _ _) ?_
  refine rs_dig (c := c) (S := (S3.1, S3.2.1, fs S.2.2 (so + 5) 1 (nI (0 + pf + (cB c) + bd)))) C dX10_hashNonce_89 dg_l10 hst hH hw8 (by decide) (by omega) hr5 (by decide) fs_get (by omega) (by omega) (by cases c <;> decide) (by decide) (Nat.le_of_ble_eq_true rfl) (by decide) (by decide) ?_
  rw [show (dig_f c (hs) (so + 8) (so + 5) (0 + pf + (cB c) + bd) (2 * (cB c)) (S3.1, S3.2.1, fs S.2.2 (so + 5) 1 (nI (0 + pf + (cB c) + bd)))).2.2 = fs S.2.2 (so + 5) 1 (nI (0 + pf + (cB c) + bd)) from dig_F _ _ _ _ _ _ _]
  generalize hS4 : dig_f c (hs) (so + 8) (so + 5) (0 + pf + (cB c) + bd) (2 * (cB c)) (S3.1, S3.2.1, fs S.2.2 (so + 5) 1 (nI (0 + pf + (cB c) + bd))) = S4
  have hret : gnon_f c so co fo hs pf bd S = (S4.1, S4.2.1, fs S.2.2 (so + 5) 1 (nI (0 + pf + (cB c) + bd))) := by
    subst hS4
    subst hS3
    subst hS2
    subst hS1
    first | (dsimp only [gnon_f]; done) | (dsimp only [gnon_f]; exact rfl) | exact rfl
  exact rn_vret C Rt dX10_hashNonce_94 (pv_of hret) (Nat.zero_le _) (Nat.zero_le _)
def gcha_f (c : Bool) (so : Nat) (co : Nat) (fo : Nat) (hs : Nat) (pf : Nat) (bd : Nat) (ka : Nat) (kb : Nat) (S : StT) : StT := (let S1 := rpart_f (so + 5) (0) (so + 1 + 1) (0) (pf) (S.1, S.2.1, fs S.2.2 (so + 5) 1 (nI (0))); (let S2 := rpart_f (so + 5) (0 + pf) (ka) (0) (cB c) (S1.1, S1.2.1, fs S.2.2 (so + 5) 1 (nI (0 + pf))); (let S3 := rpart_f (so + 5) (0 + pf + (cB c)) (kb) (0) (cB c) (S2.1, S2.2.1, fs S.2.2 (so + 5) 1 (nI (0 + pf + (cB c)))); (let S4 := rpart_f (so + 5) (0 + pf + (cB c) + (cB c)) (so + 3 + 1) (0) (bd) (S3.1, S3.2.1, fs S.2.2 (so + 5) 1 (nI (0 + pf + (cB c) + (cB c)))); (let S5 := dig_f c (hs) (so + 8) (so + 5) (0 + pf + (cB c) + (cB c) + bd) (2 * (cB c)) (S4.1, S4.2.1, fs S.2.2 (so + 5) 1 (nI (0 + pf + (cB c) + (cB c) + bd))); (S5.1, S5.2.1, fs S.2.2 (so + 5) 1 (nI (0 + pf + (cB c) + (cB c) + bd))))))))
theorem gcha_F (c : Bool) (so : Nat) (co : Nat) (fo : Nat) (hs : Nat) (pf : Nat) (bd : Nat) (ka : Nat) (kb : Nat) (S : StT) : (gcha_f c so co fo hs pf bd ka kb S).2.2 = fs S.2.2 (so + 5) 1 (nI (0 + pf + (cB c) + (cB c) + bd)) := by
  unfold gcha_f; first | rfl | ((repeat' split) <;> rfl) | (dsimp only; (repeat' split) <;> rfl)
set_option maxRecDepth 100000 in
set_option maxHeartbeats 400000 in
theorem c_gcha {k : KX} {L : Nat → Option Sh} {S : StT} {n : Nat} {c : Bool} {so : Nat} {co : Nat} {fo : Nat} {hs : Nat} {pf : Nat} {bd : Nat} {ka : Nat} {ma : Nat} {kb : Nat} (hS : SignAt k L so co fo hs c) (hst : ∀ U, k_F k U → HsS k U) (hpf : S.2.2 (so + 1) 1 = nI pf) (hpf1 : pf ≤ 98) (hbd : S.2.2 (so + 3) 1 = nI bd) (hbd1 : bd ≤ 256) (hka : L ka = some (sI ma)) (hma : ma < 2 ^ 31) (hma2 : 57 ≤ ma) (hkb : L kb = some (sI 57)) :
    Cs k yX10_hashChallenge cX10_hashChallenge 3 none 5 0 0 [.ref (k_b k + (so)), .ref (k_b k + (ka)), .ref (k_b k + (kb))] (inst k L S.1 S.2.1 S.2.2) n (Pv k L n (gcha_f c so co fo hs pf bd ka kb S)) := by
  refine cs_of (by decide) (Nat.le_of_ble_eq_true rfl) ?_
  intro X hXk C Rt hnm
  subst hXk
  have hS9 := hS
  obtain ⟨hS0, hC, hsc, hH, hr1, hr3, hr5, hw7, hw8, hw9, hw10, hw11, hw12, hw13, hw14, hp15, hp19, hp23, hd6⟩ := hS9
  have hC9 := hC
  obtain ⟨hC0, hF, hc1, hc2, hc3, hc4, hc5, hc6, hc7, hc8, hcr, hcd, hct, hff, hdg, hca, hbs, htb⟩ := hC9
  have hsc9 := hsc
  obtain ⟨hsc0, -⟩ := hsc9
  have hr19 := hr1
  obtain ⟨hr1a, hr1b⟩ := hr19
  have hr39 := hr3
  obtain ⟨hr3a, hr3b⟩ := hr39
  have hr59 := hr5
  obtain ⟨hr5a, hr5b⟩ := hr59
  have hp159 := hp15
  obtain ⟨hp150, hp151, hp152, hp153⟩ := hp159
  have hp199 := hp19
  obtain ⟨hp190, hp191, hp192, hp193⟩ := hp199
  have hp239 := hp23
  obtain ⟨hp230, hp231, hp232, hp233⟩ := hp239
  have hbs9 := hbs
  obtain ⟨hbs0, hbs1, hbs2, hbs3⟩ := hbs9
  obtain ⟨hk1, hk2⟩ := cB_le c
  refine rn_lv [(0, .ref (k_b X.1 + (so))), (1, .ref (k_b X.1 + (ka))), (2, .ref (k_b X.1 + (kb)))] (fun q h => h) ?_
  refine rn_aload_n C dX10_hashChallenge_0 rfl ?_
  refine rs_get C dX10_hashChallenge_1 fl_X10_23 hS0 rfl ?_
  refine rn_iconst (v := nI 0) C dX10_hashChallenge_4 rfl ?_
  refine rs_putF C dX10_hashChallenge_5 fp_X10_95 hr5a rfl ?_
  refine rn_aload_n C dX10_hashChallenge_8 rfl ?_
  refine rs_get C dX10_hashChallenge_9 fl_X10_23 hS0 rfl ?_
  refine rn_aload_n C dX10_hashChallenge_12 rfl ?_
  refine rs_get C dX10_hashChallenge_13 fl_X10_16 hS0 rfl ?_
  refine rs_get C dX10_hashChallenge_16 fl_X10_109 hr1a rfl ?_
  refine rn_iconst (v := nI 0) C dX10_hashChallenge_19 rfl ?_
  refine rn_aload_n C dX10_hashChallenge_20 rfl ?_
  refine rs_get C dX10_hashChallenge_21 fl_X10_16 hS0 rfl ?_
  refine rs_getFe C dX10_hashChallenge_24 fl_X10_95 hr1a rfl ((fs_nob (by omega)).trans hpf) ?_
  refine rs_vv C dX10_hashChallenge_27 mk_X6_appendPart lv_X10_112 (c_rpart (S := (S.1, S.2.1, fs S.2.2 (so + 5) 1 (nI (0)))) hr5 (by decide) fs_get hr1b (by decide) (by omega) (by omega)) hr5a rfl rfl rfl rfl (by decide) (Nat.le_of_ble_eq_true rfl) (by decide) (by decide) ?_
  rw [show (rpart_f (so + 5) (0) (so + 1 + 1) (0) (pf) (S.1, S.2.1, fs S.2.2 (so + 5) 1 (nI (0)))).2.2 = fs S.2.2 (so + 5) 1 (nI (0 + pf)) from (rpart_F (so + 5) (0) (so + 1 + 1) (0) (pf) (S.1, S.2.1, fs S.2.2 (so + 5) 1 (nI (0)))).trans fs_fs]
  generalize hS1 : rpart_f (so + 5) (0) (so + 1 + 1) (0) (pf) (S.1, S.2.1, fs S.2.2 (so + 5) 1 (nI (0))) = S1
  refine rn_aload_n C dX10_hashChallenge_30 rfl ?_
  refine rs_get C dX10_hashChallenge_31 fl_X10_23 hS0 rfl ?_
  refine rn_aload_n C dX10_hashChallenge_34 rfl ?_
  refine rn_iconst (v := nI 0) C dX10_hashChallenge_35 rfl ?_
  refine rn_aload_n C dX10_hashChallenge_36 rfl ?_
  refine rs_get C dX10_hashChallenge_37 fl_X10_85 hS0 rfl ?_
  refine rs_vv C dX10_hashChallenge_40 mk_X6_appendPart lv_X10_112 (c_rpart (S := (S1.1, S1.2.1, fs S.2.2 (so + 5) 1 (nI (0 + pf)))) hr5 (by decide) fs_get hka hma (by omega) (by omega)) hr5a rfl rfl rfl rfl (by decide) (Nat.le_of_ble_eq_true rfl) (by decide) (by decide) ?_
  rw [show (rpart_f (so + 5) (0 + pf) (ka) (0) (cB c) (S1.1, S1.2.1, fs S.2.2 (so + 5) 1 (nI (0 + pf)))).2.2 = fs S.2.2 (so + 5) 1 (nI (0 + pf + (cB c))) from (rpart_F (so + 5) (0 + pf) (ka) (0) (cB c) (S1.1, S1.2.1, fs S.2.2 (so + 5) 1 (nI (0 + pf)))).trans fs_fs]
  generalize hS2 : rpart_f (so + 5) (0 + pf) (ka) (0) (cB c) (S1.1, S1.2.1, fs S.2.2 (so + 5) 1 (nI (0 + pf))) = S2
  refine rn_aload_n C dX10_hashChallenge_43 rfl ?_
  refine rs_get C dX10_hashChallenge_44 fl_X10_23 hS0 rfl ?_
  refine rn_aload_n C dX10_hashChallenge_47 rfl ?_
  refine rn_iconst (v := nI 0) C dX10_hashChallenge_48 rfl ?_
  refine rn_aload_n C dX10_hashChallenge_49 rfl ?_
  refine rs_get C dX10_hashChallenge_50 fl_X10_85 hS0 rfl ?_
  refine rs_vv C dX10_hashChallenge_53 mk_X6_appendPart lv_X10_112 (c_rpart (S := (S2.1, S2.2.1, fs S.2.2 (so + 5) 1 (nI (0 + pf + (cB c))))) hr5 (by decide) fs_get hkb (by decide) (by omega) (by omega)) hr5a rfl rfl rfl rfl (by decide) (Nat.le_of_ble_eq_true rfl) (by decide) (by decide) ?_
  rw [show (rpart_f (so + 5) (0 + pf + (cB c)) (kb) (0) (cB c) (S2.1, S2.2.1, fs S.2.2 (so + 5) 1 (nI (0 + pf + (cB c))))).2.2 = fs S.2.2 (so + 5) 1 (nI (0 + pf + (cB c) + (cB c))) from (rpart_F (so + 5) (0 + pf + (cB c)) (kb) (0) (cB c) (S2.1, S2.2.1, fs S.2.2 (so + 5) 1 (nI (0 + pf + (cB c))))).trans fs_fs]
  generalize hS3 : rpart_f (so + 5) (0 + pf + (cB c)) (kb) (0) (cB c) (S2.1, S2.2.1, fs S.2.2 (so + 5) 1 (nI (0 + pf + (cB c)))) = S3
  refine rn_aload_n C dX10_hashChallenge_56 rfl ?_
  refine rs_get C dX10_hashChallenge_57 fl_X10_23 hS0 rfl ?_
  refine rn_aload_n C dX10_hashChallenge_60 rfl ?_
  refine rs_get C dX10_hashChallenge_61 fl_X10_20 hS0 rfl ?_
  refine rs_get C dX10_hashChallenge_64 fl_X10_109 hr3a rfl ?_
  refine rn_iconst (v := nI 0) C dX10_hashChallenge_67 rfl ?_
  refine rn_aload_n C dX10_hashChallenge_68 rfl ?_
  refine rs_get C dX10_hashChallenge_69 fl_X10_20 hS0 rfl ?_
  refine rs_getFe C dX10_hashChallenge_72 fl_X10_95 hr3a rfl ((fs_nob (by omega)).trans hbd) ?_
  refine rs_vv C dX10_hashChallenge_75 mk_X6_appendPart lv_X10_112 (c_rpart (S := (S3.1, S3.2.1, fs S.2.2 (so + 5) 1 (nI (0 + pf + (cB c) + (cB c))))) hr5 (by decide) fs_get hr3b (by decide) (by omega) (by omega)) hr5a rfl rfl rfl rfl (by decide) (Nat.le_of_ble_eq_true rfl) (by decide) (by decide) ?_
  rw [show (rpart_f (so + 5) (0 + pf + (cB c) + (cB c)) (so + 3 + 1) (0) (bd) (S3.1, S3.2.1, fs S.2.2 (so + 5) 1 (nI (0 + pf + (cB c) + (cB c))))).2.2 = fs S.2.2 (so + 5) 1 (nI (0 + pf + (cB c) + (cB c) + bd)) from (rpart_F (so + 5) (0 + pf + (cB c) + (cB c)) (so + 3 + 1) (0) (bd) (S3.1, S3.2.1, fs S.2.2 (so + 5) 1 (nI (0 + pf + (cB c) + (cB c))))).trans fs_fs]
  generalize hS4 : rpart_f (so + 5) (0 + pf + (cB c) + (cB c)) (so + 3 + 1) (0) (bd) (S3.1, S3.2.1, fs S.2.2 (so + 5) 1 (nI (0 + pf + (cB c) + (cB c)))) = S4
  refine rn_aload_n C dX10_hashChallenge_78 rfl ?_
  refine rs_get C dX10_hashChallenge_79 fl_X10_75 hS0 rfl ?_
  refine rn_aload_n C dX10_hashChallenge_82 rfl ?_
  refine rs_get C dX10_hashChallenge_83 fl_X10_30 hS0 rfl ?_
  refine rn_aload_n C dX10_hashChallenge_86 rfl ?_
  refine rs_get C dX10_hashChallenge_87 fl_X10_23 hS0 rfl ?_
  refine rn_iconst (v := nI 2) C dX10_hashChallenge_90 rfl ?_
  refine rn_aload_n C dX10_hashChallenge_91 rfl ?_
  refine rs_get C dX10_hashChallenge_92 fl_X10_85 hS0 rfl ?_
  refine rn_imul C dX10_hashChallenge_95 (pk_mul _ _) ?_
  refine rs_dig (c := c) (S := (S4.1, S4.2.1, fs S.2.2 (so + 5) 1 (nI (0 + pf + (cB c) + (cB c) + bd)))) C dX10_hashChallenge_96 dg_l10 hst hH hw8 (by decide) (by omega) hr5 (by decide) fs_get (by omega) (by omega) (by cases c <;> decide) (by decide) (Nat.le_of_ble_eq_true rfl) (by decide) (by decide) ?_
  rw [show (dig_f c (hs) (so + 8) (so + 5) (0 + pf + (cB c) + (cB c) + bd) (2 * (cB c)) (S4.1, S4.2.1, fs S.2.2 (so + 5) 1 (nI (0 + pf + (cB c) + (cB c) + bd)))).2.2 = fs S.2.2 (so + 5) 1 (nI (0 + pf + (cB c) + (cB c) + bd)) from dig_F _ _ _ _ _ _ _]
  generalize hS5 : dig_f c (hs) (so + 8) (so + 5) (0 + pf + (cB c) + (cB c) + bd) (2 * (cB c)) (S4.1, S4.2.1, fs S.2.2 (so + 5) 1 (nI (0 + pf + (cB c) + (cB c) + bd))) = S5
  have hret : gcha_f c so co fo hs pf bd ka kb S = (S5.1, S5.2.1, fs S.2.2 (so + 5) 1 (nI (0 + pf + (cB c) + (cB c) + bd))) := by
    subst hS5
    subst hS4
    subst hS3
    subst hS2
    subst hS1
    first | (dsimp only [gcha_f]; done) | (dsimp only [gcha_f]; exact rfl) | exact rfl
  exact rn_vret C Rt dX10_hashChallenge_101 (pv_of hret) (Nat.zero_le _) (Nat.zero_le _)
def gpub_f (c : Bool) (so : Nat) (co : Nat) (fo : Nat) (hs : Nat) (to : Nat) (sk : Nat) (S : StT) : StT := (let S1 := gexp_f c (so) co fo hs (sk) S; (let S2 := cmult_f c (co) fo (so + 15) (so + 7) (co + 20) (S1.1, S1.2.1, fs S.2.2 (so + 5) 1 (nI (0 + (cB c)))); (let S3 := cenc_f c (co) fo (to) (so + 15) (S2.1, S2.2.1, fs S.2.2 (so + 5) 1 (nI (0 + (cB c)))); (S3.1, S3.2.1, fs S.2.2 (so + 5) 1 (nI (0 + (cB c)))))))
theorem gpub_F (c : Bool) (so : Nat) (co : Nat) (fo : Nat) (hs : Nat) (to : Nat) (sk : Nat) (S : StT) : (gpub_f c so co fo hs to sk S).2.2 = fs S.2.2 (so + 5) 1 (nI (0 + (cB c))) := by
  unfold gpub_f; first | rfl | ((repeat' split) <;> rfl) | (dsimp only; (repeat' split) <;> rfl)
set_option maxRecDepth 100000 in
set_option maxHeartbeats 400000 in
theorem c_gpub {k : KX} {L : Nat → Option Sh} {S : StT} {n : Nat} {c : Bool} {so : Nat} {co : Nat} {fo : Nat} {hs : Nat} {to : Nat} {sk : Nat} (hS : SignAt k L so co fo hs c) (hst : ∀ U, k_F k U → HsS k U) (hto : L to = some (sI 114)) (hsk : L sk = some (sI 57)) :
    Cs k yX10_publicKey cX10_publicKey 3 none 6 0 0 [.ref (k_b k + (so)), .ref (k_b k + (to)), .ref (k_b k + (sk))] (inst k L S.1 S.2.1 S.2.2) n (Pv k L n (gpub_f c so co fo hs to sk S)) := by
  refine cs_of (by decide) (Nat.le_of_ble_eq_true rfl) ?_
  intro X hXk C Rt hnm
  subst hXk
  have hS9 := hS
  obtain ⟨hS0, hC, hsc, hH, hr1, hr3, hr5, hw7, hw8, hw9, hw10, hw11, hw12, hw13, hw14, hp15, hp19, hp23, hd6⟩ := hS9
  have hC9 := hC
  obtain ⟨hC0, hF, hc1, hc2, hc3, hc4, hc5, hc6, hc7, hc8, hcr, hcd, hct, hff, hdg, hca, hbs, htb⟩ := hC9
  have hsc9 := hsc
  obtain ⟨hsc0, -⟩ := hsc9
  have hr19 := hr1
  obtain ⟨hr1a, hr1b⟩ := hr19
  have hr39 := hr3
  obtain ⟨hr3a, hr3b⟩ := hr39
  have hr59 := hr5
  obtain ⟨hr5a, hr5b⟩ := hr59
  have hp159 := hp15
  obtain ⟨hp150, hp151, hp152, hp153⟩ := hp159
  have hp199 := hp19
  obtain ⟨hp190, hp191, hp192, hp193⟩ := hp199
  have hp239 := hp23
  obtain ⟨hp230, hp231, hp232, hp233⟩ := hp239
  have hbs9 := hbs
  obtain ⟨hbs0, hbs1, hbs2, hbs3⟩ := hbs9
  obtain ⟨hk1, hk2⟩ := cB_le c
  refine rn_lv [(0, .ref (k_b X.1 + (so))), (1, .ref (k_b X.1 + (to))), (2, .ref (k_b X.1 + (sk)))] (fun q h => h) ?_
  refine rn_aload_n C dX10_publicKey_0 rfl ?_
  refine rn_aload_n C dX10_publicKey_1 rfl ?_
  refine rs_vv C dX10_publicKey_2 mk_X10_expand lv_X10_122 (c_gexp hS hst hsk) hS0 rfl rfl rfl rfl (by decide) (Nat.le_of_ble_eq_true rfl) (by decide) (by decide) ?_
  rw [show (gexp_f c (so) co fo hs (sk) S).2.2 = fs S.2.2 (so + 5) 1 (nI (0 + (cB c))) from (gexp_F c (so) co fo hs (sk) S)]
  generalize hS1 : gexp_f c (so) co fo hs (sk) S = S1
  refine rn_aload_n C dX10_publicKey_5 rfl ?_
  refine rs_get C dX10_publicKey_6 fl_X10_71 hS0 rfl ?_
  refine rn_aload_n C dX10_publicKey_9 rfl ?_
  refine rs_get C dX10_publicKey_10 fl_X10_57 hS0 rfl ?_
  refine rn_aload_n C dX10_publicKey_13 rfl ?_
  refine rs_get C dX10_publicKey_14 fl_X10_26 hS0 rfl ?_
  refine rn_aload_n C dX10_publicKey_17 rfl ?_
  refine rs_get C dX10_publicKey_18 fl_X10_71 hS0 rfl ?_
  refine rs_get C dX10_publicKey_21 fl_X10_126 hC0 rfl ?_
  refine rs_vv C dX10_publicKey_24 mk_X1_multiply lv_X10_129 (c_cmult (S := (S1.1, S1.2.1, fs S.2.2 (so + 5) 1 (nI (0 + (cB c))))) hC hp15 hw7 (by decide) (by decide) (hd6 7 (by decide)) hbs) hC0 rfl rfl rfl rfl (by decide) (Nat.le_of_ble_eq_true rfl) (by decide) (by decide) ?_
  rw [show (cmult_f c (co) fo (so + 15) (so + 7) (co + 20) (S1.1, S1.2.1, fs S.2.2 (so + 5) 1 (nI (0 + (cB c))))).2.2 = fs S.2.2 (so + 5) 1 (nI (0 + (cB c))) from (cmult_F c (co) fo (so + 15) (so + 7) (co + 20) (S1.1, S1.2.1, fs S.2.2 (so + 5) 1 (nI (0 + (cB c)))))]
  generalize hS2 : cmult_f c (co) fo (so + 15) (so + 7) (co + 20) (S1.1, S1.2.1, fs S.2.2 (so + 5) 1 (nI (0 + (cB c)))) = S2
  refine rn_aload_n C dX10_publicKey_27 rfl ?_
  refine rs_get C dX10_publicKey_28 fl_X10_71 hS0 rfl ?_
  refine rn_aload_n C dX10_publicKey_31 rfl ?_
  refine rn_aload_n C dX10_publicKey_32 rfl ?_
  refine rs_get C dX10_publicKey_33 fl_X10_57 hS0 rfl ?_
  refine rs_vv C dX10_publicKey_36 mk_X1_encode lv_X10_133 (c_cenc (S := (S2.1, S2.2.1, fs S.2.2 (so + 5) 1 (nI (0 + (cB c))))) hC hto (by decide) (by omega) hp15) hC0 rfl rfl rfl rfl (by decide) (Nat.le_of_ble_eq_true rfl) (by decide) (by decide) ?_
  rw [show (cenc_f c (co) fo (to) (so + 15) (S2.1, S2.2.1, fs S.2.2 (so + 5) 1 (nI (0 + (cB c))))).2.2 = fs S.2.2 (so + 5) 1 (nI (0 + (cB c))) from (cenc_F c (co) fo (to) (so + 15) (S2.1, S2.2.1, fs S.2.2 (so + 5) 1 (nI (0 + (cB c)))))]
  generalize hS3 : cenc_f c (co) fo (to) (so + 15) (S2.1, S2.2.1, fs S.2.2 (so + 5) 1 (nI (0 + (cB c)))) = S3
  have hret : gpub_f c so co fo hs to sk S = (S3.1, S3.2.1, fs S.2.2 (so + 5) 1 (nI (0 + (cB c)))) := by
    subst hS3
    subst hS2
    subst hS1
    first | (dsimp only [gpub_f]; done) | (dsimp only [gpub_f]; exact rfl) | exact rfl
  exact rn_vret C Rt dX10_publicKey_39 (pv_of hret) (Nat.zero_le _) (Nat.zero_le _)
def gmak_f (c : Bool) (so : Nat) (co : Nat) (fo : Nat) (hs : Nat) (pf : Nat) (bd : Nat) (to : Nat) (sk : Nat) (S : StT) : StT := (let S1 := gexp_f c (so) co fo hs (sk) S; (let S2 := cmult_f c (co) fo (so + 15) (so + 7) (co + 20) (S1.1, S1.2.1, fs S.2.2 (so + 5) 1 (nI (0 + (cB c)))); (let S3 := cenc_f c (co) fo (so + 9) (so + 15) (S2.1, S2.2.1, fs S.2.2 (so + 5) 1 (nI (0 + (cB c)))); (let S4 := gnon_f c (so) co fo hs pf bd (S3.1, S3.2.1, fs S.2.2 (so + 5) 1 (nI (0 + (cB c)))); (let S5 := sred_f c (so + 27) (so + 12) (so + 8) (2 * (cB c)) (S4.1, S4.2.1, fs S.2.2 (so + 5) 1 (nI (0 + pf + (cB c) + bd))); (let S6 := swrite_f c (so + 27) (so + 10) (0) (so + 12) (S4.1, S5.2.1, fs S.2.2 (so + 5) 1 (nI (0 + pf + (cB c) + bd))); (let S7 := cmult_f c (co) fo (so + 15) (so + 10) (co + 20) (S6.1, S6.2.1, fs S.2.2 (so + 5) 1 (nI (0 + pf + (cB c) + bd))); (let S8 := cenc_f c (co) fo (to) (so + 15) (S7.1, S7.2.1, fs S.2.2 (so + 5) 1 (nI (0 + pf + (cB c) + bd))); (let S9 := gcha_f c (so) co fo hs pf bd (to) (so + 9) (S8.1, S8.2.1, fs S.2.2 (so + 5) 1 (nI (0 + pf + (cB c) + bd))); (let S10 := sred_f c (so + 27) (so + 13) (so + 7) (cB c) (S9.1, S9.2.1, fs S.2.2 (so + 5) 1 (nI (0 + pf + (cB c) + (cB c) + bd))); (let S11 := smul_f c (so + 27) (so + 14) (so + 8) (2 * (cB c)) (so + 13) (S9.1, S10.2.1, fs S.2.2 (so + 5) 1 (nI (0 + pf + (cB c) + (cB c) + bd))); (let S12 := sinc_f c (so + 27) (so + 14) (so + 12) (S9.1, S11.2.1, fs S.2.2 (so + 5) 1 (nI (0 + pf + (cB c) + (cB c) + bd))); (let S13 := swrite_f c (so + 27) (to) (cB c) (so + 14) (S9.1, S12.2.1, fs S.2.2 (so + 5) 1 (nI (0 + pf + (cB c) + (cB c) + bd))); (S13.1, S13.2.1, fs S.2.2 (so + 5) 1 (nI (0 + pf + (cB c) + (cB c) + bd))))))))))))))))
theorem gmak_F (c : Bool) (so : Nat) (co : Nat) (fo : Nat) (hs : Nat) (pf : Nat) (bd : Nat) (to : Nat) (sk : Nat) (S : StT) : (gmak_f c so co fo hs pf bd to sk S).2.2 = fs S.2.2 (so + 5) 1 (nI (0 + pf + (cB c) + (cB c) + bd)) := by
  unfold gmak_f; first | rfl | ((repeat' split) <;> rfl) | (dsimp only; (repeat' split) <;> rfl)
set_option maxRecDepth 100000 in
set_option maxHeartbeats 400000 in
theorem c_gmak {k : KX} {L : Nat → Option Sh} {S : StT} {n : Nat} {c : Bool} {so : Nat} {co : Nat} {fo : Nat} {hs : Nat} {pf : Nat} {bd : Nat} {to : Nat} {sk : Nat} (hS : SignAt k L so co fo hs c) (hst : ∀ U, k_F k U → HsS k U) (hpf : S.2.2 (so + 1) 1 = nI pf) (hpf1 : pf ≤ 98) (hbd : S.2.2 (so + 3) 1 = nI bd) (hbd1 : bd ≤ 256) (hto : L to = some (sI 114)) (hsk : L sk = some (sI 57)) :
    Cs k yX10_makeSignature cX10_makeSignature 3 none 6 0 0 [.ref (k_b k + (so)), .ref (k_b k + (to)), .ref (k_b k + (sk))] (inst k L S.1 S.2.1 S.2.2) n (Pv k L n (gmak_f c so co fo hs pf bd to sk S)) := by
  refine cs_of (by decide) (Nat.le_of_ble_eq_true rfl) ?_
  intro X hXk C Rt hnm
  subst hXk
  have hS9 := hS
  obtain ⟨hS0, hC, hsc, hH, hr1, hr3, hr5, hw7, hw8, hw9, hw10, hw11, hw12, hw13, hw14, hp15, hp19, hp23, hd6⟩ := hS9
  have hC9 := hC
  obtain ⟨hC0, hF, hc1, hc2, hc3, hc4, hc5, hc6, hc7, hc8, hcr, hcd, hct, hff, hdg, hca, hbs, htb⟩ := hC9
  have hsc9 := hsc
  obtain ⟨hsc0, -⟩ := hsc9
  have hr19 := hr1
  obtain ⟨hr1a, hr1b⟩ := hr19
  have hr39 := hr3
  obtain ⟨hr3a, hr3b⟩ := hr39
  have hr59 := hr5
  obtain ⟨hr5a, hr5b⟩ := hr59
  have hp159 := hp15
  obtain ⟨hp150, hp151, hp152, hp153⟩ := hp159
  have hp199 := hp19
  obtain ⟨hp190, hp191, hp192, hp193⟩ := hp199
  have hp239 := hp23
  obtain ⟨hp230, hp231, hp232, hp233⟩ := hp239
  have hbs9 := hbs
  obtain ⟨hbs0, hbs1, hbs2, hbs3⟩ := hbs9
  obtain ⟨hk1, hk2⟩ := cB_le c
  refine rn_lv [(0, .ref (k_b X.1 + (so))), (1, .ref (k_b X.1 + (to))), (2, .ref (k_b X.1 + (sk)))] (fun q h => h) ?_
  refine rn_aload_n C dX10_makeSignature_0 rfl ?_
  refine rn_aload_n C dX10_makeSignature_1 rfl ?_
  refine rs_vv C dX10_makeSignature_2 mk_X10_expand lv_X10_122 (c_gexp hS hst hsk) hS0 rfl rfl rfl rfl (by decide) (Nat.le_of_ble_eq_true rfl) (by decide) (by decide) ?_
  rw [show (gexp_f c (so) co fo hs (sk) S).2.2 = fs S.2.2 (so + 5) 1 (nI (0 + (cB c))) from (gexp_F c (so) co fo hs (sk) S)]
  generalize hS1 : gexp_f c (so) co fo hs (sk) S = S1
  refine rn_aload_n C dX10_makeSignature_5 rfl ?_
  refine rs_get C dX10_makeSignature_6 fl_X10_71 hS0 rfl ?_
  refine rn_aload_n C dX10_makeSignature_9 rfl ?_
  refine rs_get C dX10_makeSignature_10 fl_X10_57 hS0 rfl ?_
  refine rn_aload_n C dX10_makeSignature_13 rfl ?_
  refine rs_get C dX10_makeSignature_14 fl_X10_26 hS0 rfl ?_
  refine rn_aload_n C dX10_makeSignature_17 rfl ?_
  refine rs_get C dX10_makeSignature_18 fl_X10_71 hS0 rfl ?_
  refine rs_get C dX10_makeSignature_21 fl_X10_126 hC0 rfl ?_
  refine rs_vv C dX10_makeSignature_24 mk_X1_multiply lv_X10_129 (c_cmult (S := (S1.1, S1.2.1, fs S.2.2 (so + 5) 1 (nI (0 + (cB c))))) hC hp15 hw7 (by decide) (by decide) (hd6 7 (by decide)) hbs) hC0 rfl rfl rfl rfl (by decide) (Nat.le_of_ble_eq_true rfl) (by decide) (by decide) ?_
  rw [show (cmult_f c (co) fo (so + 15) (so + 7) (co + 20) (S1.1, S1.2.1, fs S.2.2 (so + 5) 1 (nI (0 + (cB c))))).2.2 = fs S.2.2 (so + 5) 1 (nI (0 + (cB c))) from (cmult_F c (co) fo (so + 15) (so + 7) (co + 20) (S1.1, S1.2.1, fs S.2.2 (so + 5) 1 (nI (0 + (cB c)))))]
  generalize hS2 : cmult_f c (co) fo (so + 15) (so + 7) (co + 20) (S1.1, S1.2.1, fs S.2.2 (so + 5) 1 (nI (0 + (cB c)))) = S2
  refine rn_aload_n C dX10_makeSignature_27 rfl ?_
  refine rs_get C dX10_makeSignature_28 fl_X10_71 hS0 rfl ?_
  refine rn_aload_n C dX10_makeSignature_31 rfl ?_
  refine rs_get C dX10_makeSignature_32 fl_X10_33 hS0 rfl ?_
  refine rn_aload_n C dX10_makeSignature_35 rfl ?_
  refine rs_get C dX10_makeSignature_36 fl_X10_57 hS0 rfl ?_
  refine rs_vv C dX10_makeSignature_39 mk_X1_encode lv_X10_133 (c_cenc (S := (S2.1, S2.2.1, fs S.2.2 (so + 5) 1 (nI (0 + (cB c))))) hC hw9 (by decide) (by omega) hp15) hC0 rfl rfl rfl rfl (by decide) (Nat.le_of_ble_eq_true rfl) (by decide) (by decide) ?_
  rw [show (cenc_f c (co) fo (so + 9) (so + 15) (S2.1, S2.2.1, fs S.2.2 (so + 5) 1 (nI (0 + (cB c))))).2.2 = fs S.2.2 (so + 5) 1 (nI (0 + (cB c))) from (cenc_F c (co) fo (so + 9) (so + 15) (S2.1, S2.2.1, fs S.2.2 (so + 5) 1 (nI (0 + (cB c)))))]
  generalize hS3 : cenc_f c (co) fo (so + 9) (so + 15) (S2.1, S2.2.1, fs S.2.2 (so + 5) 1 (nI (0 + (cB c)))) = S3
  refine rn_aload_n C dX10_makeSignature_42 rfl ?_
  refine rs_vv C dX10_makeSignature_43 mk_X10_hashNonce lv_X10_137 (c_gnon (S := (S3.1, S3.2.1, fs S.2.2 (so + 5) 1 (nI (0 + (cB c))))) hS hst ((fs_nob (by omega)).trans hpf) (by omega) ((fs_nob (by omega)).trans hbd) (by omega)) hS0 rfl rfl rfl rfl (by decide) (Nat.le_of_ble_eq_true rfl) (by decide) (by decide) ?_
  rw [show (gnon_f c (so) co fo hs pf bd (S3.1, S3.2.1, fs S.2.2 (so + 5) 1 (nI (0 + (cB c))))).2.2 = fs S.2.2 (so + 5) 1 (nI (0 + pf + (cB c) + bd)) from (gnon_F c (so) co fo hs pf bd (S3.1, S3.2.1, fs S.2.2 (so + 5) 1 (nI (0 + (cB c))))).trans fs_fs]
  generalize hS4 : gnon_f c (so) co fo hs pf bd (S3.1, S3.2.1, fs S.2.2 (so + 5) 1 (nI (0 + (cB c)))) = S4
  refine rn_aload_n C dX10_makeSignature_46 rfl ?_
  refine rs_get C dX10_makeSignature_47 fl_X10_91 hS0 rfl ?_
  refine rn_aload_n C dX10_makeSignature_50 rfl ?_
  refine rs_get C dX10_makeSignature_51 fl_X10_44 hS0 rfl ?_
  refine rn_aload_n C dX10_makeSignature_54 rfl ?_
  refine rs_get C dX10_makeSignature_55 fl_X10_30 hS0 rfl ?_
  refine rn_iconst (v := nI 2) C dX10_makeSignature_58 rfl ?_
  refine rn_aload_n C dX10_makeSignature_59 rfl ?_
  refine rs_get C dX10_makeSignature_60 fl_X10_85 hS0 rfl ?_
  refine rn_imul C dX10_makeSignature_63 (pk_mul _ _) ?_
  refine rs_vv C dX10_makeSignature_64 mk_X7_reduce lv_X10_140 (c_sred (S := (S4.1, S4.2.1, fs S.2.2 (so + 5) 1 (nI (0 + pf + (cB c) + bd)))) hsc hw12 hw8 (by decide) (by omega) (by omega) (by omega)) hsc0 rfl rfl rfl rfl (by decide) (Nat.le_of_ble_eq_true rfl) (by decide) (by decide) ?_
  rw [show (sred_f c (so + 27) (so + 12) (so + 8) (2 * (cB c)) (S4.1, S4.2.1, fs S.2.2 (so + 5) 1 (nI (0 + pf + (cB c) + bd)))).2.2 = fs S.2.2 (so + 5) 1 (nI (0 + pf + (cB c) + bd)) from (sred_F c (so + 27) (so + 12) (so + 8) (2 * (cB c)) (S4.1, S4.2.1, fs S.2.2 (so + 5) 1 (nI (0 + pf + (cB c) + bd))))]
  rw [show (sred_f c (so + 27) (so + 12) (so + 8) (2 * (cB c)) (S4.1, S4.2.1, fs S.2.2 (so + 5) 1 (nI (0 + pf + (cB c) + bd)))).1 = S4.1 from sred_I c (so + 27) (so + 12) (so + 8) (2 * (cB c)) (S4.1, S4.2.1, fs S.2.2 (so + 5) 1 (nI (0 + pf + (cB c) + bd)))]
  generalize hS5 : sred_f c (so + 27) (so + 12) (so + 8) (2 * (cB c)) (S4.1, S4.2.1, fs S.2.2 (so + 5) 1 (nI (0 + pf + (cB c) + bd))) = S5
  refine rn_aload_n C dX10_makeSignature_67 rfl ?_
  refine rs_get C dX10_makeSignature_68 fl_X10_91 hS0 rfl ?_
  refine rn_aload_n C dX10_makeSignature_71 rfl ?_
  refine rs_get C dX10_makeSignature_72 fl_X10_36 hS0 rfl ?_
  refine rn_iconst (v := nI 0) C dX10_makeSignature_75 rfl ?_
  refine rn_aload_n C dX10_makeSignature_76 rfl ?_
  refine rs_get C dX10_makeSignature_77 fl_X10_44 hS0 rfl ?_
  refine rs_vv C dX10_makeSignature_80 mk_X7_write lv_X10_144 (c_swrite (S := (S4.1, S5.2.1, fs S.2.2 (so + 5) 1 (nI (0 + pf + (cB c) + bd)))) hsc hw10 (by decide) (by omega) hw12) hsc0 rfl rfl rfl rfl (by decide) (Nat.le_of_ble_eq_true rfl) (by decide) (by decide) ?_
  rw [show (swrite_f c (so + 27) (so + 10) (0) (so + 12) (S4.1, S5.2.1, fs S.2.2 (so + 5) 1 (nI (0 + pf + (cB c) + bd)))).2.2 = fs S.2.2 (so + 5) 1 (nI (0 + pf + (cB c) + bd)) from (swrite_F c (so + 27) (so + 10) (0) (so + 12) (S4.1, S5.2.1, fs S.2.2 (so + 5) 1 (nI (0 + pf + (cB c) + bd))))]
  generalize hS6 : swrite_f c (so + 27) (so + 10) (0) (so + 12) (S4.1, S5.2.1, fs S.2.2 (so + 5) 1 (nI (0 + pf + (cB c) + bd))) = S6
  refine rn_aload_n C dX10_makeSignature_83 rfl ?_
  refine rs_get C dX10_makeSignature_84 fl_X10_71 hS0 rfl ?_
  refine rn_aload_n C dX10_makeSignature_87 rfl ?_
  refine rs_get C dX10_makeSignature_88 fl_X10_57 hS0 rfl ?_
  refine rn_aload_n C dX10_makeSignature_91 rfl ?_
  refine rs_get C dX10_makeSignature_92 fl_X10_36 hS0 rfl ?_
  refine rn_aload_n C dX10_makeSignature_95 rfl ?_
  refine rs_get C dX10_makeSignature_96 fl_X10_71 hS0 rfl ?_
  refine rs_get C dX10_makeSignature_99 fl_X10_126 hC0 rfl ?_
  refine rs_vv C dX10_makeSignature_102 mk_X1_multiply lv_X10_129 (c_cmult (S := (S6.1, S6.2.1, fs S.2.2 (so + 5) 1 (nI (0 + pf + (cB c) + bd)))) hC hp15 hw10 (by decide) (by decide) (hd6 10 (by decide)) hbs) hC0 rfl rfl rfl rfl (by decide) (Nat.le_of_ble_eq_true rfl) (by decide) (by decide) ?_
  rw [show (cmult_f c (co) fo (so + 15) (so + 10) (co + 20) (S6.1, S6.2.1, fs S.2.2 (so + 5) 1 (nI (0 + pf + (cB c) + bd)))).2.2 = fs S.2.2 (so + 5) 1 (nI (0 + pf + (cB c) + bd)) from (cmult_F c (co) fo (so + 15) (so + 10) (co + 20) (S6.1, S6.2.1, fs S.2.2 (so + 5) 1 (nI (0 + pf + (cB c) + bd))))]
  generalize hS7 : cmult_f c (co) fo (so + 15) (so + 10) (co + 20) (S6.1, S6.2.1, fs S.2.2 (so + 5) 1 (nI (0 + pf + (cB c) + bd))) = S7
  refine rn_aload_n C dX10_makeSignature_105 rfl ?_
  refine rs_get C dX10_makeSignature_106 fl_X10_71 hS0 rfl ?_
  refine rn_aload_n C dX10_makeSignature_109 rfl ?_
  refine rn_aload_n C dX10_makeSignature_110 rfl ?_
  refine rs_get C dX10_makeSignature_111 fl_X10_57 hS0 rfl ?_
  refine rs_vv C dX10_makeSignature_114 mk_X1_encode lv_X10_133 (c_cenc (S := (S7.1, S7.2.1, fs S.2.2 (so + 5) 1 (nI (0 + pf + (cB c) + bd)))) hC hto (by decide) (by omega) hp15) hC0 rfl rfl rfl rfl (by decide) (Nat.le_of_ble_eq_true rfl) (by decide) (by decide) ?_
  rw [show (cenc_f c (co) fo (to) (so + 15) (S7.1, S7.2.1, fs S.2.2 (so + 5) 1 (nI (0 + pf + (cB c) + bd)))).2.2 = fs S.2.2 (so + 5) 1 (nI (0 + pf + (cB c) + bd)) from (cenc_F c (co) fo (to) (so + 15) (S7.1, S7.2.1, fs S.2.2 (so + 5) 1 (nI (0 + pf + (cB c) + bd))))]
  generalize hS8 : cenc_f c (co) fo (to) (so + 15) (S7.1, S7.2.1, fs S.2.2 (so + 5) 1 (nI (0 + pf + (cB c) + bd))) = S8
  refine rn_aload_n C dX10_makeSignature_117 rfl ?_
  refine rn_aload_n C dX10_makeSignature_118 rfl ?_
  refine rn_aload_n C dX10_makeSignature_119 rfl ?_
  refine rs_get C dX10_makeSignature_120 fl_X10_33 hS0 rfl ?_
  refine rs_vv C dX10_makeSignature_123 mk_X10_hashChallenge lv_X10_148 (c_gcha (S := (S8.1, S8.2.1, fs S.2.2 (so + 5) 1 (nI (0 + pf + (cB c) + bd)))) hS hst ((fs_nob (by omega)).trans hpf) (by omega) ((fs_nob (by omega)).trans hbd) (by omega) hto (by decide) (by omega) hw9) hS0 rfl rfl rfl rfl (by decide) (Nat.le_of_ble_eq_true rfl) (by decide) (by decide) ?_
  rw [show (gcha_f c (so) co fo hs pf bd (to) (so + 9) (S8.1, S8.2.1, fs S.2.2 (so + 5) 1 (nI (0 + pf + (cB c) + bd)))).2.2 = fs S.2.2 (so + 5) 1 (nI (0 + pf + (cB c) + (cB c) + bd)) from (gcha_F c (so) co fo hs pf bd (to) (so + 9) (S8.1, S8.2.1, fs S.2.2 (so + 5) 1 (nI (0 + pf + (cB c) + bd)))).trans fs_fs]
  generalize hS9 : gcha_f c (so) co fo hs pf bd (to) (so + 9) (S8.1, S8.2.1, fs S.2.2 (so + 5) 1 (nI (0 + pf + (cB c) + bd))) = S9
  refine rn_aload_n C dX10_makeSignature_126 rfl ?_
  refine rs_get C dX10_makeSignature_127 fl_X10_91 hS0 rfl ?_
  refine rn_aload_n C dX10_makeSignature_130 rfl ?_
  refine rs_get C dX10_makeSignature_131 fl_X10_48 hS0 rfl ?_
  refine rn_aload_n C dX10_makeSignature_134 rfl ?_
  refine rs_get C dX10_makeSignature_135 fl_X10_26 hS0 rfl ?_
  refine rn_aload_n C dX10_makeSignature_138 rfl ?_
  refine rs_get C dX10_makeSignature_139 fl_X10_85 hS0 rfl ?_
  refine rs_vv C dX10_makeSignature_142 mk_X7_reduce lv_X10_140 (c_sred (S := (S9.1, S9.2.1, fs S.2.2 (so + 5) 1 (nI (0 + pf + (cB c) + (cB c) + bd)))) hsc hw13 hw7 (by decide) (by omega) (by omega) (by omega)) hsc0 rfl rfl rfl rfl (by decide) (Nat.le_of_ble_eq_true rfl) (by decide) (by decide) ?_
  rw [show (sred_f c (so + 27) (so + 13) (so + 7) (cB c) (S9.1, S9.2.1, fs S.2.2 (so + 5) 1 (nI (0 + pf + (cB c) + (cB c) + bd)))).2.2 = fs S.2.2 (so + 5) 1 (nI (0 + pf + (cB c) + (cB c) + bd)) from (sred_F c (so + 27) (so + 13) (so + 7) (cB c) (S9.1, S9.2.1, fs S.2.2 (so + 5) 1 (nI (0 + pf + (cB c) + (cB c) + bd))))]
  rw [show (sred_f c (so + 27) (so + 13) (so + 7) (cB c) (S9.1, S9.2.1, fs S.2.2 (so + 5) 1 (nI (0 + pf + (cB c) + (cB c) + bd)))).1 = S9.1 from sred_I c (so + 27) (so + 13) (so + 7) (cB c) (S9.1, S9.2.1, fs S.2.2 (so + 5) 1 (nI (0 + pf + (cB c) + (cB c) + bd)))]
  generalize hS10 : sred_f c (so + 27) (so + 13) (so + 7) (cB c) (S9.1, S9.2.1, fs S.2.2 (so + 5) 1 (nI (0 + pf + (cB c) + (cB c) + bd))) = S10
  refine rn_aload_n C dX10_makeSignature_145 rfl ?_
  refine rs_get C dX10_makeSignature_146 fl_X10_91 hS0 rfl ?_
  refine rn_aload_n C dX10_makeSignature_149 rfl ?_
  refine rs_get C dX10_makeSignature_150 fl_X10_51 hS0 rfl ?_
  refine rn_aload_n C dX10_makeSignature_153 rfl ?_
  refine rs_get C dX10_makeSignature_154 fl_X10_30 hS0 rfl ?_
  refine rn_iconst (v := nI 2) C dX10_makeSignature_157 rfl ?_
  refine rn_aload_n C dX10_makeSignature_158 rfl ?_
  refine rs_get C dX10_makeSignature_159 fl_X10_85 hS0 rfl ?_
  refine rn_imul C dX10_makeSignature_162 (pk_mul _ _) ?_
  refine rn_aload_n C dX10_makeSignature_163 rfl ?_
  refine rs_get C dX10_makeSignature_164 fl_X10_48 hS0 rfl ?_
  refine rs_vv C dX10_makeSignature_167 mk_X7_multiply lv_X10_152 (c_smul (S := (S9.1, S10.2.1, fs S.2.2 (so + 5) 1 (nI (0 + pf + (cB c) + (cB c) + bd)))) hsc hw14 hw8 (by decide) (by omega) (by omega) (by omega) hw13) hsc0 rfl rfl rfl rfl (by decide) (Nat.le_of_ble_eq_true rfl) (by decide) (by decide) ?_
  rw [show (smul_f c (so + 27) (so + 14) (so + 8) (2 * (cB c)) (so + 13) (S9.1, S10.2.1, fs S.2.2 (so + 5) 1 (nI (0 + pf + (cB c) + (cB c) + bd)))).2.2 = fs S.2.2 (so + 5) 1 (nI (0 + pf + (cB c) + (cB c) + bd)) from (smul_F c (so + 27) (so + 14) (so + 8) (2 * (cB c)) (so + 13) (S9.1, S10.2.1, fs S.2.2 (so + 5) 1 (nI (0 + pf + (cB c) + (cB c) + bd))))]
  rw [show (smul_f c (so + 27) (so + 14) (so + 8) (2 * (cB c)) (so + 13) (S9.1, S10.2.1, fs S.2.2 (so + 5) 1 (nI (0 + pf + (cB c) + (cB c) + bd)))).1 = S9.1 from smul_I c (so + 27) (so + 14) (so + 8) (2 * (cB c)) (so + 13) (S9.1, S10.2.1, fs S.2.2 (so + 5) 1 (nI (0 + pf + (cB c) + (cB c) + bd)))]
  generalize hS11 : smul_f c (so + 27) (so + 14) (so + 8) (2 * (cB c)) (so + 13) (S9.1, S10.2.1, fs S.2.2 (so + 5) 1 (nI (0 + pf + (cB c) + (cB c) + bd))) = S11
  refine rn_aload_n C dX10_makeSignature_170 rfl ?_
  refine rs_get C dX10_makeSignature_171 fl_X10_91 hS0 rfl ?_
  refine rn_aload_n C dX10_makeSignature_174 rfl ?_
  refine rs_get C dX10_makeSignature_175 fl_X10_51 hS0 rfl ?_
  refine rn_aload_n C dX10_makeSignature_178 rfl ?_
  refine rs_get C dX10_makeSignature_179 fl_X10_44 hS0 rfl ?_
  refine rs_vv C dX10_makeSignature_182 mk_X7_increase lv_X10_155 (c_sinc (S := (S9.1, S11.2.1, fs S.2.2 (so + 5) 1 (nI (0 + pf + (cB c) + (cB c) + bd)))) hsc hw14 hw12) hsc0 rfl rfl rfl rfl (by decide) (Nat.le_of_ble_eq_true rfl) (by decide) (by decide) ?_
  rw [show (sinc_f c (so + 27) (so + 14) (so + 12) (S9.1, S11.2.1, fs S.2.2 (so + 5) 1 (nI (0 + pf + (cB c) + (cB c) + bd)))).2.2 = fs S.2.2 (so + 5) 1 (nI (0 + pf + (cB c) + (cB c) + bd)) from (sinc_F c (so + 27) (so + 14) (so + 12) (S9.1, S11.2.1, fs S.2.2 (so + 5) 1 (nI (0 + pf + (cB c) + (cB c) + bd))))]
  rw [show (sinc_f c (so + 27) (so + 14) (so + 12) (S9.1, S11.2.1, fs S.2.2 (so + 5) 1 (nI (0 + pf + (cB c) + (cB c) + bd)))).1 = S9.1 from sinc_I c (so + 27) (so + 14) (so + 12) (S9.1, S11.2.1, fs S.2.2 (so + 5) 1 (nI (0 + pf + (cB c) + (cB c) + bd)))]
  generalize hS12 : sinc_f c (so + 27) (so + 14) (so + 12) (S9.1, S11.2.1, fs S.2.2 (so + 5) 1 (nI (0 + pf + (cB c) + (cB c) + bd))) = S12
  refine rn_aload_n C dX10_makeSignature_185 rfl ?_
  refine rs_get C dX10_makeSignature_186 fl_X10_91 hS0 rfl ?_
  refine rn_aload_n C dX10_makeSignature_189 rfl ?_
  refine rn_aload_n C dX10_makeSignature_190 rfl ?_
  refine rs_get C dX10_makeSignature_191 fl_X10_85 hS0 rfl ?_
  refine rn_aload_n C dX10_makeSignature_194 rfl ?_
  refine rs_get C dX10_makeSignature_195 fl_X10_51 hS0 rfl ?_
  refine rs_vv C dX10_makeSignature_198 mk_X7_write lv_X10_144 (c_swrite (S := (S9.1, S12.2.1, fs S.2.2 (so + 5) 1 (nI (0 + pf + (cB c) + (cB c) + bd)))) hsc hto (by decide) (by omega) hw14) hsc0 rfl rfl rfl rfl (by decide) (Nat.le_of_ble_eq_true rfl) (by decide) (by decide) ?_
  rw [show (swrite_f c (so + 27) (to) (cB c) (so + 14) (S9.1, S12.2.1, fs S.2.2 (so + 5) 1 (nI (0 + pf + (cB c) + (cB c) + bd)))).2.2 = fs S.2.2 (so + 5) 1 (nI (0 + pf + (cB c) + (cB c) + bd)) from (swrite_F c (so + 27) (to) (cB c) (so + 14) (S9.1, S12.2.1, fs S.2.2 (so + 5) 1 (nI (0 + pf + (cB c) + (cB c) + bd))))]
  generalize hS13 : swrite_f c (so + 27) (to) (cB c) (so + 14) (S9.1, S12.2.1, fs S.2.2 (so + 5) 1 (nI (0 + pf + (cB c) + (cB c) + bd))) = S13
  have hret : gmak_f c so co fo hs pf bd to sk S = (S13.1, S13.2.1, fs S.2.2 (so + 5) 1 (nI (0 + pf + (cB c) + (cB c) + bd))) := by
    subst hS13
    subst hS12
    subst hS11
    subst hS10
    subst hS9
    subst hS8
    subst hS7
    subst hS6
    subst hS5
    subst hS4
    subst hS3
    subst hS2
    subst hS1
    first | (dsimp only [gmak_f]; done) | (dsimp only [gmak_f]; exact rfl) | exact rfl
  exact rn_vret C Rt dX10_makeSignature_201 (pv_of hret) (Nat.zero_le _) (Nat.zero_le _)
def gver_l202 (c : Bool) (so : Nat) (co : Nat) (fo : Nat) (pf : Nat) (bd : Nat) (S : StT)  : Nat → (Nat → Nat → Int64)
  | 0 => S.2.1
  | i202 + 1 => let y202_0 := (gver_l202 c so co fo pf bd S i202); (let S15 := ctwice_f c (co) fo (so + 15) (so + 15) (S.1, y202_0, fs S.2.2 (so + 5) 1 (nI (0 + pf + (cB c) + (cB c) + bd))); S15.2.1)
def gver_f (c : Bool) (so : Nat) (co : Nat) (fo : Nat) (hs : Nat) (pf : Nat) (bd : Nat) (sg : Nat) (pk : Nat) (S : StT) : Int32 × StT := (let r1 := cdec_f c (co) fo (so + 19) (pk) S; (if (r1.1) = 0 then (nI (0), (r1.2.1, r1.2.2.1, S.2.2)) else (let r3 := cdec_f c (co) fo (so + 23) (sg) (r1.2.1, r1.2.2.1, S.2.2); (if (r3.1) = 0 then (nI (0), (r3.2.1, r3.2.2.1, S.2.2)) else (if ((sbel_f c (so + 27) (sg) (cB c) (r3.2.1, r3.2.2.1, S.2.2)).1) ≠ 0 then (let S6 := gcha_f c (so) co fo hs pf bd (sg) (pk) (r3.2.1, r3.2.2.1, S.2.2); (let S7 := sred_f c (so + 27) (so + 14) (so + 8) (2 * (cB c)) (S6.1, S6.2.1, fs S.2.2 (so + 5) 1 (nI (0 + pf + (cB c) + (cB c) + bd))); (let S8 := swrite_f c (so + 27) (so + 10) (0) (so + 14) (S6.1, S7.2.1, fs S.2.2 (so + 5) 1 (nI (0 + pf + (cB c) + (cB c) + bd))); (let S9 := cneg_f c (co) fo (so + 19) (so + 19) (va_up S8.1 (so + 11) (va_cpy (S8.1 (sg)) (S8.1 (so + 11)) (cB c) (0) (cB c)), S8.2.1, fs S.2.2 (so + 5) 1 (nI (0 + pf + (cB c) + (cB c) + bd))); (let S10 := cneg_f c (co) fo (so + 23) (so + 23) (va_up S8.1 (so + 11) (va_cpy (S8.1 (sg)) (S8.1 (so + 11)) (cB c) (0) (cB c)), S9.2.1, fs S.2.2 (so + 5) 1 (nI (0 + pf + (cB c) + (cB c) + bd))); (let S11 := cmul2_f c (co) fo (so + 15) (so + 11) (co + 20) (so + 10) (so + 19) (va_up S8.1 (so + 11) (va_cpy (S8.1 (sg)) (S8.1 (so + 11)) (cB c) (0) (cB c)), S10.2.1, fs S.2.2 (so + 5) 1 (nI (0 + pf + (cB c) + (cB c) + bd))); (let S12 := csum_f c (co) fo (so + 15) (so + 15) (so + 23) (S11.1, S11.2.1, fs S.2.2 (so + 5) 1 (nI (0 + pf + (cB c) + (cB c) + bd))); (let r14 := cisN_f c (co) fo (so + 15) (S11.1, (gver_l202 c so co fo pf bd (S11.1, S12.2.1, S.2.2) (vcN c)), fs S.2.2 (so + 5) 1 (nI (0 + pf + (cB c) + (cB c) + bd))); (r14.1, (S11.1, r14.2.2.1, fs S.2.2 (so + 5) 1 (nI (0 + pf + (cB c) + (cB c) + bd)))))))))))) else (nI (0), (r3.2.1, r3.2.2.1, S.2.2)))))))
set_option maxRecDepth 100000 in
set_option maxHeartbeats 400000 in
theorem c_gver {k : KX} {L : Nat → Option Sh} {S : StT} {n : Nat} {c : Bool} {so : Nat} {co : Nat} {fo : Nat} {hs : Nat} {pf : Nat} {bd : Nat} {sg : Nat} {pk : Nat} (hS : SignAt k L so co fo hs c) (hst : ∀ U, k_F k U → HsS k U) (hpf : S.2.2 (so + 1) 1 = nI pf) (hpf1 : pf ≤ 98) (hbd : S.2.2 (so + 3) 1 = nI bd) (hbd1 : bd ≤ 256) (hsg : L sg = some (sI 114)) (hpk : L pk = some (sI 57)) :
    Cs k yX10_isVerified cX10_isVerified 5 (some .boolean) 6 0 0 [.ref (k_b k + (so)), .ref (k_b k + (sg)), .ref (k_b k + (pk))] (inst k L S.1 S.2.1 S.2.2) n (Pi k L n (gver_f c so co fo hs pf bd sg pk S)) := by
  refine cs_of (by decide) (Nat.le_of_ble_eq_true rfl) ?_
  intro X hXk C Rt hnm
  subst hXk
  have hS9 := hS
  obtain ⟨hS0, hC, hsc, hH, hr1, hr3, hr5, hw7, hw8, hw9, hw10, hw11, hw12, hw13, hw14, hp15, hp19, hp23, hd6⟩ := hS9
  have hC9 := hC
  obtain ⟨hC0, hF, hc1, hc2, hc3, hc4, hc5, hc6, hc7, hc8, hcr, hcd, hct, hff, hdg, hca, hbs, htb⟩ := hC9
  have hsc9 := hsc
  obtain ⟨hsc0, -⟩ := hsc9
  have hr19 := hr1
  obtain ⟨hr1a, hr1b⟩ := hr19
  have hr39 := hr3
  obtain ⟨hr3a, hr3b⟩ := hr39
  have hr59 := hr5
  obtain ⟨hr5a, hr5b⟩ := hr59
  have hp159 := hp15
  obtain ⟨hp150, hp151, hp152, hp153⟩ := hp159
  have hp199 := hp19
  obtain ⟨hp190, hp191, hp192, hp193⟩ := hp199
  have hp239 := hp23
  obtain ⟨hp230, hp231, hp232, hp233⟩ := hp239
  have hbs9 := hbs
  obtain ⟨hbs0, hbs1, hbs2, hbs3⟩ := hbs9
  obtain ⟨hk1, hk2⟩ := cB_le c
  have hvc : vcN c ≤ 3 := by cases c <;> decide
  refine rn_lv [(0, .ref (k_b X.1 + (so))), (1, .ref (k_b X.1 + (sg))), (2, .ref (k_b X.1 + (pk)))] (fun q h => h) ?_
  refine rn_aload_n C dX10_isVerified_0 rfl ?_
  refine rs_get C dX10_isVerified_1 fl_X10_71 hS0 rfl ?_
  refine rn_aload_n C dX10_isVerified_4 rfl ?_
  refine rs_get C dX10_isVerified_5 fl_X10_61 hS0 rfl ?_
  refine rn_aload_n C dX10_isVerified_8 rfl ?_
  refine rs_vz C dX10_isVerified_9 mk_X1_decode lv_X10_159 (c_cdec hC hp19 hpk (by decide) (by omega)) hC0 rfl rfl rfl rfl (by decide) (Nat.le_of_ble_eq_true rfl) (by decide) (by decide) ?_
  rw [show (cdec_f c (co) fo (so + 19) (pk) S).2.2.2 = S.2.2 from (cdec_F _ _ _ _ _ _)]
  generalize hr1 : cdec_f c (co) fo (so + 19) (pk) S = r1
  refine rn_if_eq (tgt := 45) C dX10_isVerified_12 (by decide) (fun hb2 => ?_) (fun hb2 => ?_)
  · skip
    refine rn_iconst (v := nI 0) C dX10_isVerified_45 rfl ?_
    have hret : gver_f c so co fo hs pf bd sg pk S = (nI (0), (r1.2.1, r1.2.2.1, S.2.2)) := by
      subst hr1
      first | (dsimp only [gver_f]; done) | (dsimp only [gver_f]; exact (if_pos hb2)) | exact (if_pos hb2)
    exact rn_zret C Rt dX10_isVerified_46 (by first | rfl | exact rfl) (pi_of hret) (Nat.zero_le _) (Nat.zero_le _)
  · skip
    refine rn_aload_n C dX10_isVerified_15 rfl ?_
    refine rs_get C dX10_isVerified_16 fl_X10_71 hS0 rfl ?_
    refine rn_aload_n C dX10_isVerified_19 rfl ?_
    refine rs_get C dX10_isVerified_20 fl_X10_64 hS0 rfl ?_
    refine rn_aload_n C dX10_isVerified_23 rfl ?_
    refine rs_vz C dX10_isVerified_24 mk_X1_decode lv_X10_159 (c_cdec (S := (r1.2.1, r1.2.2.1, S.2.2)) hC hp23 hsg (by decide) (by omega)) hC0 rfl rfl rfl rfl (by decide) (Nat.le_of_ble_eq_true rfl) (by decide) (by decide) ?_
    rw [show (cdec_f c (co) fo (so + 23) (sg) (r1.2.1, r1.2.2.1, S.2.2)).2.2.2 = S.2.2 from (cdec_F _ _ _ _ _ _)]
    generalize hr3 : cdec_f c (co) fo (so + 23) (sg) (r1.2.1, r1.2.2.1, S.2.2) = r3
    refine rn_if_eq (tgt := 45) C dX10_isVerified_27 (by decide) (fun hb4 => ?_) (fun hb4 => ?_)
    · skip
      refine rn_iconst (v := nI 0) C dX10_isVerified_45 rfl ?_
      have hret : gver_f c so co fo hs pf bd sg pk S = (nI (0), (r3.2.1, r3.2.2.1, S.2.2)) := by
        subst hr3
        subst hr1
        first | (dsimp only [gver_f]; done) | (dsimp only [gver_f]; exact ((if_neg hb2).trans (if_pos hb4))) | exact ((if_neg hb2).trans (if_pos hb4))
      exact rn_zret C Rt dX10_isVerified_46 (by first | rfl | exact rfl) (pi_of hret) (Nat.zero_le _) (Nat.zero_le _)
    · skip
      refine rn_aload_n C dX10_isVerified_30 rfl ?_
      refine rs_get C dX10_isVerified_31 fl_X10_91 hS0 rfl ?_
      refine rn_aload_n C dX10_isVerified_34 rfl ?_
      refine rn_aload_n C dX10_isVerified_35 rfl ?_
      refine rs_get C dX10_isVerified_36 fl_X10_85 hS0 rfl ?_
      refine rs_vz C dX10_isVerified_39 mk_X7_isBelowOrder lv_X10_163 (cp_sbel (S := (r3.2.1, r3.2.2.1, S.2.2)) hsc hsg (by decide) (by omega)) hsc0 rfl rfl rfl rfl (by decide) (Nat.le_of_ble_eq_true rfl) (by decide) (by decide) ?_
      refine rn_if_ne (tgt := 47) C dX10_isVerified_42 (by decide) (fun hb5 => ?_) (fun hb5 => ?_)
      · skip
        refine rn_aload_n C dX10_isVerified_47 rfl ?_
        refine rn_aload_n C dX10_isVerified_48 rfl ?_
        refine rn_aload_n C dX10_isVerified_49 rfl ?_
        refine rs_vv C dX10_isVerified_50 mk_X10_hashChallenge lv_X10_148 (c_gcha (S := (r3.2.1, r3.2.2.1, S.2.2)) hS hst hpf (by omega) hbd (by omega) hsg (by decide) (by omega) hpk) hS0 rfl rfl rfl rfl (by decide) (Nat.le_of_ble_eq_true rfl) (by decide) (by decide) ?_
        rw [show (gcha_f c (so) co fo hs pf bd (sg) (pk) (r3.2.1, r3.2.2.1, S.2.2)).2.2 = fs S.2.2 (so + 5) 1 (nI (0 + pf + (cB c) + (cB c) + bd)) from (gcha_F c (so) co fo hs pf bd (sg) (pk) (r3.2.1, r3.2.2.1, S.2.2))]
        generalize hS6 : gcha_f c (so) co fo hs pf bd (sg) (pk) (r3.2.1, r3.2.2.1, S.2.2) = S6
        refine rn_aload_n C dX10_isVerified_53 rfl ?_
        refine rs_get C dX10_isVerified_54 fl_X10_91 hS0 rfl ?_
        refine rn_aload_n C dX10_isVerified_57 rfl ?_
        refine rs_get C dX10_isVerified_58 fl_X10_51 hS0 rfl ?_
        refine rn_aload_n C dX10_isVerified_61 rfl ?_
        refine rs_get C dX10_isVerified_62 fl_X10_30 hS0 rfl ?_
        refine rn_iconst (v := nI 2) C dX10_isVerified_65 rfl ?_
        refine rn_aload_n C dX10_isVerified_66 rfl ?_
        refine rs_get C dX10_isVerified_67 fl_X10_85 hS0 rfl ?_
        refine rn_imul C dX10_isVerified_70 (pk_mul _ _) ?_
        refine rs_vv C dX10_isVerified_71 mk_X7_reduce lv_X10_140 (c_sred (S := (S6.1, S6.2.1, fs S.2.2 (so + 5) 1 (nI (0 + pf + (cB c) + (cB c) + bd)))) hsc hw14 hw8 (by decide) (by omega) (by omega) (by omega)) hsc0 rfl rfl rfl rfl (by decide) (Nat.le_of_ble_eq_true rfl) (by decide) (by decide) ?_
        rw [show (sred_f c (so + 27) (so + 14) (so + 8) (2 * (cB c)) (S6.1, S6.2.1, fs S.2.2 (so + 5) 1 (nI (0 + pf + (cB c) + (cB c) + bd)))).2.2 = fs S.2.2 (so + 5) 1 (nI (0 + pf + (cB c) + (cB c) + bd)) from (sred_F c (so + 27) (so + 14) (so + 8) (2 * (cB c)) (S6.1, S6.2.1, fs S.2.2 (so + 5) 1 (nI (0 + pf + (cB c) + (cB c) + bd))))]
        rw [show (sred_f c (so + 27) (so + 14) (so + 8) (2 * (cB c)) (S6.1, S6.2.1, fs S.2.2 (so + 5) 1 (nI (0 + pf + (cB c) + (cB c) + bd)))).1 = S6.1 from sred_I c (so + 27) (so + 14) (so + 8) (2 * (cB c)) (S6.1, S6.2.1, fs S.2.2 (so + 5) 1 (nI (0 + pf + (cB c) + (cB c) + bd)))]
        generalize hS7 : sred_f c (so + 27) (so + 14) (so + 8) (2 * (cB c)) (S6.1, S6.2.1, fs S.2.2 (so + 5) 1 (nI (0 + pf + (cB c) + (cB c) + bd))) = S7
        refine rn_aload_n C dX10_isVerified_74 rfl ?_
        refine rs_get C dX10_isVerified_75 fl_X10_91 hS0 rfl ?_
        refine rn_aload_n C dX10_isVerified_78 rfl ?_
        refine rs_get C dX10_isVerified_79 fl_X10_36 hS0 rfl ?_
        refine rn_iconst (v := nI 0) C dX10_isVerified_82 rfl ?_
        refine rn_aload_n C dX10_isVerified_83 rfl ?_
        refine rs_get C dX10_isVerified_84 fl_X10_51 hS0 rfl ?_
        refine rs_vv C dX10_isVerified_87 mk_X7_write lv_X10_144 (c_swrite (S := (S6.1, S7.2.1, fs S.2.2 (so + 5) 1 (nI (0 + pf + (cB c) + (cB c) + bd)))) hsc hw10 (by decide) (by omega) hw14) hsc0 rfl rfl rfl rfl (by decide) (Nat.le_of_ble_eq_true rfl) (by decide) (by decide) ?_
        rw [show (swrite_f c (so + 27) (so + 10) (0) (so + 14) (S6.1, S7.2.1, fs S.2.2 (so + 5) 1 (nI (0 + pf + (cB c) + (cB c) + bd)))).2.2 = fs S.2.2 (so + 5) 1 (nI (0 + pf + (cB c) + (cB c) + bd)) from (swrite_F c (so + 27) (so + 10) (0) (so + 14) (S6.1, S7.2.1, fs S.2.2 (so + 5) 1 (nI (0 + pf + (cB c) + (cB c) + bd))))]
        generalize hS8 : swrite_f c (so + 27) (so + 10) (0) (so + 14) (S6.1, S7.2.1, fs S.2.2 (so + 5) 1 (nI (0 + pf + (cB c) + (cB c) + bd))) = S8
        refine rn_aload_n C dX10_isVerified_90 rfl ?_
        refine rn_aload_n C dX10_isVerified_91 rfl ?_
        refine rs_get C dX10_isVerified_92 fl_X10_85 hS0 rfl ?_
        refine rn_aload_n C dX10_isVerified_95 rfl ?_
        refine rs_get C dX10_isVerified_96 fl_X10_39 hS0 rfl ?_
        refine rn_iconst (v := nI 0) C dX10_isVerified_99 rfl ?_
        refine rn_aload_n C dX10_isVerified_100 rfl ?_
        refine rs_get C dX10_isVerified_101 fl_X10_85 hS0 rfl ?_
        refine rs_copyI C dX10_isVerified_104 lcp_X10_167 hsg hw11 rfl rfl rfl (by omega) (by omega) (by decide) (by decide) (by decide) (by decide) ?_
        refine rn_aload_n C dX10_isVerified_107 rfl ?_
        refine rs_get C dX10_isVerified_108 fl_X10_71 hS0 rfl ?_
        refine rn_aload_n C dX10_isVerified_111 rfl ?_
        refine rs_get C dX10_isVerified_112 fl_X10_61 hS0 rfl ?_
        refine rn_aload_n C dX10_isVerified_115 rfl ?_
        refine rs_get C dX10_isVerified_116 fl_X10_61 hS0 rfl ?_
        refine rs_vv C dX10_isVerified_119 mk_X1_negate lv_X10_173 (c_cneg (S := (va_up S8.1 (so + 11) (va_cpy (S8.1 (sg)) (S8.1 (so + 11)) (cB c) (0) (cB c)), S8.2.1, fs S.2.2 (so + 5) 1 (nI (0 + pf + (cB c) + (cB c) + bd)))) hC hp19 hp19) hC0 rfl rfl rfl rfl (by decide) (Nat.le_of_ble_eq_true rfl) (by decide) (by decide) ?_
        rw [show (cneg_f c (co) fo (so + 19) (so + 19) (va_up S8.1 (so + 11) (va_cpy (S8.1 (sg)) (S8.1 (so + 11)) (cB c) (0) (cB c)), S8.2.1, fs S.2.2 (so + 5) 1 (nI (0 + pf + (cB c) + (cB c) + bd)))).2.2 = fs S.2.2 (so + 5) 1 (nI (0 + pf + (cB c) + (cB c) + bd)) from (cneg_F c (co) fo (so + 19) (so + 19) (va_up S8.1 (so + 11) (va_cpy (S8.1 (sg)) (S8.1 (so + 11)) (cB c) (0) (cB c)), S8.2.1, fs S.2.2 (so + 5) 1 (nI (0 + pf + (cB c) + (cB c) + bd))))]
        rw [show (cneg_f c (co) fo (so + 19) (so + 19) (va_up S8.1 (so + 11) (va_cpy (S8.1 (sg)) (S8.1 (so + 11)) (cB c) (0) (cB c)), S8.2.1, fs S.2.2 (so + 5) 1 (nI (0 + pf + (cB c) + (cB c) + bd)))).1 = va_up S8.1 (so + 11) (va_cpy (S8.1 (sg)) (S8.1 (so + 11)) (cB c) (0) (cB c)) from cneg_I c (co) fo (so + 19) (so + 19) (va_up S8.1 (so + 11) (va_cpy (S8.1 (sg)) (S8.1 (so + 11)) (cB c) (0) (cB c)), S8.2.1, fs S.2.2 (so + 5) 1 (nI (0 + pf + (cB c) + (cB c) + bd)))]
        generalize hS9 : cneg_f c (co) fo (so + 19) (so + 19) (va_up S8.1 (so + 11) (va_cpy (S8.1 (sg)) (S8.1 (so + 11)) (cB c) (0) (cB c)), S8.2.1, fs S.2.2 (so + 5) 1 (nI (0 + pf + (cB c) + (cB c) + bd))) = S9
        refine rn_aload_n C dX10_isVerified_122 rfl ?_
        refine rs_get C dX10_isVerified_123 fl_X10_71 hS0 rfl ?_
        refine rn_aload_n C dX10_isVerified_126 rfl ?_
        refine rs_get C dX10_isVerified_127 fl_X10_64 hS0 rfl ?_
        refine rn_aload_n C dX10_isVerified_130 rfl ?_
        refine rs_get C dX10_isVerified_131 fl_X10_64 hS0 rfl ?_
        refine rs_vv C dX10_isVerified_134 mk_X1_negate lv_X10_173 (c_cneg (S := (va_up S8.1 (so + 11) (va_cpy (S8.1 (sg)) (S8.1 (so + 11)) (cB c) (0) (cB c)), S9.2.1, fs S.2.2 (so + 5) 1 (nI (0 + pf + (cB c) + (cB c) + bd)))) hC hp23 hp23) hC0 rfl rfl rfl rfl (by decide) (Nat.le_of_ble_eq_true rfl) (by decide) (by decide) ?_
        rw [show (cneg_f c (co) fo (so + 23) (so + 23) (va_up S8.1 (so + 11) (va_cpy (S8.1 (sg)) (S8.1 (so + 11)) (cB c) (0) (cB c)), S9.2.1, fs S.2.2 (so + 5) 1 (nI (0 + pf + (cB c) + (cB c) + bd)))).2.2 = fs S.2.2 (so + 5) 1 (nI (0 + pf + (cB c) + (cB c) + bd)) from (cneg_F c (co) fo (so + 23) (so + 23) (va_up S8.1 (so + 11) (va_cpy (S8.1 (sg)) (S8.1 (so + 11)) (cB c) (0) (cB c)), S9.2.1, fs S.2.2 (so + 5) 1 (nI (0 + pf + (cB c) + (cB c) + bd))))]
        rw [show (cneg_f c (co) fo (so + 23) (so + 23) (va_up S8.1 (so + 11) (va_cpy (S8.1 (sg)) (S8.1 (so + 11)) (cB c) (0) (cB c)), S9.2.1, fs S.2.2 (so + 5) 1 (nI (0 + pf + (cB c) + (cB c) + bd)))).1 = va_up S8.1 (so + 11) (va_cpy (S8.1 (sg)) (S8.1 (so + 11)) (cB c) (0) (cB c)) from cneg_I c (co) fo (so + 23) (so + 23) (va_up S8.1 (so + 11) (va_cpy (S8.1 (sg)) (S8.1 (so + 11)) (cB c) (0) (cB c)), S9.2.1, fs S.2.2 (so + 5) 1 (nI (0 + pf + (cB c) + (cB c) + bd)))]
        generalize hS10 : cneg_f c (co) fo (so + 23) (so + 23) (va_up S8.1 (so + 11) (va_cpy (S8.1 (sg)) (S8.1 (so + 11)) (cB c) (0) (cB c)), S9.2.1, fs S.2.2 (so + 5) 1 (nI (0 + pf + (cB c) + (cB c) + bd))) = S10
        refine rn_aload_n C dX10_isVerified_137 rfl ?_
        refine rs_get C dX10_isVerified_138 fl_X10_71 hS0 rfl ?_
        refine rn_aload_n C dX10_isVerified_141 rfl ?_
        refine rs_get C dX10_isVerified_142 fl_X10_57 hS0 rfl ?_
        refine rn_aload_n C dX10_isVerified_145 rfl ?_
        refine rs_get C dX10_isVerified_146 fl_X10_39 hS0 rfl ?_
        refine rn_aload_n C dX10_isVerified_149 rfl ?_
        refine rs_get C dX10_isVerified_150 fl_X10_71 hS0 rfl ?_
        refine rs_get C dX10_isVerified_153 fl_X10_126 hC0 rfl ?_
        refine rn_aload_n C dX10_isVerified_156 rfl ?_
        refine rs_get C dX10_isVerified_157 fl_X10_36 hS0 rfl ?_
        refine rn_aload_n C dX10_isVerified_160 rfl ?_
        refine rs_get C dX10_isVerified_161 fl_X10_61 hS0 rfl ?_
        refine rs_vv C dX10_isVerified_164 mk_X1_multiplyTwo lv_X10_177 (c_cmul2 (S := (va_up S8.1 (so + 11) (va_cpy (S8.1 (sg)) (S8.1 (so + 11)) (cB c) (0) (cB c)), S10.2.1, fs S.2.2 (so + 5) 1 (nI (0 + pf + (cB c) + (cB c) + bd)))) hC hp15 hw11 (by decide) (by decide) (hd6 11 (by decide)) hbs hw10 (by decide) (by decide) (hd6 10 (by decide)) hp19) hC0 rfl rfl rfl rfl (by decide) (Nat.le_of_ble_eq_true rfl) (by decide) (by decide) ?_
        rw [show (cmul2_f c (co) fo (so + 15) (so + 11) (co + 20) (so + 10) (so + 19) (va_up S8.1 (so + 11) (va_cpy (S8.1 (sg)) (S8.1 (so + 11)) (cB c) (0) (cB c)), S10.2.1, fs S.2.2 (so + 5) 1 (nI (0 + pf + (cB c) + (cB c) + bd)))).2.2 = fs S.2.2 (so + 5) 1 (nI (0 + pf + (cB c) + (cB c) + bd)) from (cmul2_F c (co) fo (so + 15) (so + 11) (co + 20) (so + 10) (so + 19) (va_up S8.1 (so + 11) (va_cpy (S8.1 (sg)) (S8.1 (so + 11)) (cB c) (0) (cB c)), S10.2.1, fs S.2.2 (so + 5) 1 (nI (0 + pf + (cB c) + (cB c) + bd))))]
        generalize hS11 : cmul2_f c (co) fo (so + 15) (so + 11) (co + 20) (so + 10) (so + 19) (va_up S8.1 (so + 11) (va_cpy (S8.1 (sg)) (S8.1 (so + 11)) (cB c) (0) (cB c)), S10.2.1, fs S.2.2 (so + 5) 1 (nI (0 + pf + (cB c) + (cB c) + bd))) = S11
        refine rn_aload_n C dX10_isVerified_167 rfl ?_
        refine rs_get C dX10_isVerified_168 fl_X10_71 hS0 rfl ?_
        refine rn_aload_n C dX10_isVerified_171 rfl ?_
        refine rs_get C dX10_isVerified_172 fl_X10_57 hS0 rfl ?_
        refine rn_aload_n C dX10_isVerified_175 rfl ?_
        refine rs_get C dX10_isVerified_176 fl_X10_57 hS0 rfl ?_
        refine rn_aload_n C dX10_isVerified_179 rfl ?_
        refine rs_get C dX10_isVerified_180 fl_X10_64 hS0 rfl ?_
        refine rs_vv C dX10_isVerified_183 mk_X1_sum lv_X10_181 (c_csum (S := (S11.1, S11.2.1, fs S.2.2 (so + 5) 1 (nI (0 + pf + (cB c) + (cB c) + bd)))) hC hp15 hp15 hp23) hC0 rfl rfl rfl rfl (by decide) (Nat.le_of_ble_eq_true rfl) (by decide) (by decide) ?_
        rw [show (csum_f c (co) fo (so + 15) (so + 15) (so + 23) (S11.1, S11.2.1, fs S.2.2 (so + 5) 1 (nI (0 + pf + (cB c) + (cB c) + bd)))).2.2 = fs S.2.2 (so + 5) 1 (nI (0 + pf + (cB c) + (cB c) + bd)) from (csum_F c (co) fo (so + 15) (so + 15) (so + 23) (S11.1, S11.2.1, fs S.2.2 (so + 5) 1 (nI (0 + pf + (cB c) + (cB c) + bd))))]
        rw [show (csum_f c (co) fo (so + 15) (so + 15) (so + 23) (S11.1, S11.2.1, fs S.2.2 (so + 5) 1 (nI (0 + pf + (cB c) + (cB c) + bd)))).1 = S11.1 from csum_I c (co) fo (so + 15) (so + 15) (so + 23) (S11.1, S11.2.1, fs S.2.2 (so + 5) 1 (nI (0 + pf + (cB c) + (cB c) + bd)))]
        generalize hS12 : csum_f c (co) fo (so + 15) (so + 15) (so + 23) (S11.1, S11.2.1, fs S.2.2 (so + 5) 1 (nI (0 + pf + (cB c) + (cB c) + bd))) = S12
        refine rn_aload_n C dX10_isVerified_186 rfl ?_
        refine rs_get C dX10_isVerified_187 fl_X10_67 hS0 rfl ?_
        have K190_13 : Rn X 198 [(0, .ref (k_b X.1 + (so))), (1, .ref (k_b X.1 + (sg))), (2, .ref (k_b X.1 + (pk)))] [.int (nI ((if (bI c) = 0 then 3 else 2)))] (inst X.1 L S11.1 S12.2.1 (fs S.2.2 (so + 5) 1 (nI (0 + pf + (cB c) + (cB c) + bd)))) n 0 0 := by
          rw [show nI ((if (bI c) = 0 then 3 else 2)) = nI (vcN c) from (by cases c <;> rfl)]
          refine rn_istore_n (lv' := [(0, _), (1, _), (2, _), (3, _)]) C dX10_isVerified_198 (by decide) rfl ?_
          refine rn_iconst (v := nI 0) C dX10_isVerified_199 rfl ?_
          refine rn_istore (lv' := [(0, _), (1, _), (2, _), (3, _), (4, _)]) C dX10_isVerified_200 (by decide) rfl ?_
          have lp202 : ∀ i202, i202 ≤ vcN c → Rn X 202 [(0, .ref (k_b X.1 + (so))), (1, .ref (k_b X.1 + (sg))), (2, .ref (k_b X.1 + (pk))), (3, .int (nI (vcN c))), (4, .int (nI (i202)))] [] (inst X.1 L S11.1 (gver_l202 c so co fo pf bd (S11.1, S12.2.1, S.2.2) i202) (fs S.2.2 (so + 5) 1 (nI (0 + pf + (cB c) + (cB c) + bd)))) n 0 0 := by
            refine upto _ _ ?_ (fun i202 hi202 ih202 => ?_)
            · skip
              refine rn_iload C dX10_isVerified_202 rfl ?_
              refine rn_iload_n C dX10_isVerified_204 rfl ?_
              refine rs_ge (tgt := 229) C dX10_isVerified_205 (by decide) rfl rfl (by omega) (by omega) (fun _ => ?_) (fun q => absurd q (by omega))
              refine rn_aload_n C dX10_isVerified_229 rfl ?_
              refine rs_get C dX10_isVerified_230 fl_X10_71 hS0 rfl ?_
              refine rn_aload_n C dX10_isVerified_233 rfl ?_
              refine rs_get C dX10_isVerified_234 fl_X10_57 hS0 rfl ?_
              refine rs_vz C dX10_isVerified_237 mk_X1_isNeutral lv_X10_188 (c_cisN (S := (S11.1, (gver_l202 c so co fo pf bd (S11.1, S12.2.1, S.2.2) (vcN c)), fs S.2.2 (so + 5) 1 (nI (0 + pf + (cB c) + (cB c) + bd)))) hC hp15) hC0 rfl rfl rfl rfl (by decide) (Nat.le_of_ble_eq_true rfl) (by decide) (by decide) ?_
              rw [show (cisN_f c (co) fo (so + 15) (S11.1, (gver_l202 c so co fo pf bd (S11.1, S12.2.1, S.2.2) (vcN c)), fs S.2.2 (so + 5) 1 (nI (0 + pf + (cB c) + (cB c) + bd)))).2.2.2 = fs S.2.2 (so + 5) 1 (nI (0 + pf + (cB c) + (cB c) + bd)) from (cisN_F c (co) fo (so + 15) (S11.1, (gver_l202 c so co fo pf bd (S11.1, S12.2.1, S.2.2) (vcN c)), fs S.2.2 (so + 5) 1 (nI (0 + pf + (cB c) + (cB c) + bd))))]
              rw [show (cisN_f c (co) fo (so + 15) (S11.1, (gver_l202 c so co fo pf bd (S11.1, S12.2.1, S.2.2) (vcN c)), fs S.2.2 (so + 5) 1 (nI (0 + pf + (cB c) + (cB c) + bd)))).2.1 = S11.1 from cisN_I c (co) fo (so + 15) (S11.1, (gver_l202 c so co fo pf bd (S11.1, S12.2.1, S.2.2) (vcN c)), fs S.2.2 (so + 5) 1 (nI (0 + pf + (cB c) + (cB c) + bd)))]
              generalize hr14 : cisN_f c (co) fo (so + 15) (S11.1, (gver_l202 c so co fo pf bd (S11.1, S12.2.1, S.2.2) (vcN c)), fs S.2.2 (so + 5) 1 (nI (0 + pf + (cB c) + (cB c) + bd))) = r14
              have hret : gver_f c so co fo hs pf bd sg pk S = (r14.1, (S11.1, r14.2.2.1, fs S.2.2 (so + 5) 1 (nI (0 + pf + (cB c) + (cB c) + bd)))) := by
                subst hr14
                subst hS12
                subst hS11
                subst hS10
                subst hS9
                subst hS8
                subst hS7
                subst hS6
                subst hr3
                subst hr1
                first | (dsimp only [gver_f]; done) | (dsimp only [gver_f]; exact (((if_neg hb2).trans (if_neg hb4)).trans (if_pos hb5))) | exact (((if_neg hb2).trans (if_neg hb4)).trans (if_pos hb5))
              exact rn_zret C Rt dX10_isVerified_240 (by subst hr14; exact cisN_z _ _ _ _ _) (pi_of hret) (Nat.zero_le _) (Nat.zero_le _)
            · skip
              refine rn_iload C dX10_isVerified_202 rfl ?_
              refine rn_iload_n C dX10_isVerified_204 rfl ?_
              refine rs_ge (tgt := 229) C dX10_isVerified_205 (by decide) rfl rfl (by omega) (by omega) (fun q => absurd q (by omega)) (fun _ => ?_)
              refine rn_aload_n C dX10_isVerified_208 rfl ?_
              refine rs_get C dX10_isVerified_209 fl_X10_71 hS0 rfl ?_
              refine rn_aload_n C dX10_isVerified_212 rfl ?_
              refine rs_get C dX10_isVerified_213 fl_X10_57 hS0 rfl ?_
              refine rn_aload_n C dX10_isVerified_216 rfl ?_
              refine rs_get C dX10_isVerified_217 fl_X10_57 hS0 rfl ?_
              refine rs_vv C dX10_isVerified_220 mk_X1_twice lv_X10_185 (c_ctwice (S := ((S11.1, S12.2.1, S.2.2).1, (gver_l202 c so co fo pf bd (S11.1, S12.2.1, S.2.2) i202), fs S.2.2 (so + 5) 1 (nI (0 + pf + (cB c) + (cB c) + bd)))) hC hp15 hp15) hC0 rfl rfl rfl rfl (by decide) (Nat.le_of_ble_eq_true rfl) (by decide) (by decide) ?_
              rw [show (ctwice_f c (co) fo (so + 15) (so + 15) ((S11.1, S12.2.1, S.2.2).1, (gver_l202 c so co fo pf bd (S11.1, S12.2.1, S.2.2) i202), fs S.2.2 (so + 5) 1 (nI (0 + pf + (cB c) + (cB c) + bd)))).2.2 = fs S.2.2 (so + 5) 1 (nI (0 + pf + (cB c) + (cB c) + bd)) from (ctwice_F c (co) fo (so + 15) (so + 15) ((S11.1, S12.2.1, S.2.2).1, (gver_l202 c so co fo pf bd (S11.1, S12.2.1, S.2.2) i202), fs S.2.2 (so + 5) 1 (nI (0 + pf + (cB c) + (cB c) + bd))))]
              rw [show (ctwice_f c (co) fo (so + 15) (so + 15) ((S11.1, S12.2.1, S.2.2).1, (gver_l202 c so co fo pf bd (S11.1, S12.2.1, S.2.2) i202), fs S.2.2 (so + 5) 1 (nI (0 + pf + (cB c) + (cB c) + bd)))).1 = (S11.1, S12.2.1, S.2.2).1 from ctwice_I c (co) fo (so + 15) (so + 15) ((S11.1, S12.2.1, S.2.2).1, (gver_l202 c so co fo pf bd (S11.1, S12.2.1, S.2.2) i202), fs S.2.2 (so + 5) 1 (nI (0 + pf + (cB c) + (cB c) + bd)))]
              generalize hS15 : ctwice_f c (co) fo (so + 15) (so + 15) ((S11.1, S12.2.1, S.2.2).1, (gver_l202 c so co fo pf bd (S11.1, S12.2.1, S.2.2) i202), fs S.2.2 (so + 5) 1 (nI (0 + pf + (cB c) + (cB c) + bd))) = S15
              refine rn_iinc (lv' := [(0, _), (1, _), (2, _), (3, _), (4, _)]) C dX10_isVerified_223 rfl (nI_inc _) (by decide) rfl ?_
              refine rn_goto (tgt := 202) C dX10_isVerified_226 (by decide) ?_
              have he202 : gver_l202 c so co fo pf bd (S11.1, S12.2.1, S.2.2) (i202 + 1) = S15.2.1 := by
                subst hS15
                first | (dsimp only [gver_l202]; done) | (dsimp only [gver_l202]; exact rfl) | exact rfl
              rw [he202] at ih202
              exact rn_ks [0, 1, 2, 3, 4] ih202 rfl
          exact lp202 0 (Nat.zero_le _)
        refine rn_if_eq (tgt := 197) C dX10_isVerified_190 (by decide) (fun hb13 => ?_) (fun hb13 => ?_)
        · skip
          refine rn_iconst (v := nI 3) C dX10_isVerified_197 rfl ?_
          rw [if_pos hb13] at K190_13
          exact K190_13
        · skip
          refine rn_iconst (v := nI 2) C dX10_isVerified_193 rfl ?_
          refine rn_goto (tgt := 198) C dX10_isVerified_194 (by decide) ?_
          rw [if_neg hb13] at K190_13
          exact K190_13
      · skip
        refine rn_iconst (v := nI 0) C dX10_isVerified_45 rfl ?_
        have hret : gver_f c so co fo hs pf bd sg pk S = (nI (0), (r3.2.1, r3.2.2.1, S.2.2)) := by
          subst hr3
          subst hr1
          first | (dsimp only [gver_f]; done) | (dsimp only [gver_f]; exact (((if_neg hb2).trans (if_neg hb4)).trans (if_neg (fun q => q hb5)))) | exact (((if_neg hb2).trans (if_neg hb4)).trans (if_neg (fun q => q hb5)))
        exact rn_zret C Rt dX10_isVerified_46 (by first | rfl | exact rfl) (pi_of hret) (Nat.zero_le _) (Nat.zero_le _)
def gcho_f (c : Bool) (so : Nat) (co : Nat) (fo : Nat) (hs : Nat) (mr : Nat) (cr : Nat) (mg : Nat) (cx : Nat) (ph : Bool) (s4 : Nat) (s2 : Nat) (S : StT) : StT := (if (bI c) ≠ 0 then (let S2 := rtext_f (so + 1) (0) 8 lb4 (S.1, S.2.1, fs S.2.2 (so + 1) 1 (nI (0))); (let S4 := rapp_f (so + 1) (0 + 8) (nI ((if (bI ph) = 0 then 0 else 1))) (S2.1, S2.2.1, fs S.2.2 (so + 1) 1 (nI (0 + 8))); (let S5 := rapp_f (so + 1) (0 + 8 + 1) (nI (cx)) (S4.1, S4.2.1, fs S.2.2 (so + 1) 1 (nI (0 + 8 + 1))); (let S6 := rpart_f (so + 1) (0 + 8 + 1 + 1) (cr + 1) (0) (cx) (S5.1, S5.2.1, fs S.2.2 (so + 1) 1 (nI (0 + 8 + 1 + 1))); (if (bI ph) = 0 then (let S8 := rpart_f (so + 3) (0) (mr + 1) (0) (mg) (S6.1, S6.2.1, fs (fs S.2.2 (so + 1) 1 (nI (dmN c ph cx))) (so + 3) 1 (nI (0))); (S8.1, S8.2.1, fs (fs S.2.2 (so + 1) 1 (nI (dmN c ph cx))) (so + 3) 1 (nI (if ph then 64 else mg)))) else (let S9 := dig_f c (hs) (so + 3 + 1) (mr) (mg) (64) (S6.1, S6.2.1, fs (fs S.2.2 (so + 1) 1 (nI (dmN c ph cx))) (so + 3) 1 (nI (0))); (S9.1, S9.2.1, fs (fs S.2.2 (so + 1) 1 (nI (dmN c ph cx))) (so + 3) 1 (nI (if ph then 64 else mg))))))))) else (if (bI ph) ≠ 0 then (let S11 := rtext_f (so + 1) (0) 32 lb2 (S.1, S.2.1, fs S.2.2 (so + 1) 1 (nI (0))); (let S12 := rapp_f (so + 1) (0 + 32) (nI (1)) (S11.1, S11.2.1, fs S.2.2 (so + 1) 1 (nI (0 + 32))); (let S13 := rapp_f (so + 1) (0 + 32 + 1) (nI (cx)) (S12.1, S12.2.1, fs S.2.2 (so + 1) 1 (nI (0 + 32 + 1))); (let S14 := rpart_f (so + 1) (0 + 32 + 1 + 1) (cr + 1) (0) (cx) (S13.1, S13.2.1, fs S.2.2 (so + 1) 1 (nI (0 + 32 + 1 + 1))); (let S15 := dig_f c (hs) (so + 3 + 1) (mr) (mg) (64) (S14.1, S14.2.1, fs (fs S.2.2 (so + 1) 1 (nI (dmN c ph cx))) (so + 3) 1 (nI (0))); (S15.1, S15.2.1, fs (fs S.2.2 (so + 1) 1 (nI (dmN c ph cx))) (so + 3) 1 (nI (if ph then 64 else mg)))))))) else (if (nI (cx)) ≤ 0 then (let S17 := rpart_f (so + 3) (0) (mr + 1) (0) (mg) (S.1, S.2.1, fs (fs S.2.2 (so + 1) 1 (nI (dmN c ph cx))) (so + 3) 1 (nI (0))); (S17.1, S17.2.1, fs (fs S.2.2 (so + 1) 1 (nI (dmN c ph cx))) (so + 3) 1 (nI (if ph then 64 else mg)))) else (let S18 := rtext_f (so + 1) (0) 32 lb2 (S.1, S.2.1, fs S.2.2 (so + 1) 1 (nI (0))); (let S19 := rapp_f (so + 1) (0 + 32) (nI (0)) (S18.1, S18.2.1, fs S.2.2 (so + 1) 1 (nI (0 + 32))); (let S20 := rapp_f (so + 1) (0 + 32 + 1) (nI (cx)) (S19.1, S19.2.1, fs S.2.2 (so + 1) 1 (nI (0 + 32 + 1))); (let S21 := rpart_f (so + 1) (0 + 32 + 1 + 1) (cr + 1) (0) (cx) (S20.1, S20.2.1, fs S.2.2 (so + 1) 1 (nI (0 + 32 + 1 + 1))); (let S22 := rpart_f (so + 3) (0) (mr + 1) (0) (mg) (S21.1, S21.2.1, fs (fs S.2.2 (so + 1) 1 (nI (dmN c ph cx))) (so + 3) 1 (nI (0))); (S22.1, S22.2.1, fs (fs S.2.2 (so + 1) 1 (nI (dmN c ph cx))) (so + 3) 1 (nI (if ph then 64 else mg)))))))))))
theorem gcho_F (c : Bool) (so : Nat) (co : Nat) (fo : Nat) (hs : Nat) (mr : Nat) (cr : Nat) (mg : Nat) (cx : Nat) (ph : Bool) (s4 : Nat) (s2 : Nat) (S : StT) : (gcho_f c so co fo hs mr cr mg cx ph s4 s2 S).2.2 = fs (fs S.2.2 (so + 1) 1 (nI (dmN c ph cx))) (so + 3) 1 (nI (if ph then 64 else mg)) := by
  unfold gcho_f; first | rfl | ((repeat' split) <;> rfl) | (dsimp only; (repeat' split) <;> rfl)
set_option maxRecDepth 100000 in
set_option maxHeartbeats 400000 in
theorem c_gcho {k : KX} {L : Nat → Option Sh} {S : StT} {n : Nat} {c : Bool} {so : Nat} {co : Nat} {fo : Nat} {hs : Nat} {mr : Nat} {cr : Nat} {mg : Nat} {cx : Nat} {ph : Bool} {s4 : Nat} {s2 : Nat} (hS : SignAt k L so co fo hs c) (hst : ∀ U, k_F k U → HsS k U) (hmr : RowAt k L mr 256) (hxr : RowAt k L cr 64) (hmg : S.2.2 mr 1 = nI mg) (hmg1 : mg ≤ 256) (hcx : S.2.2 cr 1 = nI cx) (hcx1 : cx ≤ 64) (hmd : ∀ j, j < 34 → mr ≠ so + j) (hcd2 : ∀ j, j < 34 → cr ≠ so + j) (hks4 : StrK k s4 8 lb4) (hks2 : StrK k s2 32 lb2) (hl4 : ∀ U, k_F k U → vk_R RX10 98 "SigEd448" s4 U) (hl2 : ∀ U, k_F k U → vk_R RX10 100 "SigEd25519 no Ed25519 collisions" s2 U) :
    Cs k yX10_choose cX10_choose 4 none 5 0 0 [.ref (k_b k + (so)), .ref (k_b k + (mr)), .ref (k_b k + (cr)), .int (bI ph)] (inst k L S.1 S.2.1 S.2.2) n (Pv k L n (gcho_f c so co fo hs mr cr mg cx ph s4 s2 S)) := by
  refine cs_of (by decide) (Nat.le_of_ble_eq_true rfl) ?_
  intro X hXk C Rt hnm
  subst hXk
  have hS9 := hS
  obtain ⟨hS0, hC, hsc, hH, hr1, hr3, hr5, hw7, hw8, hw9, hw10, hw11, hw12, hw13, hw14, hp15, hp19, hp23, hd6⟩ := hS9
  have hC9 := hC
  obtain ⟨hC0, hF, hc1, hc2, hc3, hc4, hc5, hc6, hc7, hc8, hcr, hcd, hct, hff, hdg, hca, hbs, htb⟩ := hC9
  have hsc9 := hsc
  obtain ⟨hsc0, -⟩ := hsc9
  have hr19 := hr1
  obtain ⟨hr1a, hr1b⟩ := hr19
  have hr39 := hr3
  obtain ⟨hr3a, hr3b⟩ := hr39
  have hr59 := hr5
  obtain ⟨hr5a, hr5b⟩ := hr59
  have hp159 := hp15
  obtain ⟨hp150, hp151, hp152, hp153⟩ := hp159
  have hp199 := hp19
  obtain ⟨hp190, hp191, hp192, hp193⟩ := hp199
  have hp239 := hp23
  obtain ⟨hp230, hp231, hp232, hp233⟩ := hp239
  have hbs9 := hbs
  obtain ⟨hbs0, hbs1, hbs2, hbs3⟩ := hbs9
  obtain ⟨hk1, hk2⟩ := cB_le c
  have hmr9 := hmr
  obtain ⟨hmra, hmrb⟩ := hmr9
  have hxr9 := hxr
  obtain ⟨hxra, hxrb⟩ := hxr9
  have hm1 := hmd 1 (by decide)
  have hm3 := hmd 3 (by decide)
  have hm1' := hcd2 1 (by decide)
  have hm3' := hcd2 3 (by decide)
  refine rn_lv [(0, .ref (k_b X.1 + (so))), (1, .ref (k_b X.1 + (mr))), (2, .ref (k_b X.1 + (cr))), (3, .int (bI ph))] (fun q h => h) ?_
  refine rn_aload_n C dX10_choose_0 rfl ?_
  refine rs_get C dX10_choose_1 fl_X10_16 hS0 rfl ?_
  refine rn_iconst (v := nI 0) C dX10_choose_4 rfl ?_
  refine rs_putF C dX10_choose_5 fp_X10_95 hr1a rfl ?_
  refine rn_aload_n C dX10_choose_8 rfl ?_
  refine rs_get C dX10_choose_9 fl_X10_67 hS0 rfl ?_
  refine rn_if_ne (tgt := 26) C dX10_choose_12 (by decide) (fun hb1 => ?_) (fun hb1 => ?_)
  · skip
    have hdm : dmN c ph cx = 10 + cx := dm_1 (bI_t hb1)
    refine rn_aload_n C dX10_choose_26 rfl ?_
    refine rs_get C dX10_choose_27 fl_X10_16 hS0 rfl ?_
    refine rn_aload_n C dX10_choose_30 rfl ?_
    refine rs_get C dX10_choose_31 fl_X10_67 hS0 rfl ?_
    refine rn_if_eq (tgt := 42) C dX10_choose_34 (by decide) (fun q => absurd q hb1) (fun _ => ?_)
    refine rn_ldcS C dX10_choose_37 (hl4 _ C.2.2.2.2.2.2.1.2.1) ?_
    refine rn_goto (tgt := 44) C dX10_choose_39 (by decide) ?_
    refine rs_vv C dX10_choose_44 mk_X6_appendText lv_X10_102 (c_rtext (S := (S.1, S.2.1, fs S.2.2 (so + 1) 1 (nI (0)))) hr1 (by decide) fs_get (by omega) hks4) hr1a rfl rfl rfl rfl (by decide) (Nat.le_of_ble_eq_true rfl) (by decide) (by decide) ?_
    rw [show (rtext_f (so + 1) (0) 8 lb4 (S.1, S.2.1, fs S.2.2 (so + 1) 1 (nI (0)))).2.2 = fs S.2.2 (so + 1) 1 (nI (0 + 8)) from (rtext_F (so + 1) (0) 8 lb4 (S.1, S.2.1, fs S.2.2 (so + 1) 1 (nI (0)))).trans fs_fs]
    generalize hS2 : rtext_f (so + 1) (0) 8 lb4 (S.1, S.2.1, fs S.2.2 (so + 1) 1 (nI (0))) = S2
    refine rn_aload_n C dX10_choose_47 rfl ?_
    refine rs_get C dX10_choose_48 fl_X10_16 hS0 rfl ?_
    refine rn_iload_n C dX10_choose_51 rfl ?_
    have K52_3 : Rn X 60 [(0, .ref (k_b X.1 + (so))), (1, .ref (k_b X.1 + (mr))), (2, .ref (k_b X.1 + (cr))), (3, .int (bI ph))] [.int (nI ((if (bI ph) = 0 then 0 else 1))), .ref (k_b X.1 + (so + 1))] (inst X.1 L S2.1 S2.2.1 (fs S.2.2 (so + 1) 1 (nI (0 + 8)))) n 0 0 := by
      refine rs_vv C dX10_choose_60 mk_X6_append lv_X10_106 (c_rapp (S := (S2.1, S2.2.1, fs S.2.2 (so + 1) 1 (nI (0 + 8)))) hr1 (by decide) fs_get (by omega)) hr1a rfl rfl rfl rfl (by decide) (Nat.le_of_ble_eq_true rfl) (by decide) (by decide) ?_
      rw [show (rapp_f (so + 1) (0 + 8) (nI ((if (bI ph) = 0 then 0 else 1))) (S2.1, S2.2.1, fs S.2.2 (so + 1) 1 (nI (0 + 8)))).2.2 = fs S.2.2 (so + 1) 1 (nI (0 + 8 + 1)) from (rapp_F (so + 1) (0 + 8) (nI ((if (bI ph) = 0 then 0 else 1))) (S2.1, S2.2.1, fs S.2.2 (so + 1) 1 (nI (0 + 8)))).trans fs_fs]
      generalize hS4 : rapp_f (so + 1) (0 + 8) (nI ((if (bI ph) = 0 then 0 else 1))) (S2.1, S2.2.1, fs S.2.2 (so + 1) 1 (nI (0 + 8))) = S4
      refine rn_aload_n C dX10_choose_63 rfl ?_
      refine rs_get C dX10_choose_64 fl_X10_16 hS0 rfl ?_
      refine rn_aload_n C dX10_choose_67 rfl ?_
      refine rs_getFe C dX10_choose_68 fl_X10_95 hxra rfl ((fs_nob (by omega)).trans hcx) ?_
      refine rs_vv C dX10_choose_71 mk_X6_append lv_X10_106 (c_rapp (S := (S4.1, S4.2.1, fs S.2.2 (so + 1) 1 (nI (0 + 8 + 1)))) hr1 (by decide) fs_get (by omega)) hr1a rfl rfl rfl rfl (by decide) (Nat.le_of_ble_eq_true rfl) (by decide) (by decide) ?_
      rw [show (rapp_f (so + 1) (0 + 8 + 1) (nI (cx)) (S4.1, S4.2.1, fs S.2.2 (so + 1) 1 (nI (0 + 8 + 1)))).2.2 = fs S.2.2 (so + 1) 1 (nI (0 + 8 + 1 + 1)) from (rapp_F (so + 1) (0 + 8 + 1) (nI (cx)) (S4.1, S4.2.1, fs S.2.2 (so + 1) 1 (nI (0 + 8 + 1)))).trans fs_fs]
      generalize hS5 : rapp_f (so + 1) (0 + 8 + 1) (nI (cx)) (S4.1, S4.2.1, fs S.2.2 (so + 1) 1 (nI (0 + 8 + 1))) = S5
      refine rn_aload_n C dX10_choose_74 rfl ?_
      refine rs_get C dX10_choose_75 fl_X10_16 hS0 rfl ?_
      refine rn_aload_n C dX10_choose_78 rfl ?_
      refine rs_get C dX10_choose_79 fl_X10_109 hxra rfl ?_
      refine rn_iconst (v := nI 0) C dX10_choose_82 rfl ?_
      refine rn_aload_n C dX10_choose_83 rfl ?_
      refine rs_getFe C dX10_choose_84 fl_X10_95 hxra rfl ((fs_nob (by omega)).trans hcx) ?_
      refine rs_vv C dX10_choose_87 mk_X6_appendPart lv_X10_112 (c_rpart (S := (S5.1, S5.2.1, fs S.2.2 (so + 1) 1 (nI (0 + 8 + 1 + 1)))) hr1 (by decide) fs_get hxrb (by decide) (by omega) (by omega)) hr1a rfl rfl rfl rfl (by decide) (Nat.le_of_ble_eq_true rfl) (by decide) (by decide) ?_
      rw [show (rpart_f (so + 1) (0 + 8 + 1 + 1) (cr + 1) (0) (cx) (S5.1, S5.2.1, fs S.2.2 (so + 1) 1 (nI (0 + 8 + 1 + 1)))).2.2 = fs S.2.2 (so + 1) 1 (nI (0 + 8 + 1 + 1 + cx)) from (rpart_F (so + 1) (0 + 8 + 1 + 1) (cr + 1) (0) (cx) (S5.1, S5.2.1, fs S.2.2 (so + 1) 1 (nI (0 + 8 + 1 + 1)))).trans fs_fs]
      generalize hS6 : rpart_f (so + 1) (0 + 8 + 1 + 1) (cr + 1) (0) (cx) (S5.1, S5.2.1, fs S.2.2 (so + 1) 1 (nI (0 + 8 + 1 + 1))) = S6
      rw [show inst X.1 L S6.1 S6.2.1 (fs S.2.2 (so + 1) 1 (nI (0 + 8 + 1 + 1 + cx))) = inst X.1 L S6.1 S6.2.1 (fs S.2.2 (so + 1) 1 (nI (dmN c ph cx))) from in_eq (by omega)]
      refine rn_aload_n C dX10_choose_90 rfl ?_
      refine rs_get C dX10_choose_91 fl_X10_20 hS0 rfl ?_
      refine rn_iconst (v := nI 0) C dX10_choose_94 rfl ?_
      refine rs_putF C dX10_choose_95 fp_X10_95 hr3a rfl ?_
      refine rn_iload_n C dX10_choose_98 rfl ?_
      refine rn_if_eq (tgt := 133) C dX10_choose_99 (by decide) (fun hb7 => ?_) (fun hb7 => ?_)
      · skip
        have hpl : (if ph then 64 else mg) = mg := by rw [bI_f hb7]; rfl
        refine rn_aload_n C dX10_choose_133 rfl ?_
        refine rs_get C dX10_choose_134 fl_X10_20 hS0 rfl ?_
        refine rn_aload_n C dX10_choose_137 rfl ?_
        refine rs_get C dX10_choose_138 fl_X10_109 hmra rfl ?_
        refine rn_iconst (v := nI 0) C dX10_choose_141 rfl ?_
        refine rn_aload_n C dX10_choose_142 rfl ?_
        refine rs_getFe C dX10_choose_143 fl_X10_95 hmra rfl ((fs_nob (by omega)).trans ((fs_nob (by omega)).trans hmg)) ?_
        refine rs_vv C dX10_choose_146 mk_X6_appendPart lv_X10_112 (c_rpart (S := (S6.1, S6.2.1, fs (fs S.2.2 (so + 1) 1 (nI (dmN c ph cx))) (so + 3) 1 (nI (0)))) hr3 (by decide) fs_get hmrb (by decide) (by omega) (by omega)) hr3a rfl rfl rfl rfl (by decide) (Nat.le_of_ble_eq_true rfl) (by decide) (by decide) ?_
        rw [show (rpart_f (so + 3) (0) (mr + 1) (0) (mg) (S6.1, S6.2.1, fs (fs S.2.2 (so + 1) 1 (nI (dmN c ph cx))) (so + 3) 1 (nI (0)))).2.2 = fs (fs S.2.2 (so + 1) 1 (nI (dmN c ph cx))) (so + 3) 1 (nI (0 + mg)) from (rpart_F (so + 3) (0) (mr + 1) (0) (mg) (S6.1, S6.2.1, fs (fs S.2.2 (so + 1) 1 (nI (dmN c ph cx))) (so + 3) 1 (nI (0)))).trans fs_fs]
        generalize hS8 : rpart_f (so + 3) (0) (mr + 1) (0) (mg) (S6.1, S6.2.1, fs (fs S.2.2 (so + 1) 1 (nI (dmN c ph cx))) (so + 3) 1 (nI (0))) = S8
        rw [show inst X.1 L S8.1 S8.2.1 (fs (fs S.2.2 (so + 1) 1 (nI (dmN c ph cx))) (so + 3) 1 (nI (0 + mg))) = inst X.1 L S8.1 S8.2.1 (fs (fs S.2.2 (so + 1) 1 (nI (dmN c ph cx))) (so + 3) 1 (nI (if ph then 64 else mg))) from in_eq (by omega)]
        have hret : gcho_f c so co fo hs mr cr mg cx ph s4 s2 S = (S8.1, S8.2.1, fs (fs S.2.2 (so + 1) 1 (nI (dmN c ph cx))) (so + 3) 1 (nI (if ph then 64 else mg))) := by
          subst hS8
          subst hS6
          subst hS5
          subst hS4
          subst hS2
          first | (dsimp only [gcho_f]; done) | (dsimp only [gcho_f]; exact ((if_pos hb1).trans (if_pos hb7))) | exact ((if_pos hb1).trans (if_pos hb7))
        exact rn_vret C Rt dX10_choose_149 (pv_of hret) (Nat.zero_le _) (Nat.zero_le _)
      · skip
        have hpl : (if ph then 64 else mg) = 64 := by rw [bI_t hb7]; rfl
        refine rn_aload_n C dX10_choose_102 rfl ?_
        refine rs_get C dX10_choose_103 fl_X10_75 hS0 rfl ?_
        refine rn_aload_n C dX10_choose_106 rfl ?_
        refine rs_get C dX10_choose_107 fl_X10_20 hS0 rfl ?_
        refine rs_get C dX10_choose_110 fl_X10_109 hr3a rfl ?_
        refine rn_aload_n C dX10_choose_113 rfl ?_
        refine rn_bipush (v := nI 64) C dX10_choose_114 rfl ?_
        refine rs_dig (c := c) (S := (S6.1, S6.2.1, fs (fs S.2.2 (so + 1) 1 (nI (dmN c ph cx))) (so + 3) 1 (nI (0)))) C dX10_choose_116 dg_l10 hst hH hr3b (by decide) (by omega) hmr (by decide) ((fs_nob (by omega)).trans ((fs_nob (by omega)).trans hmg)) (by omega) (by omega) (by cases c <;> decide) (by decide) (Nat.le_of_ble_eq_true rfl) (by decide) (by decide) ?_
        rw [show (dig_f c (hs) (so + 3 + 1) (mr) (mg) (64) (S6.1, S6.2.1, fs (fs S.2.2 (so + 1) 1 (nI (dmN c ph cx))) (so + 3) 1 (nI (0)))).2.2 = fs (fs S.2.2 (so + 1) 1 (nI (dmN c ph cx))) (so + 3) 1 (nI (0)) from dig_F _ _ _ _ _ _ _]
        generalize hS9 : dig_f c (hs) (so + 3 + 1) (mr) (mg) (64) (S6.1, S6.2.1, fs (fs S.2.2 (so + 1) 1 (nI (dmN c ph cx))) (so + 3) 1 (nI (0))) = S9
        refine rn_aload_n C dX10_choose_121 rfl ?_
        refine rs_get C dX10_choose_122 fl_X10_20 hS0 rfl ?_
        refine rn_bipush (v := nI 64) C dX10_choose_125 rfl ?_
        refine rs_putF C dX10_choose_127 fp_X10_95 hr3a rfl ?_
        rw [show va_up (fs (fs S.2.2 (so + 1) 1 (nI (dmN c ph cx))) (so + 3) 1 (nI (0))) (so + 3) (upd ((fs (fs S.2.2 (so + 1) 1 (nI (dmN c ph cx))) (so + 3) 1 (nI (0))) (so + 3)) 1 (nI (64))) = fs (fs S.2.2 (so + 1) 1 (nI (dmN c ph cx))) (so + 3) 1 (nI (64)) from fs_fs]
        refine rn_goto (tgt := 149) C dX10_choose_130 (by decide) ?_
        rw [show inst X.1 L S9.1 S9.2.1 (fs (fs S.2.2 (so + 1) 1 (nI (dmN c ph cx))) (so + 3) 1 (nI (64))) = inst X.1 L S9.1 S9.2.1 (fs (fs S.2.2 (so + 1) 1 (nI (dmN c ph cx))) (so + 3) 1 (nI (if ph then 64 else mg))) from in_eq (by omega)]
        have hret : gcho_f c so co fo hs mr cr mg cx ph s4 s2 S = (S9.1, S9.2.1, fs (fs S.2.2 (so + 1) 1 (nI (dmN c ph cx))) (so + 3) 1 (nI (if ph then 64 else mg))) := by
          subst hS9
          subst hS6
          subst hS5
          subst hS4
          subst hS2
          first | (dsimp only [gcho_f]; done) | (dsimp only [gcho_f]; exact ((if_pos hb1).trans (if_neg hb7))) | exact ((if_pos hb1).trans (if_neg hb7))
        exact rn_vret C Rt dX10_choose_149 (pv_of hret) (Nat.zero_le _) (Nat.zero_le _)
    refine rn_if_eq (tgt := 59) C dX10_choose_52 (by decide) (fun hb3 => ?_) (fun hb3 => ?_)
    · skip
      refine rn_iconst (v := nI 0) C dX10_choose_59 rfl ?_
      rw [if_pos hb3] at K52_3
      exact K52_3
    · skip
      refine rn_iconst (v := nI 1) C dX10_choose_55 rfl ?_
      refine rn_goto (tgt := 60) C dX10_choose_56 (by decide) ?_
      rw [if_neg hb3] at K52_3
      exact K52_3
  · skip
    have hc : c = false := bI_f hb1
    refine rn_iload_n C dX10_choose_15 rfl ?_
    refine rn_if_ne (tgt := 26) C dX10_choose_16 (by decide) (fun hb10 => ?_) (fun hb10 => ?_)
    · skip
      have hdm : dmN c ph cx = 34 + cx := dm_2 hc (bI_t hb10)
      have hpl : (if ph then 64 else mg) = 64 := by rw [bI_t hb10]; rfl
      refine rn_aload_n C dX10_choose_26 rfl ?_
      refine rs_get C dX10_choose_27 fl_X10_16 hS0 rfl ?_
      refine rn_aload_n C dX10_choose_30 rfl ?_
      refine rs_get C dX10_choose_31 fl_X10_67 hS0 rfl ?_
      refine rn_if_eq (tgt := 42) C dX10_choose_34 (by decide) (fun _ => ?_) (fun q => absurd hb1 q)
      refine rn_ldcS C dX10_choose_42 (hl2 _ C.2.2.2.2.2.2.1.2.1) ?_
      refine rs_vv C dX10_choose_44 mk_X6_appendText lv_X10_102 (c_rtext (S := (S.1, S.2.1, fs S.2.2 (so + 1) 1 (nI (0)))) hr1 (by decide) fs_get (by omega) hks2) hr1a rfl rfl rfl rfl (by decide) (Nat.le_of_ble_eq_true rfl) (by decide) (by decide) ?_
      rw [show (rtext_f (so + 1) (0) 32 lb2 (S.1, S.2.1, fs S.2.2 (so + 1) 1 (nI (0)))).2.2 = fs S.2.2 (so + 1) 1 (nI (0 + 32)) from (rtext_F (so + 1) (0) 32 lb2 (S.1, S.2.1, fs S.2.2 (so + 1) 1 (nI (0)))).trans fs_fs]
      generalize hS11 : rtext_f (so + 1) (0) 32 lb2 (S.1, S.2.1, fs S.2.2 (so + 1) 1 (nI (0))) = S11
      refine rn_aload_n C dX10_choose_47 rfl ?_
      refine rs_get C dX10_choose_48 fl_X10_16 hS0 rfl ?_
      refine rn_iload_n C dX10_choose_51 rfl ?_
      refine rn_if_eq (tgt := 59) C dX10_choose_52 (by decide) (fun q => absurd q hb10) (fun _ => ?_)
      refine rn_iconst (v := nI 1) C dX10_choose_55 rfl ?_
      refine rn_goto (tgt := 60) C dX10_choose_56 (by decide) ?_
      refine rs_vv C dX10_choose_60 mk_X6_append lv_X10_106 (c_rapp (S := (S11.1, S11.2.1, fs S.2.2 (so + 1) 1 (nI (0 + 32)))) hr1 (by decide) fs_get (by omega)) hr1a rfl rfl rfl rfl (by decide) (Nat.le_of_ble_eq_true rfl) (by decide) (by decide) ?_
      rw [show (rapp_f (so + 1) (0 + 32) (nI (1)) (S11.1, S11.2.1, fs S.2.2 (so + 1) 1 (nI (0 + 32)))).2.2 = fs S.2.2 (so + 1) 1 (nI (0 + 32 + 1)) from (rapp_F (so + 1) (0 + 32) (nI (1)) (S11.1, S11.2.1, fs S.2.2 (so + 1) 1 (nI (0 + 32)))).trans fs_fs]
      generalize hS12 : rapp_f (so + 1) (0 + 32) (nI (1)) (S11.1, S11.2.1, fs S.2.2 (so + 1) 1 (nI (0 + 32))) = S12
      refine rn_aload_n C dX10_choose_63 rfl ?_
      refine rs_get C dX10_choose_64 fl_X10_16 hS0 rfl ?_
      refine rn_aload_n C dX10_choose_67 rfl ?_
      refine rs_getFe C dX10_choose_68 fl_X10_95 hxra rfl ((fs_nob (by omega)).trans hcx) ?_
      refine rs_vv C dX10_choose_71 mk_X6_append lv_X10_106 (c_rapp (S := (S12.1, S12.2.1, fs S.2.2 (so + 1) 1 (nI (0 + 32 + 1)))) hr1 (by decide) fs_get (by omega)) hr1a rfl rfl rfl rfl (by decide) (Nat.le_of_ble_eq_true rfl) (by decide) (by decide) ?_
      rw [show (rapp_f (so + 1) (0 + 32 + 1) (nI (cx)) (S12.1, S12.2.1, fs S.2.2 (so + 1) 1 (nI (0 + 32 + 1)))).2.2 = fs S.2.2 (so + 1) 1 (nI (0 + 32 + 1 + 1)) from (rapp_F (so + 1) (0 + 32 + 1) (nI (cx)) (S12.1, S12.2.1, fs S.2.2 (so + 1) 1 (nI (0 + 32 + 1)))).trans fs_fs]
      generalize hS13 : rapp_f (so + 1) (0 + 32 + 1) (nI (cx)) (S12.1, S12.2.1, fs S.2.2 (so + 1) 1 (nI (0 + 32 + 1))) = S13
      refine rn_aload_n C dX10_choose_74 rfl ?_
      refine rs_get C dX10_choose_75 fl_X10_16 hS0 rfl ?_
      refine rn_aload_n C dX10_choose_78 rfl ?_
      refine rs_get C dX10_choose_79 fl_X10_109 hxra rfl ?_
      refine rn_iconst (v := nI 0) C dX10_choose_82 rfl ?_
      refine rn_aload_n C dX10_choose_83 rfl ?_
      refine rs_getFe C dX10_choose_84 fl_X10_95 hxra rfl ((fs_nob (by omega)).trans hcx) ?_
      refine rs_vv C dX10_choose_87 mk_X6_appendPart lv_X10_112 (c_rpart (S := (S13.1, S13.2.1, fs S.2.2 (so + 1) 1 (nI (0 + 32 + 1 + 1)))) hr1 (by decide) fs_get hxrb (by decide) (by omega) (by omega)) hr1a rfl rfl rfl rfl (by decide) (Nat.le_of_ble_eq_true rfl) (by decide) (by decide) ?_
      rw [show (rpart_f (so + 1) (0 + 32 + 1 + 1) (cr + 1) (0) (cx) (S13.1, S13.2.1, fs S.2.2 (so + 1) 1 (nI (0 + 32 + 1 + 1)))).2.2 = fs S.2.2 (so + 1) 1 (nI (0 + 32 + 1 + 1 + cx)) from (rpart_F (so + 1) (0 + 32 + 1 + 1) (cr + 1) (0) (cx) (S13.1, S13.2.1, fs S.2.2 (so + 1) 1 (nI (0 + 32 + 1 + 1)))).trans fs_fs]
      generalize hS14 : rpart_f (so + 1) (0 + 32 + 1 + 1) (cr + 1) (0) (cx) (S13.1, S13.2.1, fs S.2.2 (so + 1) 1 (nI (0 + 32 + 1 + 1))) = S14
      rw [show inst X.1 L S14.1 S14.2.1 (fs S.2.2 (so + 1) 1 (nI (0 + 32 + 1 + 1 + cx))) = inst X.1 L S14.1 S14.2.1 (fs S.2.2 (so + 1) 1 (nI (dmN c ph cx))) from in_eq (by omega)]
      refine rn_aload_n C dX10_choose_90 rfl ?_
      refine rs_get C dX10_choose_91 fl_X10_20 hS0 rfl ?_
      refine rn_iconst (v := nI 0) C dX10_choose_94 rfl ?_
      refine rs_putF C dX10_choose_95 fp_X10_95 hr3a rfl ?_
      refine rn_iload_n C dX10_choose_98 rfl ?_
      refine rn_if_eq (tgt := 133) C dX10_choose_99 (by decide) (fun q => absurd q hb10) (fun _ => ?_)
      refine rn_aload_n C dX10_choose_102 rfl ?_
      refine rs_get C dX10_choose_103 fl_X10_75 hS0 rfl ?_
      refine rn_aload_n C dX10_choose_106 rfl ?_
      refine rs_get C dX10_choose_107 fl_X10_20 hS0 rfl ?_
      refine rs_get C dX10_choose_110 fl_X10_109 hr3a rfl ?_
      refine rn_aload_n C dX10_choose_113 rfl ?_
      refine rn_bipush (v := nI 64) C dX10_choose_114 rfl ?_
      refine rs_dig (c := c) (S := (S14.1, S14.2.1, fs (fs S.2.2 (so + 1) 1 (nI (dmN c ph cx))) (so + 3) 1 (nI (0)))) C dX10_choose_116 dg_l10 hst hH hr3b (by decide) (by omega) hmr (by decide) ((fs_nob (by omega)).trans ((fs_nob (by omega)).trans hmg)) (by omega) (by omega) (by cases c <;> decide) (by decide) (Nat.le_of_ble_eq_true rfl) (by decide) (by decide) ?_
      rw [show (dig_f c (hs) (so + 3 + 1) (mr) (mg) (64) (S14.1, S14.2.1, fs (fs S.2.2 (so + 1) 1 (nI (dmN c ph cx))) (so + 3) 1 (nI (0)))).2.2 = fs (fs S.2.2 (so + 1) 1 (nI (dmN c ph cx))) (so + 3) 1 (nI (0)) from dig_F _ _ _ _ _ _ _]
      generalize hS15 : dig_f c (hs) (so + 3 + 1) (mr) (mg) (64) (S14.1, S14.2.1, fs (fs S.2.2 (so + 1) 1 (nI (dmN c ph cx))) (so + 3) 1 (nI (0))) = S15
      refine rn_aload_n C dX10_choose_121 rfl ?_
      refine rs_get C dX10_choose_122 fl_X10_20 hS0 rfl ?_
      refine rn_bipush (v := nI 64) C dX10_choose_125 rfl ?_
      refine rs_putF C dX10_choose_127 fp_X10_95 hr3a rfl ?_
      rw [show va_up (fs (fs S.2.2 (so + 1) 1 (nI (dmN c ph cx))) (so + 3) 1 (nI (0))) (so + 3) (upd ((fs (fs S.2.2 (so + 1) 1 (nI (dmN c ph cx))) (so + 3) 1 (nI (0))) (so + 3)) 1 (nI (64))) = fs (fs S.2.2 (so + 1) 1 (nI (dmN c ph cx))) (so + 3) 1 (nI (64)) from fs_fs]
      refine rn_goto (tgt := 149) C dX10_choose_130 (by decide) ?_
      rw [show inst X.1 L S15.1 S15.2.1 (fs (fs S.2.2 (so + 1) 1 (nI (dmN c ph cx))) (so + 3) 1 (nI (64))) = inst X.1 L S15.1 S15.2.1 (fs (fs S.2.2 (so + 1) 1 (nI (dmN c ph cx))) (so + 3) 1 (nI (if ph then 64 else mg))) from in_eq (by omega)]
      have hret : gcho_f c so co fo hs mr cr mg cx ph s4 s2 S = (S15.1, S15.2.1, fs (fs S.2.2 (so + 1) 1 (nI (dmN c ph cx))) (so + 3) 1 (nI (if ph then 64 else mg))) := by
        subst hS15
        subst hS14
        subst hS13
        subst hS12
        subst hS11
        first | (dsimp only [gcho_f]; done) | (dsimp only [gcho_f]; exact ((if_neg (fun q => q hb1)).trans (if_pos hb10))) | exact ((if_neg (fun q => q hb1)).trans (if_pos hb10))
      exact rn_vret C Rt dX10_choose_149 (pv_of hret) (Nat.zero_le _) (Nat.zero_le _)
    · skip
      have hpf : ph = false := bI_f hb10
      have hpl : (if ph then 64 else mg) = mg := by rw [hpf]; rfl
      refine rn_aload_n C dX10_choose_19 rfl ?_
      refine rs_getFe C dX10_choose_20 fl_X10_95 hxra rfl ((fs_nob (by omega)).trans hcx) ?_
      refine rn_if_le (tgt := 90) C dX10_choose_23 (by decide) (fun hb16 => ?_) (fun hb16 => ?_)
      · skip
        have hdm : dmN c ph cx = 0 := dm_4 hc hpf (Decidable.byContradiction (fun q => nI_nle0 (by omega) q hb16))
        rw [show inst X.1 L S.1 S.2.1 (fs S.2.2 (so + 1) 1 (nI (0))) = inst X.1 L S.1 S.2.1 (fs S.2.2 (so + 1) 1 (nI (dmN c ph cx))) from in_eq (by omega)]
        refine rn_aload_n C dX10_choose_90 rfl ?_
        refine rs_get C dX10_choose_91 fl_X10_20 hS0 rfl ?_
        refine rn_iconst (v := nI 0) C dX10_choose_94 rfl ?_
        refine rs_putF C dX10_choose_95 fp_X10_95 hr3a rfl ?_
        refine rn_iload_n C dX10_choose_98 rfl ?_
        refine rn_if_eq (tgt := 133) C dX10_choose_99 (by decide) (fun _ => ?_) (fun q => absurd hb10 q)
        refine rn_aload_n C dX10_choose_133 rfl ?_
        refine rs_get C dX10_choose_134 fl_X10_20 hS0 rfl ?_
        refine rn_aload_n C dX10_choose_137 rfl ?_
        refine rs_get C dX10_choose_138 fl_X10_109 hmra rfl ?_
        refine rn_iconst (v := nI 0) C dX10_choose_141 rfl ?_
        refine rn_aload_n C dX10_choose_142 rfl ?_
        refine rs_getFe C dX10_choose_143 fl_X10_95 hmra rfl ((fs_nob (by omega)).trans ((fs_nob (by omega)).trans hmg)) ?_
        refine rs_vv C dX10_choose_146 mk_X6_appendPart lv_X10_112 (c_rpart (S := (S.1, S.2.1, fs (fs S.2.2 (so + 1) 1 (nI (dmN c ph cx))) (so + 3) 1 (nI (0)))) hr3 (by decide) fs_get hmrb (by decide) (by omega) (by omega)) hr3a rfl rfl rfl rfl (by decide) (Nat.le_of_ble_eq_true rfl) (by decide) (by decide) ?_
        rw [show (rpart_f (so + 3) (0) (mr + 1) (0) (mg) (S.1, S.2.1, fs (fs S.2.2 (so + 1) 1 (nI (dmN c ph cx))) (so + 3) 1 (nI (0)))).2.2 = fs (fs S.2.2 (so + 1) 1 (nI (dmN c ph cx))) (so + 3) 1 (nI (0 + mg)) from (rpart_F (so + 3) (0) (mr + 1) (0) (mg) (S.1, S.2.1, fs (fs S.2.2 (so + 1) 1 (nI (dmN c ph cx))) (so + 3) 1 (nI (0)))).trans fs_fs]
        generalize hS17 : rpart_f (so + 3) (0) (mr + 1) (0) (mg) (S.1, S.2.1, fs (fs S.2.2 (so + 1) 1 (nI (dmN c ph cx))) (so + 3) 1 (nI (0))) = S17
        rw [show inst X.1 L S17.1 S17.2.1 (fs (fs S.2.2 (so + 1) 1 (nI (dmN c ph cx))) (so + 3) 1 (nI (0 + mg))) = inst X.1 L S17.1 S17.2.1 (fs (fs S.2.2 (so + 1) 1 (nI (dmN c ph cx))) (so + 3) 1 (nI (if ph then 64 else mg))) from in_eq (by omega)]
        have hret : gcho_f c so co fo hs mr cr mg cx ph s4 s2 S = (S17.1, S17.2.1, fs (fs S.2.2 (so + 1) 1 (nI (dmN c ph cx))) (so + 3) 1 (nI (if ph then 64 else mg))) := by
          subst hS17
          first | (dsimp only [gcho_f]; done) | (dsimp only [gcho_f]; exact (((if_neg (fun q => q hb1)).trans (if_neg (fun q => q hb10))).trans (if_pos hb16))) | exact (((if_neg (fun q => q hb1)).trans (if_neg (fun q => q hb10))).trans (if_pos hb16))
        exact rn_vret C Rt dX10_choose_149 (pv_of hret) (Nat.zero_le _) (Nat.zero_le _)
      · skip
        have hdm : dmN c ph cx = 34 + cx := dm_3 hc hpf (fun e => hb16 (nI_le0 e))
        refine rn_aload_n C dX10_choose_26 rfl ?_
        refine rs_get C dX10_choose_27 fl_X10_16 hS0 rfl ?_
        refine rn_aload_n C dX10_choose_30 rfl ?_
        refine rs_get C dX10_choose_31 fl_X10_67 hS0 rfl ?_
        refine rn_if_eq (tgt := 42) C dX10_choose_34 (by decide) (fun _ => ?_) (fun q => absurd hb1 q)
        refine rn_ldcS C dX10_choose_42 (hl2 _ C.2.2.2.2.2.2.1.2.1) ?_
        refine rs_vv C dX10_choose_44 mk_X6_appendText lv_X10_102 (c_rtext (S := (S.1, S.2.1, fs S.2.2 (so + 1) 1 (nI (0)))) hr1 (by decide) fs_get (by omega) hks2) hr1a rfl rfl rfl rfl (by decide) (Nat.le_of_ble_eq_true rfl) (by decide) (by decide) ?_
        rw [show (rtext_f (so + 1) (0) 32 lb2 (S.1, S.2.1, fs S.2.2 (so + 1) 1 (nI (0)))).2.2 = fs S.2.2 (so + 1) 1 (nI (0 + 32)) from (rtext_F (so + 1) (0) 32 lb2 (S.1, S.2.1, fs S.2.2 (so + 1) 1 (nI (0)))).trans fs_fs]
        generalize hS18 : rtext_f (so + 1) (0) 32 lb2 (S.1, S.2.1, fs S.2.2 (so + 1) 1 (nI (0))) = S18
        refine rn_aload_n C dX10_choose_47 rfl ?_
        refine rs_get C dX10_choose_48 fl_X10_16 hS0 rfl ?_
        refine rn_iload_n C dX10_choose_51 rfl ?_
        refine rn_if_eq (tgt := 59) C dX10_choose_52 (by decide) (fun _ => ?_) (fun q => absurd hb10 q)
        refine rn_iconst (v := nI 0) C dX10_choose_59 rfl ?_
        refine rs_vv C dX10_choose_60 mk_X6_append lv_X10_106 (c_rapp (S := (S18.1, S18.2.1, fs S.2.2 (so + 1) 1 (nI (0 + 32)))) hr1 (by decide) fs_get (by omega)) hr1a rfl rfl rfl rfl (by decide) (Nat.le_of_ble_eq_true rfl) (by decide) (by decide) ?_
        rw [show (rapp_f (so + 1) (0 + 32) (nI (0)) (S18.1, S18.2.1, fs S.2.2 (so + 1) 1 (nI (0 + 32)))).2.2 = fs S.2.2 (so + 1) 1 (nI (0 + 32 + 1)) from (rapp_F (so + 1) (0 + 32) (nI (0)) (S18.1, S18.2.1, fs S.2.2 (so + 1) 1 (nI (0 + 32)))).trans fs_fs]
        generalize hS19 : rapp_f (so + 1) (0 + 32) (nI (0)) (S18.1, S18.2.1, fs S.2.2 (so + 1) 1 (nI (0 + 32))) = S19
        refine rn_aload_n C dX10_choose_63 rfl ?_
        refine rs_get C dX10_choose_64 fl_X10_16 hS0 rfl ?_
        refine rn_aload_n C dX10_choose_67 rfl ?_
        refine rs_getFe C dX10_choose_68 fl_X10_95 hxra rfl ((fs_nob (by omega)).trans hcx) ?_
        refine rs_vv C dX10_choose_71 mk_X6_append lv_X10_106 (c_rapp (S := (S19.1, S19.2.1, fs S.2.2 (so + 1) 1 (nI (0 + 32 + 1)))) hr1 (by decide) fs_get (by omega)) hr1a rfl rfl rfl rfl (by decide) (Nat.le_of_ble_eq_true rfl) (by decide) (by decide) ?_
        rw [show (rapp_f (so + 1) (0 + 32 + 1) (nI (cx)) (S19.1, S19.2.1, fs S.2.2 (so + 1) 1 (nI (0 + 32 + 1)))).2.2 = fs S.2.2 (so + 1) 1 (nI (0 + 32 + 1 + 1)) from (rapp_F (so + 1) (0 + 32 + 1) (nI (cx)) (S19.1, S19.2.1, fs S.2.2 (so + 1) 1 (nI (0 + 32 + 1)))).trans fs_fs]
        generalize hS20 : rapp_f (so + 1) (0 + 32 + 1) (nI (cx)) (S19.1, S19.2.1, fs S.2.2 (so + 1) 1 (nI (0 + 32 + 1))) = S20
        refine rn_aload_n C dX10_choose_74 rfl ?_
        refine rs_get C dX10_choose_75 fl_X10_16 hS0 rfl ?_
        refine rn_aload_n C dX10_choose_78 rfl ?_
        refine rs_get C dX10_choose_79 fl_X10_109 hxra rfl ?_
        refine rn_iconst (v := nI 0) C dX10_choose_82 rfl ?_
        refine rn_aload_n C dX10_choose_83 rfl ?_
        refine rs_getFe C dX10_choose_84 fl_X10_95 hxra rfl ((fs_nob (by omega)).trans hcx) ?_
        refine rs_vv C dX10_choose_87 mk_X6_appendPart lv_X10_112 (c_rpart (S := (S20.1, S20.2.1, fs S.2.2 (so + 1) 1 (nI (0 + 32 + 1 + 1)))) hr1 (by decide) fs_get hxrb (by decide) (by omega) (by omega)) hr1a rfl rfl rfl rfl (by decide) (Nat.le_of_ble_eq_true rfl) (by decide) (by decide) ?_
        rw [show (rpart_f (so + 1) (0 + 32 + 1 + 1) (cr + 1) (0) (cx) (S20.1, S20.2.1, fs S.2.2 (so + 1) 1 (nI (0 + 32 + 1 + 1)))).2.2 = fs S.2.2 (so + 1) 1 (nI (0 + 32 + 1 + 1 + cx)) from (rpart_F (so + 1) (0 + 32 + 1 + 1) (cr + 1) (0) (cx) (S20.1, S20.2.1, fs S.2.2 (so + 1) 1 (nI (0 + 32 + 1 + 1)))).trans fs_fs]
        generalize hS21 : rpart_f (so + 1) (0 + 32 + 1 + 1) (cr + 1) (0) (cx) (S20.1, S20.2.1, fs S.2.2 (so + 1) 1 (nI (0 + 32 + 1 + 1))) = S21
        rw [show inst X.1 L S21.1 S21.2.1 (fs S.2.2 (so + 1) 1 (nI (0 + 32 + 1 + 1 + cx))) = inst X.1 L S21.1 S21.2.1 (fs S.2.2 (so + 1) 1 (nI (dmN c ph cx))) from in_eq (by omega)]
        refine rn_aload_n C dX10_choose_90 rfl ?_
        refine rs_get C dX10_choose_91 fl_X10_20 hS0 rfl ?_
        refine rn_iconst (v := nI 0) C dX10_choose_94 rfl ?_
        refine rs_putF C dX10_choose_95 fp_X10_95 hr3a rfl ?_
        refine rn_iload_n C dX10_choose_98 rfl ?_
        refine rn_if_eq (tgt := 133) C dX10_choose_99 (by decide) (fun _ => ?_) (fun q => absurd hb10 q)
        refine rn_aload_n C dX10_choose_133 rfl ?_
        refine rs_get C dX10_choose_134 fl_X10_20 hS0 rfl ?_
        refine rn_aload_n C dX10_choose_137 rfl ?_
        refine rs_get C dX10_choose_138 fl_X10_109 hmra rfl ?_
        refine rn_iconst (v := nI 0) C dX10_choose_141 rfl ?_
        refine rn_aload_n C dX10_choose_142 rfl ?_
        refine rs_getFe C dX10_choose_143 fl_X10_95 hmra rfl ((fs_nob (by omega)).trans ((fs_nob (by omega)).trans hmg)) ?_
        refine rs_vv C dX10_choose_146 mk_X6_appendPart lv_X10_112 (c_rpart (S := (S21.1, S21.2.1, fs (fs S.2.2 (so + 1) 1 (nI (dmN c ph cx))) (so + 3) 1 (nI (0)))) hr3 (by decide) fs_get hmrb (by decide) (by omega) (by omega)) hr3a rfl rfl rfl rfl (by decide) (Nat.le_of_ble_eq_true rfl) (by decide) (by decide) ?_
        rw [show (rpart_f (so + 3) (0) (mr + 1) (0) (mg) (S21.1, S21.2.1, fs (fs S.2.2 (so + 1) 1 (nI (dmN c ph cx))) (so + 3) 1 (nI (0)))).2.2 = fs (fs S.2.2 (so + 1) 1 (nI (dmN c ph cx))) (so + 3) 1 (nI (0 + mg)) from (rpart_F (so + 3) (0) (mr + 1) (0) (mg) (S21.1, S21.2.1, fs (fs S.2.2 (so + 1) 1 (nI (dmN c ph cx))) (so + 3) 1 (nI (0)))).trans fs_fs]
        generalize hS22 : rpart_f (so + 3) (0) (mr + 1) (0) (mg) (S21.1, S21.2.1, fs (fs S.2.2 (so + 1) 1 (nI (dmN c ph cx))) (so + 3) 1 (nI (0))) = S22
        rw [show inst X.1 L S22.1 S22.2.1 (fs (fs S.2.2 (so + 1) 1 (nI (dmN c ph cx))) (so + 3) 1 (nI (0 + mg))) = inst X.1 L S22.1 S22.2.1 (fs (fs S.2.2 (so + 1) 1 (nI (dmN c ph cx))) (so + 3) 1 (nI (if ph then 64 else mg))) from in_eq (by omega)]
        have hret : gcho_f c so co fo hs mr cr mg cx ph s4 s2 S = (S22.1, S22.2.1, fs (fs S.2.2 (so + 1) 1 (nI (dmN c ph cx))) (so + 3) 1 (nI (if ph then 64 else mg))) := by
          subst hS22
          subst hS21
          subst hS20
          subst hS19
          subst hS18
          first | (dsimp only [gcho_f]; done) | (dsimp only [gcho_f]; exact (((if_neg (fun q => q hb1)).trans (if_neg (fun q => q hb10))).trans (if_neg hb16))) | exact (((if_neg (fun q => q hb1)).trans (if_neg (fun q => q hb10))).trans (if_neg hb16))
        exact rn_vret C Rt dX10_choose_149 (pv_of hret) (Nat.zero_le _) (Nat.zero_le _)
