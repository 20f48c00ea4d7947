/-! CurveSuiteModel: what is hashed, by program (dc.py, spec_model8.py) -/
def minB_l3 (mo : Nat) (a : Nat) (at_ : Nat) (q : Nat) (S : StT)  : Nat → (Nat → Nat → Int32)
  | 0 => S.1
  | i3 + 1 => let y3_0 := (minB_l3 mo a at_ q S i3); va_up y3_0 (mo + 11) (upd (y3_0 (mo + 11)) (q + i3) (y3_0 (a) (at_ + i3)))
def minB_f (mo : Nat) (a : Nat) (at_ : Nat) (nn : Nat) (q : Nat) (S : StT) : StT := ((minB_l3 mo a at_ q S nn), S.2.1, fs S.2.2 (mo) 17 (nI (q + nn)))
theorem minB_F (mo : Nat) (a : Nat) (at_ : Nat) (nn : Nat) (q : Nat) (S : StT) : (minB_f mo a at_ nn q S).2.2 = fs S.2.2 (mo) 17 (nI (q + nn)) := by
  unfold minB_f; first | rfl | ((repeat' split) <;> rfl)
set_option maxRecDepth 100000 in
set_option maxHeartbeats 400000 in
theorem c_minB {k : KX} {L : Nat → Option Sh} {S : StT} {n : Nat} {mo : Nat} {a : Nat} {m : Nat} {at_ : Nat} {nn : Nat} {q : Nat} (hM : ModelAt k L mo) (ha : L a = some (sI m)) (hm : m < 2 ^ 31) (hat : at_ + nn ≤ m) (hq : S.2.2 mo 17 = nI q) (hqn : q + nn ≤ 768) :
    Cs k yX12_inBytes cX12_inBytes 5 none 0 0 0 [.ref (k_b k + (mo)), .ref (k_b k + (a)), .int (nI (at_)), .int (nI (nn))] (inst k L S.1 S.2.1 S.2.2) n (Pv k L n (minB_f mo a at_ nn q S)) := by
  refine cs_of (by decide) (Nat.le_of_ble_eq_true rfl) ?_
  intro X hXk C Rt hnm
  subst hXk
  have hM9 := hM
  obtain ⟨hM0, hm1, hm2, hm3, hm4, hm5, hm6, hm7, hm8, hm9, hm10, hm11, hm12, hm13, hm14, hm15, hm16, hm17, hm18, hm19, hm20, hm21, hm22, hm23, hm24, hm25, hm26, hm27⟩ := hM9
  refine rn_lv [(0, .ref (k_b X.1 + (mo))), (1, .ref (k_b X.1 + (a))), (2, .int (nI (at_))), (3, .int (nI (nn)))] (fun q h => h) ?_
  refine rn_iconst (v := nI 0) C dX12_inBytes_0 rfl ?_
  refine rn_istore (lv' := [(0, _), (1, _), (2, _), (3, _), (4, _)]) C dX12_inBytes_1 (by decide) rfl ?_
  have lp3 : ∀ i3, i3 ≤ nn → Rn X 3 [(0, .ref (k_b X.1 + (mo))), (1, .ref (k_b X.1 + (a))), (2, .int (nI (at_))), (3, .int (nI (nn))), (4, .int (nI (i3)))] [] (inst X.1 L (minB_l3 mo a at_ q S i3) S.2.1 (fs S.2.2 (mo) 17 (nI (q + i3)))) n 0 0 := by
    refine upto _ _ ?_ (fun i3 hi3 ih3 => ?_)
    · skip
      refine rn_iload C dX12_inBytes_3 rfl ?_
      refine rn_iload_n C dX12_inBytes_5 rfl ?_
      refine rs_ge (tgt := 40) C dX12_inBytes_6 (by decide) rfl rfl (by omega) (by omega) (fun _ => ?_) (fun q => absurd q (by omega))
      have hret : minB_f mo a at_ nn q S = ((minB_l3 mo a at_ q S nn), S.2.1, fs S.2.2 (mo) 17 (nI (q + nn))) := by
        first | (dsimp only [minB_f]; done) | (dsimp only [minB_f]; exact rfl) | exact rfl
      exact rn_vret C Rt dX12_inBytes_40 (pv_of hret) (Nat.zero_le _) (Nat.zero_le _)
    · skip
      refine rn_iload C dX12_inBytes_3 rfl ?_
      refine rn_iload_n C dX12_inBytes_5 rfl ?_
      refine rs_ge (tgt := 40) C dX12_inBytes_6 (by decide) rfl rfl (by omega) (by omega) (fun q => absurd q (by omega)) (fun _ => ?_)
      refine rn_aload_n C dX12_inBytes_9 rfl ?_
      refine rs_get C dX12_inBytes_10 fl_X12_60 hM0 rfl ?_
      refine rn_aload_n C dX12_inBytes_13 rfl ?_
      refine rs_getFe C dX12_inBytes_14 fl_X12_63 hM0 rfl fs_get ?_
      refine rn_aload_n C dX12_inBytes_17 rfl ?_
      refine rn_iload_n C dX12_inBytes_18 rfl ?_
      refine rn_iload C dX12_inBytes_19 rfl ?_
      refine rn_iadd C dX12_inBytes_21 (nI_add _ _) ?_
      refine rs_iaload C dX12_inBytes_22 ha rfl (by omega) hm ?_
      refine rs_iastore C dX12_inBytes_23 hm11 rfl (by omega) (by decide) ?_
      refine rn_aload_n C dX12_inBytes_24 rfl ?_
      refine rn_dup C dX12_inBytes_25 rfl ?_
      refine rs_getFe C dX12_inBytes_26 fl_X12_63 hM0 rfl fs_get ?_
      refine rn_iconst (v := nI 1) C dX12_inBytes_29 rfl ?_
      refine rn_iadd C dX12_inBytes_30 (nI_add _ _) ?_
      refine rs_putF C dX12_inBytes_31 fp_X12_63 hM0 rfl ?_
      rw [show va_up (fs S.2.2 (mo) 17 (nI (q + i3))) (mo) (upd ((fs S.2.2 (mo) 17 (nI (q + i3))) (mo)) 17 (nI (q + i3 + 1))) = fs S.2.2 (mo) 17 (nI (q + i3 + 1)) from fs_fs]
      refine rn_iinc (lv' := [(0, _), (1, _), (2, _), (3, _), (4, _)]) C dX12_inBytes_34 rfl (nI_inc _) (by decide) rfl ?_
      refine rn_goto (tgt := 3) C dX12_inBytes_37 (by decide) ?_
      have he3 : minB_l3 mo a at_ q S (i3 + 1) = va_up (minB_l3 mo a at_ q S i3) (mo + 11) (upd ((minB_l3 mo a at_ q S i3) (mo + 11)) (q + i3) ((minB_l3 mo a at_ q S i3) (a) (at_ + i3))) := by
        first | (dsimp only [minB_l3]; done) | (dsimp only [minB_l3]; exact rfl) | exact rfl
      rw [he3] at ih3
      exact rn_ks [0, 1, 2, 3, 4] ih3 rfl
  rw [show inst X.1 L S.1 S.2.1 (S.2.2) = inst X.1 L S.1 S.2.1 (fs S.2.2 (mo) 17 (nI (q + 0))) from in_self hq]
  exact lp3 0 (Nat.zero_le _)
def minT_l3 (mo : Nat) (q : Nat) (w : Int64) (S : StT)  : Nat → (Nat → Nat → Int32)
  | 0 => S.1
  | i3 + 1 => let y3_0 := (minT_l3 mo q w S i3); (let I1 := va_up y3_0 (mo + 11) (upd (y3_0 (mo + 11)) (q + i3) (((w >>> ((tx8 (i3)).toInt64 &&& 63)).toInt32) &&& (nI (255)))); I1)
def minT_f (mo : Nat) (q : Nat) (w : Int64) (S : StT) : StT := ((minT_l3 mo q w S 8), S.2.1, fs S.2.2 (mo) 17 (nI (q + 8)))
theorem minT_F (mo : Nat) (q : Nat) (w : Int64) (S : StT) : (minT_f mo q w S).2.2 = fs S.2.2 (mo) 17 (nI (q + 8)) := by
  unfold minT_f; first | rfl | ((repeat' split) <;> rfl)
set_option maxRecDepth 100000 in
set_option maxHeartbeats 400000 in
theorem c_minT {k : KX} {L : Nat → Option Sh} {S : StT} {n : Nat} {mo : Nat} {q : Nat} {w : Int64} (hM : ModelAt k L mo) (hq : S.2.2 mo 17 = nI q) (hqn : q + 8 ≤ 768) :
    Cs k yX12_inText cX12_inText 4 none 0 0 0 [.ref (k_b k + (mo)), .long (w)] (inst k L S.1 S.2.1 S.2.2) n (Pv k L n (minT_f mo q w S)) := by
  refine cs_of (by decide) (Nat.le_of_ble_eq_true rfl) ?_
  intro X hXk C Rt hnm
  subst hXk
  have hM9 := hM
  obtain ⟨hM0, hm1, hm2, hm3, hm4, hm5, hm6, hm7, hm8, hm9, hm10, hm11, hm12, hm13, hm14, hm15, hm16, hm17, hm18, hm19, hm20, hm21, hm22, hm23, hm24, hm25, hm26, hm27⟩ := hM9
  refine rn_lv [(0, .ref (k_b X.1 + (mo))), (1, .long (w))] (fun q h => h) ?_
  refine rn_bipush (v := nI 56) C dX12_inText_0 rfl ?_
  refine rn_istore_n (lv' := [(0, _), (1, _), (3, _)]) C dX12_inText_2 (by decide) rfl ?_
  have lp3 : ∀ i3, i3 ≤ 8 → Rn X 3 [(0, .ref (k_b X.1 + (mo))), (1, .long (w)), (3, .int (tx8 (i3)))] [] (inst X.1 L (minT_l3 mo q w S i3) S.2.1 (fs S.2.2 (mo) 17 (nI (q + i3)))) n 0 0 := by
    refine upto _ _ ?_ (fun i3 hi3 ih3 => ?_)
    · skip
      refine rn_iload_n C dX12_inText_3 rfl ?_
      refine rn_if_lt (tgt := 40) C dX12_inText_4 (by decide) (fun _ => ?_) (fun qq_ => absurd tx8_end qq_)
      have hret : minT_f mo q w S = ((minT_l3 mo q w S 8), S.2.1, fs S.2.2 (mo) 17 (nI (q + 8))) := by
        first | (dsimp only [minT_f]; done) | (dsimp only [minT_f]; exact rfl) | exact rfl
      exact rn_vret C Rt dX12_inText_40 (pv_of hret) (Nat.zero_le _) (Nat.zero_le _)
    · skip
      refine rn_iload_n C dX12_inText_3 rfl ?_
      refine rn_if_lt (tgt := 40) C dX12_inText_4 (by decide) (fun qq_ => absurd qq_ (tx8_pos _ hi3)) (fun _ => ?_)
      refine rn_aload_n C dX12_inText_7 rfl ?_
      refine rs_get C dX12_inText_8 fl_X12_60 hM0 rfl ?_
      refine rn_aload_n C dX12_inText_11 rfl ?_
      refine rs_getFe C dX12_inText_12 fl_X12_63 hM0 rfl fs_get ?_
      refine rn_lload_n C dX12_inText_15 rfl ?_
      refine rn_iload_n C dX12_inText_16 rfl ?_
      refine rn_lshr C dX12_inText_17 rfl ?_
      refine rn_l2i C dX12_inText_18 rfl ?_
      refine rn_sipush (v := nI 255) C dX12_inText_19 rfl ?_
      refine rn_iand C dX12_inText_22 rfl ?_
      refine rs_iastore C dX12_inText_23 hm11 rfl (by omega) (by decide) ?_
      refine rn_aload_n C dX12_inText_24 rfl ?_
      refine rn_dup C dX12_inText_25 rfl ?_
      refine rs_getFe C dX12_inText_26 fl_X12_63 hM0 rfl fs_get ?_
      refine rn_iconst (v := nI 1) C dX12_inText_29 rfl ?_
      refine rn_iadd C dX12_inText_30 (nI_add _ _) ?_
      refine rs_putF C dX12_inText_31 fp_X12_63 hM0 rfl ?_
      rw [show va_up (fs S.2.2 (mo) 17 (nI (q + i3))) (mo) (upd ((fs S.2.2 (mo) 17 (nI (q + i3))) (mo)) 17 (nI (q + i3 + 1))) = fs S.2.2 (mo) 17 (nI (q + i3 + 1)) from fs_fs]
      refine rn_iinc (lv' := [(0, _), (1, _), (3, _)]) C dX12_inText_34 rfl (tx8_inc _ hi3) (by decide) rfl ?_
      refine rn_goto (tgt := 3) C dX12_inText_37 (by decide) ?_
      have he3 : minT_l3 mo q w S (i3 + 1) = (va_up (minT_l3 mo q w S i3) (mo + 11) (upd ((minT_l3 mo q w S i3) (mo + 11)) (q + i3) (((w >>> ((tx8 (i3)).toInt64 &&& 63)).toInt32) &&& (nI (255))))) := by
        first | (dsimp only [minT_l3]; done) | (dsimp only [minT_l3]; exact rfl) | exact rfl
      rw [he3] at ih3
      exact rn_ks [0, 1, 3] ih3 rfl
  rw [show inst X.1 L S.1 S.2.1 (S.2.2) = inst X.1 L S.1 S.2.1 (fs S.2.2 (mo) 17 (nI (q + 0))) from in_self hq]
  exact lp3 0 (Nat.zero_le _)
def mdom_f (c : Bool) (mo : Nat) (ph : Bool) (cx : Nat) (S : StT) : StT := (if (nI (bN c)) ≠ 0 then (let S2 := minT_f (mo) (0) (6010448725434184760) (S.1, S.2.1, fs S.2.2 (mo) 17 (nI (0))); (let I4 := va_up (va_up S2.1 (mo + 11) (upd (S2.1 (mo + 11)) (0 + 8) (nI ((if (bI ph) = 0 then 0 else 1))))) (mo + 11) (upd ((va_up S2.1 (mo + 11) (upd (S2.1 (mo + 11)) (0 + 8) (nI ((if (bI ph) = 0 then 0 else 1))))) (mo + 11)) (0 + 8 + 1) (nI (cx))); (let S5 := minB_f (mo) (mo + 6) (0) (cx) (0 + 8 + 2) (I4, S2.2.1, fs S.2.2 (mo) 17 (nI (0 + 8 + 2))); (S5.1, S5.2.1, fs S.2.2 (mo) 17 (nI (dmN c ph cx)))))) else (if (bI ph) ≠ 0 then (let S7 := minT_f (mo) (0) (6010448725434053941) (S.1, S.2.1, fs S.2.2 (mo) 17 (nI (0))); (let S8 := minT_f (mo) (0 + 8) (3546901840213853540) (S7.1, S7.2.1, fs S.2.2 (mo) 17 (nI (0 + 8))); (let S9 := minT_f (mo) (0 + 8 + 8) (3617856361190155119) (S8.1, S8.2.1, fs S.2.2 (mo) 17 (nI (0 + 8 + 8))); (let S10 := minT_f (mo) (0 + 8 + 8 + 8) (7812735397992033907) (S9.1, S9.2.1, fs S.2.2 (mo) 17 (nI (0 + 8 + 8 + 8))); (let I12 := va_up S10.1 (mo + 11) (upd (S10.1 (mo + 11)) (0 + 8 + 8 + 8 + 8) (nI ((if (bI ph) = 0 then 0 else 1)))); (let S13 := minB_f (mo) (mo + 6) (0) (cx) (0 + 8 + 8 + 8 + 8 + 2) (va_up I12 (mo + 11) (upd (I12 (mo + 11)) (0 + 8 + 8 + 8 + 8 + 1) (nI (cx))), S10.2.1, fs S.2.2 (mo) 17 (nI (0 + 8 + 8 + 8 + 8 + 2))); (S13.1, S13.2.1, fs S.2.2 (mo) 17 (nI (dmN c ph cx))))))))) else (if (nI (cx)) ≠ 0 then (let S15 := minT_f (mo) (0) (6010448725434053941) (S.1, S.2.1, fs S.2.2 (mo) 17 (nI (0))); (let S16 := minT_f (mo) (0 + 8) (3546901840213853540) (S15.1, S15.2.1, fs S.2.2 (mo) 17 (nI (0 + 8))); (let S17 := minT_f (mo) (0 + 8 + 8) (3617856361190155119) (S16.1, S16.2.1, fs S.2.2 (mo) 17 (nI (0 + 8 + 8))); (let S18 := minT_f (mo) (0 + 8 + 8 + 8) (7812735397992033907) (S17.1, S17.2.1, fs S.2.2 (mo) 17 (nI (0 + 8 + 8 + 8))); (let I20 := va_up S18.1 (mo + 11) (upd (S18.1 (mo + 11)) (0 + 8 + 8 + 8 + 8) (nI ((if (bI ph) = 0 then 0 else 1)))); (let S21 := minB_f (mo) (mo + 6) (0) (cx) (0 + 8 + 8 + 8 + 8 + 2) (va_up I20 (mo + 11) (upd (I20 (mo + 11)) (0 + 8 + 8 + 8 + 8 + 1) (nI (cx))), S18.2.1, fs S.2.2 (mo) 17 (nI (0 + 8 + 8 + 8 + 8 + 2))); (S21.1, S21.2.1, fs S.2.2 (mo) 17 (nI (dmN c ph cx))))))))) else (S.1, S.2.1, fs S.2.2 (mo) 17 (nI (dmN c ph cx))))))
theorem mdom_F (c : Bool) (mo : Nat) (ph : Bool) (cx : Nat) (S : StT) : (mdom_f c mo ph cx S).2.2 = fs S.2.2 (mo) 17 (nI (dmN c ph cx)) := by
  unfold mdom_f; first | rfl | ((repeat' split) <;> rfl)
set_option maxRecDepth 100000 in
set_option maxHeartbeats 400000 in
theorem c_mdom {k : KX} {L : Nat → Option Sh} {S : StT} {n : Nat} {c : Bool} {mo : Nat} {ph : Bool} {cx : Nat} (hM : ModelAt k L mo) (hcn : S.2.2 mo 13 = nI (bN c)) (hcx : S.2.2 mo 9 = nI cx) (hcx1 : cx ≤ 64) :
    Cs k yX12_domain cX12_domain 2 none 1 0 0 [.ref (k_b k + (mo)), .int (bI ph)] (inst k L S.1 S.2.1 S.2.2) n (Pv k L n (mdom_f c mo ph cx S)) := by
  refine cs_of (by decide) (Nat.le_of_ble_eq_true rfl) ?_
  intro X hXk C Rt hnm
  subst hXk
  have hM9 := hM
  obtain ⟨hM0, hm1, hm2, hm3, hm4, hm5, hm6, hm7, hm8, hm9, hm10, hm11, hm12, hm13, hm14, hm15, hm16, hm17, hm18, hm19, hm20, hm21, hm22, hm23, hm24, hm25, hm26, hm27⟩ := hM9
  refine rn_lv [(0, .ref (k_b X.1 + (mo))), (1, .int (bI ph))] (fun q h => h) ?_
  refine rn_aload_n C dX12_domain_0 rfl ?_
  refine rn_iconst (v := nI 0) C dX12_domain_1 rfl ?_
  refine rs_putF C dX12_domain_2 fp_X12_63 hM0 rfl ?_
  refine rn_aload_n C dX12_domain_5 rfl ?_
  refine rs_getFe C dX12_domain_6 fl_X12_51 hM0 rfl ((fs_oth (by decide)).trans hcn) ?_
  refine rn_if_ne (tgt := 55) C dX12_domain_9 (by decide) (fun hb1 => ?_) (fun hb1 => ?_)
  · skip
    have hdm : dmN c ph cx = 10 + cx := dm_1 (bN_t hb1)
    refine rn_aload_n C dX12_domain_55 rfl ?_
    refine rn_ldc2 C dX12_domain_56 lc_X12_277 ?_
    refine rs_vv C dX12_domain_59 mk_X12_inText lv_X12_267 (c_minT (S := (S.1, S.2.1, fs S.2.2 (mo) 17 (nI (0)))) hM fs_get (by omega)) hM0 rfl rfl rfl rfl (by decide) (Nat.le_of_ble_eq_true rfl) (by decide) (by decide) ?_
    rw [show (minT_f (mo) (0) (6010448725434184760) (S.1, S.2.1, fs S.2.2 (mo) 17 (nI (0)))).2.2 = fs S.2.2 (mo) 17 (nI (0 + 8)) from (minT_F (mo) (0) (6010448725434184760) (S.1, S.2.1, fs S.2.2 (mo) 17 (nI (0)))).trans fs_fs]
    generalize hS2 : minT_f (mo) (0) (6010448725434184760) (S.1, S.2.1, fs S.2.2 (mo) 17 (nI (0))) = S2
    refine rn_aload_n C dX12_domain_62 rfl ?_
    refine rs_get C dX12_domain_63 fl_X12_60 hM0 rfl ?_
    refine rn_aload_n C dX12_domain_66 rfl ?_
    refine rs_getFe C dX12_domain_67 fl_X12_63 hM0 rfl fs_get ?_
    refine rn_iload_n C dX12_domain_70 rfl ?_
    have K71_3 : Rn X 79 [(0, .ref (k_b X.1 + (mo))), (1, .int (bI ph))] [.int (nI ((if (bI ph) = 0 then 0 else 1))), .int (nI (0 + 8)), .ref (k_b X.1 + (mo + 11))] (inst X.1 L S2.1 S2.2.1 (fs S.2.2 (mo) 17 (nI (0 + 8)))) n 0 0 := by
      refine rs_iastore C dX12_domain_79 hm11 rfl (by omega) (by decide) ?_
      refine rn_aload_n C dX12_domain_80 rfl ?_
      refine rs_get C dX12_domain_81 fl_X12_60 hM0 rfl ?_
      refine rn_aload_n C dX12_domain_84 rfl ?_
      refine rs_getFe C dX12_domain_85 fl_X12_63 hM0 rfl fs_get ?_
      refine rn_iconst (v := nI 1) C dX12_domain_88 rfl ?_
      refine rn_iadd C dX12_domain_89 (nI_add _ _) ?_
      refine rn_aload_n C dX12_domain_90 rfl ?_
      refine rs_getFe C dX12_domain_91 fl_X12_38 hM0 rfl ((fs_oth (by decide)).trans hcx) ?_
      refine rs_iastore C dX12_domain_94 hm11 rfl (by omega) (by decide) ?_
      refine rn_aload_n C dX12_domain_95 rfl ?_
      refine rn_dup C dX12_domain_96 rfl ?_
      refine rs_getFe C dX12_domain_97 fl_X12_63 hM0 rfl fs_get ?_
      refine rn_iconst (v := nI 2) C dX12_domain_100 rfl ?_
      refine rn_iadd C dX12_domain_101 (nI_add _ _) ?_
      refine rs_putF C dX12_domain_102 fp_X12_63 hM0 rfl ?_
      rw [show va_up (fs S.2.2 (mo) 17 (nI (0 + 8))) (mo) (upd ((fs S.2.2 (mo) 17 (nI (0 + 8))) (mo)) 17 (nI (0 + 8 + 2))) = fs S.2.2 (mo) 17 (nI (0 + 8 + 2)) from fs_fs]
      refine rn_aload_n C dX12_domain_105 rfl ?_
      refine rn_aload_n C dX12_domain_106 rfl ?_
      refine rs_get C dX12_domain_107 fl_X12_35 hM0 rfl ?_
      refine rn_iconst (v := nI 0) C dX12_domain_110 rfl ?_
      refine rn_aload_n C dX12_domain_111 rfl ?_
      refine rs_getFe C dX12_domain_112 fl_X12_38 hM0 rfl ((fs_oth (by decide)).trans hcx) ?_
      refine rs_vv C dX12_domain_115 mk_X12_inBytes lv_X12_279 (c_minB (S := ((va_up (va_up S2.1 (mo + 11) (upd (S2.1 (mo + 11)) (0 + 8) (nI ((if (bI ph) = 0 then 0 else 1))))) (mo + 11) (upd ((va_up S2.1 (mo + 11) (upd (S2.1 (mo + 11)) (0 + 8) (nI ((if (bI ph) = 0 then 0 else 1))))) (mo + 11)) (0 + 8 + 1) (nI (cx)))), S2.2.1, fs S.2.2 (mo) 17 (nI (0 + 8 + 2)))) hM hm6 (by decide) (by omega) fs_get (by omega)) hM0 rfl rfl rfl rfl (by decide) (Nat.le_of_ble_eq_true rfl) (by decide) (by decide) ?_
      rw [show (minB_f (mo) (mo + 6) (0) (cx) (0 + 8 + 2) ((va_up (va_up S2.1 (mo + 11) (upd (S2.1 (mo + 11)) (0 + 8) (nI ((if (bI ph) = 0 then 0 else 1))))) (mo + 11) (upd ((va_up S2.1 (mo + 11) (upd (S2.1 (mo + 11)) (0 + 8) (nI ((if (bI ph) = 0 then 0 else 1))))) (mo + 11)) (0 + 8 + 1) (nI (cx)))), S2.2.1, fs S.2.2 (mo) 17 (nI (0 + 8 + 2)))).2.2 = fs S.2.2 (mo) 17 (nI (0 + 8 + 2 + cx)) from (minB_F (mo) (mo + 6) (0) (cx) (0 + 8 + 2) ((va_up (va_up S2.1 (mo + 11) (upd (S2.1 (mo + 11)) (0 + 8) (nI ((if (bI ph) = 0 then 0 else 1))))) (mo + 11) (upd ((va_up S2.1 (mo + 11) (upd (S2.1 (mo + 11)) (0 + 8) (nI ((if (bI ph) = 0 then 0 else 1))))) (mo + 11)) (0 + 8 + 1) (nI (cx)))), S2.2.1, fs S.2.2 (mo) 17 (nI (0 + 8 + 2)))).trans fs_fs]
      generalize hS5 : minB_f (mo) (mo + 6) (0) (cx) (0 + 8 + 2) ((va_up (va_up S2.1 (mo + 11) (upd (S2.1 (mo + 11)) (0 + 8) (nI ((if (bI ph) = 0 then 0 else 1))))) (mo + 11) (upd ((va_up S2.1 (mo + 11) (upd (S2.1 (mo + 11)) (0 + 8) (nI ((if (bI ph) = 0 then 0 else 1))))) (mo + 11)) (0 + 8 + 1) (nI (cx)))), S2.2.1, fs S.2.2 (mo) 17 (nI (0 + 8 + 2))) = S5
      rw [show inst X.1 L S5.1 S5.2.1 (fs S.2.2 (mo) 17 (nI (0 + 8 + 2 + cx))) = inst X.1 L S5.1 S5.2.1 (fs S.2.2 (mo) 17 (nI (dmN c ph cx))) from in_eq (by omega)]
      have hret : mdom_f c mo ph cx S = (S5.1, S5.2.1, fs S.2.2 (mo) 17 (nI (dmN c ph cx))) := by
        subst hS5
        subst hS2
        first | (dsimp only [mdom_f]; done) | (dsimp only [mdom_f]; exact (if_pos hb1)) | exact (if_pos hb1)
      exact rn_vret C Rt dX12_domain_118 (pv_of hret) (Nat.zero_le _) (Nat.zero_le _)
    refine rn_if_eq (tgt := 78) C dX12_domain_71 (by decide) (fun hb3 => ?_) (fun hb3 => ?_)
    · skip
      refine rn_iconst (v := nI 0) C dX12_domain_78 rfl ?_
      rw [if_pos hb3] at K71_3
      exact K71_3
    · skip
      refine rn_iconst (v := nI 1) C dX12_domain_74 rfl ?_
      refine rn_goto (tgt := 79) C dX12_domain_75 (by decide) ?_
      rw [if_neg hb3] at K71_3
      exact K71_3
  · skip
    have hc : c = false := bN_f hb1
    refine rn_iload_n C dX12_domain_12 rfl ?_
    refine rn_if_ne (tgt := 24) C dX12_domain_13 (by decide) (fun hb6 => ?_) (fun hb6 => ?_)
    · skip
      have hdm : dmN c ph cx = 34 + cx := dm_2 hc (bI_t hb6)
      refine rn_aload_n C dX12_domain_24 rfl ?_
      refine rn_ldc2 C dX12_domain_25 lc_X12_265 ?_
      refine rs_vv C dX12_domain_28 mk_X12_inText lv_X12_267 (c_minT (S := (S.1, S.2.1, fs S.2.2 (mo) 17 (nI (0)))) hM fs_get (by omega)) hM0 rfl rfl rfl rfl (by decide) (Nat.le_of_ble_eq_true rfl) (by decide) (by decide) ?_
      rw [show (minT_f (mo) (0) (6010448725434053941) (S.1, S.2.1, fs S.2.2 (mo) 17 (nI (0)))).2.2 = fs S.2.2 (mo) 17 (nI (0 + 8)) from (minT_F (mo) (0) (6010448725434053941) (S.1, S.2.1, fs S.2.2 (mo) 17 (nI (0)))).trans fs_fs]
      generalize hS7 : minT_f (mo) (0) (6010448725434053941) (S.1, S.2.1, fs S.2.2 (mo) 17 (nI (0))) = S7
      refine rn_aload_n C dX12_domain_31 rfl ?_
      refine rn_ldc2 C dX12_domain_32 lc_X12_271 ?_
      refine rs_vv C dX12_domain_35 mk_X12_inText lv_X12_267 (c_minT (S := (S7.1, S7.2.1, fs S.2.2 (mo) 17 (nI (0 + 8)))) hM fs_get (by omega)) hM0 rfl rfl rfl rfl (by decide) (Nat.le_of_ble_eq_true rfl) (by decide) (by decide) ?_
      rw [show (minT_f (mo) (0 + 8) (3546901840213853540) (S7.1, S7.2.1, fs S.2.2 (mo) 17 (nI (0 + 8)))).2.2 = fs S.2.2 (mo) 17 (nI (0 + 8 + 8)) from (minT_F (mo) (0 + 8) (3546901840213853540) (S7.1, S7.2.1, fs S.2.2 (mo) 17 (nI (0 + 8)))).trans fs_fs]
      generalize hS8 : minT_f (mo) (0 + 8) (3546901840213853540) (S7.1, S7.2.1, fs S.2.2 (mo) 17 (nI (0 + 8))) = S8
      refine rn_aload_n C dX12_domain_38 rfl ?_
      refine rn_ldc2 C dX12_domain_39 lc_X12_273 ?_
      refine rs_vv C dX12_domain_42 mk_X12_inText lv_X12_267 (c_minT (S := (S8.1, S8.2.1, fs S.2.2 (mo) 17 (nI (0 + 8 + 8)))) hM fs_get (by omega)) hM0 rfl rfl rfl rfl (by decide) (Nat.le_of_ble_eq_true rfl) (by decide) (by decide) ?_
      rw [show (minT_f (mo) (0 + 8 + 8) (3617856361190155119) (S8.1, S8.2.1, fs S.2.2 (mo) 17 (nI (0 + 8 + 8)))).2.2 = fs S.2.2 (mo) 17 (nI (0 + 8 + 8 + 8)) from (minT_F (mo) (0 + 8 + 8) (3617856361190155119) (S8.1, S8.2.1, fs S.2.2 (mo) 17 (nI (0 + 8 + 8)))).trans fs_fs]
      generalize hS9 : minT_f (mo) (0 + 8 + 8) (3617856361190155119) (S8.1, S8.2.1, fs S.2.2 (mo) 17 (nI (0 + 8 + 8))) = S9
      refine rn_aload_n C dX12_domain_45 rfl ?_
      refine rn_ldc2 C dX12_domain_46 lc_X12_275 ?_
      refine rs_vv C dX12_domain_49 mk_X12_inText lv_X12_267 (c_minT (S := (S9.1, S9.2.1, fs S.2.2 (mo) 17 (nI (0 + 8 + 8 + 8)))) hM fs_get (by omega)) hM0 rfl rfl rfl rfl (by decide) (Nat.le_of_ble_eq_true rfl) (by decide) (by decide) ?_
      rw [show (minT_f (mo) (0 + 8 + 8 + 8) (7812735397992033907) (S9.1, S9.2.1, fs S.2.2 (mo) 17 (nI (0 + 8 + 8 + 8)))).2.2 = fs S.2.2 (mo) 17 (nI (0 + 8 + 8 + 8 + 8)) from (minT_F (mo) (0 + 8 + 8 + 8) (7812735397992033907) (S9.1, S9.2.1, fs S.2.2 (mo) 17 (nI (0 + 8 + 8 + 8)))).trans fs_fs]
      generalize hS10 : minT_f (mo) (0 + 8 + 8 + 8) (7812735397992033907) (S9.1, S9.2.1, fs S.2.2 (mo) 17 (nI (0 + 8 + 8 + 8))) = S10
      refine rn_goto (tgt := 62) C dX12_domain_52 (by decide) ?_
      refine rn_aload_n C dX12_domain_62 rfl ?_
      refine rs_get C dX12_domain_63 fl_X12_60 hM0 rfl ?_
      refine rn_aload_n C dX12_domain_66 rfl ?_
      refine rs_getFe C dX12_domain_67 fl_X12_63 hM0 rfl fs_get ?_
      refine rn_iload_n C dX12_domain_70 rfl ?_
      have K71_11 : Rn X 79 [(0, .ref (k_b X.1 + (mo))), (1, .int (bI ph))] [.int (nI ((if (bI ph) = 0 then 0 else 1))), .int (nI (0 + 8 + 8 + 8 + 8)), .ref (k_b X.1 + (mo + 11))] (inst X.1 L S10.1 S10.2.1 (fs S.2.2 (mo) 17 (nI (0 + 8 + 8 + 8 + 8)))) n 0 0 := by
        refine rs_iastore C dX12_domain_79 hm11 rfl (by omega) (by decide) ?_
        refine rn_aload_n C dX12_domain_80 rfl ?_
        refine rs_get C dX12_domain_81 fl_X12_60 hM0 rfl ?_
        refine rn_aload_n C dX12_domain_84 rfl ?_
        refine rs_getFe C dX12_domain_85 fl_X12_63 hM0 rfl fs_get ?_
        refine rn_iconst (v := nI 1) C dX12_domain_88 rfl ?_
        refine rn_iadd C dX12_domain_89 (nI_add _ _) ?_
        refine rn_aload_n C dX12_domain_90 rfl ?_
        refine rs_getFe C dX12_domain_91 fl_X12_38 hM0 rfl ((fs_oth (by decide)).trans hcx) ?_
        refine rs_iastore C dX12_domain_94 hm11 rfl (by omega) (by decide) ?_
        refine rn_aload_n C dX12_domain_95 rfl ?_
        refine rn_dup C dX12_domain_96 rfl ?_
        refine rs_getFe C dX12_domain_97 fl_X12_63 hM0 rfl fs_get ?_
        refine rn_iconst (v := nI 2) C dX12_domain_100 rfl ?_
        refine rn_iadd C dX12_domain_101 (nI_add _ _) ?_
        refine rs_putF C dX12_domain_102 fp_X12_63 hM0 rfl ?_
        rw [show va_up (fs S.2.2 (mo) 17 (nI (0 + 8 + 8 + 8 + 8))) (mo) (upd ((fs S.2.2 (mo) 17 (nI (0 + 8 + 8 + 8 + 8))) (mo)) 17 (nI (0 + 8 + 8 + 8 + 8 + 2))) = fs S.2.2 (mo) 17 (nI (0 + 8 + 8 + 8 + 8 + 2)) from fs_fs]
        refine rn_aload_n C dX12_domain_105 rfl ?_
        refine rn_aload_n C dX12_domain_106 rfl ?_
        refine rs_get C dX12_domain_107 fl_X12_35 hM0 rfl ?_
        refine rn_iconst (v := nI 0) C dX12_domain_110 rfl ?_
        refine rn_aload_n C dX12_domain_111 rfl ?_
        refine rs_getFe C dX12_domain_112 fl_X12_38 hM0 rfl ((fs_oth (by decide)).trans hcx) ?_
        refine rs_vv C dX12_domain_115 mk_X12_inBytes lv_X12_279 (c_minB (S := (va_up (va_up S10.1 (mo + 11) (upd (S10.1 (mo + 11)) (0 + 8 + 8 + 8 + 8) (nI ((if (bI ph) = 0 then 0 else 1))))) (mo + 11) (upd ((va_up S10.1 (mo + 11) (upd (S10.1 (mo + 11)) (0 + 8 + 8 + 8 + 8) (nI ((if (bI ph) = 0 then 0 else 1))))) (mo + 11)) (0 + 8 + 8 + 8 + 8 + 1) (nI (cx))), S10.2.1, fs S.2.2 (mo) 17 (nI (0 + 8 + 8 + 8 + 8 + 2)))) hM hm6 (by decide) (by omega) fs_get (by omega)) hM0 rfl rfl rfl rfl (by decide) (Nat.le_of_ble_eq_true rfl) (by decide) (by decide) ?_
        rw [show (minB_f (mo) (mo + 6) (0) (cx) (0 + 8 + 8 + 8 + 8 + 2) (va_up (va_up S10.1 (mo + 11) (upd (S10.1 (mo + 11)) (0 + 8 + 8 + 8 + 8) (nI ((if (bI ph) = 0 then 0 else 1))))) (mo + 11) (upd ((va_up S10.1 (mo + 11) (upd (S10.1 (mo + 11)) (0 + 8 + 8 + 8 + 8) (nI ((if (bI ph) = 0 then 0 else 1))))) (mo + 11)) (0 + 8 + 8 + 8 + 8 + 1) (nI (cx))), S10.2.1, fs S.2.2 (mo) 17 (nI (0 + 8 + 8 + 8 + 8 + 2)))).2.2 = fs S.2.2 (mo) 17 (nI (0 + 8 + 8 + 8 + 8 + 2 + cx)) from (minB_F (mo) (mo + 6) (0) (cx) (0 + 8 + 8 + 8 + 8 + 2) (va_up (va_up S10.1 (mo + 11) (upd (S10.1 (mo + 11)) (0 + 8 + 8 + 8 + 8) (nI ((if (bI ph) = 0 then 0 else 1))))) (mo + 11) (upd ((va_up S10.1 (mo + 11) (upd (S10.1 (mo + 11)) (0 + 8 + 8 + 8 + 8) (nI ((if (bI ph) = 0 then 0 else 1))))) (mo + 11)) (0 + 8 + 8 + 8 + 8 + 1) (nI (cx))), S10.2.1, fs S.2.2 (mo) 17 (nI (0 + 8 + 8 + 8 + 8 + 2)))).trans fs_fs]
        generalize hS13 : minB_f (mo) (mo + 6) (0) (cx) (0 + 8 + 8 + 8 + 8 + 2) (va_up (va_up S10.1 (mo + 11) (upd (S10.1 (mo + 11)) (0 + 8 + 8 + 8 + 8) (nI ((if (bI ph) = 0 then 0 else 1))))) (mo + 11) (upd ((va_up S10.1 (mo + 11) (upd (S10.1 (mo + 11)) (0 + 8 + 8 + 8 + 8) (nI ((if (bI ph) = 0 then 0 else 1))))) (mo + 11)) (0 + 8 + 8 + 8 + 8 + 1) (nI (cx))), S10.2.1, fs S.2.2 (mo) 17 (nI (0 + 8 + 8 + 8 + 8 + 2))) = S13
        rw [show inst X.1 L S13.1 S13.2.1 (fs S.2.2 (mo) 17 (nI (0 + 8 + 8 + 8 + 8 + 2 + cx))) = inst X.1 L S13.1 S13.2.1 (fs S.2.2 (mo) 17 (nI (dmN c ph cx))) from in_eq (by omega)]
        have hret : mdom_f c mo ph cx S = (S13.1, S13.2.1, fs S.2.2 (mo) 17 (nI (dmN c ph cx))) := by
          subst hS13
          subst hS10
          subst hS9
          subst hS8
          subst hS7
          first | (dsimp only [mdom_f]; done) | (dsimp only [mdom_f]; exact ((if_neg (fun q => q hb1)).trans (if_pos hb6))) | exact ((if_neg (fun q => q hb1)).trans (if_pos hb6))
        exact rn_vret C Rt dX12_domain_118 (pv_of hret) (Nat.zero_le _) (Nat.zero_le _)
      refine rn_if_eq (tgt := 78) C dX12_domain_71 (by decide) (fun hb11 => ?_) (fun hb11 => ?_)
      · skip
        refine rn_iconst (v := nI 0) C dX12_domain_78 rfl ?_
        rw [if_pos hb11] at K71_11
        exact K71_11
      · skip
        refine rn_iconst (v := nI 1) C dX12_domain_74 rfl ?_
        refine rn_goto (tgt := 79) C dX12_domain_75 (by decide) ?_
        rw [if_neg hb11] at K71_11
        exact K71_11
    · skip
      have hpf : ph = false := bI_f hb6
      refine rn_aload_n C dX12_domain_16 rfl ?_
      refine rs_getFe C dX12_domain_17 fl_X12_38 hM0 rfl ((fs_oth (by decide)).trans hcx) ?_
      refine rn_if_ne (tgt := 24) C dX12_domain_20 (by decide) (fun hb14 => ?_) (fun hb14 => ?_)
      · skip
        have hdm : dmN c ph cx = 34 + cx := dm_3 hc hpf (fun e => hb14 (by rw [e]; rfl))
        refine rn_aload_n C dX12_domain_24 rfl ?_
        refine rn_ldc2 C dX12_domain_25 lc_X12_265 ?_
        refine rs_vv C dX12_domain_28 mk_X12_inText lv_X12_267 (c_minT (S := (S.1, S.2.1, fs S.2.2 (mo) 17 (nI (0)))) hM fs_get (by omega)) hM0 rfl rfl rfl rfl (by decide) (Nat.le_of_ble_eq_true rfl) (by decide) (by decide) ?_
        rw [show (minT_f (mo) (0) (6010448725434053941) (S.1, S.2.1, fs S.2.2 (mo) 17 (nI (0)))).2.2 = fs S.2.2 (mo) 17 (nI (0 + 8)) from (minT_F (mo) (0) (6010448725434053941) (S.1, S.2.1, fs S.2.2 (mo) 17 (nI (0)))).trans fs_fs]
        generalize hS15 : minT_f (mo) (0) (6010448725434053941) (S.1, S.2.1, fs S.2.2 (mo) 17 (nI (0))) = S15
        refine rn_aload_n C dX12_domain_31 rfl ?_
        refine rn_ldc2 C dX12_domain_32 lc_X12_271 ?_
        refine rs_vv C dX12_domain_35 mk_X12_inText lv_X12_267 (c_minT (S := (S15.1, S15.2.1, fs S.2.2 (mo) 17 (nI (0 + 8)))) hM fs_get (by omega)) hM0 rfl rfl rfl rfl (by decide) (Nat.le_of_ble_eq_true rfl) (by decide) (by decide) ?_
        rw [show (minT_f (mo) (0 + 8) (3546901840213853540) (S15.1, S15.2.1, fs S.2.2 (mo) 17 (nI (0 + 8)))).2.2 = fs S.2.2 (mo) 17 (nI (0 + 8 + 8)) from (minT_F (mo) (0 + 8) (3546901840213853540) (S15.1, S15.2.1, fs S.2.2 (mo) 17 (nI (0 + 8)))).trans fs_fs]
        generalize hS16 : minT_f (mo) (0 + 8) (3546901840213853540) (S15.1, S15.2.1, fs S.2.2 (mo) 17 (nI (0 + 8))) = S16
        refine rn_aload_n C dX12_domain_38 rfl ?_
        refine rn_ldc2 C dX12_domain_39 lc_X12_273 ?_
        refine rs_vv C dX12_domain_42 mk_X12_inText lv_X12_267 (c_minT (S := (S16.1, S16.2.1, fs S.2.2 (mo) 17 (nI (0 + 8 + 8)))) hM fs_get (by omega)) hM0 rfl rfl rfl rfl (by decide) (Nat.le_of_ble_eq_true rfl) (by decide) (by decide) ?_
        rw [show (minT_f (mo) (0 + 8 + 8) (3617856361190155119) (S16.1, S16.2.1, fs S.2.2 (mo) 17 (nI (0 + 8 + 8)))).2.2 = fs S.2.2 (mo) 17 (nI (0 + 8 + 8 + 8)) from (minT_F (mo) (0 + 8 + 8) (3617856361190155119) (S16.1, S16.2.1, fs S.2.2 (mo) 17 (nI (0 + 8 + 8)))).trans fs_fs]
        generalize hS17 : minT_f (mo) (0 + 8 + 8) (3617856361190155119) (S16.1, S16.2.1, fs S.2.2 (mo) 17 (nI (0 + 8 + 8))) = S17
        refine rn_aload_n C dX12_domain_45 rfl ?_
        refine rn_ldc2 C dX12_domain_46 lc_X12_275 ?_
        refine rs_vv C dX12_domain_49 mk_X12_inText lv_X12_267 (c_minT (S := (S17.1, S17.2.1, fs S.2.2 (mo) 17 (nI (0 + 8 + 8 + 8)))) hM fs_get (by omega)) hM0 rfl rfl rfl rfl (by decide) (Nat.le_of_ble_eq_true rfl) (by decide) (by decide) ?_
        rw [show (minT_f (mo) (0 + 8 + 8 + 8) (7812735397992033907) (S17.1, S17.2.1, fs S.2.2 (mo) 17 (nI (0 + 8 + 8 + 8)))).2.2 = fs S.2.2 (mo) 17 (nI (0 + 8 + 8 + 8 + 8)) from (minT_F (mo) (0 + 8 + 8 + 8) (7812735397992033907) (S17.1, S17.2.1, fs S.2.2 (mo) 17 (nI (0 + 8 + 8 + 8)))).trans fs_fs]
        generalize hS18 : minT_f (mo) (0 + 8 + 8 + 8) (7812735397992033907) (S17.1, S17.2.1, fs S.2.2 (mo) 17 (nI (0 + 8 + 8 + 8))) = S18
        refine rn_goto (tgt := 62) C dX12_domain_52 (by decide) ?_
        refine rn_aload_n C dX12_domain_62 rfl ?_
        refine rs_get C dX12_domain_63 fl_X12_60 hM0 rfl ?_
        refine rn_aload_n C dX12_domain_66 rfl ?_
        refine rs_getFe C dX12_domain_67 fl_X12_63 hM0 rfl fs_get ?_
        refine rn_iload_n C dX12_domain_70 rfl ?_
        have K71_19 : Rn X 79 [(0, .ref (k_b X.1 + (mo))), (1, .int (bI ph))] [.int (nI ((if (bI ph) = 0 then 0 else 1))), .int (nI (0 + 8 + 8 + 8 + 8)), .ref (k_b X.1 + (mo + 11))] (inst X.1 L S18.1 S18.2.1 (fs S.2.2 (mo) 17 (nI (0 + 8 + 8 + 8 + 8)))) n 0 0 := by
          refine rs_iastore C dX12_domain_79 hm11 rfl (by omega) (by decide) ?_
          refine rn_aload_n C dX12_domain_80 rfl ?_
          refine rs_get C dX12_domain_81 fl_X12_60 hM0 rfl ?_
          refine rn_aload_n C dX12_domain_84 rfl ?_
          refine rs_getFe C dX12_domain_85 fl_X12_63 hM0 rfl fs_get ?_
          refine rn_iconst (v := nI 1) C dX12_domain_88 rfl ?_
          refine rn_iadd C dX12_domain_89 (nI_add _ _) ?_
          refine rn_aload_n C dX12_domain_90 rfl ?_
          refine rs_getFe C dX12_domain_91 fl_X12_38 hM0 rfl ((fs_oth (by decide)).trans hcx) ?_
          refine rs_iastore C dX12_domain_94 hm11 rfl (by omega) (by decide) ?_
          refine rn_aload_n C dX12_domain_95 rfl ?_
          refine rn_dup C dX12_domain_96 rfl ?_
          refine rs_getFe C dX12_domain_97 fl_X12_63 hM0 rfl fs_get ?_
          refine rn_iconst (v := nI 2) C dX12_domain_100 rfl ?_
          refine rn_iadd C dX12_domain_101 (nI_add _ _) ?_
          refine rs_putF C dX12_domain_102 fp_X12_63 hM0 rfl ?_
          rw [show va_up (fs S.2.2 (mo) 17 (nI (0 + 8 + 8 + 8 + 8))) (mo) (upd ((fs S.2.2 (mo) 17 (nI (0 + 8 + 8 + 8 + 8))) (mo)) 17 (nI (0 + 8 + 8 + 8 + 8 + 2))) = fs S.2.2 (mo) 17 (nI (0 + 8 + 8 + 8 + 8 + 2)) from fs_fs]
          refine rn_aload_n C dX12_domain_105 rfl ?_
          refine rn_aload_n C dX12_domain_106 rfl ?_
          refine rs_get C dX12_domain_107 fl_X12_35 hM0 rfl ?_
          refine rn_iconst (v := nI 0) C dX12_domain_110 rfl ?_
          refine rn_aload_n C dX12_domain_111 rfl ?_
          refine rs_getFe C dX12_domain_112 fl_X12_38 hM0 rfl ((fs_oth (by decide)).trans hcx) ?_
          refine rs_vv C dX12_domain_115 mk_X12_inBytes lv_X12_279 (c_minB (S := (va_up (va_up S18.1 (mo + 11) (upd (S18.1 (mo + 11)) (0 + 8 + 8 + 8 + 8) (nI ((if (bI ph) = 0 then 0 else 1))))) (mo + 11) (upd ((va_up S18.1 (mo + 11) (upd (S18.1 (mo + 11)) (0 + 8 + 8 + 8 + 8) (nI ((if (bI ph) = 0 then 0 else 1))))) (mo + 11)) (0 + 8 + 8 + 8 + 8 + 1) (nI (cx))), S18.2.1, fs S.2.2 (mo) 17 (nI (0 + 8 + 8 + 8 + 8 + 2)))) hM hm6 (by decide) (by omega) fs_get (by omega)) hM0 rfl rfl rfl rfl (by decide) (Nat.le_of_ble_eq_true rfl) (by decide) (by decide) ?_
          rw [show (minB_f (mo) (mo + 6) (0) (cx) (0 + 8 + 8 + 8 + 8 + 2) (va_up (va_up S18.1 (mo + 11) (upd (S18.1 (mo + 11)) (0 + 8 + 8 + 8 + 8) (nI ((if (bI ph) = 0 then 0 else 1))))) (mo + 11) (upd ((va_up S18.1 (mo + 11) (upd (S18.1 (mo + 11)) (0 + 8 + 8 + 8 + 8) (nI ((if (bI ph) = 0 then 0 else 1))))) (mo + 11)) (0 + 8 + 8 + 8 + 8 + 1) (nI (cx))), S18.2.1, fs S.2.2 (mo) 17 (nI (0 + 8 + 8 + 8 + 8 + 2)))).2.2 = fs S.2.2 (mo) 17 (nI (0 + 8 + 8 + 8 + 8 + 2 + cx)) from (minB_F (mo) (mo + 6) (0) (cx) (0 + 8 + 8 + 8 + 8 + 2) (va_up (va_up S18.1 (mo + 11) (upd (S18.1 (mo + 11)) (0 + 8 + 8 + 8 + 8) (nI ((if (bI ph) = 0 then 0 else 1))))) (mo + 11) (upd ((va_up S18.1 (mo + 11) (upd (S18.1 (mo + 11)) (0 + 8 + 8 + 8 + 8) (nI ((if (bI ph) = 0 then 0 else 1))))) (mo + 11)) (0 + 8 + 8 + 8 + 8 + 1) (nI (cx))), S18.2.1, fs S.2.2 (mo) 17 (nI (0 + 8 + 8 + 8 + 8 + 2)))).trans fs_fs]
          generalize hS21 : minB_f (mo) (mo + 6) (0) (cx) (0 + 8 + 8 + 8 + 8 + 2) (va_up (va_up S18.1 (mo + 11) (upd (S18.1 (mo + 11)) (0 + 8 + 8 + 8 + 8) (nI ((if (bI ph) = 0 then 0 else 1))))) (mo + 11) (upd ((va_up S18.1 (mo + 11) (upd (S18.1 (mo + 11)) (0 + 8 + 8 + 8 + 8) (nI ((if (bI ph) = 0 then 0 else 1))))) (mo + 11)) (0 + 8 + 8 + 8 + 8 + 1) (nI (cx))), S18.2.1, fs S.2.2 (mo) 17 (nI (0 + 8 + 8 + 8 + 8 + 2))) = S21
          rw [show inst X.1 L S21.1 S21.2.1 (fs S.2.2 (mo) 17 (nI (0 + 8 + 8 + 8 + 8 + 2 + cx))) = inst X.1 L S21.1 S21.2.1 (fs S.2.2 (mo) 17 (nI (dmN c ph cx))) from in_eq (by omega)]
          have hret : mdom_f c mo ph cx S = (S21.1, S21.2.1, fs S.2.2 (mo) 17 (nI (dmN c ph cx))) := by
            subst hS21
            subst hS18
            subst hS17
            subst hS16
            subst hS15
            first | (dsimp only [mdom_f]; done) | (dsimp only [mdom_f]; exact (((if_neg (fun q => q hb1)).trans (if_neg (fun q => q hb6))).trans (if_pos hb14))) | exact (((if_neg (fun q => q hb1)).trans (if_neg (fun q => q hb6))).trans (if_pos hb14))
          exact rn_vret C Rt dX12_domain_118 (pv_of hret) (Nat.zero_le _) (Nat.zero_le _)
        refine rn_if_eq (tgt := 78) C dX12_domain_71 (by decide) (fun hb19 => ?_) (fun hb19 => ?_)
        · skip
          refine rn_iconst (v := nI 0) C dX12_domain_78 rfl ?_
          rw [if_pos hb19] at K71_19
          exact K71_19
        · skip
          refine rn_iconst (v := nI 1) C dX12_domain_74 rfl ?_
          refine rn_goto (tgt := 79) C dX12_domain_75 (by decide) ?_
          rw [if_neg hb19] at K71_19
          exact K71_19
      · skip
        have hdm : dmN c ph cx = 0 := dm_4 hc hpf (nI_eq0 (by omega) hb14)
        rw [show inst X.1 L S.1 S.2.1 (fs S.2.2 (mo) 17 (nI (0))) = inst X.1 L S.1 S.2.1 (fs S.2.2 (mo) 17 (nI (dmN c ph cx))) from in_eq (by omega)]
        have hret : mdom_f c mo ph cx S = (S.1, S.2.1, fs S.2.2 (mo) 17 (nI (dmN c ph cx))) := by
          first | (dsimp only [mdom_f]; done) | (dsimp only [mdom_f]; exact (((if_neg (fun q => q hb1)).trans (if_neg (fun q => q hb6))).trans (if_neg (fun q => q hb14)))) | exact (((if_neg (fun q => q hb1)).trans (if_neg (fun q => q hb6))).trans (if_neg (fun q => q hb14)))
        exact rn_vret C Rt dX12_domain_23 (pv_of hret) (Nat.zero_le _) (Nat.zero_le _)
def mtheM_f (mo : Nat) (mg : Nat) (q : Nat) (ph : Bool) (S : StT) : StT := (if (bI ph) = 0 then (let S2 := minB_f (mo) (mo + 5) (0) (mg) (q) S; (S2.1, S2.2.1, fs S.2.2 (mo) 17 (nI (q + (if ph then 64 else mg))))) else (let S3 := minB_f (mo) (mo + 25) (0) (64) (q) S; (S3.1, S3.2.1, fs S.2.2 (mo) 17 (nI (q + (if ph then 64 else mg))))))
theorem mtheM_F (mo : Nat) (mg : Nat) (q : Nat) (ph : Bool) (S : StT) : (mtheM_f mo mg q ph S).2.2 = fs S.2.2 (mo) 17 (nI (q + (if ph then 64 else mg))) := by
  unfold mtheM_f; first | rfl | ((repeat' split) <;> rfl)
set_option maxRecDepth 100000 in
set_option maxHeartbeats 400000 in
theorem c_mtheM {k : KX} {L : Nat → Option Sh} {S : StT} {n : Nat} {mo : Nat} {mg : Nat} {q : Nat} {ph : Bool} (hM : ModelAt k L mo) (hmg : S.2.2 mo 7 = nI mg) (hmg1 : mg ≤ 256) (hq : S.2.2 mo 17 = nI q) (hqn : q + 256 ≤ 768) :
    Cs k yX12_theMessage cX12_theMessage 2 none 1 0 0 [.ref (k_b k + (mo)), .int (bI ph)] (inst k L S.1 S.2.1 S.2.2) n (Pv k L n (mtheM_f mo mg q ph S)) := by
  refine cs_of (by decide) (Nat.le_of_ble_eq_true rfl) ?_
  intro X hXk C Rt hnm
  subst hXk
  have hM9 := hM
  obtain ⟨hM0, hm1, hm2, hm3, hm4, hm5, hm6, hm7, hm8, hm9, hm10, hm11, hm12, hm13, hm14, hm15, hm16, hm17, hm18, hm19, hm20, hm21, hm22, hm23, hm24, hm25, hm26, hm27⟩ := hM9
  refine rn_lv [(0, .ref (k_b X.1 + (mo))), (1, .int (bI ph))] (fun q h => h) ?_
  refine rn_iload_n C dX12_theMessage_0 rfl ?_
  refine rn_if_eq (tgt := 18) C dX12_theMessage_1 (by decide) (fun hb1 => ?_) (fun hb1 => ?_)
  · skip
    have hpl : (if ph then 64 else mg) = mg := by rw [bI_f hb1]; rfl
    refine rn_aload_n C dX12_theMessage_18 rfl ?_
    refine rn_aload_n C dX12_theMessage_19 rfl ?_
    refine rs_get C dX12_theMessage_20 fl_X12_29 hM0 rfl ?_
    refine rn_iconst (v := nI 0) C dX12_theMessage_23 rfl ?_
    refine rn_aload_n C dX12_theMessage_24 rfl ?_
    refine rs_getFe C dX12_theMessage_25 fl_X12_32 hM0 rfl hmg ?_
    refine rs_vv C dX12_theMessage_28 mk_X12_inBytes lv_X12_279 (c_minB hM hm5 (by decide) (by omega) hq (by omega)) hM0 rfl rfl rfl rfl (by decide) (Nat.le_of_ble_eq_true rfl) (by decide) (by decide) ?_
    rw [show (minB_f (mo) (mo + 5) (0) (mg) (q) S).2.2 = fs S.2.2 (mo) 17 (nI (q + mg)) from (minB_F (mo) (mo + 5) (0) (mg) (q) S)]
    generalize hS2 : minB_f (mo) (mo + 5) (0) (mg) (q) S = S2
    rw [show inst X.1 L S2.1 S2.2.1 (fs S.2.2 (mo) 17 (nI (q + mg))) = inst X.1 L S2.1 S2.2.1 (fs S.2.2 (mo) 17 (nI (q + (if ph then 64 else mg)))) from in_eq (by omega)]
    have hret : mtheM_f mo mg q ph S = (S2.1, S2.2.1, fs S.2.2 (mo) 17 (nI (q + (if ph then 64 else mg)))) := by
      subst hS2
      first | (dsimp only [mtheM_f]; done) | (dsimp only [mtheM_f]; exact (if_pos hb1)) | exact (if_pos hb1)
    exact rn_vret C Rt dX12_theMessage_31 (pv_of hret) (Nat.zero_le _) (Nat.zero_le _)
  · skip
    have hpl : (if ph then 64 else mg) = 64 := by rw [bI_t hb1]; rfl
    refine rn_aload_n C dX12_theMessage_4 rfl ?_
    refine rn_aload_n C dX12_theMessage_5 rfl ?_
    refine rs_get C dX12_theMessage_6 fl_X12_105 hM0 rfl ?_
    refine rn_iconst (v := nI 0) C dX12_theMessage_9 rfl ?_
    refine rn_bipush (v := nI 64) C dX12_theMessage_10 rfl ?_
    refine rs_vv C dX12_theMessage_12 mk_X12_inBytes lv_X12_279 (c_minB hM hm25 (by decide) (by omega) hq (by omega)) hM0 rfl rfl rfl rfl (by decide) (Nat.le_of_ble_eq_true rfl) (by decide) (by decide) ?_
    rw [show (minB_f (mo) (mo + 25) (0) (64) (q) S).2.2 = fs S.2.2 (mo) 17 (nI (q + 64)) from (minB_F (mo) (mo + 25) (0) (64) (q) S)]
    generalize hS3 : minB_f (mo) (mo + 25) (0) (64) (q) S = S3
    refine rn_goto (tgt := 31) C dX12_theMessage_15 (by decide) ?_
    rw [show inst X.1 L S3.1 S3.2.1 (fs S.2.2 (mo) 17 (nI (q + 64))) = inst X.1 L S3.1 S3.2.1 (fs S.2.2 (mo) 17 (nI (q + (if ph then 64 else mg)))) from in_eq (by omega)]
    have hret : mtheM_f mo mg q ph S = (S3.1, S3.2.1, fs S.2.2 (mo) 17 (nI (q + (if ph then 64 else mg)))) := by
      subst hS3
      first | (dsimp only [mtheM_f]; done) | (dsimp only [mtheM_f]; exact (if_neg hb1)) | exact (if_neg hb1)
    exact rn_vret C Rt dX12_theMessage_31 (pv_of hret) (Nat.zero_le _) (Nat.zero_le _)
def mshake_l176 (mo : Nat) (S : StT)  : Nat → (Nat → Nat → Int32)
  | 0 => S.1
  | i176 + 1 => let y176_0 := (mshake_l176 mo S i176); (let I2 := va_up y176_0 (mo + 12) (upd (y176_0 (mo + 12)) (i176) ((((S.2.1 (mo + 17) (i176 / 2 ^ 3)) >>> ((nI (8 * (i176 % 2 ^ 3))).toInt64 &&& 63)).toInt32) &&& (nI (255)))); I2)
def mshake_l114 (mo : Nat) (i104 : Nat) (S : StT)  : Nat → (Nat → Nat → Int64)
  | 0 => S.2.1
  | i114 + 1 => let y114_0 := (mshake_l114 mo i104 S i114); (let J4 := va_up y114_0 (mo + 17) (vp_updL (y114_0 (mo + 17)) (i114 / 2 ^ 3) ((y114_0 (mo + 17) (i114 / 2 ^ 3)) ^^^ (((S.1 (mo + 11) (136 * i104 + i114)).toInt64) <<< ((nI (8 * (i114 % 2 ^ 3))).toInt64 &&& 63)))); J4)
def mshake_l104 (mo : Nat) (q : Nat) (S : StT)  : Nat → (Nat → Nat → Int32) × (Nat → Nat → Int64)
  | 0 => (S.1, S.2.1)
  | i104 + 1 => let y104_0 := (mshake_l104 mo q S i104).1; let y104_1 := (mshake_l104 mo q S i104).2; (let S3 := mperm_f (mo)  (y104_0, (mshake_l114 mo i104 (y104_0, y104_1, S.2.2) 136), fs S.2.2 (mo) 17 (nI (q + 1 + (skN q)))); (S3.1, S3.2.1))
def mshake_l83 (mo : Nat) (S : StT)  : Nat → (Nat → Nat → Int64)
  | 0 => S.2.1
  | i83 + 1 => let y83_0 := (mshake_l83 mo S i83); va_up y83_0 (mo + 17) (vp_updL (y83_0 (mo + 17)) (i83) (0))
def mshake_l21 (mo : Nat) (q : Nat) (S : StT)  : Nat → (Nat → Nat → Int32)
  | 0 => S.1
  | i21 + 1 => let y21_0 := (mshake_l21 mo q S i21); va_up y21_0 (mo + 11) (upd (y21_0 (mo + 11)) (q + 1 + i21) (nI (0)))
def mshake_f (mo : Nat) (nn : Nat) (q : Nat) (S : StT) : StT := (let I1 := va_up (mshake_l21 mo q (va_up S.1 (mo + 11) (upd (S.1 (mo + 11)) (q) (nI (31))), S.2.1, S.2.2) (skN q)) (mo + 11) (upd ((mshake_l21 mo q (va_up S.1 (mo + 11) (upd (S.1 (mo + 11)) (q) (nI (31))), S.2.1, S.2.2) (skN q)) (mo + 11)) (q + 1 + (skN q) - 1) (((mshake_l21 mo q (va_up S.1 (mo + 11) (upd (S.1 (mo + 11)) (q) (nI (31))), S.2.1, S.2.2) (skN q)) (mo + 11) (q + 1 + (skN q) - 1)) ^^^ (nI (128)))); ((mshake_l176 mo ((mshake_l104 mo q (I1, (mshake_l83 mo (I1, S.2.1, S.2.2) 25), S.2.2) ((q + 1 + skN q) / 136)).1, (mshake_l104 mo q (I1, (mshake_l83 mo (I1, S.2.1, S.2.2) 25), S.2.2) ((q + 1 + skN q) / 136)).2, S.2.2) nn), (mshake_l104 mo q (I1, (mshake_l83 mo (I1, S.2.1, S.2.2) 25), S.2.2) ((q + 1 + skN q) / 136)).2, fs S.2.2 (mo) 17 (nI (q + 1 + (skN q)))))
theorem mshake_F (mo : Nat) (nn : Nat) (q : Nat) (S : StT) : (mshake_f mo nn q S).2.2 = fs S.2.2 (mo) 17 (nI (q + 1 + skN q)) := by
  unfold mshake_f; first | rfl | ((repeat' split) <;> rfl)
set_option maxRecDepth 100000 in
set_option maxHeartbeats 400000 in
theorem c_mshake {k : KX} {L : Nat → Option Sh} {S : StT} {n : Nat} {mo : Nat} {nn : Nat} {q : Nat} (hM : ModelAt k L mo) (hn : nn ≤ 128) (hq : S.2.2 mo 17 = nI q) (hqn : q ≤ 600) :
    Cs k yX12_shake cX12_shake 4 none 2 0 0 [.ref (k_b k + (mo)), .int (nI (nn))] (inst k L S.1 S.2.1 S.2.2) n (Pv k L n (mshake_f mo nn q S)) := by
  refine cs_of (by decide) (Nat.le_of_ble_eq_true rfl) ?_
  intro X hXk C Rt hnm
  subst hXk
  have hM9 := hM
  obtain ⟨hM0, hm1, hm2, hm3, hm4, hm5, hm6, hm7, hm8, hm9, hm10, hm11, hm12, hm13, hm14, hm15, hm16, hm17, hm18, hm19, hm20, hm21, hm22, hm23, hm24, hm25, hm26, hm27⟩ := hM9
  have hs1 := skN_lt q
  have hs0 := skN_0 q
  refine rn_lv [(0, .ref (k_b X.1 + (mo))), (1, .int (nI (nn)))] (fun q h => h) ?_
  refine rn_aload_n C dX12_shake_0 rfl ?_
  refine rs_get C dX12_shake_1 fl_X12_60 hM0 rfl ?_
  refine rn_aload_n C dX12_shake_4 rfl ?_
  refine rs_getFe C dX12_shake_5 fl_X12_63 hM0 rfl hq ?_
  refine rn_bipush (v := nI 31) C dX12_shake_8 rfl ?_
  refine rs_iastore C dX12_shake_10 hm11 rfl (by omega) (by decide) ?_
  refine rn_aload_n C dX12_shake_11 rfl ?_
  refine rn_dup C dX12_shake_12 rfl ?_
  refine rs_getFe C dX12_shake_13 fl_X12_63 hM0 rfl hq ?_
  refine rn_iconst (v := nI 1) C dX12_shake_16 rfl ?_
  refine rn_iadd C dX12_shake_17 (nI_add _ _) ?_
  refine rs_putF C dX12_shake_18 fp_X12_63 hM0 rfl ?_
  have lp21 : ∀ i21, i21 ≤ skN q → Rn X 21 [(0, .ref (k_b X.1 + (mo))), (1, .int (nI (nn)))] [] (inst X.1 L (mshake_l21 mo q (va_up S.1 (mo + 11) (upd (S.1 (mo + 11)) (q) (nI (31))), S.2.1, S.2.2) i21) S.2.1 (fs S.2.2 (mo) 17 (nI (q + 1 + i21)))) n 0 0 := by
    refine upto _ _ ?_ (fun i21 hi21 ih21 => ?_)
    · skip
      refine rn_aload_n C dX12_shake_21 rfl ?_
      refine rs_getFe C dX12_shake_22 fl_X12_63 hM0 rfl fs_get ?_
      refine rn_sipush (v := nI 136) C dX12_shake_25 rfl ?_
      refine rn_irem C dX12_shake_28 (by decide) (pk_rem (by omega) (by omega) (by omega)) ?_
      refine rn_if_eq (tgt := 55) C dX12_shake_29 (by decide) (fun _ => ?_) (fun qq_ => absurd (by rw [hs0]; rfl) qq_)
      refine rn_aload_n C dX12_shake_55 rfl ?_
      refine rs_get C dX12_shake_56 fl_X12_60 hM0 rfl ?_
      refine rn_aload_n C dX12_shake_59 rfl ?_
      refine rs_getFe C dX12_shake_60 fl_X12_63 hM0 rfl fs_get ?_
      refine rn_iconst (v := nI 1) C dX12_shake_63 rfl ?_
      refine rn_isub C dX12_shake_64 (pk_sub (by omega)) ?_
      refine rn_aload_n C dX12_shake_65 rfl ?_
      refine rs_get C dX12_shake_66 fl_X12_60 hM0 rfl ?_
      refine rn_aload_n C dX12_shake_69 rfl ?_
      refine rs_getFe C dX12_shake_70 fl_X12_63 hM0 rfl fs_get ?_
      refine rn_iconst (v := nI 1) C dX12_shake_73 rfl ?_
      refine rn_isub C dX12_shake_74 (pk_sub (by omega)) ?_
      refine rs_iaload C dX12_shake_75 hm11 rfl (by omega) (by decide) ?_
      refine rn_sipush (v := nI 128) C dX12_shake_76 rfl ?_
      refine rn_ixor C dX12_shake_79 rfl ?_
      refine rs_iastore C dX12_shake_80 hm11 rfl (by omega) (by decide) ?_
      refine rn_iconst (v := nI 0) C dX12_shake_81 rfl ?_
      refine rn_istore_n (lv' := [(0, _), (1, _), (2, _)]) C dX12_shake_82 (by decide) rfl ?_
      have lp83 : ∀ i83, i83 ≤ 25 → Rn X 83 [(0, .ref (k_b X.1 + (mo))), (1, .int (nI (nn))), (2, .int (nI (i83)))] [] (inst X.1 L (va_up (mshake_l21 mo q (va_up S.1 (mo + 11) (upd (S.1 (mo + 11)) (q) (nI (31))), S.2.1, S.2.2) (skN q)) (mo + 11) (upd ((mshake_l21 mo q (va_up S.1 (mo + 11) (upd (S.1 (mo + 11)) (q) (nI (31))), S.2.1, S.2.2) (skN q)) (mo + 11)) (q + 1 + (skN q) - 1) (((mshake_l21 mo q (va_up S.1 (mo + 11) (upd (S.1 (mo + 11)) (q) (nI (31))), S.2.1, S.2.2) (skN q)) (mo + 11) (q + 1 + (skN q) - 1)) ^^^ (nI (128))))) (mshake_l83 mo ((va_up (mshake_l21 mo q (va_up S.1 (mo + 11) (upd (S.1 (mo + 11)) (q) (nI (31))), S.2.1, S.2.2) (skN q)) (mo + 11) (upd ((mshake_l21 mo q (va_up S.1 (mo + 11) (upd (S.1 (mo + 11)) (q) (nI (31))), S.2.1, S.2.2) (skN q)) (mo + 11)) (q + 1 + (skN q) - 1) (((mshake_l21 mo q (va_up S.1 (mo + 11) (upd (S.1 (mo + 11)) (q) (nI (31))), S.2.1, S.2.2) (skN q)) (mo + 11) (q + 1 + (skN q) - 1)) ^^^ (nI (128))))), S.2.1, S.2.2) i83) (fs S.2.2 (mo) 17 (nI (q + 1 + (skN q))))) n 0 0 := by
        refine upto _ _ ?_ (fun i83 hi83 ih83 => ?_)
        · skip
          refine rn_iload_n C dX12_shake_83 rfl ?_
          refine rn_bipush (v := nI 25) C dX12_shake_84 rfl ?_
          refine rs_ge (tgt := 102) C dX12_shake_86 (by decide) rfl rfl (by omega) (by omega) (fun _ => ?_) (fun q => absurd q (by omega))
          refine rn_iconst (v := nI 0) C dX12_shake_102 rfl ?_
          refine rn_istore_n (lv' := [(0, _), (1, _), (2, _)]) C dX12_shake_103 (by decide) rfl ?_
          have lp104 : ∀ i104, i104 ≤ (q + 1 + skN q) / 136 → Rn X 104 [(0, .ref (k_b X.1 + (mo))), (1, .int (nI (nn))), (2, .int (nI (136 * i104)))] [] (inst X.1 L (mshake_l104 mo q ((va_up (mshake_l21 mo q (va_up S.1 (mo + 11) (upd (S.1 (mo + 11)) (q) (nI (31))), S.2.1, S.2.2) (skN q)) (mo + 11) (upd ((mshake_l21 mo q (va_up S.1 (mo + 11) (upd (S.1 (mo + 11)) (q) (nI (31))), S.2.1, S.2.2) (skN q)) (mo + 11)) (q + 1 + (skN q) - 1) (((mshake_l21 mo q (va_up S.1 (mo + 11) (upd (S.1 (mo + 11)) (q) (nI (31))), S.2.1, S.2.2) (skN q)) (mo + 11) (q + 1 + (skN q) - 1)) ^^^ (nI (128))))), (mshake_l83 mo ((va_up (mshake_l21 mo q (va_up S.1 (mo + 11) (upd (S.1 (mo + 11)) (q) (nI (31))), S.2.1, S.2.2) (skN q)) (mo + 11) (upd ((mshake_l21 mo q (va_up S.1 (mo + 11) (upd (S.1 (mo + 11)) (q) (nI (31))), S.2.1, S.2.2) (skN q)) (mo + 11)) (q + 1 + (skN q) - 1) (((mshake_l21 mo q (va_up S.1 (mo + 11) (upd (S.1 (mo + 11)) (q) (nI (31))), S.2.1, S.2.2) (skN q)) (mo + 11) (q + 1 + (skN q) - 1)) ^^^ (nI (128))))), S.2.1, S.2.2) 25), S.2.2) i104).1 (mshake_l104 mo q ((va_up (mshake_l21 mo q (va_up S.1 (mo + 11) (upd (S.1 (mo + 11)) (q) (nI (31))), S.2.1, S.2.2) (skN q)) (mo + 11) (upd ((mshake_l21 mo q (va_up S.1 (mo + 11) (upd (S.1 (mo + 11)) (q) (nI (31))), S.2.1, S.2.2) (skN q)) (mo + 11)) (q + 1 + (skN q) - 1) (((mshake_l21 mo q (va_up S.1 (mo + 11) (upd (S.1 (mo + 11)) (q) (nI (31))), S.2.1, S.2.2) (skN q)) (mo + 11) (q + 1 + (skN q) - 1)) ^^^ (nI (128))))), (mshake_l83 mo ((va_up (mshake_l21 mo q (va_up S.1 (mo + 11) (upd (S.1 (mo + 11)) (q) (nI (31))), S.2.1, S.2.2) (skN q)) (mo + 11) (upd ((mshake_l21 mo q (va_up S.1 (mo + 11) (upd (S.1 (mo + 11)) (q) (nI (31))), S.2.1, S.2.2) (skN q)) (mo + 11)) (q + 1 + (skN q) - 1) (((mshake_l21 mo q (va_up S.1 (mo + 11) (upd (S.1 (mo + 11)) (q) (nI (31))), S.2.1, S.2.2) (skN q)) (mo + 11) (q + 1 + (skN q) - 1)) ^^^ (nI (128))))), S.2.1, S.2.2) 25), S.2.2) i104).2 (fs S.2.2 (mo) 17 (nI (q + 1 + (skN q))))) n 0 0 := by
            refine upto _ _ ?_ (fun i104 hi104 ih104 => ?_)
            · skip
              refine rn_iload_n C dX12_shake_104 rfl ?_
              refine rn_aload_n C dX12_shake_105 rfl ?_
              refine rs_getFe C dX12_shake_106 fl_X12_63 hM0 rfl fs_get ?_
              refine rs_ge (tgt := 174) C dX12_shake_109 (by decide) rfl rfl (by omega) (by omega) (fun _ => ?_) (fun q => absurd q (by omega))
              refine rn_iconst (v := nI 0) C dX12_shake_174 rfl ?_
              refine rn_istore_n (lv' := [(0, _), (1, _), (2, _)]) C dX12_shake_175 (by decide) rfl ?_
              have lp176 : ∀ i176, i176 ≤ nn → Rn X 176 [(0, .ref (k_b X.1 + (mo))), (1, .int (nI (nn))), (2, .int (nI (i176)))] [] (inst X.1 L (mshake_l176 mo ((mshake_l104 mo q ((va_up (mshake_l21 mo q (va_up S.1 (mo + 11) (upd (S.1 (mo + 11)) (q) (nI (31))), S.2.1, S.2.2) (skN q)) (mo + 11) (upd ((mshake_l21 mo q (va_up S.1 (mo + 11) (upd (S.1 (mo + 11)) (q) (nI (31))), S.2.1, S.2.2) (skN q)) (mo + 11)) (q + 1 + (skN q) - 1) (((mshake_l21 mo q (va_up S.1 (mo + 11) (upd (S.1 (mo + 11)) (q) (nI (31))), S.2.1, S.2.2) (skN q)) (mo + 11) (q + 1 + (skN q) - 1)) ^^^ (nI (128))))), (mshake_l83 mo ((va_up (mshake_l21 mo q (va_up S.1 (mo + 11) (upd (S.1 (mo + 11)) (q) (nI (31))), S.2.1, S.2.2) (skN q)) (mo + 11) (upd ((mshake_l21 mo q (va_up S.1 (mo + 11) (upd (S.1 (mo + 11)) (q) (nI (31))), S.2.1, S.2.2) (skN q)) (mo + 11)) (q + 1 + (skN q) - 1) (((mshake_l21 mo q (va_up S.1 (mo + 11) (upd (S.1 (mo + 11)) (q) (nI (31))), S.2.1, S.2.2) (skN q)) (mo + 11) (q + 1 + (skN q) - 1)) ^^^ (nI (128))))), S.2.1, S.2.2) 25), S.2.2) ((q + 1 + skN q) / 136)).1, (mshake_l104 mo q ((va_up (mshake_l21 mo q (va_up S.1 (mo + 11) (upd (S.1 (mo + 11)) (q) (nI (31))), S.2.1, S.2.2) (skN q)) (mo + 11) (upd ((mshake_l21 mo q (va_up S.1 (mo + 11) (upd (S.1 (mo + 11)) (q) (nI (31))), S.2.1, S.2.2) (skN q)) (mo + 11)) (q + 1 + (skN q) - 1) (((mshake_l21 mo q (va_up S.1 (mo + 11) (upd (S.1 (mo + 11)) (q) (nI (31))), S.2.1, S.2.2) (skN q)) (mo + 11) (q + 1 + (skN q) - 1)) ^^^ (nI (128))))), (mshake_l83 mo ((va_up (mshake_l21 mo q (va_up S.1 (mo + 11) (upd (S.1 (mo + 11)) (q) (nI (31))), S.2.1, S.2.2) (skN q)) (mo + 11) (upd ((mshake_l21 mo q (va_up S.1 (mo + 11) (upd (S.1 (mo + 11)) (q) (nI (31))), S.2.1, S.2.2) (skN q)) (mo + 11)) (q + 1 + (skN q) - 1) (((mshake_l21 mo q (va_up S.1 (mo + 11) (upd (S.1 (mo + 11)) (q) (nI (31))), S.2.1, S.2.2) (skN q)) (mo + 11) (q + 1 + (skN q) - 1)) ^^^ (nI (128))))), S.2.1, S.2.2) 25), S.2.2) ((q + 1 + skN q) / 136)).2, S.2.2) i176) (mshake_l104 mo q ((va_up (mshake_l21 mo q (va_up S.1 (mo + 11) (upd (S.1 (mo + 11)) (q) (nI (31))), S.2.1, S.2.2) (skN q)) (mo + 11) (upd ((mshake_l21 mo q (va_up S.1 (mo + 11) (upd (S.1 (mo + 11)) (q) (nI (31))), S.2.1, S.2.2) (skN q)) (mo + 11)) (q + 1 + (skN q) - 1) (((mshake_l21 mo q (va_up S.1 (mo + 11) (upd (S.1 (mo + 11)) (q) (nI (31))), S.2.1, S.2.2) (skN q)) (mo + 11) (q + 1 + (skN q) - 1)) ^^^ (nI (128))))), (mshake_l83 mo ((va_up (mshake_l21 mo q (va_up S.1 (mo + 11) (upd (S.1 (mo + 11)) (q) (nI (31))), S.2.1, S.2.2) (skN q)) (mo + 11) (upd ((mshake_l21 mo q (va_up S.1 (mo + 11) (upd (S.1 (mo + 11)) (q) (nI (31))), S.2.1, S.2.2) (skN q)) (mo + 11)) (q + 1 + (skN q) - 1) (((mshake_l21 mo q (va_up S.1 (mo + 11) (upd (S.1 (mo + 11)) (q) (nI (31))), S.2.1, S.2.2) (skN q)) (mo + 11) (q + 1 + (skN q) - 1)) ^^^ (nI (128))))), S.2.1, S.2.2) 25), S.2.2) ((q + 1 + skN q) / 136)).2 (fs S.2.2 (mo) 17 (nI (q + 1 + (skN q))))) n 0 0 := by
                refine upto _ _ ?_ (fun i176 hi176 ih176 => ?_)
                · skip
                  refine rn_iload_n C dX12_shake_176 rfl ?_
                  refine rn_iload_n C dX12_shake_177 rfl ?_
                  refine rs_ge (tgt := 214) C dX12_shake_178 (by decide) rfl rfl (by omega) (by omega) (fun _ => ?_) (fun q => absurd q (by omega))
                  have hret : mshake_f mo nn q S = ((mshake_l176 mo ((mshake_l104 mo q ((va_up (mshake_l21 mo q (va_up S.1 (mo + 11) (upd (S.1 (mo + 11)) (q) (nI (31))), S.2.1, S.2.2) (skN q)) (mo + 11) (upd ((mshake_l21 mo q (va_up S.1 (mo + 11) (upd (S.1 (mo + 11)) (q) (nI (31))), S.2.1, S.2.2) (skN q)) (mo + 11)) (q + 1 + (skN q) - 1) (((mshake_l21 mo q (va_up S.1 (mo + 11) (upd (S.1 (mo + 11)) (q) (nI (31))), S.2.1, S.2.2) (skN q)) (mo + 11) (q + 1 + (skN q) - 1)) ^^^ (nI (128))))), (mshake_l83 mo ((va_up (mshake_l21 mo q (va_up S.1 (mo + 11) (upd (S.1 (mo + 11)) (q) (nI (31))), S.2.1, S.2.2) (skN q)) (mo + 11) (upd ((mshake_l21 mo q (va_up S.1 (mo + 11) (upd (S.1 (mo + 11)) (q) (nI (31))), S.2.1, S.2.2) (skN q)) (mo + 11)) (q + 1 + (skN q) - 1) (((mshake_l21 mo q (va_up S.1 (mo + 11) (upd (S.1 (mo + 11)) (q) (nI (31))), S.2.1, S.2.2) (skN q)) (mo + 11) (q + 1 + (skN q) - 1)) ^^^ (nI (128))))), S.2.1, S.2.2) 25), S.2.2) ((q + 1 + skN q) / 136)).1, (mshake_l104 mo q ((va_up (mshake_l21 mo q (va_up S.1 (mo + 11) (upd (S.1 (mo + 11)) (q) (nI (31))), S.2.1, S.2.2) (skN q)) (mo + 11) (upd ((mshake_l21 mo q (va_up S.1 (mo + 11) (upd (S.1 (mo + 11)) (q) (nI (31))), S.2.1, S.2.2) (skN q)) (mo + 11)) (q + 1 + (skN q) - 1) (((mshake_l21 mo q (va_up S.1 (mo + 11) (upd (S.1 (mo + 11)) (q) (nI (31))), S.2.1, S.2.2) (skN q)) (mo + 11) (q + 1 + (skN q) - 1)) ^^^ (nI (128))))), (mshake_l83 mo ((va_up (mshake_l21 mo q (va_up S.1 (mo + 11) (upd (S.1 (mo + 11)) (q) (nI (31))), S.2.1, S.2.2) (skN q)) (mo + 11) (upd ((mshake_l21 mo q (va_up S.1 (mo + 11) (upd (S.1 (mo + 11)) (q) (nI (31))), S.2.1, S.2.2) (skN q)) (mo + 11)) (q + 1 + (skN q) - 1) (((mshake_l21 mo q (va_up S.1 (mo + 11) (upd (S.1 (mo + 11)) (q) (nI (31))), S.2.1, S.2.2) (skN q)) (mo + 11) (q + 1 + (skN q) - 1)) ^^^ (nI (128))))), S.2.1, S.2.2) 25), S.2.2) ((q + 1 + skN q) / 136)).2, S.2.2) nn), (mshake_l104 mo q ((va_up (mshake_l21 mo q (va_up S.1 (mo + 11) (upd (S.1 (mo + 11)) (q) (nI (31))), S.2.1, S.2.2) (skN q)) (mo + 11) (upd ((mshake_l21 mo q (va_up S.1 (mo + 11) (upd (S.1 (mo + 11)) (q) (nI (31))), S.2.1, S.2.2) (skN q)) (mo + 11)) (q + 1 + (skN q) - 1) (((mshake_l21 mo q (va_up S.1 (mo + 11) (upd (S.1 (mo + 11)) (q) (nI (31))), S.2.1, S.2.2) (skN q)) (mo + 11) (q + 1 + (skN q) - 1)) ^^^ (nI (128))))), (mshake_l83 mo ((va_up (mshake_l21 mo q (va_up S.1 (mo + 11) (upd (S.1 (mo + 11)) (q) (nI (31))), S.2.1, S.2.2) (skN q)) (mo + 11) (upd ((mshake_l21 mo q (va_up S.1 (mo + 11) (upd (S.1 (mo + 11)) (q) (nI (31))), S.2.1, S.2.2) (skN q)) (mo + 11)) (q + 1 + (skN q) - 1) (((mshake_l21 mo q (va_up S.1 (mo + 11) (upd (S.1 (mo + 11)) (q) (nI (31))), S.2.1, S.2.2) (skN q)) (mo + 11) (q + 1 + (skN q) - 1)) ^^^ (nI (128))))), S.2.1, S.2.2) 25), S.2.2) ((q + 1 + skN q) / 136)).2, fs S.2.2 (mo) 17 (nI (q + 1 + (skN q)))) := by
                    first | (dsimp only [mshake_f]; done) | (dsimp only [mshake_f]; exact rfl) | exact rfl
                  exact rn_vret C Rt dX12_shake_214 (pv_of hret) (Nat.zero_le _) (Nat.zero_le _)
                · skip
                  refine rn_iload_n C dX12_shake_176 rfl ?_
                  refine rn_iload_n C dX12_shake_177 rfl ?_
                  refine rs_ge (tgt := 214) C dX12_shake_178 (by decide) rfl rfl (by omega) (by omega) (fun q => absurd q (by omega)) (fun _ => ?_)
                  refine rn_aload_n C dX12_shake_181 rfl ?_
                  refine rs_get C dX12_shake_182 fl_X12_66 hM0 rfl ?_
                  refine rn_iload_n C dX12_shake_185 rfl ?_
                  refine rn_aload_n C dX12_shake_186 rfl ?_
                  refine rs_get C dX12_shake_187 fl_X12_81 hM0 rfl ?_
                  refine rn_iload_n C dX12_shake_190 rfl ?_
                  refine rn_iconst (v := nI 3) C dX12_shake_191 rfl ?_
                  refine rn_ishr C dX12_shake_192 (pk_shrN (by omega) _ 3 (by decide)) ?_
                  refine rs_laload C dX12_shake_193 hm17 rfl (by omega) (by decide) ?_
                  refine rn_bipush (v := nI 8) C dX12_shake_194 rfl ?_
                  refine rn_iload_n C dX12_shake_196 rfl ?_
                  refine rn_bipush (v := nI 7) C dX12_shake_197 rfl ?_
                  refine rn_iand C dX12_shake_199 (pk_andN (by omega) 3 (by decide)) ?_
                  refine rn_imul C dX12_shake_200 (pk_mul _ _) ?_
                  refine rn_lshr C dX12_shake_201 rfl ?_
                  refine rn_l2i C dX12_shake_202 rfl ?_
                  refine rn_sipush (v := nI 255) C dX12_shake_203 rfl ?_
                  refine rn_iand C dX12_shake_206 rfl ?_
                  refine rs_iastore C dX12_shake_207 hm12 rfl (by omega) (by decide) ?_
                  refine rn_iinc (lv' := [(0, _), (1, _), (2, _)]) C dX12_shake_208 rfl (nI_inc _) (by decide) rfl ?_
                  refine rn_goto (tgt := 176) C dX12_shake_211 (by decide) ?_
                  have he176 : mshake_l176 mo ((mshake_l104 mo q ((va_up (mshake_l21 mo q (va_up S.1 (mo + 11) (upd (S.1 (mo + 11)) (q) (nI (31))), S.2.1, S.2.2) (skN q)) (mo + 11) (upd ((mshake_l21 mo q (va_up S.1 (mo + 11) (upd (S.1 (mo + 11)) (q) (nI (31))), S.2.1, S.2.2) (skN q)) (mo + 11)) (q + 1 + (skN q) - 1) (((mshake_l21 mo q (va_up S.1 (mo + 11) (upd (S.1 (mo + 11)) (q) (nI (31))), S.2.1, S.2.2) (skN q)) (mo + 11) (q + 1 + (skN q) - 1)) ^^^ (nI (128))))), (mshake_l83 mo ((va_up (mshake_l21 mo q (va_up S.1 (mo + 11) (upd (S.1 (mo + 11)) (q) (nI (31))), S.2.1, S.2.2) (skN q)) (mo + 11) (upd ((mshake_l21 mo q (va_up S.1 (mo + 11) (upd (S.1 (mo + 11)) (q) (nI (31))), S.2.1, S.2.2) (skN q)) (mo + 11)) (q + 1 + (skN q) - 1) (((mshake_l21 mo q (va_up S.1 (mo + 11) (upd (S.1 (mo + 11)) (q) (nI (31))), S.2.1, S.2.2) (skN q)) (mo + 11) (q + 1 + (skN q) - 1)) ^^^ (nI (128))))), S.2.1, S.2.2) 25), S.2.2) ((q + 1 + skN q) / 136)).1, (mshake_l104 mo q ((va_up (mshake_l21 mo q (va_up S.1 (mo + 11) (upd (S.1 (mo + 11)) (q) (nI (31))), S.2.1, S.2.2) (skN q)) (mo + 11) (upd ((mshake_l21 mo q (va_up S.1 (mo + 11) (upd (S.1 (mo + 11)) (q) (nI (31))), S.2.1, S.2.2) (skN q)) (mo + 11)) (q + 1 + (skN q) - 1) (((mshake_l21 mo q (va_up S.1 (mo + 11) (upd (S.1 (mo + 11)) (q) (nI (31))), S.2.1, S.2.2) (skN q)) (mo + 11) (q + 1 + (skN q) - 1)) ^^^ (nI (128))))), (mshake_l83 mo ((va_up (mshake_l21 mo q (va_up S.1 (mo + 11) (upd (S.1 (mo + 11)) (q) (nI (31))), S.2.1, S.2.2) (skN q)) (mo + 11) (upd ((mshake_l21 mo q (va_up S.1 (mo + 11) (upd (S.1 (mo + 11)) (q) (nI (31))), S.2.1, S.2.2) (skN q)) (mo + 11)) (q + 1 + (skN q) - 1) (((mshake_l21 mo q (va_up S.1 (mo + 11) (upd (S.1 (mo + 11)) (q) (nI (31))), S.2.1, S.2.2) (skN q)) (mo + 11) (q + 1 + (skN q) - 1)) ^^^ (nI (128))))), S.2.1, S.2.2) 25), S.2.2) ((q + 1 + skN q) / 136)).2, S.2.2) (i176 + 1) = (va_up (mshake_l176 mo ((mshake_l104 mo q ((va_up (mshake_l21 mo q (va_up S.1 (mo + 11) (upd (S.1 (mo + 11)) (q) (nI (31))), S.2.1, S.2.2) (skN q)) (mo + 11) (upd ((mshake_l21 mo q (va_up S.1 (mo + 11) (upd (S.1 (mo + 11)) (q) (nI (31))), S.2.1, S.2.2) (skN q)) (mo + 11)) (q + 1 + (skN q) - 1) (((mshake_l21 mo q (va_up S.1 (mo + 11) (upd (S.1 (mo + 11)) (q) (nI (31))), S.2.1, S.2.2) (skN q)) (mo + 11) (q + 1 + (skN q) - 1)) ^^^ (nI (128))))), (mshake_l83 mo ((va_up (mshake_l21 mo q (va_up S.1 (mo + 11) (upd (S.1 (mo + 11)) (q) (nI (31))), S.2.1, S.2.2) (skN q)) (mo + 11) (upd ((mshake_l21 mo q (va_up S.1 (mo + 11) (upd (S.1 (mo + 11)) (q) (nI (31))), S.2.1, S.2.2) (skN q)) (mo + 11)) (q + 1 + (skN q) - 1) (((mshake_l21 mo q (va_up S.1 (mo + 11) (upd (S.1 (mo + 11)) (q) (nI (31))), S.2.1, S.2.2) (skN q)) (mo + 11) (q + 1 + (skN q) - 1)) ^^^ (nI (128))))), S.2.1, S.2.2) 25), S.2.2) ((q + 1 + skN q) / 136)).1, (mshake_l104 mo q ((va_up (mshake_l21 mo q (va_up S.1 (mo + 11) (upd (S.1 (mo + 11)) (q) (nI (31))), S.2.1, S.2.2) (skN q)) (mo + 11) (upd ((mshake_l21 mo q (va_up S.1 (mo + 11) (upd (S.1 (mo + 11)) (q) (nI (31))), S.2.1, S.2.2) (skN q)) (mo + 11)) (q + 1 + (skN q) - 1) (((mshake_l21 mo q (va_up S.1 (mo + 11) (upd (S.1 (mo + 11)) (q) (nI (31))), S.2.1, S.2.2) (skN q)) (mo + 11) (q + 1 + (skN q) - 1)) ^^^ (nI (128))))), (mshake_l83 mo ((va_up (mshake_l21 mo q (va_up S.1 (mo + 11) (upd (S.1 (mo + 11)) (q) (nI (31))), S.2.1, S.2.2) (skN q)) (mo + 11) (upd ((mshake_l21 mo q (va_up S.1 (mo + 11) (upd (S.1 (mo + 11)) (q) (nI (31))), S.2.1, S.2.2) (skN q)) (mo + 11)) (q + 1 + (skN q) - 1) (((mshake_l21 mo q (va_up S.1 (mo + 11) (upd (S.1 (mo + 11)) (q) (nI (31))), S.2.1, S.2.2) (skN q)) (mo + 11) (q + 1 + (skN q) - 1)) ^^^ (nI (128))))), S.2.1, S.2.2) 25), S.2.2) ((q + 1 + skN q) / 136)).2, S.2.2) i176) (mo + 12) (upd ((mshake_l176 mo ((mshake_l104 mo q ((va_up (mshake_l21 mo q (va_up S.1 (mo + 11) (upd (S.1 (mo + 11)) (q) (nI (31))), S.2.1, S.2.2) (skN q)) (mo + 11) (upd ((mshake_l21 mo q (va_up S.1 (mo + 11) (upd (S.1 (mo + 11)) (q) (nI (31))), S.2.1, S.2.2) (skN q)) (mo + 11)) (q + 1 + (skN q) - 1) (((mshake_l21 mo q (va_up S.1 (mo + 11) (upd (S.1 (mo + 11)) (q) (nI (31))), S.2.1, S.2.2) (skN q)) (mo + 11) (q + 1 + (skN q) - 1)) ^^^ (nI (128))))), (mshake_l83 mo ((va_up (mshake_l21 mo q (va_up S.1 (mo + 11) (upd (S.1 (mo + 11)) (q) (nI (31))), S.2.1, S.2.2) (skN q)) (mo + 11) (upd ((mshake_l21 mo q (va_up S.1 (mo + 11) (upd (S.1 (mo + 11)) (q) (nI (31))), S.2.1, S.2.2) (skN q)) (mo + 11)) (q + 1 + (skN q) - 1) (((mshake_l21 mo q (va_up S.1 (mo + 11) (upd (S.1 (mo + 11)) (q) (nI (31))), S.2.1, S.2.2) (skN q)) (mo + 11) (q + 1 + (skN q) - 1)) ^^^ (nI (128))))), S.2.1, S.2.2) 25), S.2.2) ((q + 1 + skN q) / 136)).1, (mshake_l104 mo q ((va_up (mshake_l21 mo q (va_up S.1 (mo + 11) (upd (S.1 (mo + 11)) (q) (nI (31))), S.2.1, S.2.2) (skN q)) (mo + 11) (upd ((mshake_l21 mo q (va_up S.1 (mo + 11) (upd (S.1 (mo + 11)) (q) (nI (31))), S.2.1, S.2.2) (skN q)) (mo + 11)) (q + 1 + (skN q) - 1) (((mshake_l21 mo q (va_up S.1 (mo + 11) (upd (S.1 (mo + 11)) (q) (nI (31))), S.2.1, S.2.2) (skN q)) (mo + 11) (q + 1 + (skN q) - 1)) ^^^ (nI (128))))), (mshake_l83 mo ((va_up (mshake_l21 mo q (va_up S.1 (mo + 11) (upd (S.1 (mo + 11)) (q) (nI (31))), S.2.1, S.2.2) (skN q)) (mo + 11) (upd ((mshake_l21 mo q (va_up S.1 (mo + 11) (upd (S.1 (mo + 11)) (q) (nI (31))), S.2.1, S.2.2) (skN q)) (mo + 11)) (q + 1 + (skN q) - 1) (((mshake_l21 mo q (va_up S.1 (mo + 11) (upd (S.1 (mo + 11)) (q) (nI (31))), S.2.1, S.2.2) (skN q)) (mo + 11) (q + 1 + (skN q) - 1)) ^^^ (nI (128))))), S.2.1, S.2.2) 25), S.2.2) ((q + 1 + skN q) / 136)).2, S.2.2) i176) (mo + 12)) (i176) ((((((mshake_l104 mo q ((va_up (mshake_l21 mo q (va_up S.1 (mo + 11) (upd (S.1 (mo + 11)) (q) (nI (31))), S.2.1, S.2.2) (skN q)) (mo + 11) (upd ((mshake_l21 mo q (va_up S.1 (mo + 11) (upd (S.1 (mo + 11)) (q) (nI (31))), S.2.1, S.2.2) (skN q)) (mo + 11)) (q + 1 + (skN q) - 1) (((mshake_l21 mo q (va_up S.1 (mo + 11) (upd (S.1 (mo + 11)) (q) (nI (31))), S.2.1, S.2.2) (skN q)) (mo + 11) (q + 1 + (skN q) - 1)) ^^^ (nI (128))))), (mshake_l83 mo ((va_up (mshake_l21 mo q (va_up S.1 (mo + 11) (upd (S.1 (mo + 11)) (q) (nI (31))), S.2.1, S.2.2) (skN q)) (mo + 11) (upd ((mshake_l21 mo q (va_up S.1 (mo + 11) (upd (S.1 (mo + 11)) (q) (nI (31))), S.2.1, S.2.2) (skN q)) (mo + 11)) (q + 1 + (skN q) - 1) (((mshake_l21 mo q (va_up S.1 (mo + 11) (upd (S.1 (mo + 11)) (q) (nI (31))), S.2.1, S.2.2) (skN q)) (mo + 11) (q + 1 + (skN q) - 1)) ^^^ (nI (128))))), S.2.1, S.2.2) 25), S.2.2) ((q + 1 + skN q) / 136)).1, (mshake_l104 mo q ((va_up (mshake_l21 mo q (va_up S.1 (mo + 11) (upd (S.1 (mo + 11)) (q) (nI (31))), S.2.1, S.2.2) (skN q)) (mo + 11) (upd ((mshake_l21 mo q (va_up S.1 (mo + 11) (upd (S.1 (mo + 11)) (q) (nI (31))), S.2.1, S.2.2) (skN q)) (mo + 11)) (q + 1 + (skN q) - 1) (((mshake_l21 mo q (va_up S.1 (mo + 11) (upd (S.1 (mo + 11)) (q) (nI (31))), S.2.1, S.2.2) (skN q)) (mo + 11) (q + 1 + (skN q) - 1)) ^^^ (nI (128))))), (mshake_l83 mo ((va_up (mshake_l21 mo q (va_up S.1 (mo + 11) (upd (S.1 (mo + 11)) (q) (nI (31))), S.2.1, S.2.2) (skN q)) (mo + 11) (upd ((mshake_l21 mo q (va_up S.1 (mo + 11) (upd (S.1 (mo + 11)) (q) (nI (31))), S.2.1, S.2.2) (skN q)) (mo + 11)) (q + 1 + (skN q) - 1) (((mshake_l21 mo q (va_up S.1 (mo + 11) (upd (S.1 (mo + 11)) (q) (nI (31))), S.2.1, S.2.2) (skN q)) (mo + 11) (q + 1 + (skN q) - 1)) ^^^ (nI (128))))), S.2.1, S.2.2) 25), S.2.2) ((q + 1 + skN q) / 136)).2, S.2.2).2.1 (mo + 17) (i176 / 2 ^ 3)) >>> ((nI (8 * (i176 % 2 ^ 3))).toInt64 &&& 63)).toInt32) &&& (nI (255))))) := by
                    first | (dsimp only [mshake_l176]; done) | (dsimp only [mshake_l176]; exact rfl) | exact rfl
                  rw [he176] at ih176
                  exact rn_ks [0, 1, 2] ih176 rfl
              exact lp176 0 (Nat.zero_le _)
            · skip
              refine rn_iload_n C dX12_shake_104 rfl ?_
              refine rn_aload_n C dX12_shake_105 rfl ?_
              refine rs_getFe C dX12_shake_106 fl_X12_63 hM0 rfl fs_get ?_
              refine rs_ge (tgt := 174) C dX12_shake_109 (by decide) rfl rfl (by omega) (by omega) (fun q => absurd q (by omega)) (fun _ => ?_)
              refine rn_iconst (v := nI 0) C dX12_shake_112 rfl ?_
              refine rn_istore_n (lv' := [(0, _), (1, _), (2, _), (3, _)]) C dX12_shake_113 (by decide) rfl ?_
              have lp114 : ∀ i114, i114 ≤ 136 → Rn X 114 [(0, .ref (k_b X.1 + (mo))), (1, .int (nI (nn))), (2, .int (nI (136 * i104))), (3, .int (nI (i114)))] [] (inst X.1 L (mshake_l104 mo q ((va_up (mshake_l21 mo q (va_up S.1 (mo + 11) (upd (S.1 (mo + 11)) (q) (nI (31))), S.2.1, S.2.2) (skN q)) (mo + 11) (upd ((mshake_l21 mo q (va_up S.1 (mo + 11) (upd (S.1 (mo + 11)) (q) (nI (31))), S.2.1, S.2.2) (skN q)) (mo + 11)) (q + 1 + (skN q) - 1) (((mshake_l21 mo q (va_up S.1 (mo + 11) (upd (S.1 (mo + 11)) (q) (nI (31))), S.2.1, S.2.2) (skN q)) (mo + 11) (q + 1 + (skN q) - 1)) ^^^ (nI (128))))), (mshake_l83 mo ((va_up (mshake_l21 mo q (va_up S.1 (mo + 11) (upd (S.1 (mo + 11)) (q) (nI (31))), S.2.1, S.2.2) (skN q)) (mo + 11) (upd ((mshake_l21 mo q (va_up S.1 (mo + 11) (upd (S.1 (mo + 11)) (q) (nI (31))), S.2.1, S.2.2) (skN q)) (mo + 11)) (q + 1 + (skN q) - 1) (((mshake_l21 mo q (va_up S.1 (mo + 11) (upd (S.1 (mo + 11)) (q) (nI (31))), S.2.1, S.2.2) (skN q)) (mo + 11) (q + 1 + (skN q) - 1)) ^^^ (nI (128))))), S.2.1, S.2.2) 25), S.2.2) i104).1 (mshake_l114 mo i104 ((mshake_l104 mo q ((va_up (mshake_l21 mo q (va_up S.1 (mo + 11) (upd (S.1 (mo + 11)) (q) (nI (31))), S.2.1, S.2.2) (skN q)) (mo + 11) (upd ((mshake_l21 mo q (va_up S.1 (mo + 11) (upd (S.1 (mo + 11)) (q) (nI (31))), S.2.1, S.2.2) (skN q)) (mo + 11)) (q + 1 + (skN q) - 1) (((mshake_l21 mo q (va_up S.1 (mo + 11) (upd (S.1 (mo + 11)) (q) (nI (31))), S.2.1, S.2.2) (skN q)) (mo + 11) (q + 1 + (skN q) - 1)) ^^^ (nI (128))))), (mshake_l83 mo ((va_up (mshake_l21 mo q (va_up S.1 (mo + 11) (upd (S.1 (mo + 11)) (q) (nI (31))), S.2.1, S.2.2) (skN q)) (mo + 11) (upd ((mshake_l21 mo q (va_up S.1 (mo + 11) (upd (S.1 (mo + 11)) (q) (nI (31))), S.2.1, S.2.2) (skN q)) (mo + 11)) (q + 1 + (skN q) - 1) (((mshake_l21 mo q (va_up S.1 (mo + 11) (upd (S.1 (mo + 11)) (q) (nI (31))), S.2.1, S.2.2) (skN q)) (mo + 11) (q + 1 + (skN q) - 1)) ^^^ (nI (128))))), S.2.1, S.2.2) 25), S.2.2) i104).1, (mshake_l104 mo q ((va_up (mshake_l21 mo q (va_up S.1 (mo + 11) (upd (S.1 (mo + 11)) (q) (nI (31))), S.2.1, S.2.2) (skN q)) (mo + 11) (upd ((mshake_l21 mo q (va_up S.1 (mo + 11) (upd (S.1 (mo + 11)) (q) (nI (31))), S.2.1, S.2.2) (skN q)) (mo + 11)) (q + 1 + (skN q) - 1) (((mshake_l21 mo q (va_up S.1 (mo + 11) (upd (S.1 (mo + 11)) (q) (nI (31))), S.2.1, S.2.2) (skN q)) (mo + 11) (q + 1 + (skN q) - 1)) ^^^ (nI (128))))), (mshake_l83 mo ((va_up (mshake_l21 mo q (va_up S.1 (mo + 11) (upd (S.1 (mo + 11)) (q) (nI (31))), S.2.1, S.2.2) (skN q)) (mo + 11) (upd ((mshake_l21 mo q (va_up S.1 (mo + 11) (upd (S.1 (mo + 11)) (q) (nI (31))), S.2.1, S.2.2) (skN q)) (mo + 11)) (q + 1 + (skN q) - 1) (((mshake_l21 mo q (va_up S.1 (mo + 11) (upd (S.1 (mo + 11)) (q) (nI (31))), S.2.1, S.2.2) (skN q)) (mo + 11) (q + 1 + (skN q) - 1)) ^^^ (nI (128))))), S.2.1, S.2.2) 25), S.2.2) i104).2, S.2.2) i114) (fs S.2.2 (mo) 17 (nI (q + 1 + (skN q))))) n 0 0 := by
                refine upto _ _ ?_ (fun i114 hi114 ih114 => ?_)
                · skip
                  refine rn_iload_n C dX12_shake_114 rfl ?_
                  refine rn_sipush (v := nI 136) C dX12_shake_115 rfl ?_
                  refine rs_ge (tgt := 161) C dX12_shake_118 (by decide) rfl rfl (by omega) (by omega) (fun _ => ?_) (fun q => absurd q (by omega))
                  refine rn_aload_n C dX12_shake_161 rfl ?_
                  refine rs_vv C dX12_shake_162 mk_X12_permute lv_X12_259 (c_mperm (S := ((mshake_l104 mo q ((va_up (mshake_l21 mo q (va_up S.1 (mo + 11) (upd (S.1 (mo + 11)) (q) (nI (31))), S.2.1, S.2.2) (skN q)) (mo + 11) (upd ((mshake_l21 mo q (va_up S.1 (mo + 11) (upd (S.1 (mo + 11)) (q) (nI (31))), S.2.1, S.2.2) (skN q)) (mo + 11)) (q + 1 + (skN q) - 1) (((mshake_l21 mo q (va_up S.1 (mo + 11) (upd (S.1 (mo + 11)) (q) (nI (31))), S.2.1, S.2.2) (skN q)) (mo + 11) (q + 1 + (skN q) - 1)) ^^^ (nI (128))))), (mshake_l83 mo ((va_up (mshake_l21 mo q (va_up S.1 (mo + 11) (upd (S.1 (mo + 11)) (q) (nI (31))), S.2.1, S.2.2) (skN q)) (mo + 11) (upd ((mshake_l21 mo q (va_up S.1 (mo + 11) (upd (S.1 (mo + 11)) (q) (nI (31))), S.2.1, S.2.2) (skN q)) (mo + 11)) (q + 1 + (skN q) - 1) (((mshake_l21 mo q (va_up S.1 (mo + 11) (upd (S.1 (mo + 11)) (q) (nI (31))), S.2.1, S.2.2) (skN q)) (mo + 11) (q + 1 + (skN q) - 1)) ^^^ (nI (128))))), S.2.1, S.2.2) 25), S.2.2) i104).1, (mshake_l114 mo i104 ((mshake_l104 mo q ((va_up (mshake_l21 mo q (va_up S.1 (mo + 11) (upd (S.1 (mo + 11)) (q) (nI (31))), S.2.1, S.2.2) (skN q)) (mo + 11) (upd ((mshake_l21 mo q (va_up S.1 (mo + 11) (upd (S.1 (mo + 11)) (q) (nI (31))), S.2.1, S.2.2) (skN q)) (mo + 11)) (q + 1 + (skN q) - 1) (((mshake_l21 mo q (va_up S.1 (mo + 11) (upd (S.1 (mo + 11)) (q) (nI (31))), S.2.1, S.2.2) (skN q)) (mo + 11) (q + 1 + (skN q) - 1)) ^^^ (nI (128))))), (mshake_l83 mo ((va_up (mshake_l21 mo q (va_up S.1 (mo + 11) (upd (S.1 (mo + 11)) (q) (nI (31))), S.2.1, S.2.2) (skN q)) (mo + 11) (upd ((mshake_l21 mo q (va_up S.1 (mo + 11) (upd (S.1 (mo + 11)) (q) (nI (31))), S.2.1, S.2.2) (skN q)) (mo + 11)) (q + 1 + (skN q) - 1) (((mshake_l21 mo q (va_up S.1 (mo + 11) (upd (S.1 (mo + 11)) (q) (nI (31))), S.2.1, S.2.2) (skN q)) (mo + 11) (q + 1 + (skN q) - 1)) ^^^ (nI (128))))), S.2.1, S.2.2) 25), S.2.2) i104).1, (mshake_l104 mo q ((va_up (mshake_l21 mo q (va_up S.1 (mo + 11) (upd (S.1 (mo + 11)) (q) (nI (31))), S.2.1, S.2.2) (skN q)) (mo + 11) (upd ((mshake_l21 mo q (va_up S.1 (mo + 11) (upd (S.1 (mo + 11)) (q) (nI (31))), S.2.1, S.2.2) (skN q)) (mo + 11)) (q + 1 + (skN q) - 1) (((mshake_l21 mo q (va_up S.1 (mo + 11) (upd (S.1 (mo + 11)) (q) (nI (31))), S.2.1, S.2.2) (skN q)) (mo + 11) (q + 1 + (skN q) - 1)) ^^^ (nI (128))))), (mshake_l83 mo ((va_up (mshake_l21 mo q (va_up S.1 (mo + 11) (upd (S.1 (mo + 11)) (q) (nI (31))), S.2.1, S.2.2) (skN q)) (mo + 11) (upd ((mshake_l21 mo q (va_up S.1 (mo + 11) (upd (S.1 (mo + 11)) (q) (nI (31))), S.2.1, S.2.2) (skN q)) (mo + 11)) (q + 1 + (skN q) - 1) (((mshake_l21 mo q (va_up S.1 (mo + 11) (upd (S.1 (mo + 11)) (q) (nI (31))), S.2.1, S.2.2) (skN q)) (mo + 11) (q + 1 + (skN q) - 1)) ^^^ (nI (128))))), S.2.1, S.2.2) 25), S.2.2) i104).2, S.2.2) 136), fs S.2.2 (mo) 17 (nI (q + 1 + (skN q))))) hM ) hM0 rfl rfl rfl rfl (by decide) (Nat.le_of_ble_eq_true rfl) (by decide) (by decide) ?_
                  rw [show (mperm_f (mo)  ((mshake_l104 mo q ((va_up (mshake_l21 mo q (va_up S.1 (mo + 11) (upd (S.1 (mo + 11)) (q) (nI (31))), S.2.1, S.2.2) (skN q)) (mo + 11) (upd ((mshake_l21 mo q (va_up S.1 (mo + 11) (upd (S.1 (mo + 11)) (q) (nI (31))), S.2.1, S.2.2) (skN q)) (mo + 11)) (q + 1 + (skN q) - 1) (((mshake_l21 mo q (va_up S.1 (mo + 11) (upd (S.1 (mo + 11)) (q) (nI (31))), S.2.1, S.2.2) (skN q)) (mo + 11) (q + 1 + (skN q) - 1)) ^^^ (nI (128))))), (mshake_l83 mo ((va_up (mshake_l21 mo q (va_up S.1 (mo + 11) (upd (S.1 (mo + 11)) (q) (nI (31))), S.2.1, S.2.2) (skN q)) (mo + 11) (upd ((mshake_l21 mo q (va_up S.1 (mo + 11) (upd (S.1 (mo + 11)) (q) (nI (31))), S.2.1, S.2.2) (skN q)) (mo + 11)) (q + 1 + (skN q) - 1) (((mshake_l21 mo q (va_up S.1 (mo + 11) (upd (S.1 (mo + 11)) (q) (nI (31))), S.2.1, S.2.2) (skN q)) (mo + 11) (q + 1 + (skN q) - 1)) ^^^ (nI (128))))), S.2.1, S.2.2) 25), S.2.2) i104).1, (mshake_l114 mo i104 ((mshake_l104 mo q ((va_up (mshake_l21 mo q (va_up S.1 (mo + 11) (upd (S.1 (mo + 11)) (q) (nI (31))), S.2.1, S.2.2) (skN q)) (mo + 11) (upd ((mshake_l21 mo q (va_up S.1 (mo + 11) (upd (S.1 (mo + 11)) (q) (nI (31))), S.2.1, S.2.2) (skN q)) (mo + 11)) (q + 1 + (skN q) - 1) (((mshake_l21 mo q (va_up S.1 (mo + 11) (upd (S.1 (mo + 11)) (q) (nI (31))), S.2.1, S.2.2) (skN q)) (mo + 11) (q + 1 + (skN q) - 1)) ^^^ (nI (128))))), (mshake_l83 mo ((va_up (mshake_l21 mo q (va_up S.1 (mo + 11) (upd (S.1 (mo + 11)) (q) (nI (31))), S.2.1, S.2.2) (skN q)) (mo + 11) (upd ((mshake_l21 mo q (va_up S.1 (mo + 11) (upd (S.1 (mo + 11)) (q) (nI (31))), S.2.1, S.2.2) (skN q)) (mo + 11)) (q + 1 + (skN q) - 1) (((mshake_l21 mo q (va_up S.1 (mo + 11) (upd (S.1 (mo + 11)) (q) (nI (31))), S.2.1, S.2.2) (skN q)) (mo + 11) (q + 1 + (skN q) - 1)) ^^^ (nI (128))))), S.2.1, S.2.2) 25), S.2.2) i104).1, (mshake_l104 mo q ((va_up (mshake_l21 mo q (va_up S.1 (mo + 11) (upd (S.1 (mo + 11)) (q) (nI (31))), S.2.1, S.2.2) (skN q)) (mo + 11) (upd ((mshake_l21 mo q (va_up S.1 (mo + 11) (upd (S.1 (mo + 11)) (q) (nI (31))), S.2.1, S.2.2) (skN q)) (mo + 11)) (q + 1 + (skN q) - 1) (((mshake_l21 mo q (va_up S.1 (mo + 11) (upd (S.1 (mo + 11)) (q) (nI (31))), S.2.1, S.2.2) (skN q)) (mo + 11) (q + 1 + (skN q) - 1)) ^^^ (nI (128))))), (mshake_l83 mo ((va_up (mshake_l21 mo q (va_up S.1 (mo + 11) (upd (S.1 (mo + 11)) (q) (nI (31))), S.2.1, S.2.2) (skN q)) (mo + 11) (upd ((mshake_l21 mo q (va_up S.1 (mo + 11) (upd (S.1 (mo + 11)) (q) (nI (31))), S.2.1, S.2.2) (skN q)) (mo + 11)) (q + 1 + (skN q) - 1) (((mshake_l21 mo q (va_up S.1 (mo + 11) (upd (S.1 (mo + 11)) (q) (nI (31))), S.2.1, S.2.2) (skN q)) (mo + 11) (q + 1 + (skN q) - 1)) ^^^ (nI (128))))), S.2.1, S.2.2) 25), S.2.2) i104).2, S.2.2) 136), fs S.2.2 (mo) 17 (nI (q + 1 + (skN q))))).2.2 = fs S.2.2 (mo) 17 (nI (q + 1 + (skN q))) from (mperm_F (mo)  ((mshake_l104 mo q ((va_up (mshake_l21 mo q (va_up S.1 (mo + 11) (upd (S.1 (mo + 11)) (q) (nI (31))), S.2.1, S.2.2) (skN q)) (mo + 11) (upd ((mshake_l21 mo q (va_up S.1 (mo + 11) (upd (S.1 (mo + 11)) (q) (nI (31))), S.2.1, S.2.2) (skN q)) (mo + 11)) (q + 1 + (skN q) - 1) (((mshake_l21 mo q (va_up S.1 (mo + 11) (upd (S.1 (mo + 11)) (q) (nI (31))), S.2.1, S.2.2) (skN q)) (mo + 11) (q + 1 + (skN q) - 1)) ^^^ (nI (128))))), (mshake_l83 mo ((va_up (mshake_l21 mo q (va_up S.1 (mo + 11) (upd (S.1 (mo + 11)) (q) (nI (31))), S.2.1, S.2.2) (skN q)) (mo + 11) (upd ((mshake_l21 mo q (va_up S.1 (mo + 11) (upd (S.1 (mo + 11)) (q) (nI (31))), S.2.1, S.2.2) (skN q)) (mo + 11)) (q + 1 + (skN q) - 1) (((mshake_l21 mo q (va_up S.1 (mo + 11) (upd (S.1 (mo + 11)) (q) (nI (31))), S.2.1, S.2.2) (skN q)) (mo + 11) (q + 1 + (skN q) - 1)) ^^^ (nI (128))))), S.2.1, S.2.2) 25), S.2.2) i104).1, (mshake_l114 mo i104 ((mshake_l104 mo q ((va_up (mshake_l21 mo q (va_up S.1 (mo + 11) (upd (S.1 (mo + 11)) (q) (nI (31))), S.2.1, S.2.2) (skN q)) (mo + 11) (upd ((mshake_l21 mo q (va_up S.1 (mo + 11) (upd (S.1 (mo + 11)) (q) (nI (31))), S.2.1, S.2.2) (skN q)) (mo + 11)) (q + 1 + (skN q) - 1) (((mshake_l21 mo q (va_up S.1 (mo + 11) (upd (S.1 (mo + 11)) (q) (nI (31))), S.2.1, S.2.2) (skN q)) (mo + 11) (q + 1 + (skN q) - 1)) ^^^ (nI (128))))), (mshake_l83 mo ((va_up (mshake_l21 mo q (va_up S.1 (mo + 11) (upd (S.1 (mo + 11)) (q) (nI (31))), S.2.1, S.2.2) (skN q)) (mo + 11) (upd ((mshake_l21 mo q (va_up S.1 (mo + 11) (upd (S.1 (mo + 11)) (q) (nI (31))), S.2.1, S.2.2) (skN q)) (mo + 11)) (q + 1 + (skN q) - 1) (((mshake_l21 mo q (va_up S.1 (mo + 11) (upd (S.1 (mo + 11)) (q) (nI (31))), S.2.1, S.2.2) (skN q)) (mo + 11) (q + 1 + (skN q) - 1)) ^^^ (nI (128))))), S.2.1, S.2.2) 25), S.2.2) i104).1, (mshake_l104 mo q ((va_up (mshake_l21 mo q (va_up S.1 (mo + 11) (upd (S.1 (mo + 11)) (q) (nI (31))), S.2.1, S.2.2) (skN q)) (mo + 11) (upd ((mshake_l21 mo q (va_up S.1 (mo + 11) (upd (S.1 (mo + 11)) (q) (nI (31))), S.2.1, S.2.2) (skN q)) (mo + 11)) (q + 1 + (skN q) - 1) (((mshake_l21 mo q (va_up S.1 (mo + 11) (upd (S.1 (mo + 11)) (q) (nI (31))), S.2.1, S.2.2) (skN q)) (mo + 11) (q + 1 + (skN q) - 1)) ^^^ (nI (128))))), (mshake_l83 mo ((va_up (mshake_l21 mo q (va_up S.1 (mo + 11) (upd (S.1 (mo + 11)) (q) (nI (31))), S.2.1, S.2.2) (skN q)) (mo + 11) (upd ((mshake_l21 mo q (va_up S.1 (mo + 11) (upd (S.1 (mo + 11)) (q) (nI (31))), S.2.1, S.2.2) (skN q)) (mo + 11)) (q + 1 + (skN q) - 1) (((mshake_l21 mo q (va_up S.1 (mo + 11) (upd (S.1 (mo + 11)) (q) (nI (31))), S.2.1, S.2.2) (skN q)) (mo + 11) (q + 1 + (skN q) - 1)) ^^^ (nI (128))))), S.2.1, S.2.2) 25), S.2.2) i104).2, S.2.2) 136), fs S.2.2 (mo) 17 (nI (q + 1 + (skN q)))))]
                  generalize hS3 : mperm_f (mo)  ((mshake_l104 mo q ((va_up (mshake_l21 mo q (va_up S.1 (mo + 11) (upd (S.1 (mo + 11)) (q) (nI (31))), S.2.1, S.2.2) (skN q)) (mo + 11) (upd ((mshake_l21 mo q (va_up S.1 (mo + 11) (upd (S.1 (mo + 11)) (q) (nI (31))), S.2.1, S.2.2) (skN q)) (mo + 11)) (q + 1 + (skN q) - 1) (((mshake_l21 mo q (va_up S.1 (mo + 11) (upd (S.1 (mo + 11)) (q) (nI (31))), S.2.1, S.2.2) (skN q)) (mo + 11) (q + 1 + (skN q) - 1)) ^^^ (nI (128))))), (mshake_l83 mo ((va_up (mshake_l21 mo q (va_up S.1 (mo + 11) (upd (S.1 (mo + 11)) (q) (nI (31))), S.2.1, S.2.2) (skN q)) (mo + 11) (upd ((mshake_l21 mo q (va_up S.1 (mo + 11) (upd (S.1 (mo + 11)) (q) (nI (31))), S.2.1, S.2.2) (skN q)) (mo + 11)) (q + 1 + (skN q) - 1) (((mshake_l21 mo q (va_up S.1 (mo + 11) (upd (S.1 (mo + 11)) (q) (nI (31))), S.2.1, S.2.2) (skN q)) (mo + 11) (q + 1 + (skN q) - 1)) ^^^ (nI (128))))), S.2.1, S.2.2) 25), S.2.2) i104).1, (mshake_l114 mo i104 ((mshake_l104 mo q ((va_up (mshake_l21 mo q (va_up S.1 (mo + 11) (upd (S.1 (mo + 11)) (q) (nI (31))), S.2.1, S.2.2) (skN q)) (mo + 11) (upd ((mshake_l21 mo q (va_up S.1 (mo + 11) (upd (S.1 (mo + 11)) (q) (nI (31))), S.2.1, S.2.2) (skN q)) (mo + 11)) (q + 1 + (skN q) - 1) (((mshake_l21 mo q (va_up S.1 (mo + 11) (upd (S.1 (mo + 11)) (q) (nI (31))), S.2.1, S.2.2) (skN q)) (mo + 11) (q + 1 + (skN q) - 1)) ^^^ (nI (128))))), (mshake_l83 mo ((va_up (mshake_l21 mo q (va_up S.1 (mo + 11) (upd (S.1 (mo + 11)) (q) (nI (31))), S.2.1, S.2.2) (skN q)) (mo + 11) (upd ((mshake_l21 mo q (va_up S.1 (mo + 11) (upd (S.1 (mo + 11)) (q) (nI (31))), S.2.1, S.2.2) (skN q)) (mo + 11)) (q + 1 + (skN q) - 1) (((mshake_l21 mo q (va_up S.1 (mo + 11) (upd (S.1 (mo + 11)) (q) (nI (31))), S.2.1, S.2.2) (skN q)) (mo + 11) (q + 1 + (skN q) - 1)) ^^^ (nI (128))))), S.2.1, S.2.2) 25), S.2.2) i104).1, (mshake_l104 mo q ((va_up (mshake_l21 mo q (va_up S.1 (mo + 11) (upd (S.1 (mo + 11)) (q) (nI (31))), S.2.1, S.2.2) (skN q)) (mo + 11) (upd ((mshake_l21 mo q (va_up S.1 (mo + 11) (upd (S.1 (mo + 11)) (q) (nI (31))), S.2.1, S.2.2) (skN q)) (mo + 11)) (q + 1 + (skN q) - 1) (((mshake_l21 mo q (va_up S.1 (mo + 11) (upd (S.1 (mo + 11)) (q) (nI (31))), S.2.1, S.2.2) (skN q)) (mo + 11) (q + 1 + (skN q) - 1)) ^^^ (nI (128))))), (mshake_l83 mo ((va_up (mshake_l21 mo q (va_up S.1 (mo + 11) (upd (S.1 (mo + 11)) (q) (nI (31))), S.2.1, S.2.2) (skN q)) (mo + 11) (upd ((mshake_l21 mo q (va_up S.1 (mo + 11) (upd (S.1 (mo + 11)) (q) (nI (31))), S.2.1, S.2.2) (skN q)) (mo + 11)) (q + 1 + (skN q) - 1) (((mshake_l21 mo q (va_up S.1 (mo + 11) (upd (S.1 (mo + 11)) (q) (nI (31))), S.2.1, S.2.2) (skN q)) (mo + 11) (q + 1 + (skN q) - 1)) ^^^ (nI (128))))), S.2.1, S.2.2) 25), S.2.2) i104).2, S.2.2) 136), fs S.2.2 (mo) 17 (nI (q + 1 + (skN q)))) = S3
                  refine rn_iincw (lv' := [(0, _), (1, _), (2, _), (3, _)]) C dX12_shake_165 rfl (nI_incs _ 136) (by decide) rfl ?_
                  refine rn_goto (tgt := 104) C dX12_shake_171 (by decide) ?_
                  have he104 : mshake_l104 mo q ((va_up (mshake_l21 mo q (va_up S.1 (mo + 11) (upd (S.1 (mo + 11)) (q) (nI (31))), S.2.1, S.2.2) (skN q)) (mo + 11) (upd ((mshake_l21 mo q (va_up S.1 (mo + 11) (upd (S.1 (mo + 11)) (q) (nI (31))), S.2.1, S.2.2) (skN q)) (mo + 11)) (q + 1 + (skN q) - 1) (((mshake_l21 mo q (va_up S.1 (mo + 11) (upd (S.1 (mo + 11)) (q) (nI (31))), S.2.1, S.2.2) (skN q)) (mo + 11) (q + 1 + (skN q) - 1)) ^^^ (nI (128))))), (mshake_l83 mo ((va_up (mshake_l21 mo q (va_up S.1 (mo + 11) (upd (S.1 (mo + 11)) (q) (nI (31))), S.2.1, S.2.2) (skN q)) (mo + 11) (upd ((mshake_l21 mo q (va_up S.1 (mo + 11) (upd (S.1 (mo + 11)) (q) (nI (31))), S.2.1, S.2.2) (skN q)) (mo + 11)) (q + 1 + (skN q) - 1) (((mshake_l21 mo q (va_up S.1 (mo + 11) (upd (S.1 (mo + 11)) (q) (nI (31))), S.2.1, S.2.2) (skN q)) (mo + 11) (q + 1 + (skN q) - 1)) ^^^ (nI (128))))), S.2.1, S.2.2) 25), S.2.2) (i104 + 1) = (S3.1, S3.2.1) := by
                    subst hS3
                    first | (dsimp only [mshake_l104]; done) | (dsimp only [mshake_l104]; exact rfl) | exact rfl
                  rw [he104] at ih104
                  exact rn_ks [0, 1, 2] ih104 rfl
                · skip
                  refine rn_iload_n C dX12_shake_114 rfl ?_
                  refine rn_sipush (v := nI 136) C dX12_shake_115 rfl ?_
                  refine rs_ge (tgt := 161) C dX12_shake_118 (by decide) rfl rfl (by omega) (by omega) (fun q => absurd q (by omega)) (fun _ => ?_)
                  refine rn_aload_n C dX12_shake_121 rfl ?_
                  refine rs_get C dX12_shake_122 fl_X12_81 hM0 rfl ?_
                  refine rn_iload_n C dX12_shake_125 rfl ?_
                  refine rn_iconst (v := nI 3) C dX12_shake_126 rfl ?_
                  refine rn_ishr C dX12_shake_127 (pk_shrN (by omega) _ 3 (by decide)) ?_
                  refine rn_aload_n C dX12_shake_128 rfl ?_
                  refine rs_get C dX12_shake_129 fl_X12_81 hM0 rfl ?_
                  refine rn_iload_n C dX12_shake_132 rfl ?_
                  refine rn_iconst (v := nI 3) C dX12_shake_133 rfl ?_
                  refine rn_ishr C dX12_shake_134 (pk_shrN (by omega) _ 3 (by decide)) ?_
                  refine rs_laload C dX12_shake_135 hm17 rfl (by omega) (by decide) ?_
                  refine rn_aload_n C dX12_shake_136 rfl ?_
                  refine rs_get C dX12_shake_137 fl_X12_60 hM0 rfl ?_
                  refine rn_iload_n C dX12_shake_140 rfl ?_
                  refine rn_iload_n C dX12_shake_141 rfl ?_
                  refine rn_iadd C dX12_shake_142 (nI_add _ _) ?_
                  refine rs_iaload C dX12_shake_143 hm11 rfl (by omega) (by decide) ?_
                  refine rn_i2l C dX12_shake_144 rfl ?_
                  refine rn_bipush (v := nI 8) C dX12_shake_145 rfl ?_
                  refine rn_iload_n C dX12_shake_147 rfl ?_
                  refine rn_bipush (v := nI 7) C dX12_shake_148 rfl ?_
                  refine rn_iand C dX12_shake_150 (pk_andN (by omega) 3 (by decide)) ?_
                  refine rn_imul C dX12_shake_151 (pk_mul _ _) ?_
                  refine rn_lshl C dX12_shake_152 rfl ?_
                  refine rn_lxor C dX12_shake_153 rfl ?_
                  refine rs_lastore C dX12_shake_154 hm17 rfl (by omega) (by decide) ?_
                  refine rn_iinc (lv' := [(0, _), (1, _), (2, _), (3, _)]) C dX12_shake_155 rfl (nI_inc _) (by decide) rfl ?_
                  refine rn_goto (tgt := 114) C dX12_shake_158 (by decide) ?_
                  have he114 : mshake_l114 mo i104 ((mshake_l104 mo q ((va_up (mshake_l21 mo q (va_up S.1 (mo + 11) (upd (S.1 (mo + 11)) (q) (nI (31))), S.2.1, S.2.2) (skN q)) (mo + 11) (upd ((mshake_l21 mo q (va_up S.1 (mo + 11) (upd (S.1 (mo + 11)) (q) (nI (31))), S.2.1, S.2.2) (skN q)) (mo + 11)) (q + 1 + (skN q) - 1) (((mshake_l21 mo q (va_up S.1 (mo + 11) (upd (S.1 (mo + 11)) (q) (nI (31))), S.2.1, S.2.2) (skN q)) (mo + 11) (q + 1 + (skN q) - 1)) ^^^ (nI (128))))), (mshake_l83 mo ((va_up (mshake_l21 mo q (va_up S.1 (mo + 11) (upd (S.1 (mo + 11)) (q) (nI (31))), S.2.1, S.2.2) (skN q)) (mo + 11) (upd ((mshake_l21 mo q (va_up S.1 (mo + 11) (upd (S.1 (mo + 11)) (q) (nI (31))), S.2.1, S.2.2) (skN q)) (mo + 11)) (q + 1 + (skN q) - 1) (((mshake_l21 mo q (va_up S.1 (mo + 11) (upd (S.1 (mo + 11)) (q) (nI (31))), S.2.1, S.2.2) (skN q)) (mo + 11) (q + 1 + (skN q) - 1)) ^^^ (nI (128))))), S.2.1, S.2.2) 25), S.2.2) i104).1, (mshake_l104 mo q ((va_up (mshake_l21 mo q (va_up S.1 (mo + 11) (upd (S.1 (mo + 11)) (q) (nI (31))), S.2.1, S.2.2) (skN q)) (mo + 11) (upd ((mshake_l21 mo q (va_up S.1 (mo + 11) (upd (S.1 (mo + 11)) (q) (nI (31))), S.2.1, S.2.2) (skN q)) (mo + 11)) (q + 1 + (skN q) - 1) (((mshake_l21 mo q (va_up S.1 (mo + 11) (upd (S.1 (mo + 11)) (q) (nI (31))), S.2.1, S.2.2) (skN q)) (mo + 11) (q + 1 + (skN q) - 1)) ^^^ (nI (128))))), (mshake_l83 mo ((va_up (mshake_l21 mo q (va_up S.1 (mo + 11) (upd (S.1 (mo + 11)) (q) (nI (31))), S.2.1, S.2.2) (skN q)) (mo + 11) (upd ((mshake_l21 mo q (va_up S.1 (mo + 11) (upd (S.1 (mo + 11)) (q) (nI (31))), S.2.1, S.2.2) (skN q)) (mo + 11)) (q + 1 + (skN q) - 1) (((mshake_l21 mo q (va_up S.1 (mo + 11) (upd (S.1 (mo + 11)) (q) (nI (31))), S.2.1, S.2.2) (skN q)) (mo + 11) (q + 1 + (skN q) - 1)) ^^^ (nI (128))))), S.2.1, S.2.2) 25), S.2.2) i104).2, S.2.2) (i114 + 1) = (va_up (mshake_l114 mo i104 ((mshake_l104 mo q ((va_up (mshake_l21 mo q (va_up S.1 (mo + 11) (upd (S.1 (mo + 11)) (q) (nI (31))), S.2.1, S.2.2) (skN q)) (mo + 11) (upd ((mshake_l21 mo q (va_up S.1 (mo + 11) (upd (S.1 (mo + 11)) (q) (nI (31))), S.2.1, S.2.2) (skN q)) (mo + 11)) (q + 1 + (skN q) - 1) (((mshake_l21 mo q (va_up S.1 (mo + 11) (upd (S.1 (mo + 11)) (q) (nI (31))), S.2.1, S.2.2) (skN q)) (mo + 11) (q + 1 + (skN q) - 1)) ^^^ (nI (128))))), (mshake_l83 mo ((va_up (mshake_l21 mo q (va_up S.1 (mo + 11) (upd (S.1 (mo + 11)) (q) (nI (31))), S.2.1, S.2.2) (skN q)) (mo + 11) (upd ((mshake_l21 mo q (va_up S.1 (mo + 11) (upd (S.1 (mo + 11)) (q) (nI (31))), S.2.1, S.2.2) (skN q)) (mo + 11)) (q + 1 + (skN q) - 1) (((mshake_l21 mo q (va_up S.1 (mo + 11) (upd (S.1 (mo + 11)) (q) (nI (31))), S.2.1, S.2.2) (skN q)) (mo + 11) (q + 1 + (skN q) - 1)) ^^^ (nI (128))))), S.2.1, S.2.2) 25), S.2.2) i104).1, (mshake_l104 mo q ((va_up (mshake_l21 mo q (va_up S.1 (mo + 11) (upd (S.1 (mo + 11)) (q) (nI (31))), S.2.1, S.2.2) (skN q)) (mo + 11) (upd ((mshake_l21 mo q (va_up S.1 (mo + 11) (upd (S.1 (mo + 11)) (q) (nI (31))), S.2.1, S.2.2) (skN q)) (mo + 11)) (q + 1 + (skN q) - 1) (((mshake_l21 mo q (va_up S.1 (mo + 11) (upd (S.1 (mo + 11)) (q) (nI (31))), S.2.1, S.2.2) (skN q)) (mo + 11) (q + 1 + (skN q) - 1)) ^^^ (nI (128))))), (mshake_l83 mo ((va_up (mshake_l21 mo q (va_up S.1 (mo + 11) (upd (S.1 (mo + 11)) (q) (nI (31))), S.2.1, S.2.2) (skN q)) (mo + 11) (upd ((mshake_l21 mo q (va_up S.1 (mo + 11) (upd (S.1 (mo + 11)) (q) (nI (31))), S.2.1, S.2.2) (skN q)) (mo + 11)) (q + 1 + (skN q) - 1) (((mshake_l21 mo q (va_up S.1 (mo + 11) (upd (S.1 (mo + 11)) (q) (nI (31))), S.2.1, S.2.2) (skN q)) (mo + 11) (q + 1 + (skN q) - 1)) ^^^ (nI (128))))), S.2.1, S.2.2) 25), S.2.2) i104).2, S.2.2) i114) (mo + 17) (vp_updL ((mshake_l114 mo i104 ((mshake_l104 mo q ((va_up (mshake_l21 mo q (va_up S.1 (mo + 11) (upd (S.1 (mo + 11)) (q) (nI (31))), S.2.1, S.2.2) (skN q)) (mo + 11) (upd ((mshake_l21 mo q (va_up S.1 (mo + 11) (upd (S.1 (mo + 11)) (q) (nI (31))), S.2.1, S.2.2) (skN q)) (mo + 11)) (q + 1 + (skN q) - 1) (((mshake_l21 mo q (va_up S.1 (mo + 11) (upd (S.1 (mo + 11)) (q) (nI (31))), S.2.1, S.2.2) (skN q)) (mo + 11) (q + 1 + (skN q) - 1)) ^^^ (nI (128))))), (mshake_l83 mo ((va_up (mshake_l21 mo q (va_up S.1 (mo + 11) (upd (S.1 (mo + 11)) (q) (nI (31))), S.2.1, S.2.2) (skN q)) (mo + 11) (upd ((mshake_l21 mo q (va_up S.1 (mo + 11) (upd (S.1 (mo + 11)) (q) (nI (31))), S.2.1, S.2.2) (skN q)) (mo + 11)) (q + 1 + (skN q) - 1) (((mshake_l21 mo q (va_up S.1 (mo + 11) (upd (S.1 (mo + 11)) (q) (nI (31))), S.2.1, S.2.2) (skN q)) (mo + 11) (q + 1 + (skN q) - 1)) ^^^ (nI (128))))), S.2.1, S.2.2) 25), S.2.2) i104).1, (mshake_l104 mo q ((va_up (mshake_l21 mo q (va_up S.1 (mo + 11) (upd (S.1 (mo + 11)) (q) (nI (31))), S.2.1, S.2.2) (skN q)) (mo + 11) (upd ((mshake_l21 mo q (va_up S.1 (mo + 11) (upd (S.1 (mo + 11)) (q) (nI (31))), S.2.1, S.2.2) (skN q)) (mo + 11)) (q + 1 + (skN q) - 1) (((mshake_l21 mo q (va_up S.1 (mo + 11) (upd (S.1 (mo + 11)) (q) (nI (31))), S.2.1, S.2.2) (skN q)) (mo + 11) (q + 1 + (skN q) - 1)) ^^^ (nI (128))))), (mshake_l83 mo ((va_up (mshake_l21 mo q (va_up S.1 (mo + 11) (upd (S.1 (mo + 11)) (q) (nI (31))), S.2.1, S.2.2) (skN q)) (mo + 11) (upd ((mshake_l21 mo q (va_up S.1 (mo + 11) (upd (S.1 (mo + 11)) (q) (nI (31))), S.2.1, S.2.2) (skN q)) (mo + 11)) (q + 1 + (skN q) - 1) (((mshake_l21 mo q (va_up S.1 (mo + 11) (upd (S.1 (mo + 11)) (q) (nI (31))), S.2.1, S.2.2) (skN q)) (mo + 11) (q + 1 + (skN q) - 1)) ^^^ (nI (128))))), S.2.1, S.2.2) 25), S.2.2) i104).2, S.2.2) i114) (mo + 17)) (i114 / 2 ^ 3) (((mshake_l114 mo i104 ((mshake_l104 mo q ((va_up (mshake_l21 mo q (va_up S.1 (mo + 11) (upd (S.1 (mo + 11)) (q) (nI (31))), S.2.1, S.2.2) (skN q)) (mo + 11) (upd ((mshake_l21 mo q (va_up S.1 (mo + 11) (upd (S.1 (mo + 11)) (q) (nI (31))), S.2.1, S.2.2) (skN q)) (mo + 11)) (q + 1 + (skN q) - 1) (((mshake_l21 mo q (va_up S.1 (mo + 11) (upd (S.1 (mo + 11)) (q) (nI (31))), S.2.1, S.2.2) (skN q)) (mo + 11) (q + 1 + (skN q) - 1)) ^^^ (nI (128))))), (mshake_l83 mo ((va_up (mshake_l21 mo q (va_up S.1 (mo + 11) (upd (S.1 (mo + 11)) (q) (nI (31))), S.2.1, S.2.2) (skN q)) (mo + 11) (upd ((mshake_l21 mo q (va_up S.1 (mo + 11) (upd (S.1 (mo + 11)) (q) (nI (31))), S.2.1, S.2.2) (skN q)) (mo + 11)) (q + 1 + (skN q) - 1) (((mshake_l21 mo q (va_up S.1 (mo + 11) (upd (S.1 (mo + 11)) (q) (nI (31))), S.2.1, S.2.2) (skN q)) (mo + 11) (q + 1 + (skN q) - 1)) ^^^ (nI (128))))), S.2.1, S.2.2) 25), S.2.2) i104).1, (mshake_l104 mo q ((va_up (mshake_l21 mo q (va_up S.1 (mo + 11) (upd (S.1 (mo + 11)) (q) (nI (31))), S.2.1, S.2.2) (skN q)) (mo + 11) (upd ((mshake_l21 mo q (va_up S.1 (mo + 11) (upd (S.1 (mo + 11)) (q) (nI (31))), S.2.1, S.2.2) (skN q)) (mo + 11)) (q + 1 + (skN q) - 1) (((mshake_l21 mo q (va_up S.1 (mo + 11) (upd (S.1 (mo + 11)) (q) (nI (31))), S.2.1, S.2.2) (skN q)) (mo + 11) (q + 1 + (skN q) - 1)) ^^^ (nI (128))))), (mshake_l83 mo ((va_up (mshake_l21 mo q (va_up S.1 (mo + 11) (upd (S.1 (mo + 11)) (q) (nI (31))), S.2.1, S.2.2) (skN q)) (mo + 11) (upd ((mshake_l21 mo q (va_up S.1 (mo + 11) (upd (S.1 (mo + 11)) (q) (nI (31))), S.2.1, S.2.2) (skN q)) (mo + 11)) (q + 1 + (skN q) - 1) (((mshake_l21 mo q (va_up S.1 (mo + 11) (upd (S.1 (mo + 11)) (q) (nI (31))), S.2.1, S.2.2) (skN q)) (mo + 11) (q + 1 + (skN q) - 1)) ^^^ (nI (128))))), S.2.1, S.2.2) 25), S.2.2) i104).2, S.2.2) i114) (mo + 17) (i114 / 2 ^ 3)) ^^^ (((((mshake_l104 mo q ((va_up (mshake_l21 mo q (va_up S.1 (mo + 11) (upd (S.1 (mo + 11)) (q) (nI (31))), S.2.1, S.2.2) (skN q)) (mo + 11) (upd ((mshake_l21 mo q (va_up S.1 (mo + 11) (upd (S.1 (mo + 11)) (q) (nI (31))), S.2.1, S.2.2) (skN q)) (mo + 11)) (q + 1 + (skN q) - 1) (((mshake_l21 mo q (va_up S.1 (mo + 11) (upd (S.1 (mo + 11)) (q) (nI (31))), S.2.1, S.2.2) (skN q)) (mo + 11) (q + 1 + (skN q) - 1)) ^^^ (nI (128))))), (mshake_l83 mo ((va_up (mshake_l21 mo q (va_up S.1 (mo + 11) (upd (S.1 (mo + 11)) (q) (nI (31))), S.2.1, S.2.2) (skN q)) (mo + 11) (upd ((mshake_l21 mo q (va_up S.1 (mo + 11) (upd (S.1 (mo + 11)) (q) (nI (31))), S.2.1, S.2.2) (skN q)) (mo + 11)) (q + 1 + (skN q) - 1) (((mshake_l21 mo q (va_up S.1 (mo + 11) (upd (S.1 (mo + 11)) (q) (nI (31))), S.2.1, S.2.2) (skN q)) (mo + 11) (q + 1 + (skN q) - 1)) ^^^ (nI (128))))), S.2.1, S.2.2) 25), S.2.2) i104).1, (mshake_l104 mo q ((va_up (mshake_l21 mo q (va_up S.1 (mo + 11) (upd (S.1 (mo + 11)) (q) (nI (31))), S.2.1, S.2.2) (skN q)) (mo + 11) (upd ((mshake_l21 mo q (va_up S.1 (mo + 11) (upd (S.1 (mo + 11)) (q) (nI (31))), S.2.1, S.2.2) (skN q)) (mo + 11)) (q + 1 + (skN q) - 1) (((mshake_l21 mo q (va_up S.1 (mo + 11) (upd (S.1 (mo + 11)) (q) (nI (31))), S.2.1, S.2.2) (skN q)) (mo + 11) (q + 1 + (skN q) - 1)) ^^^ (nI (128))))), (mshake_l83 mo ((va_up (mshake_l21 mo q (va_up S.1 (mo + 11) (upd (S.1 (mo + 11)) (q) (nI (31))), S.2.1, S.2.2) (skN q)) (mo + 11) (upd ((mshake_l21 mo q (va_up S.1 (mo + 11) (upd (S.1 (mo + 11)) (q) (nI (31))), S.2.1, S.2.2) (skN q)) (mo + 11)) (q + 1 + (skN q) - 1) (((mshake_l21 mo q (va_up S.1 (mo + 11) (upd (S.1 (mo + 11)) (q) (nI (31))), S.2.1, S.2.2) (skN q)) (mo + 11) (q + 1 + (skN q) - 1)) ^^^ (nI (128))))), S.2.1, S.2.2) 25), S.2.2) i104).2, S.2.2).1 (mo + 11) (136 * i104 + i114)).toInt64) <<< ((nI (8 * (i114 % 2 ^ 3))).toInt64 &&& 63))))) := by
                    first | (dsimp only [mshake_l114]; done) | (dsimp only [mshake_l114]; exact rfl) | exact rfl
                  rw [he114] at ih114
                  exact rn_ks [0, 1, 2, 3] ih114 rfl
              exact lp114 0 (Nat.zero_le _)
          exact lp104 0 (Nat.zero_le _)
        · skip
          refine rn_iload_n C dX12_shake_83 rfl ?_
          refine rn_bipush (v := nI 25) C dX12_shake_84 rfl ?_
          refine rs_ge (tgt := 102) C dX12_shake_86 (by decide) rfl rfl (by omega) (by omega) (fun q => absurd q (by omega)) (fun _ => ?_)
          refine rn_aload_n C dX12_shake_89 rfl ?_
          refine rs_get C dX12_shake_90 fl_X12_81 hM0 rfl ?_
          refine rn_iload_n C dX12_shake_93 rfl ?_
          refine rn_lconst (v := 0) C dX12_shake_94 rfl ?_
          refine rs_lastore C dX12_shake_95 hm17 rfl (by omega) (by decide) ?_
          refine rn_iinc (lv' := [(0, _), (1, _), (2, _)]) C dX12_shake_96 rfl (nI_inc _) (by decide) rfl ?_
          refine rn_goto (tgt := 83) C dX12_shake_99 (by decide) ?_
          have he83 : mshake_l83 mo ((va_up (mshake_l21 mo q (va_up S.1 (mo + 11) (upd (S.1 (mo + 11)) (q) (nI (31))), S.2.1, S.2.2) (skN q)) (mo + 11) (upd ((mshake_l21 mo q (va_up S.1 (mo + 11) (upd (S.1 (mo + 11)) (q) (nI (31))), S.2.1, S.2.2) (skN q)) (mo + 11)) (q + 1 + (skN q) - 1) (((mshake_l21 mo q (va_up S.1 (mo + 11) (upd (S.1 (mo + 11)) (q) (nI (31))), S.2.1, S.2.2) (skN q)) (mo + 11) (q + 1 + (skN q) - 1)) ^^^ (nI (128))))), S.2.1, S.2.2) (i83 + 1) = va_up (mshake_l83 mo ((va_up (mshake_l21 mo q (va_up S.1 (mo + 11) (upd (S.1 (mo + 11)) (q) (nI (31))), S.2.1, S.2.2) (skN q)) (mo + 11) (upd ((mshake_l21 mo q (va_up S.1 (mo + 11) (upd (S.1 (mo + 11)) (q) (nI (31))), S.2.1, S.2.2) (skN q)) (mo + 11)) (q + 1 + (skN q) - 1) (((mshake_l21 mo q (va_up S.1 (mo + 11) (upd (S.1 (mo + 11)) (q) (nI (31))), S.2.1, S.2.2) (skN q)) (mo + 11) (q + 1 + (skN q) - 1)) ^^^ (nI (128))))), S.2.1, S.2.2) i83) (mo + 17) (vp_updL ((mshake_l83 mo ((va_up (mshake_l21 mo q (va_up S.1 (mo + 11) (upd (S.1 (mo + 11)) (q) (nI (31))), S.2.1, S.2.2) (skN q)) (mo + 11) (upd ((mshake_l21 mo q (va_up S.1 (mo + 11) (upd (S.1 (mo + 11)) (q) (nI (31))), S.2.1, S.2.2) (skN q)) (mo + 11)) (q + 1 + (skN q) - 1) (((mshake_l21 mo q (va_up S.1 (mo + 11) (upd (S.1 (mo + 11)) (q) (nI (31))), S.2.1, S.2.2) (skN q)) (mo + 11) (q + 1 + (skN q) - 1)) ^^^ (nI (128))))), S.2.1, S.2.2) i83) (mo + 17)) (i83) (0)) := by
            first | (dsimp only [mshake_l83]; done) | (dsimp only [mshake_l83]; exact rfl) | exact rfl
          rw [he83] at ih83
          exact rn_ks [0, 1, 2] ih83 rfl
      exact lp83 0 (Nat.zero_le _)
    · skip
      refine rn_aload_n C dX12_shake_21 rfl ?_
      refine rs_getFe C dX12_shake_22 fl_X12_63 hM0 rfl fs_get ?_
      refine rn_sipush (v := nI 136) C dX12_shake_25 rfl ?_
      refine rn_irem C dX12_shake_28 (by decide) (pk_rem (by omega) (by omega) (by omega)) ?_
      refine rn_if_eq (tgt := 55) C dX12_shake_29 (by decide) (fun qq_ => absurd qq_ (nI_nz (by omega) (skN_1 q i21 hi21))) (fun _ => ?_)
      refine rn_aload_n C dX12_shake_32 rfl ?_
      refine rs_get C dX12_shake_33 fl_X12_60 hM0 rfl ?_
      refine rn_aload_n C dX12_shake_36 rfl ?_
      refine rs_getFe C dX12_shake_37 fl_X12_63 hM0 rfl fs_get ?_
      refine rn_iconst (v := nI 0) C dX12_shake_40 rfl ?_
      refine rs_iastore C dX12_shake_41 hm11 rfl (by omega) (by decide) ?_
      refine rn_aload_n C dX12_shake_42 rfl ?_
      refine rn_dup C dX12_shake_43 rfl ?_
      refine rs_getFe C dX12_shake_44 fl_X12_63 hM0 rfl fs_get ?_
      refine rn_iconst (v := nI 1) C dX12_shake_47 rfl ?_
      refine rn_iadd C dX12_shake_48 (nI_add _ _) ?_
      refine rs_putF C dX12_shake_49 fp_X12_63 hM0 rfl ?_
      rw [show va_up (fs S.2.2 (mo) 17 (nI (q + 1 + i21))) (mo) (upd ((fs S.2.2 (mo) 17 (nI (q + 1 + i21))) (mo)) 17 (nI (q + 1 + i21 + 1))) = fs S.2.2 (mo) 17 (nI (q + 1 + i21 + 1)) from fs_fs]
      refine rn_goto (tgt := 21) C dX12_shake_52 (by decide) ?_
      have he21 : mshake_l21 mo q (va_up S.1 (mo + 11) (upd (S.1 (mo + 11)) (q) (nI (31))), S.2.1, S.2.2) (i21 + 1) = va_up (mshake_l21 mo q (va_up S.1 (mo + 11) (upd (S.1 (mo + 11)) (q) (nI (31))), S.2.1, S.2.2) i21) (mo + 11) (upd ((mshake_l21 mo q (va_up S.1 (mo + 11) (upd (S.1 (mo + 11)) (q) (nI (31))), S.2.1, S.2.2) i21) (mo + 11)) (q + 1 + i21) (nI (0))) := by
        first | (dsimp only [mshake_l21]; done) | (dsimp only [mshake_l21]; exact rfl) | exact rfl
      rw [he21] at ih21
      exact rn_ks [0, 1] ih21 rfl
  rw [show inst X.1 L (va_up S.1 (mo + 11) (upd (S.1 (mo + 11)) (q) (nI (31)))) S.2.1 (fs S.2.2 (mo) 17 (nI (q + 1))) = inst X.1 L (va_up S.1 (mo + 11) (upd (S.1 (mo + 11)) (q) (nI (31)))) S.2.1 (fs S.2.2 (mo) 17 (nI (q + 1 + 0))) from rfl]
  exact lp21 0 (Nat.zero_le _)
def msha_l169 (mo : Nat) (S : StT)  : Nat → (Nat → Nat → Int32)
  | 0 => S.1
  | i169 + 1 => let y169_0 := (msha_l169 mo S i169); (let I1 := va_up y169_0 (mo + 12) (upd (y169_0 (mo + 12)) (i169) ((((S.2.1 (mo + 13) (i169 / 2 ^ 3)) >>> ((nI (56 - (8 * (i169 % 2 ^ 3)))).toInt64 &&& 63)).toInt32) &&& (nI (255)))); I1)
def msha_l145 (mo : Nat) (q : Nat) (S : StT)  : Nat → (Nat → Nat → Int32) × (Nat → Nat → Int64)
  | 0 => (S.1, S.2.1)
  | i145 + 1 => let y145_0 := (msha_l145 mo q S i145).1; let y145_1 := (msha_l145 mo q S i145).2; (let S2 := mshaB_f (mo) (128 * i145) (y145_0, y145_1, fs S.2.2 (mo) 17 (nI (q + 1 + shN q + 16))); (S2.1, S2.2.1))
def msha_l119 (mo : Nat) (S : StT)  : Nat → (Nat → Nat → Int64)
  | 0 => S.2.1
  | i119 + 1 => let y119_0 := (msha_l119 mo S i119); va_up y119_0 (mo + 13) (vp_updL (y119_0 (mo + 13)) (i119) (y119_0 (mo + 14) (i119)))
def msha_l66 (mo : Nat) (q : Nat) (S : StT)  : Nat → (Nat → Nat → Int32)
  | 0 => S.1
  | i66 + 1 => let y66_0 := (msha_l66 mo q S i66); (let I4 := va_up y66_0 (mo + 11) (upd (y66_0 (mo + 11)) (q + 1 + shN q + i66) ((if (nI (4)) ≤ (nI (16 - 1 - i66)) then nI (0) else ((nI (8 * q)) >>> ((nI (8 * (16 - 1 - i66))) &&& 31)) &&& (nI (255))))); I4)
def msha_l27 (mo : Nat) (q : Nat) (S : StT)  : Nat → (Nat → Nat → Int32)
  | 0 => S.1
  | i27 + 1 => let y27_0 := (msha_l27 mo q S i27); va_up y27_0 (mo + 11) (upd (y27_0 (mo + 11)) (q + 1 + i27) (nI (0)))
def msha_f (mo : Nat) (q : Nat) (S : StT) : StT := ((msha_l169 mo ((msha_l145 mo q ((msha_l66 mo q ((msha_l27 mo q (va_up S.1 (mo + 11) (upd (S.1 (mo + 11)) (q) (nI (128))), S.2.1, S.2.2) (shN q)), S.2.1, S.2.2) 16), (msha_l119 mo ((msha_l66 mo q ((msha_l27 mo q (va_up S.1 (mo + 11) (upd (S.1 (mo + 11)) (q) (nI (128))), S.2.1, S.2.2) (shN q)), S.2.1, S.2.2) 16), S.2.1, S.2.2) 8), S.2.2) ((q + 1 + shN q + 16) / 128)).1, (msha_l145 mo q ((msha_l66 mo q ((msha_l27 mo q (va_up S.1 (mo + 11) (upd (S.1 (mo + 11)) (q) (nI (128))), S.2.1, S.2.2) (shN q)), S.2.1, S.2.2) 16), (msha_l119 mo ((msha_l66 mo q ((msha_l27 mo q (va_up S.1 (mo + 11) (upd (S.1 (mo + 11)) (q) (nI (128))), S.2.1, S.2.2) (shN q)), S.2.1, S.2.2) 16), S.2.1, S.2.2) 8), S.2.2) ((q + 1 + shN q + 16) / 128)).2, S.2.2) 64), (msha_l145 mo q ((msha_l66 mo q ((msha_l27 mo q (va_up S.1 (mo + 11) (upd (S.1 (mo + 11)) (q) (nI (128))), S.2.1, S.2.2) (shN q)), S.2.1, S.2.2) 16), (msha_l119 mo ((msha_l66 mo q ((msha_l27 mo q (va_up S.1 (mo + 11) (upd (S.1 (mo + 11)) (q) (nI (128))), S.2.1, S.2.2) (shN q)), S.2.1, S.2.2) 16), S.2.1, S.2.2) 8), S.2.2) ((q + 1 + shN q + 16) / 128)).2, fs S.2.2 (mo) 17 (nI (q + 1 + shN q + 16)))
theorem msha_F (mo : Nat) (q : Nat) (S : StT) : (msha_f mo q S).2.2 = fs S.2.2 (mo) 17 (nI (q + 1 + shN q + 16)) := by
  unfold msha_f; first | rfl | ((repeat' split) <;> rfl)
set_option maxRecDepth 100000 in
set_option maxHeartbeats 400000 in
theorem c_msha {k : KX} {L : Nat → Option Sh} {S : StT} {n : Nat} {mo : Nat} {q : Nat} (hM : ModelAt k L mo) (hq : S.2.2 mo 17 = nI q) (hqn : q ≤ 600) :
    Cs k yX12_sha512 cX12_sha512 3 none 2 0 0 [.ref (k_b k + (mo))] (inst k L S.1 S.2.1 S.2.2) n (Pv k L n (msha_f mo q S)) := by
  refine cs_of (by decide) (Nat.le_of_ble_eq_true rfl) ?_
  intro X hXk C Rt hnm
  subst hXk
  have hM9 := hM
  obtain ⟨hM0, hm1, hm2, hm3, hm4, hm5, hm6, hm7, hm8, hm9, hm10, hm11, hm12, hm13, hm14, hm15, hm16, hm17, hm18, hm19, hm20, hm21, hm22, hm23, hm24, hm25, hm26, hm27⟩ := hM9
  have hs1 := shN_lt q
  have hs0 := shN_0 q
  refine rn_lv [(0, .ref (k_b X.1 + (mo)))] (fun q h => h) ?_
  refine rn_aload_n C dX12_sha512_0 rfl ?_
  refine rs_getFe C dX12_sha512_1 fl_X12_63 hM0 rfl hq ?_
  refine rn_istore_n (lv' := [(0, _), (1, _)]) C dX12_sha512_4 (by decide) rfl ?_
  refine rn_aload_n C dX12_sha512_5 rfl ?_
  refine rs_get C dX12_sha512_6 fl_X12_60 hM0 rfl ?_
  refine rn_aload_n C dX12_sha512_9 rfl ?_
  refine rs_getFe C dX12_sha512_10 fl_X12_63 hM0 rfl hq ?_
  refine rn_sipush (v := nI 128) C dX12_sha512_13 rfl ?_
  refine rs_iastore C dX12_sha512_16 hm11 rfl (by omega) (by decide) ?_
  refine rn_aload_n C dX12_sha512_17 rfl ?_
  refine rn_dup C dX12_sha512_18 rfl ?_
  refine rs_getFe C dX12_sha512_19 fl_X12_63 hM0 rfl hq ?_
  refine rn_iconst (v := nI 1) C dX12_sha512_22 rfl ?_
  refine rn_iadd C dX12_sha512_23 (nI_add _ _) ?_
  refine rs_putF C dX12_sha512_24 fp_X12_63 hM0 rfl ?_
  have lp27 : ∀ i27, i27 ≤ shN q → Rn X 27 [(0, .ref (k_b X.1 + (mo))), (1, .int (nI (q)))] [] (inst X.1 L (msha_l27 mo q (va_up S.1 (mo + 11) (upd (S.1 (mo + 11)) (q) (nI (128))), S.2.1, S.2.2) i27) S.2.1 (fs S.2.2 (mo) 17 (nI (q + 1 + i27)))) n 0 0 := by
    refine upto _ _ ?_ (fun i27 hi27 ih27 => ?_)
    · skip
      refine rn_aload_n C dX12_sha512_27 rfl ?_
      refine rs_getFe C dX12_sha512_28 fl_X12_63 hM0 rfl fs_get ?_
      refine rn_sipush (v := nI 128) C dX12_sha512_31 rfl ?_
      refine rn_irem C dX12_sha512_34 (by decide) (pk_rem (by omega) (by omega) (by omega)) ?_
      refine rn_bipush (v := nI 112) C dX12_sha512_35 rfl ?_
      refine rn_icmp_eq (tgt := 63) C dX12_sha512_37 (by decide) (fun _ => ?_) (fun qq_ => absurd (by rw [hs0]) qq_)
      refine rn_bipush (v := nI 15) C dX12_sha512_63 rfl ?_
      refine rn_istore_n (lv' := [(0, _), (1, _), (2, _)]) C dX12_sha512_65 (by decide) rfl ?_
      have lp66 : ∀ i66, i66 ≤ 16 → Rn X 66 [(0, .ref (k_b X.1 + (mo))), (1, .int (nI (q))), (2, .int (dn (16 - i66)))] [] (inst X.1 L (msha_l66 mo q ((msha_l27 mo q (va_up S.1 (mo + 11) (upd (S.1 (mo + 11)) (q) (nI (128))), S.2.1, S.2.2) (shN q)), S.2.1, S.2.2) i66) S.2.1 (fs S.2.2 (mo) 17 (nI (q + 1 + shN q + i66)))) n 0 0 := by
        refine upto _ _ ?_ (fun i66 hi66 ih66 => ?_)
        · skip
          rw [dn_end]
          refine rn_iload_n C dX12_sha512_66 rfl ?_
          refine rn_if_lt (tgt := 117) C dX12_sha512_67 (by decide) (fun _ => ?_) (fun q => absurd (by decide) q)
          refine rn_iconst (v := nI 0) C dX12_sha512_117 rfl ?_
          refine rn_istore_n (lv' := [(0, _), (1, _), (2, _)]) C dX12_sha512_118 (by decide) rfl ?_
          have lp119 : ∀ i119, i119 ≤ 8 → Rn X 119 [(0, .ref (k_b X.1 + (mo))), (1, .int (nI (q))), (2, .int (nI (i119)))] [] (inst X.1 L (msha_l66 mo q ((msha_l27 mo q (va_up S.1 (mo + 11) (upd (S.1 (mo + 11)) (q) (nI (128))), S.2.1, S.2.2) (shN q)), S.2.1, S.2.2) 16) (msha_l119 mo ((msha_l66 mo q ((msha_l27 mo q (va_up S.1 (mo + 11) (upd (S.1 (mo + 11)) (q) (nI (128))), S.2.1, S.2.2) (shN q)), S.2.1, S.2.2) 16), S.2.1, S.2.2) i119) (fs S.2.2 (mo) 17 (nI (q + 1 + shN q + 16)))) n 0 0 := by
            refine upto _ _ ?_ (fun i119 hi119 ih119 => ?_)
            · skip
              refine rn_iload_n C dX12_sha512_119 rfl ?_
              refine rn_bipush (v := nI 8) C dX12_sha512_120 rfl ?_
              refine rs_ge (tgt := 143) C dX12_sha512_122 (by decide) rfl rfl (by omega) (by omega) (fun _ => ?_) (fun q => absurd q (by omega))
              refine rn_iconst (v := nI 0) C dX12_sha512_143 rfl ?_
              refine rn_istore_n (lv' := [(0, _), (1, _), (2, _)]) C dX12_sha512_144 (by decide) rfl ?_
              have lp145 : ∀ i145, i145 ≤ (q + 1 + shN q + 16) / 128 → Rn X 145 [(0, .ref (k_b X.1 + (mo))), (1, .int (nI (q))), (2, .int (nI (128 * i145)))] [] (inst X.1 L (msha_l145 mo q ((msha_l66 mo q ((msha_l27 mo q (va_up S.1 (mo + 11) (upd (S.1 (mo + 11)) (q) (nI (128))), S.2.1, S.2.2) (shN q)), S.2.1, S.2.2) 16), (msha_l119 mo ((msha_l66 mo q ((msha_l27 mo q (va_up S.1 (mo + 11) (upd (S.1 (mo + 11)) (q) (nI (128))), S.2.1, S.2.2) (shN q)), S.2.1, S.2.2) 16), S.2.1, S.2.2) 8), S.2.2) i145).1 (msha_l145 mo q ((msha_l66 mo q ((msha_l27 mo q (va_up S.1 (mo + 11) (upd (S.1 (mo + 11)) (q) (nI (128))), S.2.1, S.2.2) (shN q)), S.2.1, S.2.2) 16), (msha_l119 mo ((msha_l66 mo q ((msha_l27 mo q (va_up S.1 (mo + 11) (upd (S.1 (mo + 11)) (q) (nI (128))), S.2.1, S.2.2) (shN q)), S.2.1, S.2.2) 16), S.2.1, S.2.2) 8), S.2.2) i145).2 (fs S.2.2 (mo) 17 (nI (q + 1 + shN q + 16)))) n 0 0 := by
                refine upto _ _ ?_ (fun i145 hi145 ih145 => ?_)
                · skip
                  refine rn_iload_n C dX12_sha512_145 rfl ?_
                  refine rn_aload_n C dX12_sha512_146 rfl ?_
                  refine rs_getFe C dX12_sha512_147 fl_X12_63 hM0 rfl fs_get ?_
                  refine rs_ge (tgt := 167) C dX12_sha512_150 (by decide) rfl rfl (by omega) (by omega) (fun _ => ?_) (fun q => absurd q (by omega))
                  refine rn_iconst (v := nI 0) C dX12_sha512_167 rfl ?_
                  refine rn_istore_n (lv' := [(0, _), (1, _), (2, _)]) C dX12_sha512_168 (by decide) rfl ?_
                  have lp169 : ∀ i169, i169 ≤ 64 → Rn X 169 [(0, .ref (k_b X.1 + (mo))), (1, .int (nI (q))), (2, .int (nI (i169)))] [] (inst X.1 L (msha_l169 mo ((msha_l145 mo q ((msha_l66 mo q ((msha_l27 mo q (va_up S.1 (mo + 11) (upd (S.1 (mo + 11)) (q) (nI (128))), S.2.1, S.2.2) (shN q)), S.2.1, S.2.2) 16), (msha_l119 mo ((msha_l66 mo q ((msha_l27 mo q (va_up S.1 (mo + 11) (upd (S.1 (mo + 11)) (q) (nI (128))), S.2.1, S.2.2) (shN q)), S.2.1, S.2.2) 16), S.2.1, S.2.2) 8), S.2.2) ((q + 1 + shN q + 16) / 128)).1, (msha_l145 mo q ((msha_l66 mo q ((msha_l27 mo q (va_up S.1 (mo + 11) (upd (S.1 (mo + 11)) (q) (nI (128))), S.2.1, S.2.2) (shN q)), S.2.1, S.2.2) 16), (msha_l119 mo ((msha_l66 mo q ((msha_l27 mo q (va_up S.1 (mo + 11) (upd (S.1 (mo + 11)) (q) (nI (128))), S.2.1, S.2.2) (shN q)), S.2.1, S.2.2) 16), S.2.1, S.2.2) 8), S.2.2) ((q + 1 + shN q + 16) / 128)).2, S.2.2) i169) (msha_l145 mo q ((msha_l66 mo q ((msha_l27 mo q (va_up S.1 (mo + 11) (upd (S.1 (mo + 11)) (q) (nI (128))), S.2.1, S.2.2) (shN q)), S.2.1, S.2.2) 16), (msha_l119 mo ((msha_l66 mo q ((msha_l27 mo q (va_up S.1 (mo + 11) (upd (S.1 (mo + 11)) (q) (nI (128))), S.2.1, S.2.2) (shN q)), S.2.1, S.2.2) 16), S.2.1, S.2.2) 8), S.2.2) ((q + 1 + shN q + 16) / 128)).2 (fs S.2.2 (mo) 17 (nI (q + 1 + shN q + 16)))) n 0 0 := by
                    refine upto _ _ ?_ (fun i169 hi169 ih169 => ?_)
                    · skip
                      refine rn_iload_n C dX12_sha512_169 rfl ?_
                      refine rn_bipush (v := nI 64) C dX12_sha512_170 rfl ?_
                      refine rs_ge (tgt := 211) C dX12_sha512_172 (by decide) rfl rfl (by omega) (by omega) (fun _ => ?_) (fun q => absurd q (by omega))
                      have hret : msha_f mo q S = ((msha_l169 mo ((msha_l145 mo q ((msha_l66 mo q ((msha_l27 mo q (va_up S.1 (mo + 11) (upd (S.1 (mo + 11)) (q) (nI (128))), S.2.1, S.2.2) (shN q)), S.2.1, S.2.2) 16), (msha_l119 mo ((msha_l66 mo q ((msha_l27 mo q (va_up S.1 (mo + 11) (upd (S.1 (mo + 11)) (q) (nI (128))), S.2.1, S.2.2) (shN q)), S.2.1, S.2.2) 16), S.2.1, S.2.2) 8), S.2.2) ((q + 1 + shN q + 16) / 128)).1, (msha_l145 mo q ((msha_l66 mo q ((msha_l27 mo q (va_up S.1 (mo + 11) (upd (S.1 (mo + 11)) (q) (nI (128))), S.2.1, S.2.2) (shN q)), S.2.1, S.2.2) 16), (msha_l119 mo ((msha_l66 mo q ((msha_l27 mo q (va_up S.1 (mo + 11) (upd (S.1 (mo + 11)) (q) (nI (128))), S.2.1, S.2.2) (shN q)), S.2.1, S.2.2) 16), S.2.1, S.2.2) 8), S.2.2) ((q + 1 + shN q + 16) / 128)).2, S.2.2) 64), (msha_l145 mo q ((msha_l66 mo q ((msha_l27 mo q (va_up S.1 (mo + 11) (upd (S.1 (mo + 11)) (q) (nI (128))), S.2.1, S.2.2) (shN q)), S.2.1, S.2.2) 16), (msha_l119 mo ((msha_l66 mo q ((msha_l27 mo q (va_up S.1 (mo + 11) (upd (S.1 (mo + 11)) (q) (nI (128))), S.2.1, S.2.2) (shN q)), S.2.1, S.2.2) 16), S.2.1, S.2.2) 8), S.2.2) ((q + 1 + shN q + 16) / 128)).2, fs S.2.2 (mo) 17 (nI (q + 1 + shN q + 16))) := by
                        first | (dsimp only [msha_f]; done) | (dsimp only [msha_f]; exact rfl) | exact rfl
                      exact rn_vret C Rt dX12_sha512_211 (pv_of hret) (Nat.zero_le _) (Nat.zero_le _)
                    · skip
                      refine rn_iload_n C dX12_sha512_169 rfl ?_
                      refine rn_bipush (v := nI 64) C dX12_sha512_170 rfl ?_
                      refine rs_ge (tgt := 211) C dX12_sha512_172 (by decide) rfl rfl (by omega) (by omega) (fun q => absurd q (by omega)) (fun _ => ?_)
                      refine rn_aload_n C dX12_sha512_175 rfl ?_
                      refine rs_get C dX12_sha512_176 fl_X12_66 hM0 rfl ?_
                      refine rn_iload_n C dX12_sha512_179 rfl ?_
                      refine rn_aload_n C dX12_sha512_180 rfl ?_
                      refine rs_get C dX12_sha512_181 fl_X12_69 hM0 rfl ?_
                      refine rn_iload_n C dX12_sha512_184 rfl ?_
                      refine rn_iconst (v := nI 3) C dX12_sha512_185 rfl ?_
                      refine rn_ishr C dX12_sha512_186 (pk_shrN (by omega) _ 3 (by decide)) ?_
                      refine rs_laload C dX12_sha512_187 hm13 rfl (by omega) (by decide) ?_
                      refine rn_bipush (v := nI 56) C dX12_sha512_188 rfl ?_
                      refine rn_bipush (v := nI 8) C dX12_sha512_190 rfl ?_
                      refine rn_iload_n C dX12_sha512_192 rfl ?_
                      refine rn_bipush (v := nI 7) C dX12_sha512_193 rfl ?_
                      refine rn_iand C dX12_sha512_195 (pk_andN (by omega) 3 (by decide)) ?_
                      refine rn_imul C dX12_sha512_196 (pk_mul _ _) ?_
                      refine rn_isub C dX12_sha512_197 (pk_sub (by omega)) ?_
                      refine rn_lshr C dX12_sha512_198 rfl ?_
                      refine rn_l2i C dX12_sha512_199 rfl ?_
                      refine rn_sipush (v := nI 255) C dX12_sha512_200 rfl ?_
                      refine rn_iand C dX12_sha512_203 rfl ?_
                      refine rs_iastore C dX12_sha512_204 hm12 rfl (by omega) (by decide) ?_
                      refine rn_iinc (lv' := [(0, _), (1, _), (2, _)]) C dX12_sha512_205 rfl (nI_inc _) (by decide) rfl ?_
                      refine rn_goto (tgt := 169) C dX12_sha512_208 (by decide) ?_
                      have he169 : msha_l169 mo ((msha_l145 mo q ((msha_l66 mo q ((msha_l27 mo q (va_up S.1 (mo + 11) (upd (S.1 (mo + 11)) (q) (nI (128))), S.2.1, S.2.2) (shN q)), S.2.1, S.2.2) 16), (msha_l119 mo ((msha_l66 mo q ((msha_l27 mo q (va_up S.1 (mo + 11) (upd (S.1 (mo + 11)) (q) (nI (128))), S.2.1, S.2.2) (shN q)), S.2.1, S.2.2) 16), S.2.1, S.2.2) 8), S.2.2) ((q + 1 + shN q + 16) / 128)).1, (msha_l145 mo q ((msha_l66 mo q ((msha_l27 mo q (va_up S.1 (mo + 11) (upd (S.1 (mo + 11)) (q) (nI (128))), S.2.1, S.2.2) (shN q)), S.2.1, S.2.2) 16), (msha_l119 mo ((msha_l66 mo q ((msha_l27 mo q (va_up S.1 (mo + 11) (upd (S.1 (mo + 11)) (q) (nI (128))), S.2.1, S.2.2) (shN q)), S.2.1, S.2.2) 16), S.2.1, S.2.2) 8), S.2.2) ((q + 1 + shN q + 16) / 128)).2, S.2.2) (i169 + 1) = (va_up (msha_l169 mo ((msha_l145 mo q ((msha_l66 mo q ((msha_l27 mo q (va_up S.1 (mo + 11) (upd (S.1 (mo + 11)) (q) (nI (128))), S.2.1, S.2.2) (shN q)), S.2.1, S.2.2) 16), (msha_l119 mo ((msha_l66 mo q ((msha_l27 mo q (va_up S.1 (mo + 11) (upd (S.1 (mo + 11)) (q) (nI (128))), S.2.1, S.2.2) (shN q)), S.2.1, S.2.2) 16), S.2.1, S.2.2) 8), S.2.2) ((q + 1 + shN q + 16) / 128)).1, (msha_l145 mo q ((msha_l66 mo q ((msha_l27 mo q (va_up S.1 (mo + 11) (upd (S.1 (mo + 11)) (q) (nI (128))), S.2.1, S.2.2) (shN q)), S.2.1, S.2.2) 16), (msha_l119 mo ((msha_l66 mo q ((msha_l27 mo q (va_up S.1 (mo + 11) (upd (S.1 (mo + 11)) (q) (nI (128))), S.2.1, S.2.2) (shN q)), S.2.1, S.2.2) 16), S.2.1, S.2.2) 8), S.2.2) ((q + 1 + shN q + 16) / 128)).2, S.2.2) i169) (mo + 12) (upd ((msha_l169 mo ((msha_l145 mo q ((msha_l66 mo q ((msha_l27 mo q (va_up S.1 (mo + 11) (upd (S.1 (mo + 11)) (q) (nI (128))), S.2.1, S.2.2) (shN q)), S.2.1, S.2.2) 16), (msha_l119 mo ((msha_l66 mo q ((msha_l27 mo q (va_up S.1 (mo + 11) (upd (S.1 (mo + 11)) (q) (nI (128))), S.2.1, S.2.2) (shN q)), S.2.1, S.2.2) 16), S.2.1, S.2.2) 8), S.2.2) ((q + 1 + shN q + 16) / 128)).1, (msha_l145 mo q ((msha_l66 mo q ((msha_l27 mo q (va_up S.1 (mo + 11) (upd (S.1 (mo + 11)) (q) (nI (128))), S.2.1, S.2.2) (shN q)), S.2.1, S.2.2) 16), (msha_l119 mo ((msha_l66 mo q ((msha_l27 mo q (va_up S.1 (mo + 11) (upd (S.1 (mo + 11)) (q) (nI (128))), S.2.1, S.2.2) (shN q)), S.2.1, S.2.2) 16), S.2.1, S.2.2) 8), S.2.2) ((q + 1 + shN q + 16) / 128)).2, S.2.2) i169) (mo + 12)) (i169) ((((((msha_l145 mo q ((msha_l66 mo q ((msha_l27 mo q (va_up S.1 (mo + 11) (upd (S.1 (mo + 11)) (q) (nI (128))), S.2.1, S.2.2) (shN q)), S.2.1, S.2.2) 16), (msha_l119 mo ((msha_l66 mo q ((msha_l27 mo q (va_up S.1 (mo + 11) (upd (S.1 (mo + 11)) (q) (nI (128))), S.2.1, S.2.2) (shN q)), S.2.1, S.2.2) 16), S.2.1, S.2.2) 8), S.2.2) ((q + 1 + shN q + 16) / 128)).1, (msha_l145 mo q ((msha_l66 mo q ((msha_l27 mo q (va_up S.1 (mo + 11) (upd (S.1 (mo + 11)) (q) (nI (128))), S.2.1, S.2.2) (shN q)), S.2.1, S.2.2) 16), (msha_l119 mo ((msha_l66 mo q ((msha_l27 mo q (va_up S.1 (mo + 11) (upd (S.1 (mo + 11)) (q) (nI (128))), S.2.1, S.2.2) (shN q)), S.2.1, S.2.2) 16), S.2.1, S.2.2) 8), S.2.2) ((q + 1 + shN q + 16) / 128)).2, S.2.2).2.1 (mo + 13) (i169 / 2 ^ 3)) >>> ((nI (56 - (8 * (i169 % 2 ^ 3)))).toInt64 &&& 63)).toInt32) &&& (nI (255))))) := by
                        first | (dsimp only [msha_l169]; done) | (dsimp only [msha_l169]; exact rfl) | exact rfl
                      rw [he169] at ih169
                      exact rn_ks [0, 1, 2] ih169 rfl
                  exact lp169 0 (Nat.zero_le _)
                · skip
                  refine rn_iload_n C dX12_sha512_145 rfl ?_
                  refine rn_aload_n C dX12_sha512_146 rfl ?_
                  refine rs_getFe C dX12_sha512_147 fl_X12_63 hM0 rfl fs_get ?_
                  refine rs_ge (tgt := 167) C dX12_sha512_150 (by decide) rfl rfl (by omega) (by omega) (fun q => absurd q (by omega)) (fun _ => ?_)
                  refine rn_aload_n C dX12_sha512_153 rfl ?_
                  refine rn_iload_n C dX12_sha512_154 rfl ?_
                  refine rs_vv C dX12_sha512_155 mk_X12_shaBlock lv_X12_250 (c_mshaB (S := ((msha_l145 mo q ((msha_l66 mo q ((msha_l27 mo q (va_up S.1 (mo + 11) (upd (S.1 (mo + 11)) (q) (nI (128))), S.2.1, S.2.2) (shN q)), S.2.1, S.2.2) 16), (msha_l119 mo ((msha_l66 mo q ((msha_l27 mo q (va_up S.1 (mo + 11) (upd (S.1 (mo + 11)) (q) (nI (128))), S.2.1, S.2.2) (shN q)), S.2.1, S.2.2) 16), S.2.1, S.2.2) 8), S.2.2) i145).1, (msha_l145 mo q ((msha_l66 mo q ((msha_l27 mo q (va_up S.1 (mo + 11) (upd (S.1 (mo + 11)) (q) (nI (128))), S.2.1, S.2.2) (shN q)), S.2.1, S.2.2) 16), (msha_l119 mo ((msha_l66 mo q ((msha_l27 mo q (va_up S.1 (mo + 11) (upd (S.1 (mo + 11)) (q) (nI (128))), S.2.1, S.2.2) (shN q)), S.2.1, S.2.2) 16), S.2.1, S.2.2) 8), S.2.2) i145).2, fs S.2.2 (mo) 17 (nI (q + 1 + shN q + 16)))) hM (by omega)) hM0 rfl rfl rfl rfl (by decide) (Nat.le_of_ble_eq_true rfl) (by decide) (by decide) ?_
                  rw [show (mshaB_f (mo) (128 * i145) ((msha_l145 mo q ((msha_l66 mo q ((msha_l27 mo q (va_up S.1 (mo + 11) (upd (S.1 (mo + 11)) (q) (nI (128))), S.2.1, S.2.2) (shN q)), S.2.1, S.2.2) 16), (msha_l119 mo ((msha_l66 mo q ((msha_l27 mo q (va_up S.1 (mo + 11) (upd (S.1 (mo + 11)) (q) (nI (128))), S.2.1, S.2.2) (shN q)), S.2.1, S.2.2) 16), S.2.1, S.2.2) 8), S.2.2) i145).1, (msha_l145 mo q ((msha_l66 mo q ((msha_l27 mo q (va_up S.1 (mo + 11) (upd (S.1 (mo + 11)) (q) (nI (128))), S.2.1, S.2.2) (shN q)), S.2.1, S.2.2) 16), (msha_l119 mo ((msha_l66 mo q ((msha_l27 mo q (va_up S.1 (mo + 11) (upd (S.1 (mo + 11)) (q) (nI (128))), S.2.1, S.2.2) (shN q)), S.2.1, S.2.2) 16), S.2.1, S.2.2) 8), S.2.2) i145).2, fs S.2.2 (mo) 17 (nI (q + 1 + shN q + 16)))).2.2 = fs S.2.2 (mo) 17 (nI (q + 1 + shN q + 16)) from (mshaB_F (mo) (128 * i145) ((msha_l145 mo q ((msha_l66 mo q ((msha_l27 mo q (va_up S.1 (mo + 11) (upd (S.1 (mo + 11)) (q) (nI (128))), S.2.1, S.2.2) (shN q)), S.2.1, S.2.2) 16), (msha_l119 mo ((msha_l66 mo q ((msha_l27 mo q (va_up S.1 (mo + 11) (upd (S.1 (mo + 11)) (q) (nI (128))), S.2.1, S.2.2) (shN q)), S.2.1, S.2.2) 16), S.2.1, S.2.2) 8), S.2.2) i145).1, (msha_l145 mo q ((msha_l66 mo q ((msha_l27 mo q (va_up S.1 (mo + 11) (upd (S.1 (mo + 11)) (q) (nI (128))), S.2.1, S.2.2) (shN q)), S.2.1, S.2.2) 16), (msha_l119 mo ((msha_l66 mo q ((msha_l27 mo q (va_up S.1 (mo + 11) (upd (S.1 (mo + 11)) (q) (nI (128))), S.2.1, S.2.2) (shN q)), S.2.1, S.2.2) 16), S.2.1, S.2.2) 8), S.2.2) i145).2, fs S.2.2 (mo) 17 (nI (q + 1 + shN q + 16))))]
                  generalize hS2 : mshaB_f (mo) (128 * i145) ((msha_l145 mo q ((msha_l66 mo q ((msha_l27 mo q (va_up S.1 (mo + 11) (upd (S.1 (mo + 11)) (q) (nI (128))), S.2.1, S.2.2) (shN q)), S.2.1, S.2.2) 16), (msha_l119 mo ((msha_l66 mo q ((msha_l27 mo q (va_up S.1 (mo + 11) (upd (S.1 (mo + 11)) (q) (nI (128))), S.2.1, S.2.2) (shN q)), S.2.1, S.2.2) 16), S.2.1, S.2.2) 8), S.2.2) i145).1, (msha_l145 mo q ((msha_l66 mo q ((msha_l27 mo q (va_up S.1 (mo + 11) (upd (S.1 (mo + 11)) (q) (nI (128))), S.2.1, S.2.2) (shN q)), S.2.1, S.2.2) 16), (msha_l119 mo ((msha_l66 mo q ((msha_l27 mo q (va_up S.1 (mo + 11) (upd (S.1 (mo + 11)) (q) (nI (128))), S.2.1, S.2.2) (shN q)), S.2.1, S.2.2) 16), S.2.1, S.2.2) 8), S.2.2) i145).2, fs S.2.2 (mo) 17 (nI (q + 1 + shN q + 16))) = S2
                  refine rn_iincw (lv' := [(0, _), (1, _), (2, _)]) C dX12_sha512_158 rfl (nI_incs _ 128) (by decide) rfl ?_
                  refine rn_goto (tgt := 145) C dX12_sha512_164 (by decide) ?_
                  have he145 : msha_l145 mo q ((msha_l66 mo q ((msha_l27 mo q (va_up S.1 (mo + 11) (upd (S.1 (mo + 11)) (q) (nI (128))), S.2.1, S.2.2) (shN q)), S.2.1, S.2.2) 16), (msha_l119 mo ((msha_l66 mo q ((msha_l27 mo q (va_up S.1 (mo + 11) (upd (S.1 (mo + 11)) (q) (nI (128))), S.2.1, S.2.2) (shN q)), S.2.1, S.2.2) 16), S.2.1, S.2.2) 8), S.2.2) (i145 + 1) = (S2.1, S2.2.1) := by
                    subst hS2
                    first | (dsimp only [msha_l145]; done) | (dsimp only [msha_l145]; exact rfl) | exact rfl
                  rw [he145] at ih145
                  exact rn_ks [0, 1, 2] ih145 rfl
              exact lp145 0 (Nat.zero_le _)
            · skip
              refine rn_iload_n C dX12_sha512_119 rfl ?_
              refine rn_bipush (v := nI 8) C dX12_sha512_120 rfl ?_
              refine rs_ge (tgt := 143) C dX12_sha512_122 (by decide) rfl rfl (by omega) (by omega) (fun q => absurd q (by omega)) (fun _ => ?_)
              refine rn_aload_n C dX12_sha512_125 rfl ?_
              refine rs_get C dX12_sha512_126 fl_X12_69 hM0 rfl ?_
              refine rn_iload_n C dX12_sha512_129 rfl ?_
              refine rn_aload_n C dX12_sha512_130 rfl ?_
              refine rs_get C dX12_sha512_131 fl_X12_72 hM0 rfl ?_
              refine rn_iload_n C dX12_sha512_134 rfl ?_
              refine rs_laload C dX12_sha512_135 hm14 rfl (by omega) (by decide) ?_
              refine rs_lastore C dX12_sha512_136 hm13 rfl (by omega) (by decide) ?_
              refine rn_iinc (lv' := [(0, _), (1, _), (2, _)]) C dX12_sha512_137 rfl (nI_inc _) (by decide) rfl ?_
              refine rn_goto (tgt := 119) C dX12_sha512_140 (by decide) ?_
              have he119 : msha_l119 mo ((msha_l66 mo q ((msha_l27 mo q (va_up S.1 (mo + 11) (upd (S.1 (mo + 11)) (q) (nI (128))), S.2.1, S.2.2) (shN q)), S.2.1, S.2.2) 16), S.2.1, S.2.2) (i119 + 1) = va_up (msha_l119 mo ((msha_l66 mo q ((msha_l27 mo q (va_up S.1 (mo + 11) (upd (S.1 (mo + 11)) (q) (nI (128))), S.2.1, S.2.2) (shN q)), S.2.1, S.2.2) 16), S.2.1, S.2.2) i119) (mo + 13) (vp_updL ((msha_l119 mo ((msha_l66 mo q ((msha_l27 mo q (va_up S.1 (mo + 11) (upd (S.1 (mo + 11)) (q) (nI (128))), S.2.1, S.2.2) (shN q)), S.2.1, S.2.2) 16), S.2.1, S.2.2) i119) (mo + 13)) (i119) ((msha_l119 mo ((msha_l66 mo q ((msha_l27 mo q (va_up S.1 (mo + 11) (upd (S.1 (mo + 11)) (q) (nI (128))), S.2.1, S.2.2) (shN q)), S.2.1, S.2.2) 16), S.2.1, S.2.2) i119) (mo + 14) (i119))) := by
                first | (dsimp only [msha_l119]; done) | (dsimp only [msha_l119]; exact rfl) | exact rfl
              rw [he119] at ih119
              exact rn_ks [0, 1, 2] ih119 rfl
          exact lp119 0 (Nat.zero_le _)
        · skip
          rw [dn_at hi66]
          refine rn_iload_n C dX12_sha512_66 rfl ?_
          refine rs_lt0 (tgt := 117) C dX12_sha512_67 (by decide) rfl (by omega) ?_
          refine rn_aload_n C dX12_sha512_70 rfl ?_
          refine rs_get C dX12_sha512_71 fl_X12_60 hM0 rfl ?_
          refine rn_aload_n C dX12_sha512_74 rfl ?_
          refine rs_getFe C dX12_sha512_75 fl_X12_63 hM0 rfl fs_get ?_
          refine rn_iload_n C dX12_sha512_78 rfl ?_
          refine rn_iconst (v := nI 4) C dX12_sha512_79 rfl ?_
          have K80_3 : Rn X 100 [(0, .ref (k_b X.1 + (mo))), (1, .int (nI (q))), (2, .int (nI (16 - 1 - i66)))] [.int ((if (nI (4)) ≤ (nI (16 - 1 - i66)) then nI (0) else ((nI (8 * q)) >>> ((nI (8 * (16 - 1 - i66))) &&& 31)) &&& (nI (255)))), .int (nI (q + 1 + shN q + i66)), .ref (k_b X.1 + (mo + 11))] (inst X.1 L (msha_l66 mo q ((msha_l27 mo q (va_up S.1 (mo + 11) (upd (S.1 (mo + 11)) (q) (nI (128))), S.2.1, S.2.2) (shN q)), S.2.1, S.2.2) i66) ((msha_l27 mo q (va_up S.1 (mo + 11) (upd (S.1 (mo + 11)) (q) (nI (128))), S.2.1, S.2.2) (shN q)), S.2.1, S.2.2).2.1 (fs S.2.2 (mo) 17 (nI (q + 1 + shN q + i66)))) n 0 0 := by
            refine rs_iastore C dX12_sha512_100 hm11 rfl (by omega) (by decide) ?_
            refine rn_aload_n C dX12_sha512_101 rfl ?_
            refine rn_dup C dX12_sha512_102 rfl ?_
            refine rs_getFe C dX12_sha512_103 fl_X12_63 hM0 rfl fs_get ?_
            refine rn_iconst (v := nI 1) C dX12_sha512_106 rfl ?_
            refine rn_iadd C dX12_sha512_107 (nI_add _ _) ?_
            refine rs_putF C dX12_sha512_108 fp_X12_63 hM0 rfl ?_
            rw [show va_up (fs S.2.2 (mo) 17 (nI (q + 1 + shN q + i66))) (mo) (upd ((fs S.2.2 (mo) 17 (nI (q + 1 + shN q + i66))) (mo)) 17 (nI (q + 1 + shN q + i66 + 1))) = fs S.2.2 (mo) 17 (nI (q + 1 + shN q + i66 + 1)) from fs_fs]
            refine rn_iinc (lv' := [(0, _), (1, _), (2, _)]) C dX12_sha512_111 rfl (dn_dec hi66) (by decide) rfl ?_
            refine rn_goto (tgt := 66) C dX12_sha512_114 (by decide) ?_
            have he66 : msha_l66 mo q ((msha_l27 mo q (va_up S.1 (mo + 11) (upd (S.1 (mo + 11)) (q) (nI (128))), S.2.1, S.2.2) (shN q)), S.2.1, S.2.2) (i66 + 1) = (va_up (msha_l66 mo q ((msha_l27 mo q (va_up S.1 (mo + 11) (upd (S.1 (mo + 11)) (q) (nI (128))), S.2.1, S.2.2) (shN q)), S.2.1, S.2.2) i66) (mo + 11) (upd ((msha_l66 mo q ((msha_l27 mo q (va_up S.1 (mo + 11) (upd (S.1 (mo + 11)) (q) (nI (128))), S.2.1, S.2.2) (shN q)), S.2.1, S.2.2) i66) (mo + 11)) (q + 1 + shN q + i66) ((if (nI (4)) ≤ (nI (16 - 1 - i66)) then nI (0) else ((nI (8 * q)) >>> ((nI (8 * (16 - 1 - i66))) &&& 31)) &&& (nI (255)))))) := by
              first | (dsimp only [msha_l66]; done) | (dsimp only [msha_l66]; exact rfl) | exact rfl
            rw [he66] at ih66
            exact rn_ks [0, 1, 2] ih66 rfl
          refine rn_icmp_ge (tgt := 99) C dX12_sha512_80 (by decide) (fun hb3 => ?_) (fun hb3 => ?_)
          · skip
            refine rn_iconst (v := nI 0) C dX12_sha512_99 rfl ?_
            rw [if_pos hb3] at K80_3
            exact K80_3
          · skip
            refine rn_bipush (v := nI 8) C dX12_sha512_83 rfl ?_
            refine rn_iload_n C dX12_sha512_85 rfl ?_
            refine rn_imul C dX12_sha512_86 (pk_mul _ _) ?_
            refine rn_bipush (v := nI 8) C dX12_sha512_87 rfl ?_
            refine rn_iload_n C dX12_sha512_89 rfl ?_
            refine rn_imul C dX12_sha512_90 (pk_mul _ _) ?_
            refine rn_ishr C dX12_sha512_91 rfl ?_
            refine rn_sipush (v := nI 255) C dX12_sha512_92 rfl ?_
            refine rn_iand C dX12_sha512_95 rfl ?_
            refine rn_goto (tgt := 100) C dX12_sha512_96 (by decide) ?_
            rw [if_neg hb3] at K80_3
            exact K80_3
      rw [show inst X.1 L (msha_l27 mo q (va_up S.1 (mo + 11) (upd (S.1 (mo + 11)) (q) (nI (128))), S.2.1, S.2.2) (shN q)) S.2.1 (fs S.2.2 (mo) 17 (nI (q + 1 + (shN q)))) = inst X.1 L (msha_l27 mo q (va_up S.1 (mo + 11) (upd (S.1 (mo + 11)) (q) (nI (128))), S.2.1, S.2.2) (shN q)) S.2.1 (fs S.2.2 (mo) 17 (nI (q + 1 + shN q + 0))) from rfl]
      exact lp66 0 (Nat.zero_le _)
    · skip
      refine rn_aload_n C dX12_sha512_27 rfl ?_
      refine rs_getFe C dX12_sha512_28 fl_X12_63 hM0 rfl fs_get ?_
      refine rn_sipush (v := nI 128) C dX12_sha512_31 rfl ?_
      refine rn_irem C dX12_sha512_34 (by decide) (pk_rem (by omega) (by omega) (by omega)) ?_
      refine rn_bipush (v := nI 112) C dX12_sha512_35 rfl ?_
      refine rn_icmp_eq (tgt := 63) C dX12_sha512_37 (by decide) (fun qq_ => absurd qq_ (nI_ne (by omega) (by decide) (shN_1 q i27 hi27))) (fun _ => ?_)
      refine rn_aload_n C dX12_sha512_40 rfl ?_
      refine rs_get C dX12_sha512_41 fl_X12_60 hM0 rfl ?_
      refine rn_aload_n C dX12_sha512_44 rfl ?_
      refine rs_getFe C dX12_sha512_45 fl_X12_63 hM0 rfl fs_get ?_
      refine rn_iconst (v := nI 0) C dX12_sha512_48 rfl ?_
      refine rs_iastore C dX12_sha512_49 hm11 rfl (by omega) (by decide) ?_
      refine rn_aload_n C dX12_sha512_50 rfl ?_
      refine rn_dup C dX12_sha512_51 rfl ?_
      refine rs_getFe C dX12_sha512_52 fl_X12_63 hM0 rfl fs_get ?_
      refine rn_iconst (v := nI 1) C dX12_sha512_55 rfl ?_
      refine rn_iadd C dX12_sha512_56 (nI_add _ _) ?_
      refine rs_putF C dX12_sha512_57 fp_X12_63 hM0 rfl ?_
      rw [show va_up (fs S.2.2 (mo) 17 (nI (q + 1 + i27))) (mo) (upd ((fs S.2.2 (mo) 17 (nI (q + 1 + i27))) (mo)) 17 (nI (q + 1 + i27 + 1))) = fs S.2.2 (mo) 17 (nI (q + 1 + i27 + 1)) from fs_fs]
      refine rn_goto (tgt := 27) C dX12_sha512_60 (by decide) ?_
      have he27 : msha_l27 mo q (va_up S.1 (mo + 11) (upd (S.1 (mo + 11)) (q) (nI (128))), S.2.1, S.2.2) (i27 + 1) = va_up (msha_l27 mo q (va_up S.1 (mo + 11) (upd (S.1 (mo + 11)) (q) (nI (128))), S.2.1, S.2.2) i27) (mo + 11) (upd ((msha_l27 mo q (va_up S.1 (mo + 11) (upd (S.1 (mo + 11)) (q) (nI (128))), S.2.1, S.2.2) i27) (mo + 11)) (q + 1 + i27) (nI (0))) := by
        first | (dsimp only [msha_l27]; done) | (dsimp only [msha_l27]; exact rfl) | exact rfl
      rw [he27] at ih27
      exact rn_ks [0, 1] ih27 rfl
  rw [show inst X.1 L (va_up S.1 (mo + 11) (upd (S.1 (mo + 11)) (q) (nI (128)))) S.2.1 (fs S.2.2 (mo) 17 (nI (q + 1))) = inst X.1 L (va_up S.1 (mo + 11) (upd (S.1 (mo + 11)) (q) (nI (128)))) S.2.1 (fs S.2.2 (mo) 17 (nI (q + 1 + 0))) from rfl]
  exact lp27 0 (Nat.zero_le _)
