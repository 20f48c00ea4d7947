/-! CurveSuite$Scalars: methods as functions of the contents, by program (dc.py, spec_scal.py) -/
def sinc_l54 (c : Bool) (so : Nat) (to : Nat) (by_ : Nat) (S : StT) (z3 : Int64) : Nat → Int64 × (Nat → Nat → Int64)
  | 0 => (z3, S.2.1)
  | i54 + 1 => let y54_0 := (sinc_l54 c so to by_ S z3 i54).1; let y54_1 := (sinc_l54 c so to by_ S z3 i54).2; (let J3 := va_up y54_1 (so + 2) (vp_updL (y54_1 (so + 2)) (i54) ((((y54_1 (to) (i54)) - (y54_1 (so + 4) (i54))) + y54_0) &&& 268435455)); ((((y54_1 (to) (i54)) - (y54_1 (so + 4) (i54))) + y54_0) >>> ((nI (28)).toInt64 &&& 63), J3))
def sinc_l5 (c : Bool) (so : Nat) (to : Nat) (by_ : Nat) (S : StT) (z3 : Int64) : Nat → Int64 × (Nat → Nat → Int64)
  | 0 => (z3, S.2.1)
  | i5 + 1 => let y5_0 := (sinc_l5 c so to by_ S z3 i5).1; let y5_1 := (sinc_l5 c so to by_ S z3 i5).2; (let J4 := va_up y5_1 (to) (vp_updL (y5_1 (to)) (i5) ((((y5_1 (to) (i5)) + (y5_1 (by_) (i5))) + y5_0) &&& 268435455)); ((((y5_1 (to) (i5)) + (y5_1 (by_) (i5))) + y5_0) >>> ((nI (28)).toInt64 &&& 63), J4))
def sinc_f (c : Bool) (so : Nat) (to : Nat) (by_ : Nat) (S : StT) : StT := (if (lg_cmp ((sinc_l54 c so to by_ (S.1, (sinc_l5 c so to by_ S 0 (sL c)).2, S.2.2) 0 (sL c)).1) (0)) ≠ 0 then (S.1, (sinc_l54 c so to by_ (S.1, (sinc_l5 c so to by_ S 0 (sL c)).2, S.2.2) 0 (sL c)).2, S.2.2) else (let J2 := va_up (sinc_l54 c so to by_ (S.1, (sinc_l5 c so to by_ S 0 (sL c)).2, S.2.2) 0 (sL c)).2 (to) (va_cpy ((sinc_l54 c so to by_ (S.1, (sinc_l5 c so to by_ S 0 (sL c)).2, S.2.2) 0 (sL c)).2 (so + 2)) ((sinc_l54 c so to by_ (S.1, (sinc_l5 c so to by_ S 0 (sL c)).2, S.2.2) 0 (sL c)).2 (to)) (0) (0) (sL c)); (S.1, J2, S.2.2)))
set_option maxRecDepth 100000 in
set_option maxHeartbeats 4000000 in
theorem c_sinc {k : KX} {L : Nat → Option Sh} {S : StT} {n : Nat} {c : Bool} {so : Nat} {to : Nat} {by_ : Nat} (hS : ScAt k L so c) (hto : L to = some (sJ 16)) (hby_ : L by_ = some (sJ 16)) :
    Cs k yX7_increase cX7_increase 8 none 1 0 0 [.ref (k_b k + (so)), .ref (k_b k + (to)), .ref (k_b k + (by_))] (inst k L S.1 S.2.1 S.2.2) n (Pv k L n (sinc_f c so to by_ S)) := by
  refine cs_of (by decide) (Nat.le_of_ble_eq_true rfl) ?_
  intro X hXk C Rt hnm
  subst hXk
  have hS9 := hS
  obtain ⟨hS0, hs1, hs2, hs3, hs4⟩ := hS9
  obtain ⟨hl1, hl2⟩ := sL_le c
  obtain ⟨hb1, hb2⟩ := cB_le c
  refine rn_lv [(0, .ref (k_b X.1 + (so))), (1, .ref (k_b X.1 + (to))), (2, .ref (k_b X.1 + (by_)))] (fun q h => h) ?_
  refine rn_lconst (v := 0) C dX7_increase_0 rfl ?_
  refine rn_lstore_n (lv' := [(0, _), (1, _), (2, _), (3, _)]) C dX7_increase_1 (by decide) rfl ?_
  refine rn_iconst (v := nI 0) C dX7_increase_2 rfl ?_
  refine rn_istore (lv' := [(0, _), (1, _), (2, _), (3, _), (5, _)]) C dX7_increase_3 (by decide) rfl ?_
  have lp5 : ∀ i5, i5 ≤ sL c → Rn X 5 [(0, .ref (k_b X.1 + (so))), (1, .ref (k_b X.1 + (to))), (2, .ref (k_b X.1 + (by_))), (3, .long ((sinc_l5 c so to by_ S 0 i5).1)), (5, .int (nI (i5)))] [] (inst X.1 L S.1 (sinc_l5 c so to by_ S 0 i5).2 S.2.2) n 0 0 := by
    refine upto _ _ ?_ (fun i5 hi5 ih5 => ?_)
    · skip
      refine rn_iload C dX7_increase_5 rfl ?_
      refine rn_aload_n C dX7_increase_7 rfl ?_
      refine rs_get C dX7_increase_8 fl_X7_24 hS0 rfl ?_
      refine rs_ge (tgt := 49) C dX7_increase_11 (by decide) rfl rfl (by omega) (by omega) (fun _ => ?_) (fun q => absurd q (by omega))
      refine rn_lconst (v := 0) C dX7_increase_49 rfl ?_
      refine rn_lstore_n (lv' := [(0, _), (1, _), (2, _), (3, _), (5, _)]) C dX7_increase_50 (by decide) rfl ?_
      refine rn_iconst (v := nI 0) C dX7_increase_51 rfl ?_
      refine rn_istore (lv' := [(0, _), (1, _), (2, _), (3, _), (5, _)]) C dX7_increase_52 (by decide) rfl ?_
      have lp54 : ∀ i54, i54 ≤ sL c → Rn X 54 [(0, .ref (k_b X.1 + (so))), (1, .ref (k_b X.1 + (to))), (2, .ref (k_b X.1 + (by_))), (3, .long ((sinc_l54 c so to by_ (S.1, (sinc_l5 c so to by_ S 0 (sL c)).2, S.2.2) 0 i54).1)), (5, .int (nI (i54)))] [] (inst X.1 L S.1 (sinc_l54 c so to by_ (S.1, (sinc_l5 c so to by_ S 0 (sL c)).2, S.2.2) 0 i54).2 S.2.2) n 0 0 := by
        refine upto _ _ ?_ (fun i54 hi54 ih54 => ?_)
        · skip
          refine rn_iload C dX7_increase_54 rfl ?_
          refine rn_aload_n C dX7_increase_56 rfl ?_
          refine rs_get C dX7_increase_57 fl_X7_24 hS0 rfl ?_
          refine rs_ge (tgt := 104) C dX7_increase_60 (by decide) rfl rfl (by omega) (by omega) (fun _ => ?_) (fun q => absurd q (by omega))
          refine rn_lload_n C dX7_increase_104 rfl ?_
          refine rn_lconst (v := 0) C dX7_increase_105 rfl ?_
          refine rn_lcmp C dX7_increase_106 ?_
          refine rn_if_ne (tgt := 124) C dX7_increase_107 (by decide) (fun hb1 => ?_) (fun hb1 => ?_)
          · skip
            exact rn_vret C Rt dX7_increase_124 (pv_of (if_pos hb1)) (Nat.zero_le _) (Nat.zero_le _)
          · skip
            refine rn_aload_n C dX7_increase_110 rfl ?_
            refine rs_get C dX7_increase_111 fl_X7_17 hS0 rfl ?_
            refine rn_iconst (v := nI 0) C dX7_increase_114 rfl ?_
            refine rn_aload_n C dX7_increase_115 rfl ?_
            refine rn_iconst (v := nI 0) C dX7_increase_116 rfl ?_
            refine rn_aload_n C dX7_increase_117 rfl ?_
            refine rs_get C dX7_increase_118 fl_X7_24 hS0 rfl ?_
            refine rs_copyJ C dX7_increase_121 lcp_X7_62 hs2 hto rfl rfl rfl (by omega) (by omega) (by decide) (by decide) (by decide) (by decide) ?_
            exact rn_vret C Rt dX7_increase_124 (pv_of (if_neg (fun q => q hb1))) (Nat.zero_le _) (Nat.zero_le _)
        · skip
          refine rn_iload C dX7_increase_54 rfl ?_
          refine rn_aload_n C dX7_increase_56 rfl ?_
          refine rs_get C dX7_increase_57 fl_X7_24 hS0 rfl ?_
          refine rs_ge (tgt := 104) C dX7_increase_60 (by decide) rfl rfl (by omega) (by omega) (fun q => absurd q (by omega)) (fun _ => ?_)
          refine rn_aload_n C dX7_increase_63 rfl ?_
          refine rn_iload C dX7_increase_64 rfl ?_
          refine rs_laload C dX7_increase_66 hto rfl (by omega) (by decide) ?_
          refine rn_aload_n C dX7_increase_67 rfl ?_
          refine rs_get C dX7_increase_68 fl_X7_39 hS0 rfl ?_
          refine rn_iload C dX7_increase_71 rfl ?_
          refine rs_laload C dX7_increase_73 hs3 rfl (by omega) (by decide) ?_
          refine rn_lsub C dX7_increase_74 rfl ?_
          refine rn_lload_n C dX7_increase_75 rfl ?_
          refine rn_ladd C dX7_increase_76 rfl ?_
          refine rn_lstore (lv' := [(0, _), (1, _), (2, _), (3, _), (5, _), (6, _)]) C dX7_increase_77 (by decide) rfl ?_
          refine rn_aload_n C dX7_increase_79 rfl ?_
          refine rs_get C dX7_increase_80 fl_X7_17 hS0 rfl ?_
          refine rn_iload C dX7_increase_83 rfl ?_
          refine rn_lload C dX7_increase_85 rfl ?_
          refine rn_ldc2 C dX7_increase_87 lc_X7_60 ?_
          refine rn_land C dX7_increase_90 rfl ?_
          refine rs_lastore C dX7_increase_91 hs2 rfl (by omega) (by decide) ?_
          refine rn_lload C dX7_increase_92 rfl ?_
          refine rn_bipush (v := nI 28) C dX7_increase_94 rfl ?_
          refine rn_lshr C dX7_increase_96 rfl ?_
          refine rn_lstore_n (lv' := [(0, _), (1, _), (2, _), (3, _), (5, _), (6, _)]) C dX7_increase_97 (by decide) rfl ?_
          refine rn_iinc (lv' := [(0, _), (1, _), (2, _), (3, _), (5, _), (6, _)]) C dX7_increase_98 rfl (nI_inc _) (by decide) rfl ?_
          refine rn_goto (tgt := 54) C dX7_increase_101 (by decide) ?_
          exact rn_ks [0, 1, 2, 3, 5] ih54 rfl
      exact lp54 0 (Nat.zero_le _)
    · skip
      refine rn_iload C dX7_increase_5 rfl ?_
      refine rn_aload_n C dX7_increase_7 rfl ?_
      refine rs_get C dX7_increase_8 fl_X7_24 hS0 rfl ?_
      refine rs_ge (tgt := 49) C dX7_increase_11 (by decide) rfl rfl (by omega) (by omega) (fun q => absurd q (by omega)) (fun _ => ?_)
      refine rn_aload_n C dX7_increase_14 rfl ?_
      refine rn_iload C dX7_increase_15 rfl ?_
      refine rs_laload C dX7_increase_17 hto rfl (by omega) (by decide) ?_
      refine rn_aload_n C dX7_increase_18 rfl ?_
      refine rn_iload C dX7_increase_19 rfl ?_
      refine rs_laload C dX7_increase_21 hby_ rfl (by omega) (by decide) ?_
      refine rn_ladd C dX7_increase_22 rfl ?_
      refine rn_lload_n C dX7_increase_23 rfl ?_
      refine rn_ladd C dX7_increase_24 rfl ?_
      refine rn_lstore (lv' := [(0, _), (1, _), (2, _), (3, _), (5, _), (6, _)]) C dX7_increase_25 (by decide) rfl ?_
      refine rn_aload_n C dX7_increase_27 rfl ?_
      refine rn_iload C dX7_increase_28 rfl ?_
      refine rn_lload C dX7_increase_30 rfl ?_
      refine rn_ldc2 C dX7_increase_32 lc_X7_60 ?_
      refine rn_land C dX7_increase_35 rfl ?_
      refine rs_lastore C dX7_increase_36 hto rfl (by omega) (by decide) ?_
      refine rn_lload C dX7_increase_37 rfl ?_
      refine rn_bipush (v := nI 28) C dX7_increase_39 rfl ?_
      refine rn_lshr C dX7_increase_41 rfl ?_
      refine rn_lstore_n (lv' := [(0, _), (1, _), (2, _), (3, _), (5, _), (6, _)]) C dX7_increase_42 (by decide) rfl ?_
      refine rn_iinc (lv' := [(0, _), (1, _), (2, _), (3, _), (5, _), (6, _)]) C dX7_increase_43 rfl (nI_inc _) (by decide) rfl ?_
      refine rn_goto (tgt := 5) C dX7_increase_46 (by decide) ?_
      exact rn_ks [0, 1, 2, 3, 5] ih5 rfl
  exact lp5 0 (Nat.zero_le _)
def smul_l13 (c : Bool) (so : Nat) (to : Nat) (nb : Nat) (nn : Nat) (fa : Nat) (S : StT)  : Nat → StT
  | 0 => S
  | i13 + 1 => let y13_0 := (smul_l13 c so to nb nn fa S i13); (if ((((sinc_f c (so) (to) (to) y13_0).1 (nb) (((8 * nn) - 1 - i13) / 2 ^ 3)) >>> ((nI (((8 * nn) - 1 - i13) % 2 ^ 3)) &&& 31)) &&& (nI (1))) ≠ (nI (1)) then sinc_f c (so) (to) (to) y13_0 else sinc_f c (so) (to) (fa) (sinc_f c (so) (to) (to) y13_0))
def smul_f (c : Bool) (so : Nat) (to : Nat) (nb : Nat) (nn : Nat) (fa : Nat) (S : StT) : StT := (smul_l13 c so to nb nn fa (fill_f (to) (16) (0) S) (8 * nn))
set_option maxRecDepth 100000 in
set_option maxHeartbeats 4000000 in
theorem c_smul {k : KX} {L : Nat → Option Sh} {S : StT} {n : Nat} {c : Bool} {so : Nat} {to : Nat} {nb : Nat} {m : Nat} {nn : Nat} {fa : Nat} (hS : ScAt k L so c) (hto : L to = some (sJ 16)) (hnb : L nb = some (sI m)) (hm : m < 2 ^ 31) (hnn : nn ≤ m) (hn0 : 1 ≤ nn) (hn1 : nn ≤ 128) (hfa : L fa = some (sJ 16)) :
    Cs k yX7_multiply cX7_multiply 6 none 2 0 0 [.ref (k_b k + (so)), .ref (k_b k + (to)), .ref (k_b k + (nb)), .int (nI (nn)), .ref (k_b k + (fa))] (inst k L S.1 S.2.1 S.2.2) n (Pv k L n (smul_f c so to nb nn fa S)) := by
  refine cs_of (by decide) (Nat.le_of_ble_eq_true rfl) ?_
  intro X hXk C Rt hnm
  subst hXk
  have hS9 := hS
  obtain ⟨hS0, hs1, hs2, hs3, hs4⟩ := hS9
  obtain ⟨hl1, hl2⟩ := sL_le c
  obtain ⟨hb1, hb2⟩ := cB_le c
  refine rn_lv [(0, .ref (k_b X.1 + (so))), (1, .ref (k_b X.1 + (to))), (2, .ref (k_b X.1 + (nb))), (3, .int (nI (nn))), (4, .ref (k_b X.1 + (fa)))] (fun q h => h) ?_
  refine rn_aload_n C dX7_multiply_0 rfl ?_
  refine rn_lconst (v := 0) C dX7_multiply_1 rfl ?_
  refine rs_sv C dX7_multiply_2 mk_J7_fill_d0a16 ls_X7_50 (c_fill hto (by decide)) rfl rfl (by decide) (Nat.le_of_ble_eq_true rfl) (by decide) (by decide) ?_
  refine rn_bipush (v := nI 8) C dX7_multiply_5 rfl ?_
  refine rn_iload_n C dX7_multiply_7 rfl ?_
  refine rn_imul C dX7_multiply_8 (pk_mul _ _) ?_
  refine rn_iconst (v := nI 1) C dX7_multiply_9 rfl ?_
  refine rn_isub C dX7_multiply_10 (pk_sub (by omega)) ?_
  refine rn_istore (lv' := [(0, _), (1, _), (2, _), (3, _), (4, _), (5, _)]) C dX7_multiply_11 (by decide) rfl ?_
  have lp13 : ∀ i13, i13 ≤ 8 * nn → Rn X 13 [(0, .ref (k_b X.1 + (so))), (1, .ref (k_b X.1 + (to))), (2, .ref (k_b X.1 + (nb))), (3, .int (nI (nn))), (4, .ref (k_b X.1 + (fa))), (5, .int (dn ((8 * nn) - i13)))] [] (inst X.1 L (smul_l13 c so to nb nn fa (fill_f (to) (16) (0) S) i13).1 (smul_l13 c so to nb nn fa (fill_f (to) (16) (0) S) i13).2.1 (smul_l13 c so to nb nn fa (fill_f (to) (16) (0) S) i13).2.2) n 0 0 := by
    refine upto _ _ ?_ (fun i13 hi13 ih13 => ?_)
    · skip
      rw [dn_end]
      refine rn_iload C dX7_multiply_13 rfl ?_
      refine rn_if_lt (tgt := 55) C dX7_multiply_15 (by decide) (fun _ => ?_) (fun q => absurd (by decide) q)
      exact rn_vret C Rt dX7_multiply_55 (pv_of (tup _)) (Nat.zero_le _) (Nat.zero_le _)
    · skip
      rw [dn_at hi13]
      refine rn_iload C dX7_multiply_13 rfl ?_
      refine rs_lt0 (tgt := 55) C dX7_multiply_15 (by decide) rfl (by omega) ?_
      refine rn_aload_n C dX7_multiply_18 rfl ?_
      refine rn_aload_n C dX7_multiply_19 rfl ?_
      refine rn_aload_n C dX7_multiply_20 rfl ?_
      refine rs_vv C dX7_multiply_21 mk_X7_increase lv_X7_56 (c_sinc hS hto hto) hS0 rfl rfl rfl rfl (by decide) (Nat.le_of_ble_eq_true rfl) (by decide) (by decide) ?_
      refine rn_aload_n C dX7_multiply_24 rfl ?_
      refine rn_iload C dX7_multiply_25 rfl ?_
      refine rn_iconst (v := nI 3) C dX7_multiply_27 rfl ?_
      refine rn_ishr C dX7_multiply_28 (pk_shrN (by omega) _ 3 (by decide)) ?_
      refine rs_iaload C dX7_multiply_29 hnb rfl (by omega) hm ?_
      refine rn_iload C dX7_multiply_30 rfl ?_
      refine rn_bipush (v := nI 7) C dX7_multiply_32 rfl ?_
      refine rn_iand C dX7_multiply_34 (pk_andN (by omega) 3 (by decide)) ?_
      refine rn_ishr C dX7_multiply_35 rfl ?_
      refine rn_iconst (v := nI 1) C dX7_multiply_36 rfl ?_
      refine rn_iand C dX7_multiply_37 rfl ?_
      refine rn_iconst (v := nI 1) C dX7_multiply_38 rfl ?_
      refine rn_icmp_ne (tgt := 49) C dX7_multiply_39 (by decide) (fun hb1 => ?_) (fun hb1 => ?_)
      · skip
        refine rn_iinc (lv' := [(0, _), (1, _), (2, _), (3, _), (4, _), (5, _)]) C dX7_multiply_49 rfl (dn_dec hi13) (by decide) rfl ?_
        refine rn_goto (tgt := 13) C dX7_multiply_52 (by decide) ?_
        rw [show smul_l13 c so to nb nn fa (fill_f (to) (16) (0) S) (i13 + 1) = _ from (if_pos hb1)] at ih13
        exact rn_ks [0, 1, 2, 3, 4, 5] ih13 rfl
      · skip
        refine rn_aload_n C dX7_multiply_42 rfl ?_
        refine rn_aload_n C dX7_multiply_43 rfl ?_
        refine rn_aload C dX7_multiply_44 rfl ?_
        refine rs_vv C dX7_multiply_46 mk_X7_increase lv_X7_56 (c_sinc hS hto hfa) hS0 rfl rfl rfl rfl (by decide) (Nat.le_of_ble_eq_true rfl) (by decide) (by decide) ?_
        refine rn_iinc (lv' := [(0, _), (1, _), (2, _), (3, _), (4, _), (5, _)]) C dX7_multiply_49 rfl (dn_dec hi13) (by decide) rfl ?_
        refine rn_goto (tgt := 13) C dX7_multiply_52 (by decide) ?_
        rw [show smul_l13 c so to nb nn fa (fill_f (to) (16) (0) S) (i13 + 1) = _ from (if_neg (fun q => q hb1))] at ih13
        exact rn_ks [0, 1, 2, 3, 4, 5] ih13 rfl
  have hz13 := lp13 0 (Nat.zero_le _)
  rw [dn_at (N := 8 * nn) (i := 0) (by omega)] at hz13
  exact hz13
def sred_f (c : Bool) (so : Nat) (to : Nat) (nb : Nat) (nn : Nat) (S : StT) : StT := smul_f c (so) (to) (nb) (nn) (so + 1) S
set_option maxRecDepth 100000 in
set_option maxHeartbeats 4000000 in
theorem c_sred {k : KX} {L : Nat → Option Sh} {S : StT} {n : Nat} {c : Bool} {so : Nat} {to : Nat} {nb : Nat} {m : Nat} {nn : Nat} (hS : ScAt k L so c) (hto : L to = some (sJ 16)) (hnb : L nb = some (sI m)) (hm : m < 2 ^ 31) (hnn : nn ≤ m) (hn0 : 1 ≤ nn) (hn1 : nn ≤ 128) :
    Cs k yX7_reduce cX7_reduce 4 none 3 0 0 [.ref (k_b k + (so)), .ref (k_b k + (to)), .ref (k_b k + (nb)), .int (nI (nn))] (inst k L S.1 S.2.1 S.2.2) n (Pv k L n (sred_f c so to nb nn S)) := by
  refine cs_of (by decide) (Nat.le_of_ble_eq_true rfl) ?_
  intro X hXk C Rt hnm
  subst hXk
  have hS9 := hS
  obtain ⟨hS0, hs1, hs2, hs3, hs4⟩ := hS9
  obtain ⟨hl1, hl2⟩ := sL_le c
  obtain ⟨hb1, hb2⟩ := cB_le c
  refine rn_lv [(0, .ref (k_b X.1 + (so))), (1, .ref (k_b X.1 + (to))), (2, .ref (k_b X.1 + (nb))), (3, .int (nI (nn)))] (fun q h => h) ?_
  refine rn_aload_n C dX7_reduce_0 rfl ?_
  refine rn_aload_n C dX7_reduce_1 rfl ?_
  refine rn_aload_n C dX7_reduce_2 rfl ?_
  refine rn_iload_n C dX7_reduce_3 rfl ?_
  refine rn_aload_n C dX7_reduce_4 rfl ?_
  refine rs_get C dX7_reduce_5 fl_X7_13 hS0 rfl ?_
  refine rs_vv C dX7_reduce_8 mk_X7_multiply lv_X7_46 (c_smul hS hto hnb hm (by omega) (by omega) (by omega) hs1) hS0 rfl rfl rfl rfl (by decide) (Nat.le_of_ble_eq_true rfl) (by decide) (by decide) ?_
  exact rn_vret C Rt dX7_reduce_11 (pv_of (tup _)) (Nat.zero_le _) (Nat.zero_le _)
def sbel_s7 (c : Bool) (so : Nat) (nb : Nat) (fr : Nat) (S : StT) : Nat → Nat → Int32 × StT
  | 0, i7 => (nI (0), S)
  | f7 + 1, i7 => (if (S.1 (nb) (fr + ((cB c) - 1 - i7))) = (S.1 (so + 5) ((cB c) - 1 - i7)) then sbel_s7 c so nb fr S f7 (i7 + 1) else (if (S.1 (so + 5) ((cB c) - 1 - i7)) ≤ (S.1 (nb) (fr + ((cB c) - 1 - i7))) then (nI (0), S) else (nI (1), S)))
def sbel_f (c : Bool) (so : Nat) (nb : Nat) (fr : Nat) (S : StT) : Int32 × StT := sbel_s7 c so nb fr S (cB c) 0
set_option maxRecDepth 100000 in
set_option maxHeartbeats 4000000 in
theorem c_sbel {k : KX} {L : Nat → Option Sh} {S : StT} {n : Nat} {c : Bool} {so : Nat} {nb : Nat} {m : Nat} {fr : Nat} (hS : ScAt k L so c) (hnb : L nb = some (sI m)) (hm : m < 2 ^ 31) (hfr : fr + cB c ≤ m) :
    Cs k yX7_isBelowOrder cX7_isBelowOrder 4 (some .boolean) 0 0 0 [.ref (k_b k + (so)), .ref (k_b k + (nb)), .int (nI (fr))] (inst k L S.1 S.2.1 S.2.2) n (Pi k L n (sbel_f c so nb fr S)) := by
  refine cs_of (by decide) (Nat.le_of_ble_eq_true rfl) ?_
  intro X hXk C Rt hnm
  subst hXk
  have hS9 := hS
  obtain ⟨hS0, hs1, hs2, hs3, hs4⟩ := hS9
  obtain ⟨hl1, hl2⟩ := sL_le c
  obtain ⟨hb1, hb2⟩ := cB_le c
  refine rn_lv [(0, .ref (k_b X.1 + (so))), (1, .ref (k_b X.1 + (nb))), (2, .int (nI (fr)))] (fun q h => h) ?_
  refine rn_aload_n C dX7_isBelowOrder_0 rfl ?_
  refine rs_get C dX7_isBelowOrder_1 fl_X7_20 hS0 rfl ?_
  refine rn_iconst (v := nI 1) C dX7_isBelowOrder_4 rfl ?_
  refine rn_isub C dX7_isBelowOrder_5 (pk_sub (by omega)) ?_
  refine rn_istore_n (lv' := [(0, _), (1, _), (2, _), (3, _)]) C dX7_isBelowOrder_6 (by decide) rfl ?_
  have lp7 : ∀ i7, i7 ≤ (cB c) → (sbel_s7 c so nb fr S (cB c) 0 = sbel_s7 c so nb fr S ((cB c) - i7) i7) → Rn X 7 [(0, .ref (k_b X.1 + (so))), (1, .ref (k_b X.1 + (nb))), (2, .int (nI (fr))), (3, .int (dn ((cB c) - i7)))] [] (inst X.1 L S.1 S.2.1 S.2.2) n 0 0 := by
    refine upto _ _ (fun he7 => ?_) (fun i7 hi7 ih7 he7 => ?_)
    · skip
      rw [Nat.sub_self] at he7
      rw [dn_end]
      refine rn_iload_n C dX7_isBelowOrder_7 rfl ?_
      refine rn_if_lt (tgt := 51) C dX7_isBelowOrder_8 (by decide) (fun _ => ?_) (fun q => absurd (by decide) q)
      refine rn_iconst (v := nI 0) C dX7_isBelowOrder_51 rfl ?_
      exact rn_zret C Rt dX7_isBelowOrder_52 (by first | rfl | exact rfl) (pi_of (he7)) (Nat.zero_le _) (Nat.zero_le _)
    · skip
      have hq7 : sbel_s7 c so nb fr S (cB c) 0 = sbel_s7 c so nb fr S ((cB c) - (i7 + 1) + 1) i7 := by rw [show (cB c) - (i7 + 1) + 1 = (cB c) - i7 from by omega]; exact he7
      rw [dn_at hi7]
      refine rn_iload_n C dX7_isBelowOrder_7 rfl ?_
      refine rs_lt0 (tgt := 51) C dX7_isBelowOrder_8 (by decide) rfl (by omega) ?_
      refine rn_aload_n C dX7_isBelowOrder_11 rfl ?_
      refine rn_iload_n C dX7_isBelowOrder_12 rfl ?_
      refine rn_iload_n C dX7_isBelowOrder_13 rfl ?_
      refine rn_iadd C dX7_isBelowOrder_14 (nI_add _ _) ?_
      refine rs_iaload C dX7_isBelowOrder_15 hnb rfl (by omega) hm ?_
      refine rn_aload_n C dX7_isBelowOrder_16 rfl ?_
      refine rs_get C dX7_isBelowOrder_17 fl_X7_42 hS0 rfl ?_
      refine rn_iload_n C dX7_isBelowOrder_20 rfl ?_
      refine rs_iaload C dX7_isBelowOrder_21 hs4 rfl (by omega) (by decide) ?_
      refine rn_icmp_eq (tgt := 45) C dX7_isBelowOrder_22 (by decide) (fun hb1 => ?_) (fun hb1 => ?_)
      · skip
        refine rn_iinc (lv' := [(0, _), (1, _), (2, _), (3, _)]) C dX7_isBelowOrder_45 rfl (dn_dec hi7) (by decide) rfl ?_
        refine rn_goto (tgt := 7) C dX7_isBelowOrder_48 (by decide) ?_
        exact rn_ks [0, 1, 2, 3] (ih7 ((hq7).trans (if_pos hb1))) rfl
      · skip
        refine rn_aload_n C dX7_isBelowOrder_25 rfl ?_
        refine rn_iload_n C dX7_isBelowOrder_26 rfl ?_
        refine rn_iload_n C dX7_isBelowOrder_27 rfl ?_
        refine rn_iadd C dX7_isBelowOrder_28 (nI_add _ _) ?_
        refine rs_iaload C dX7_isBelowOrder_29 hnb rfl (by omega) hm ?_
        refine rn_aload_n C dX7_isBelowOrder_30 rfl ?_
        refine rs_get C dX7_isBelowOrder_31 fl_X7_42 hS0 rfl ?_
        refine rn_iload_n C dX7_isBelowOrder_34 rfl ?_
        refine rs_iaload C dX7_isBelowOrder_35 hs4 rfl (by omega) (by decide) ?_
        refine rn_icmp_ge (tgt := 43) C dX7_isBelowOrder_36 (by decide) (fun hb2 => ?_) (fun hb2 => ?_)
        · skip
          refine rn_iconst (v := nI 0) C dX7_isBelowOrder_43 rfl ?_
          exact rn_zret C Rt dX7_isBelowOrder_44 (by first | rfl | exact rfl) (pi_of (((hq7).trans (if_neg hb1)).trans (if_pos hb2))) (Nat.zero_le _) (Nat.zero_le _)
        · skip
          refine rn_iconst (v := nI 1) C dX7_isBelowOrder_39 rfl ?_
          refine rn_goto (tgt := 44) C dX7_isBelowOrder_40 (by decide) ?_
          exact rn_zret C Rt dX7_isBelowOrder_44 (by first | rfl | exact rfl) (pi_of (((hq7).trans (if_neg hb1)).trans (if_neg hb2))) (Nat.zero_le _) (Nat.zero_le _)
  have hz7 := lp7 0 (Nat.zero_le _) rfl
  rw [dn_at (N := cB c) (i := 0) (by omega)] at hz7
  exact hz7
theorem sbel_s7_S (c : Bool) (so : Nat) (nb : Nat) (fr : Nat) (S : StT) : ∀ f i, (sbel_s7 c so nb fr S f i).2 = S := by
  intro f
  induction f with
  | zero => intro i; rfl
  | succ f ih =>
    intro i
    unfold sbel_s7
    (repeat' split) <;> first | rfl | exact ih _
theorem sbel_S (c : Bool) (so : Nat) (nb : Nat) (fr : Nat) (S : StT) : (sbel_f c so nb fr S).2 = S := sbel_s7_S c so nb fr S _ _
theorem cp_sbel {k : KX} {L : Nat → Option Sh} {S : StT} {n : Nat} {c : Bool} {so : Nat} {nb : Nat} {m : Nat} {fr : Nat} (hS : ScAt k L so c) (hnb : L nb = some (sI m)) (hm : m < 2 ^ 31) (hfr : fr + cB c ≤ m) :
    Cs k yX7_isBelowOrder cX7_isBelowOrder 4 (some .boolean) 0 0 0 [.ref (k_b k + (so)), .ref (k_b k + (nb)), .int (nI (fr))] (inst k L S.1 S.2.1 S.2.2) n (Pi k L n ((sbel_f c so nb fr S).1, S)) := by
  have h := c_sbel (k := k) (L := L) (S := S) (n := n) (c := c) (so := so) (nb := nb) (m := m) (fr := fr) hS hnb hm hfr
  have e : sbel_f c so nb fr S = ((sbel_f c so nb fr S).1, S) := Prod.ext rfl (sbel_S c so nb fr S)
  rwa [e] at h
