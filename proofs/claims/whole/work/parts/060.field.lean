/-! CurveSuite$Field: its methods as functions of the contents, by program (dc.py, spec_field.py) -/
def carry_l13 (c : Bool) (to : Nat) (fr : Nat) (S : StT) (z3 : Int64) : Nat → Int64 × (Nat → Nat → Int64)
  | 0 => (z3, S.2.1)
  | i13 + 1 => let y13_0 := (carry_l13 c to fr S z3 i13).1; let y13_1 := (carry_l13 c to fr S z3 i13).2; (((y13_1 (fr) (i13)) + y13_0) >>> ((nI (fb c)).toInt64 &&& 63), va_up y13_1 (to) (vp_updL (y13_1 (to)) (i13) (((y13_1 (fr) (i13)) + y13_0) &&& (fM c))))
def carry_f (c : Bool) (to : Nat) (fr : Nat) (S : StT) : StT := (let v1 := ((carry_l13 c to fr S 0 (fL c - 1)).2 (fr) (fL c - 1)) + (carry_l13 c to fr S 0 (fL c - 1)).1; (let J2 := va_up (carry_l13 c to fr S 0 (fL c - 1)).2 (to) (vp_updL ((carry_l13 c to fr S 0 (fL c - 1)).2 (to)) (fL c - 1) (v1 &&& (fN c))); (if (bI c) = 0 then (let J4 := va_up J2 (to) (vp_updL (J2 (to)) (0) ((J2 (to) (0)) + (19 * (v1 >>> ((nI (ft c)).toInt64 &&& 63))))); (S.1, J4, S.2.2)) else (let J5 := va_up J2 (to) (vp_updL (J2 (to)) (0) ((J2 (to) (0)) + (v1 >>> ((nI (ft c)).toInt64 &&& 63)))); (let J6 := va_up J5 (to) (vp_updL (J5 (to)) (8) ((J5 (to) (8)) + (v1 >>> ((nI (ft c)).toInt64 &&& 63)))); (S.1, J6, S.2.2))))))
set_option maxRecDepth 100000 in
set_option maxHeartbeats 4000000 in
theorem c_carry {k : KX} {L : Nat → Option Sh} {S : StT} {n : Nat} {c : Bool} {o : Nat} {to : Nat} {fr : Nat} {m : Nat} (hF : FieldAt k L o c) (hto : L to = some (sJ 16)) (hfr : L fr = some (sJ m)) (hm : 16 ≤ m) (hm2 : m < 2 ^ 31) :
    Cs k yX3_carry cX3_carry 9 none 0 0 0 [.ref (k_b k + (o)), .ref (k_b k + (to)), .ref (k_b k + (fr))] (inst k L S.1 S.2.1 S.2.2) n (Pv k L n (carry_f c to fr S)) := by
  refine cs_of (by decide) (Nat.le_of_ble_eq_true rfl) ?_
  intro X hXk C Rt hnm
  subst hXk
  have hF9 := hF
  obtain ⟨hF0, hf1, hf2, hf3, hf4, hf5, hf6, hf7, hf8, hf9⟩ := hF9
  obtain ⟨hl1, hl2⟩ := fL_le c
  refine rn_lv [(0, .ref (k_b X.1 + (o))), (1, .ref (k_b X.1 + (to))), (2, .ref (k_b X.1 + (fr)))] (fun q h => h) ?_
  refine rn_lconst (v := 0) C dX3_carry_0 rfl ?_
  refine rn_lstore_n (lv' := [(0, _), (1, _), (2, _), (3, _)]) C dX3_carry_1 (by decide) rfl ?_
  refine rn_aload_n C dX3_carry_2 rfl ?_
  refine rs_get C dX3_carry_3 fl_X3_47 hF0 rfl ?_
  refine rn_iconst (v := nI 1) C dX3_carry_6 rfl ?_
  refine rn_isub C dX3_carry_7 (pk_sub (by omega)) ?_
  refine rn_istore (lv' := [(0, _), (1, _), (2, _), (3, _), (5, _)]) C dX3_carry_8 (by decide) rfl ?_
  refine rn_iconst (v := nI 0) C dX3_carry_10 rfl ?_
  refine rn_istore (lv' := [(0, _), (1, _), (2, _), (3, _), (5, _), (6, _)]) C dX3_carry_11 (by decide) rfl ?_
  have lp13 : ∀ i13, i13 ≤ fL c - 1 → Rn X 13 [(0, .ref (k_b X.1 + (o))), (1, .ref (k_b X.1 + (to))), (2, .ref (k_b X.1 + (fr))), (3, .long ((carry_l13 c to fr S 0 i13).1)), (5, .int (nI (fL c - 1))), (6, .int (nI (i13)))] [] (inst X.1 L S.1 (carry_l13 c to fr S 0 i13).2 S.2.2) n 0 0 := by
    refine upto _ _ ?_ (fun i13 hi13 ih13 => ?_)
    · skip
      refine rn_iload C dX3_carry_13 rfl ?_
      refine rn_iload C dX3_carry_15 rfl ?_
      refine rs_ge (tgt := 53) C dX3_carry_17 (by decide) rfl rfl (by omega) (by omega) (fun _ => ?_) (fun q => absurd q (by omega))
      refine rn_aload_n C dX3_carry_53 rfl ?_
      refine rn_iload C dX3_carry_54 rfl ?_
      refine rs_laload C dX3_carry_56 hfr rfl (by omega) hm2 ?_
      refine rn_lload_n C dX3_carry_57 rfl ?_
      refine rn_ladd C dX3_carry_58 rfl ?_
      refine rn_lstore (lv' := [(0, _), (1, _), (2, _), (3, _), (5, _), (6, _)]) C dX3_carry_59 (by decide) rfl ?_
      refine rn_aload_n C dX3_carry_61 rfl ?_
      refine rn_iload C dX3_carry_62 rfl ?_
      refine rn_lload C dX3_carry_64 rfl ?_
      refine rn_aload_n C dX3_carry_66 rfl ?_
      refine rs_get C dX3_carry_67 fl_X3_60 hF0 rfl ?_
      refine rn_land C dX3_carry_70 rfl ?_
      refine rs_lastore C dX3_carry_71 hto rfl (by omega) (by decide) ?_
      refine rn_lload C dX3_carry_72 rfl ?_
      refine rn_aload_n C dX3_carry_74 rfl ?_
      refine rs_get C dX3_carry_75 fl_X3_53 hF0 rfl ?_
      refine rn_lshr C dX3_carry_78 rfl ?_
      refine rn_lstore_n (lv' := [(0, _), (1, _), (2, _), (3, _), (5, _), (6, _)]) C dX3_carry_79 (by decide) rfl ?_
      refine rn_aload_n C dX3_carry_80 rfl ?_
      refine rs_get C dX3_carry_81 fl_X3_39 hF0 rfl ?_
      refine rn_if_eq (tgt := 105) C dX3_carry_84 (by decide) (fun hb3 => ?_) (fun hb3 => ?_)
      · skip
        refine rn_aload_n C dX3_carry_105 rfl ?_
        refine rn_iconst (v := nI 0) C dX3_carry_106 rfl ?_
        refine rn_dup2 C dX3_carry_107 rfl rfl ?_
        refine rs_laload C dX3_carry_108 hto rfl (by omega) (by decide) ?_
        refine rn_ldc2 C dX3_carry_109 lc_X3_124 ?_
        refine rn_lload_n C dX3_carry_112 rfl ?_
        refine rn_lmul C dX3_carry_113 rfl ?_
        refine rn_ladd C dX3_carry_114 rfl ?_
        refine rs_lastore C dX3_carry_115 hto rfl (by omega) (by decide) ?_
        exact rn_vret C Rt dX3_carry_116 (pv_of (if_pos hb3)) (Nat.zero_le _) (Nat.zero_le _)
      · skip
        refine rn_aload_n C dX3_carry_87 rfl ?_
        refine rn_iconst (v := nI 0) C dX3_carry_88 rfl ?_
        refine rn_dup2 C dX3_carry_89 rfl rfl ?_
        refine rs_laload C dX3_carry_90 hto rfl (by omega) (by decide) ?_
        refine rn_lload_n C dX3_carry_91 rfl ?_
        refine rn_ladd C dX3_carry_92 rfl ?_
        refine rs_lastore C dX3_carry_93 hto rfl (by omega) (by decide) ?_
        refine rn_aload_n C dX3_carry_94 rfl ?_
        refine rn_bipush (v := nI 8) C dX3_carry_95 rfl ?_
        refine rn_dup2 C dX3_carry_97 rfl rfl ?_
        refine rs_laload C dX3_carry_98 hto rfl (by omega) (by decide) ?_
        refine rn_lload_n C dX3_carry_99 rfl ?_
        refine rn_ladd C dX3_carry_100 rfl ?_
        refine rs_lastore C dX3_carry_101 hto rfl (by omega) (by decide) ?_
        refine rn_goto (tgt := 116) C dX3_carry_102 (by decide) ?_
        exact rn_vret C Rt dX3_carry_116 (pv_of (if_neg hb3)) (Nat.zero_le _) (Nat.zero_le _)
    · skip
      refine rn_iload C dX3_carry_13 rfl ?_
      refine rn_iload C dX3_carry_15 rfl ?_
      refine rs_ge (tgt := 53) C dX3_carry_17 (by decide) rfl rfl (by omega) (by omega) (fun q => absurd q (by omega)) (fun _ => ?_)
      refine rn_aload_n C dX3_carry_20 rfl ?_
      refine rn_iload C dX3_carry_21 rfl ?_
      refine rs_laload C dX3_carry_23 hfr rfl (by omega) hm2 ?_
      refine rn_lload_n C dX3_carry_24 rfl ?_
      refine rn_ladd C dX3_carry_25 rfl ?_
      refine rn_lstore (lv' := [(0, _), (1, _), (2, _), (3, _), (5, _), (6, _), (7, _)]) C dX3_carry_26 (by decide) rfl ?_
      refine rn_aload_n C dX3_carry_28 rfl ?_
      refine rn_iload C dX3_carry_29 rfl ?_
      refine rn_lload C dX3_carry_31 rfl ?_
      refine rn_aload_n C dX3_carry_33 rfl ?_
      refine rs_get C dX3_carry_34 fl_X3_56 hF0 rfl ?_
      refine rn_land C dX3_carry_37 rfl ?_
      refine rs_lastore C dX3_carry_38 hto rfl (by omega) (by decide) ?_
      refine rn_lload C dX3_carry_39 rfl ?_
      refine rn_aload_n C dX3_carry_41 rfl ?_
      refine rs_get C dX3_carry_42 fl_X3_50 hF0 rfl ?_
      refine rn_lshr C dX3_carry_45 rfl ?_
      refine rn_lstore_n (lv' := [(0, _), (1, _), (2, _), (3, _), (5, _), (6, _), (7, _)]) C dX3_carry_46 (by decide) rfl ?_
      refine rn_iinc (lv' := [(0, _), (1, _), (2, _), (3, _), (5, _), (6, _), (7, _)]) C dX3_carry_47 rfl (nI_inc _) (by decide) rfl ?_
      refine rn_goto (tgt := 13) C dX3_carry_50 (by decide) ?_
      exact rn_ks [0, 1, 2, 3, 5, 6] ih13 rfl
  exact lp13 0 (Nat.zero_le _)
def plus_l3 (c : Bool) (to : Nat) (a : Nat) (b : Nat) (S : StT)  : Nat → (Nat → Nat → Int64)
  | 0 => S.2.1
  | i3 + 1 => let y3_0 := (plus_l3 c to a b S i3); va_up y3_0 (to) (vp_updL (y3_0 (to)) (i3) ((y3_0 (a) (i3)) + (y3_0 (b) (i3))))
def plus_f (c : Bool) (to : Nat) (a : Nat) (b : Nat) (S : StT) : StT := carry_f c (to) (to) (S.1, (plus_l3 c to a b S (fL c)), S.2.2)
set_option maxRecDepth 100000 in
set_option maxHeartbeats 4000000 in
theorem c_plus {k : KX} {L : Nat → Option Sh} {S : StT} {n : Nat} {c : Bool} {o : Nat} {to : Nat} {a : Nat} {b : Nat} (hF : FieldAt k L o c) (hto : L to = some (sJ 16)) (ha : L a = some (sJ 16)) (hb : L b = some (sJ 16)) :
    Cs k yX3_plus cX3_plus 5 none 1 0 0 [.ref (k_b k + (o)), .ref (k_b k + (to)), .ref (k_b k + (a)), .ref (k_b k + (b))] (inst k L S.1 S.2.1 S.2.2) n (Pv k L n (plus_f c to a b S)) := by
  refine cs_of (by decide) (Nat.le_of_ble_eq_true rfl) ?_
  intro X hXk C Rt hnm
  subst hXk
  have hF9 := hF
  obtain ⟨hF0, hf1, hf2, hf3, hf4, hf5, hf6, hf7, hf8, hf9⟩ := hF9
  obtain ⟨hl1, hl2⟩ := fL_le c
  refine rn_lv [(0, .ref (k_b X.1 + (o))), (1, .ref (k_b X.1 + (to))), (2, .ref (k_b X.1 + (a))), (3, .ref (k_b X.1 + (b)))] (fun q h => h) ?_
  refine rn_iconst (v := nI 0) C dX3_plus_0 rfl ?_
  refine rn_istore (lv' := [(0, _), (1, _), (2, _), (3, _), (4, _)]) C dX3_plus_1 (by decide) rfl ?_
  have lp3 : ∀ i3, i3 ≤ fL c → Rn X 3 [(0, .ref (k_b X.1 + (o))), (1, .ref (k_b X.1 + (to))), (2, .ref (k_b X.1 + (a))), (3, .ref (k_b X.1 + (b))), (4, .int (nI (i3)))] [] (inst X.1 L S.1 (plus_l3 c to a b S i3) S.2.2) n 0 0 := by
    refine upto _ _ ?_ (fun i3 hi3 ih3 => ?_)
    · skip
      refine rn_iload C dX3_plus_3 rfl ?_
      refine rn_aload_n C dX3_plus_5 rfl ?_
      refine rs_get C dX3_plus_6 fl_X3_47 hF0 rfl ?_
      refine rs_ge (tgt := 31) C dX3_plus_9 (by decide) rfl rfl (by omega) (by omega) (fun _ => ?_) (fun q => absurd q (by omega))
      refine rn_aload_n C dX3_plus_31 rfl ?_
      refine rn_aload_n C dX3_plus_32 rfl ?_
      refine rn_aload_n C dX3_plus_33 rfl ?_
      refine rs_vv C dX3_plus_34 mk_X3_carry lv_X3_87 (c_carry (S := (S.1, (plus_l3 c to a b S (fL c)), S.2.2)) hF hto hto (by decide) (by decide)) hF0 rfl rfl rfl rfl (by decide) (by decide) (by decide) (by decide) ?_
      exact rn_vret C Rt dX3_plus_37 (pv_of rfl) (Nat.zero_le _) (Nat.zero_le _)
    · skip
      refine rn_iload C dX3_plus_3 rfl ?_
      refine rn_aload_n C dX3_plus_5 rfl ?_
      refine rs_get C dX3_plus_6 fl_X3_47 hF0 rfl ?_
      refine rs_ge (tgt := 31) C dX3_plus_9 (by decide) rfl rfl (by omega) (by omega) (fun q => absurd q (by omega)) (fun _ => ?_)
      refine rn_aload_n C dX3_plus_12 rfl ?_
      refine rn_iload C dX3_plus_13 rfl ?_
      refine rn_aload_n C dX3_plus_15 rfl ?_
      refine rn_iload C dX3_plus_16 rfl ?_
      refine rs_laload C dX3_plus_18 ha rfl (by omega) (by decide) ?_
      refine rn_aload_n C dX3_plus_19 rfl ?_
      refine rn_iload C dX3_plus_20 rfl ?_
      refine rs_laload C dX3_plus_22 hb rfl (by omega) (by decide) ?_
      refine rn_ladd C dX3_plus_23 rfl ?_
      refine rs_lastore C dX3_plus_24 hto rfl (by omega) (by decide) ?_
      refine rn_iinc (lv' := [(0, _), (1, _), (2, _), (3, _), (4, _)]) C dX3_plus_25 rfl (nI_inc _) (by decide) rfl ?_
      refine rn_goto (tgt := 3) C dX3_plus_28 (by decide) ?_
      exact rn_ks [0, 1, 2, 3, 4] ih3 rfl
  exact lp3 0 (Nat.zero_le _)
def minus_l3 (c : Bool) (to : Nat) (a : Nat) (b : Nat) (S : StT)  : Nat → (Nat → Nat → Int64)
  | 0 => S.2.1
  | i3 + 1 => let y3_0 := (minus_l3 c to a b S i3); va_up y3_0 (to) (vp_updL (y3_0 (to)) (i3) ((y3_0 (a) (i3)) - (y3_0 (b) (i3))))
def minus_f (c : Bool) (to : Nat) (a : Nat) (b : Nat) (S : StT) : StT := carry_f c (to) (to) (S.1, (minus_l3 c to a b S (fL c)), S.2.2)
set_option maxRecDepth 100000 in
set_option maxHeartbeats 4000000 in
theorem c_minus {k : KX} {L : Nat → Option Sh} {S : StT} {n : Nat} {c : Bool} {o : Nat} {to : Nat} {a : Nat} {b : Nat} (hF : FieldAt k L o c) (hto : L to = some (sJ 16)) (ha : L a = some (sJ 16)) (hb : L b = some (sJ 16)) :
    Cs k yX3_minus cX3_minus 5 none 1 0 0 [.ref (k_b k + (o)), .ref (k_b k + (to)), .ref (k_b k + (a)), .ref (k_b k + (b))] (inst k L S.1 S.2.1 S.2.2) n (Pv k L n (minus_f c to a b S)) := by
  refine cs_of (by decide) (Nat.le_of_ble_eq_true rfl) ?_
  intro X hXk C Rt hnm
  subst hXk
  have hF9 := hF
  obtain ⟨hF0, hf1, hf2, hf3, hf4, hf5, hf6, hf7, hf8, hf9⟩ := hF9
  obtain ⟨hl1, hl2⟩ := fL_le c
  refine rn_lv [(0, .ref (k_b X.1 + (o))), (1, .ref (k_b X.1 + (to))), (2, .ref (k_b X.1 + (a))), (3, .ref (k_b X.1 + (b)))] (fun q h => h) ?_
  refine rn_iconst (v := nI 0) C dX3_minus_0 rfl ?_
  refine rn_istore (lv' := [(0, _), (1, _), (2, _), (3, _), (4, _)]) C dX3_minus_1 (by decide) rfl ?_
  have lp3 : ∀ i3, i3 ≤ fL c → Rn X 3 [(0, .ref (k_b X.1 + (o))), (1, .ref (k_b X.1 + (to))), (2, .ref (k_b X.1 + (a))), (3, .ref (k_b X.1 + (b))), (4, .int (nI (i3)))] [] (inst X.1 L S.1 (minus_l3 c to a b S i3) S.2.2) n 0 0 := by
    refine upto _ _ ?_ (fun i3 hi3 ih3 => ?_)
    · skip
      refine rn_iload C dX3_minus_3 rfl ?_
      refine rn_aload_n C dX3_minus_5 rfl ?_
      refine rs_get C dX3_minus_6 fl_X3_47 hF0 rfl ?_
      refine rs_ge (tgt := 31) C dX3_minus_9 (by decide) rfl rfl (by omega) (by omega) (fun _ => ?_) (fun q => absurd q (by omega))
      refine rn_aload_n C dX3_minus_31 rfl ?_
      refine rn_aload_n C dX3_minus_32 rfl ?_
      refine rn_aload_n C dX3_minus_33 rfl ?_
      refine rs_vv C dX3_minus_34 mk_X3_carry lv_X3_87 (c_carry (S := (S.1, (minus_l3 c to a b S (fL c)), S.2.2)) hF hto hto (by decide) (by decide)) hF0 rfl rfl rfl rfl (by decide) (by decide) (by decide) (by decide) ?_
      exact rn_vret C Rt dX3_minus_37 (pv_of rfl) (Nat.zero_le _) (Nat.zero_le _)
    · skip
      refine rn_iload C dX3_minus_3 rfl ?_
      refine rn_aload_n C dX3_minus_5 rfl ?_
      refine rs_get C dX3_minus_6 fl_X3_47 hF0 rfl ?_
      refine rs_ge (tgt := 31) C dX3_minus_9 (by decide) rfl rfl (by omega) (by omega) (fun q => absurd q (by omega)) (fun _ => ?_)
      refine rn_aload_n C dX3_minus_12 rfl ?_
      refine rn_iload C dX3_minus_13 rfl ?_
      refine rn_aload_n C dX3_minus_15 rfl ?_
      refine rn_iload C dX3_minus_16 rfl ?_
      refine rs_laload C dX3_minus_18 ha rfl (by omega) (by decide) ?_
      refine rn_aload_n C dX3_minus_19 rfl ?_
      refine rn_iload C dX3_minus_20 rfl ?_
      refine rs_laload C dX3_minus_22 hb rfl (by omega) (by decide) ?_
      refine rn_lsub C dX3_minus_23 rfl ?_
      refine rs_lastore C dX3_minus_24 hto rfl (by omega) (by decide) ?_
      refine rn_iinc (lv' := [(0, _), (1, _), (2, _), (3, _), (4, _)]) C dX3_minus_25 rfl (nI_inc _) (by decide) rfl ?_
      refine rn_goto (tgt := 3) C dX3_minus_28 (by decide) ?_
      exact rn_ks [0, 1, 2, 3, 4] ih3 rfl
  exact lp3 0 (Nat.zero_le _)
def fneg_l2 (c : Bool) (to : Nat) (a : Nat) (S : StT)  : Nat → (Nat → Nat → Int64)
  | 0 => S.2.1
  | i2 + 1 => let y2_0 := (fneg_l2 c to a S i2); va_up y2_0 (to) (vp_updL (y2_0 (to)) (i2) (-(y2_0 (a) (i2))))
def fneg_f (c : Bool) (to : Nat) (a : Nat) (S : StT) : StT := carry_f c (to) (to) (S.1, (fneg_l2 c to a S (fL c)), S.2.2)
set_option maxRecDepth 100000 in
set_option maxHeartbeats 4000000 in
theorem c_fneg {k : KX} {L : Nat → Option Sh} {S : StT} {n : Nat} {c : Bool} {o : Nat} {to : Nat} {a : Nat} (hF : FieldAt k L o c) (hto : L to = some (sJ 16)) (ha : L a = some (sJ 16)) :
    Cs k yX3_negate cX3_negate 4 none 1 0 0 [.ref (k_b k + (o)), .ref (k_b k + (to)), .ref (k_b k + (a))] (inst k L S.1 S.2.1 S.2.2) n (Pv k L n (fneg_f c to a S)) := by
  refine cs_of (by decide) (Nat.le_of_ble_eq_true rfl) ?_
  intro X hXk C Rt hnm
  subst hXk
  have hF9 := hF
  obtain ⟨hF0, hf1, hf2, hf3, hf4, hf5, hf6, hf7, hf8, hf9⟩ := hF9
  obtain ⟨hl1, hl2⟩ := fL_le c
  refine rn_lv [(0, .ref (k_b X.1 + (o))), (1, .ref (k_b X.1 + (to))), (2, .ref (k_b X.1 + (a)))] (fun q h => h) ?_
  refine rn_iconst (v := nI 0) C dX3_negate_0 rfl ?_
  refine rn_istore_n (lv' := [(0, _), (1, _), (2, _), (3, _)]) C dX3_negate_1 (by decide) rfl ?_
  have lp2 : ∀ i2, i2 ≤ fL c → Rn X 2 [(0, .ref (k_b X.1 + (o))), (1, .ref (k_b X.1 + (to))), (2, .ref (k_b X.1 + (a))), (3, .int (nI (i2)))] [] (inst X.1 L S.1 (fneg_l2 c to a S i2) S.2.2) n 0 0 := by
    refine upto _ _ ?_ (fun i2 hi2 ih2 => ?_)
    · skip
      refine rn_iload_n C dX3_negate_2 rfl ?_
      refine rn_aload_n C dX3_negate_3 rfl ?_
      refine rs_get C dX3_negate_4 fl_X3_47 hF0 rfl ?_
      refine rs_ge (tgt := 23) C dX3_negate_7 (by decide) rfl rfl (by omega) (by omega) (fun _ => ?_) (fun q => absurd q (by omega))
      refine rn_aload_n C dX3_negate_23 rfl ?_
      refine rn_aload_n C dX3_negate_24 rfl ?_
      refine rn_aload_n C dX3_negate_25 rfl ?_
      refine rs_vv C dX3_negate_26 mk_X3_carry lv_X3_87 (c_carry (S := (S.1, (fneg_l2 c to a S (fL c)), S.2.2)) hF hto hto (by decide) (by decide)) hF0 rfl rfl rfl rfl (by decide) (by decide) (by decide) (by decide) ?_
      exact rn_vret C Rt dX3_negate_29 (pv_of rfl) (Nat.zero_le _) (Nat.zero_le _)
    · skip
      refine rn_iload_n C dX3_negate_2 rfl ?_
      refine rn_aload_n C dX3_negate_3 rfl ?_
      refine rs_get C dX3_negate_4 fl_X3_47 hF0 rfl ?_
      refine rs_ge (tgt := 23) C dX3_negate_7 (by decide) rfl rfl (by omega) (by omega) (fun q => absurd q (by omega)) (fun _ => ?_)
      refine rn_aload_n C dX3_negate_10 rfl ?_
      refine rn_iload_n C dX3_negate_11 rfl ?_
      refine rn_aload_n C dX3_negate_12 rfl ?_
      refine rn_iload_n C dX3_negate_13 rfl ?_
      refine rs_laload C dX3_negate_14 ha rfl (by omega) (by decide) ?_
      refine rn_lneg C dX3_negate_15 ?_
      refine rs_lastore C dX3_negate_16 hto rfl (by omega) (by decide) ?_
      refine rn_iinc (lv' := [(0, _), (1, _), (2, _), (3, _)]) C dX3_negate_17 rfl (nI_inc _) (by decide) rfl ?_
      refine rn_goto (tgt := 2) C dX3_negate_20 (by decide) ?_
      exact rn_ks [0, 1, 2, 3] ih2 rfl
  exact lp2 0 (Nat.zero_le _)
def mulS_l3 (c : Bool) (to : Nat) (a : Nat) (z : Int32) (S : StT)  : Nat → (Nat → Nat → Int64)
  | 0 => S.2.1
  | i3 + 1 => let y3_0 := (mulS_l3 c to a z S i3); va_up y3_0 (to) (vp_updL (y3_0 (to)) (i3) (((z).toInt64) * (y3_0 (a) (i3))))
def mulS_f (c : Bool) (to : Nat) (a : Nat) (z : Int32) (S : StT) : StT := carry_f c (to) (to) (carry_f c (to) (to) (S.1, (mulS_l3 c to a z S (fL c)), S.2.2))
set_option maxRecDepth 100000 in
set_option maxHeartbeats 4000000 in
theorem c_mulS {k : KX} {L : Nat → Option Sh} {S : StT} {n : Nat} {c : Bool} {o : Nat} {to : Nat} {a : Nat} {z : Int32} (hF : FieldAt k L o c) (hto : L to = some (sJ 16)) (ha : L a = some (sJ 16)) :
    Cs k yX3_multiplySmall cX3_multiplySmall 5 none 1 0 0 [.ref (k_b k + (o)), .ref (k_b k + (to)), .ref (k_b k + (a)), .int (z)] (inst k L S.1 S.2.1 S.2.2) n (Pv k L n (mulS_f c to a z S)) := by
  refine cs_of (by decide) (Nat.le_of_ble_eq_true rfl) ?_
  intro X hXk C Rt hnm
  subst hXk
  have hF9 := hF
  obtain ⟨hF0, hf1, hf2, hf3, hf4, hf5, hf6, hf7, hf8, hf9⟩ := hF9
  obtain ⟨hl1, hl2⟩ := fL_le c
  refine rn_lv [(0, .ref (k_b X.1 + (o))), (1, .ref (k_b X.1 + (to))), (2, .ref (k_b X.1 + (a))), (3, .int (z))] (fun q h => h) ?_
  refine rn_iconst (v := nI 0) C dX3_multiplySmall_0 rfl ?_
  refine rn_istore (lv' := [(0, _), (1, _), (2, _), (3, _), (4, _)]) C dX3_multiplySmall_1 (by decide) rfl ?_
  have lp3 : ∀ i3, i3 ≤ fL c → Rn X 3 [(0, .ref (k_b X.1 + (o))), (1, .ref (k_b X.1 + (to))), (2, .ref (k_b X.1 + (a))), (3, .int (z)), (4, .int (nI (i3)))] [] (inst X.1 L S.1 (mulS_l3 c to a z S i3) S.2.2) n 0 0 := by
    refine upto _ _ ?_ (fun i3 hi3 ih3 => ?_)
    · skip
      refine rn_iload C dX3_multiplySmall_3 rfl ?_
      refine rn_aload_n C dX3_multiplySmall_5 rfl ?_
      refine rs_get C dX3_multiplySmall_6 fl_X3_47 hF0 rfl ?_
      refine rs_ge (tgt := 29) C dX3_multiplySmall_9 (by decide) rfl rfl (by omega) (by omega) (fun _ => ?_) (fun q => absurd q (by omega))
      refine rn_aload_n C dX3_multiplySmall_29 rfl ?_
      refine rn_aload_n C dX3_multiplySmall_30 rfl ?_
      refine rn_aload_n C dX3_multiplySmall_31 rfl ?_
      refine rs_vv C dX3_multiplySmall_32 mk_X3_carry lv_X3_87 (c_carry (S := (S.1, (mulS_l3 c to a z S (fL c)), S.2.2)) hF hto hto (by decide) (by decide)) hF0 rfl rfl rfl rfl (by decide) (by decide) (by decide) (by decide) ?_
      refine rn_aload_n C dX3_multiplySmall_35 rfl ?_
      refine rn_aload_n C dX3_multiplySmall_36 rfl ?_
      refine rn_aload_n C dX3_multiplySmall_37 rfl ?_
      refine rs_vv C dX3_multiplySmall_38 mk_X3_carry lv_X3_87 (c_carry hF hto hto (by decide) (by decide)) hF0 rfl rfl rfl rfl (by decide) (by decide) (by decide) (by decide) ?_
      exact rn_vret C Rt dX3_multiplySmall_41 (pv_of rfl) (Nat.zero_le _) (Nat.zero_le _)
    · skip
      refine rn_iload C dX3_multiplySmall_3 rfl ?_
      refine rn_aload_n C dX3_multiplySmall_5 rfl ?_
      refine rs_get C dX3_multiplySmall_6 fl_X3_47 hF0 rfl ?_
      refine rs_ge (tgt := 29) C dX3_multiplySmall_9 (by decide) rfl rfl (by omega) (by omega) (fun q => absurd q (by omega)) (fun _ => ?_)
      refine rn_aload_n C dX3_multiplySmall_12 rfl ?_
      refine rn_iload C dX3_multiplySmall_13 rfl ?_
      refine rn_iload_n C dX3_multiplySmall_15 rfl ?_
      refine rn_i2l C dX3_multiplySmall_16 rfl ?_
      refine rn_aload_n C dX3_multiplySmall_17 rfl ?_
      refine rn_iload C dX3_multiplySmall_18 rfl ?_
      refine rs_laload C dX3_multiplySmall_20 ha rfl (by omega) (by decide) ?_
      refine rn_lmul C dX3_multiplySmall_21 rfl ?_
      refine rs_lastore C dX3_multiplySmall_22 hto rfl (by omega) (by decide) ?_
      refine rn_iinc (lv' := [(0, _), (1, _), (2, _), (3, _), (4, _)]) C dX3_multiplySmall_23 rfl (nI_inc _) (by decide) rfl ?_
      refine rn_goto (tgt := 3) C dX3_multiplySmall_26 (by decide) ?_
      exact rn_ks [0, 1, 2, 3, 4] ih3 rfl
  exact lp3 0 (Nat.zero_le _)
