/-! CurveSuite$Field: its methods as functions of the contents, by program (dc.py, spec_field.py) -/
def carry_l13 (c : Bool) (to : Nat) (fr : Nat) (S : StT) (z3 : Int64) : Nat → Int64 × (Nat → Nat → Int64)
  | 0 => (z3, S.2.1)
  | i13 + 1 => let y13_0 := (carry_l13 c to fr S z3 i13).1; let y13_1 := (carry_l13 c to fr S z3 i13).2; (((y13_1 (fr) (i13)) + y13_0) >>> ((nI (fb c)).toInt64 &&& 63), va_up y13_1 (to) (vp_updL (y13_1 (to)) (i13) (((y13_1 (fr) (i13)) + y13_0) &&& (fM c))))
def carry_f (c : Bool) (to : Nat) (fr : Nat) (S : StT) : StT := (let v1 := ((carry_l13 c to fr S 0 (fL c - 1)).2 (fr) (fL c - 1)) + (carry_l13 c to fr S 0 (fL c - 1)).1; (let J2 := va_up (carry_l13 c to fr S 0 (fL c - 1)).2 (to) (vp_updL ((carry_l13 c to fr S 0 (fL c - 1)).2 (to)) (fL c - 1) (v1 &&& (fN c))); (if (bI c) = 0 then (let J4 := va_up J2 (to) (vp_updL (J2 (to)) (0) ((J2 (to) (0)) + (19 * (v1 >>> ((nI (ft c)).toInt64 &&& 63))))); (S.1, J4, S.2.2)) else (let J5 := va_up J2 (to) (vp_updL (J2 (to)) (0) ((J2 (to) (0)) + (v1 >>> ((nI (ft c)).toInt64 &&& 63)))); (let J6 := va_up J5 (to) (vp_updL (J5 (to)) (8) ((J5 (to) (8)) + (v1 >>> ((nI (ft c)).toInt64 &&& 63)))); (S.1, J6, S.2.2))))))
set_option maxRecDepth 100000 in
set_option maxHeartbeats 4000000 in
theorem c_carry {k : KX} {L : Nat → Option Sh} {S : StT} {n : Nat} {c : Bool} {o : Nat} {to : Nat} {fr : Nat} {m : Nat} (hF : FieldAt k L o c) (hto : L to = some (sJ 16)) (hfr : L fr = some (sJ m)) (hm : 16 ≤ m) (hm2 : m < 2 ^ 31) :
    Cs k yX3_carry cX3_carry 9 none 0 0 0 [.ref (k_b k + (o)), .ref (k_b k + (to)), .ref (k_b k + (fr))] (inst k L S.1 S.2.1 S.2.2) n (Pv k L n (carry_f c to fr S)) := by
  refine cs_of (by decide) (Nat.le_of_ble_eq_true rfl) ?_
  intro X hXk C Rt hnm
  subst hXk
  have hF9 := hF
  obtain ⟨hF0, hf1, hf2, hf3, hf4, hf5, hf6, hf7, hf8, hf9⟩ := hF9
  obtain ⟨hl1, hl2⟩ := fL_le c
  refine rn_lv [(0, .ref (k_b X.1 + (o))), (1, .ref (k_b X.1 + (to))), (2, .ref (k_b X.1 + (fr)))] (fun q h => h) ?_
  refine rn_lconst (v := 0) C dX3_carry_0 rfl ?_
  refine rn_lstore_n (lv' := [(0, _), (1, _), (2, _), (3, _)]) C dX3_carry_1 (by decide) rfl ?_
  refine rn_aload_n C dX3_carry_2 rfl ?_
  refine rs_get C dX3_carry_3 fl_X3_47 hF0 rfl ?_
  refine rn_iconst (v := nI 1) C dX3_carry_6 rfl ?_
  refine rn_isub C dX3_carry_7 (pk_sub (by omega)) ?_
  refine rn_istore (lv' := [(0, _), (1, _), (2, _), (3, _), (5, _)]) C dX3_carry_8 (by decide) rfl ?_
  refine rn_iconst (v := nI 0) C dX3_carry_10 rfl ?_
  refine rn_istore (lv' := [(0, _), (1, _), (2, _), (3, _), (5, _), (6, _)]) C dX3_carry_11 (by decide) rfl ?_
  have lp13 : ∀ i13, i13 ≤ fL c - 1 → Rn X 13 [(0, .ref (k_b X.1 + (o))), (1, .ref (k_b X.1 + (to))), (2, .ref (k_b X.1 + (fr))), (3, .long ((carry_l13 c to fr S 0 i13).1)), (5, .int (nI (fL c - 1))), (6, .int (nI (i13)))] [] (inst X.1 L S.1 (carry_l13 c to fr S 0 i13).2 S.2.2) n 0 0 := by
    refine upto _ _ ?_ (fun i13 hi13 ih13 => ?_)
    · skip
      refine rn_iload C dX3_carry_13 rfl ?_
      refine rn_iload C dX3_carry_15 rfl ?_
      refine rs_ge (tgt := 53) C dX3_carry_17 (by decide) rfl rfl (by omega) (by omega) (fun _ => ?_) (fun q => absurd q (by omega))
      refine rn_aload_n C dX3_carry_53 rfl ?_
      refine rn_iload C dX3_carry_54 rfl ?_
      refine rs_laload C dX3_carry_56 hfr rfl (by omega) hm2 ?_
      refine rn_lload_n C dX3_carry_57 rfl ?_
      refine rn_ladd C dX3_carry_58 rfl ?_
      refine rn_lstore (lv' := [(0, _), (1, _), (2, _), (3, _), (5, _), (6, _)]) C dX3_carry_59 (by decide) rfl ?_
      refine rn_aload_n C dX3_carry_61 rfl ?_
      refine rn_iload C dX3_carry_62 rfl ?_
      refine rn_lload C dX3_carry_64 rfl ?_
      refine rn_aload_n C dX3_carry_66 rfl ?_
      refine rs_get C dX3_carry_67 fl_X3_60 hF0 rfl ?_
      refine rn_land C dX3_carry_70 rfl ?_
      refine rs_lastore C dX3_carry_71 hto rfl (by omega) (by decide) ?_
      refine rn_lload C dX3_carry_72 rfl ?_
      refine rn_aload_n C dX3_carry_74 rfl ?_
      refine rs_get C dX3_carry_75 fl_X3_53 hF0 rfl ?_
      refine rn_lshr C dX3_carry_78 rfl ?_
      refine rn_lstore_n (lv' := [(0, _), (1, _), (2, _), (3, _), (5, _), (6, _)]) C dX3_carry_79 (by decide) rfl ?_
      refine rn_aload_n C dX3_carry_80 rfl ?_
      refine rs_get C dX3_carry_81 fl_X3_39 hF0 rfl ?_
      refine rn_if_eq (tgt := 105) C dX3_carry_84 (by decide) (fun hb3 => ?_) (fun hb3 => ?_)
      · skip
        refine rn_aload_n C dX3_carry_105 rfl ?_
        refine rn_iconst (v := nI 0) C dX3_carry_106 rfl ?_
        refine rn_dup2 C dX3_carry_107 rfl rfl ?_
        refine rs_laload C dX3_carry_108 hto rfl (by omega) (by decide) ?_
        refine rn_ldc2 C dX3_carry_109 lc_X3_124 ?_
        refine rn_lload_n C dX3_carry_112 rfl ?_
        refine rn_lmul C dX3_carry_113 rfl ?_
        refine rn_ladd C dX3_carry_114 rfl ?_
        refine rs_lastore C dX3_carry_115 hto rfl (by omega) (by decide) ?_
        exact rn_vret C Rt dX3_carry_116 (pv_of (if_pos hb3)) (Nat.zero_le _) (Nat.zero_le _)
      · skip
        refine rn_aload_n C dX3_carry_87 rfl ?_
        refine rn_iconst (v := nI 0) C dX3_carry_88 rfl ?_
        refine rn_dup2 C dX3_carry_89 rfl rfl ?_
        refine rs_laload C dX3_carry_90 hto rfl (by omega) (by decide) ?_
        refine rn_lload_n C dX3_carry_91 rfl ?_
        refine rn_ladd C dX3_carry_92 rfl ?_
        refine rs_lastore C dX3_carry_93 hto rfl (by omega) (by decide) ?_
        refine rn_aload_n C dX3_carry_94 rfl ?_
        refine rn_bipush (v := nI 8) C dX3_carry_95 rfl ?_
        refine rn_dup2 C dX3_carry_97 rfl rfl ?_
        refine rs_laload C dX3_carry_98 hto rfl (by omega) (by decide) ?_
        refine rn_lload_n C dX3_carry_99 rfl ?_
        refine rn_ladd C dX3_carry_100 rfl ?_
        refine rs_lastore C dX3_carry_101 hto rfl (by omega) (by decide) ?_
        refine rn_goto (tgt := 116) C dX3_carry_102 (by decide) ?_
        exact rn_vret C Rt dX3_carry_116 (pv_of (if_neg hb3)) (Nat.zero_le _) (Nat.zero_le _)
    · skip
      refine rn_iload C dX3_carry_13 rfl ?_
      refine rn_iload C dX3_carry_15 rfl ?_
      refine rs_ge (tgt := 53) C dX3_carry_17 (by decide) rfl rfl (by omega) (by omega) (fun q => absurd q (by omega)) (fun _ => ?_)
      refine rn_aload_n C dX3_carry_20 rfl ?_
      refine rn_iload C dX3_carry_21 rfl ?_
      refine rs_laload C dX3_carry_23 hfr rfl (by omega) hm2 ?_
      refine rn_lload_n C dX3_carry_24 rfl ?_
      refine rn_ladd C dX3_carry_25 rfl ?_
      refine rn_lstore (lv' := [(0, _), (1, _), (2, _), (3, _), (5, _), (6, _), (7, _)]) C dX3_carry_26 (by decide) rfl ?_
      refine rn_aload_n C dX3_carry_28 rfl ?_
      refine rn_iload C dX3_carry_29 rfl ?_
      refine rn_lload C dX3_carry_31 rfl ?_
      refine rn_aload_n C dX3_carry_33 rfl ?_
      refine rs_get C dX3_carry_34 fl_X3_56 hF0 rfl ?_
      refine rn_land C dX3_carry_37 rfl ?_
      refine rs_lastore C dX3_carry_38 hto rfl (by omega) (by decide) ?_
      refine rn_lload C dX3_carry_39 rfl ?_
      refine rn_aload_n C dX3_carry_41 rfl ?_
      refine rs_get C dX3_carry_42 fl_X3_50 hF0 rfl ?_
      refine rn_lshr C dX3_carry_45 rfl ?_
      refine rn_lstore_n (lv' := [(0, _), (1, _), (2, _), (3, _), (5, _), (6, _), (7, _)]) C dX3_carry_46 (by decide) rfl ?_
      refine rn_iinc (lv' := [(0, _), (1, _), (2, _), (3, _), (5, _), (6, _), (7, _)]) C dX3_carry_47 rfl (nI_inc _) (by decide) rfl ?_
      refine rn_goto (tgt := 13) C dX3_carry_50 (by decide) ?_
      exact rn_ks [0, 1, 2, 3, 5, 6] ih13 rfl
  exact lp13 0 (Nat.zero_le _)
def plus_l3 (c : Bool) (to : Nat) (a : Nat) (b : Nat) (S : StT)  : Nat → (Nat → Nat → Int64)
  | 0 => S.2.1
  | i3 + 1 => let y3_0 := (plus_l3 c to a b S i3); va_up y3_0 (to) (vp_updL (y3_0 (to)) (i3) ((y3_0 (a) (i3)) + (y3_0 (b) (i3))))
def plus_f (c : Bool) (to : Nat) (a : Nat) (b : Nat) (S : StT) : StT := carry_f c (to) (to) (S.1, (plus_l3 c to a b S (fL c)), S.2.2)
set_option maxRecDepth 100000 in
set_option maxHeartbeats 4000000 in
theorem c_plus {k : KX} {L : Nat → Option Sh} {S : StT} {n : Nat} {c : Bool} {o : Nat} {to : Nat} {a : Nat} {b : Nat} (hF : FieldAt k L o c) (hto : L to = some (sJ 16)) (ha : L a = some (sJ 16)) (hb : L b = some (sJ 16)) :
    Cs k yX3_plus cX3_plus 5 none 1 0 0 [.ref (k_b k + (o)), .ref (k_b k + (to)), .ref (k_b k + (a)), .ref (k_b k + (b))] (inst k L S.1 S.2.1 S.2.2) n (Pv k L n (plus_f c to a b S)) := by
  refine cs_of (by decide) (Nat.le_of_ble_eq_true rfl) ?_
  intro X hXk C Rt hnm
  subst hXk
  have hF9 := hF
  obtain ⟨hF0, hf1, hf2, hf3, hf4, hf5, hf6, hf7, hf8, hf9⟩ := hF9
  obtain ⟨hl1, hl2⟩ := fL_le c
  refine rn_lv [(0, .ref (k_b X.1 + (o))), (1, .ref (k_b X.1 + (to))), (2, .ref (k_b X.1 + (a))), (3, .ref (k_b X.1 + (b)))] (fun q h => h) ?_
  refine rn_iconst (v := nI 0) C dX3_plus_0 rfl ?_
  refine rn_istore (lv' := [(0, _), (1, _), (2, _), (3, _), (4, _)]) C dX3_plus_1 (by decide) rfl ?_
  have lp3 : ∀ i3, i3 ≤ fL c → Rn X 3 [(0, .ref (k_b X.1 + (o))), (1, .ref (k_b X.1 + (to))), (2, .ref (k_b X.1 + (a))), (3, .ref (k_b X.1 + (b))), (4, .int (nI (i3)))] [] (inst X.1 L S.1 (plus_l3 c to a b S i3) S.2.2) n 0 0 := by
    refine upto _ _ ?_ (fun i3 hi3 ih3 => ?_)
    · skip
      refine rn_iload C dX3_plus_3 rfl ?_
      refine rn_aload_n C dX3_plus_5 rfl ?_
      refine rs_get C dX3_plus_6 fl_X3_47 hF0 rfl ?_
      refine rs_ge (tgt := 31) C dX3_plus_9 (by decide) rfl rfl (by omega) (by omega) (fun _ => ?_) (fun q => absurd q (by omega))
      refine rn_aload_n C dX3_plus_31 rfl ?_
      refine rn_aload_n C dX3_plus_32 rfl ?_
      refine rn_aload_n C dX3_plus_33 rfl ?_
      refine rs_vv C dX3_plus_34 mk_X3_carry lv_X3_87 (c_carry (S := (S.1, (plus_l3 c to a b S (fL c)), S.2.2)) hF hto hto (by decide) (by decide)) hF0 rfl rfl rfl rfl (by decide) (Nat.le_of_ble_eq_true rfl) (by decide) (by decide) ?_
      exact rn_vret C Rt dX3_plus_37 (pv_of (tup _)) (Nat.zero_le _) (Nat.zero_le _)
    · skip
      refine rn_iload C dX3_plus_3 rfl ?_
      refine rn_aload_n C dX3_plus_5 rfl ?_
      refine rs_get C dX3_plus_6 fl_X3_47 hF0 rfl ?_
      refine rs_ge (tgt := 31) C dX3_plus_9 (by decide) rfl rfl (by omega) (by omega) (fun q => absurd q (by omega)) (fun _ => ?_)
      refine rn_aload_n C dX3_plus_12 rfl ?_
      refine rn_iload C dX3_plus_13 rfl ?_
      refine rn_aload_n C dX3_plus_15 rfl ?_
      refine rn_iload C dX3_plus_16 rfl ?_
      refine rs_laload C dX3_plus_18 ha rfl (by omega) (by decide) ?_
      refine rn_aload_n C dX3_plus_19 rfl ?_
      refine rn_iload C dX3_plus_20 rfl ?_
      refine rs_laload C dX3_plus_22 hb rfl (by omega) (by decide) ?_
      refine rn_ladd C dX3_plus_23 rfl ?_
      refine rs_lastore C dX3_plus_24 hto rfl (by omega) (by decide) ?_
      refine rn_iinc (lv' := [(0, _), (1, _), (2, _), (3, _), (4, _)]) C dX3_plus_25 rfl (nI_inc _) (by decide) rfl ?_
      refine rn_goto (tgt := 3) C dX3_plus_28 (by decide) ?_
      exact rn_ks [0, 1, 2, 3, 4] ih3 rfl
  exact lp3 0 (Nat.zero_le _)
def minus_l3 (c : Bool) (to : Nat) (a : Nat) (b : Nat) (S : StT)  : Nat → (Nat → Nat → Int64)
  | 0 => S.2.1
  | i3 + 1 => let y3_0 := (minus_l3 c to a b S i3); va_up y3_0 (to) (vp_updL (y3_0 (to)) (i3) ((y3_0 (a) (i3)) - (y3_0 (b) (i3))))
def minus_f (c : Bool) (to : Nat) (a : Nat) (b : Nat) (S : StT) : StT := carry_f c (to) (to) (S.1, (minus_l3 c to a b S (fL c)), S.2.2)
set_option maxRecDepth 100000 in
set_option maxHeartbeats 4000000 in
theorem c_minus {k : KX} {L : Nat → Option Sh} {S : StT} {n : Nat} {c : Bool} {o : Nat} {to : Nat} {a : Nat} {b : Nat} (hF : FieldAt k L o c) (hto : L to = some (sJ 16)) (ha : L a = some (sJ 16)) (hb : L b = some (sJ 16)) :
    Cs k yX3_minus cX3_minus 5 none 1 0 0 [.ref (k_b k + (o)), .ref (k_b k + (to)), .ref (k_b k + (a)), .ref (k_b k + (b))] (inst k L S.1 S.2.1 S.2.2) n (Pv k L n (minus_f c to a b S)) := by
  refine cs_of (by decide) (Nat.le_of_ble_eq_true rfl) ?_
  intro X hXk C Rt hnm
  subst hXk
  have hF9 := hF
  obtain ⟨hF0, hf1, hf2, hf3, hf4, hf5, hf6, hf7, hf8, hf9⟩ := hF9
  obtain ⟨hl1, hl2⟩ := fL_le c
  refine rn_lv [(0, .ref (k_b X.1 + (o))), (1, .ref (k_b X.1 + (to))), (2, .ref (k_b X.1 + (a))), (3, .ref (k_b X.1 + (b)))] (fun q h => h) ?_
  refine rn_iconst (v := nI 0) C dX3_minus_0 rfl ?_
  refine rn_istore (lv' := [(0, _), (1, _), (2, _), (3, _), (4, _)]) C dX3_minus_1 (by decide) rfl ?_
  have lp3 : ∀ i3, i3 ≤ fL c → Rn X 3 [(0, .ref (k_b X.1 + (o))), (1, .ref (k_b X.1 + (to))), (2, .ref (k_b X.1 + (a))), (3, .ref (k_b X.1 + (b))), (4, .int (nI (i3)))] [] (inst X.1 L S.1 (minus_l3 c to a b S i3) S.2.2) n 0 0 := by
    refine upto _ _ ?_ (fun i3 hi3 ih3 => ?_)
    · skip
      refine rn_iload C dX3_minus_3 rfl ?_
      refine rn_aload_n C dX3_minus_5 rfl ?_
      refine rs_get C dX3_minus_6 fl_X3_47 hF0 rfl ?_
      refine rs_ge (tgt := 31) C dX3_minus_9 (by decide) rfl rfl (by omega) (by omega) (fun _ => ?_) (fun q => absurd q (by omega))
      refine rn_aload_n C dX3_minus_31 rfl ?_
      refine rn_aload_n C dX3_minus_32 rfl ?_
      refine rn_aload_n C dX3_minus_33 rfl ?_
      refine rs_vv C dX3_minus_34 mk_X3_carry lv_X3_87 (c_carry (S := (S.1, (minus_l3 c to a b S (fL c)), S.2.2)) hF hto hto (by decide) (by decide)) hF0 rfl rfl rfl rfl (by decide) (Nat.le_of_ble_eq_true rfl) (by decide) (by decide) ?_
      exact rn_vret C Rt dX3_minus_37 (pv_of (tup _)) (Nat.zero_le _) (Nat.zero_le _)
    · skip
      refine rn_iload C dX3_minus_3 rfl ?_
      refine rn_aload_n C dX3_minus_5 rfl ?_
      refine rs_get C dX3_minus_6 fl_X3_47 hF0 rfl ?_
      refine rs_ge (tgt := 31) C dX3_minus_9 (by decide) rfl rfl (by omega) (by omega) (fun q => absurd q (by omega)) (fun _ => ?_)
      refine rn_aload_n C dX3_minus_12 rfl ?_
      refine rn_iload C dX3_minus_13 rfl ?_
      refine rn_aload_n C dX3_minus_15 rfl ?_
      refine rn_iload C dX3_minus_16 rfl ?_
      refine rs_laload C dX3_minus_18 ha rfl (by omega) (by decide) ?_
      refine rn_aload_n C dX3_minus_19 rfl ?_
      refine rn_iload C dX3_minus_20 rfl ?_
      refine rs_laload C dX3_minus_22 hb rfl (by omega) (by decide) ?_
      refine rn_lsub C dX3_minus_23 rfl ?_
      refine rs_lastore C dX3_minus_24 hto rfl (by omega) (by decide) ?_
      refine rn_iinc (lv' := [(0, _), (1, _), (2, _), (3, _), (4, _)]) C dX3_minus_25 rfl (nI_inc _) (by decide) rfl ?_
      refine rn_goto (tgt := 3) C dX3_minus_28 (by decide) ?_
      exact rn_ks [0, 1, 2, 3, 4] ih3 rfl
  exact lp3 0 (Nat.zero_le _)
def fneg_l2 (c : Bool) (to : Nat) (a : Nat) (S : StT)  : Nat → (Nat → Nat → Int64)
  | 0 => S.2.1
  | i2 + 1 => let y2_0 := (fneg_l2 c to a S i2); va_up y2_0 (to) (vp_updL (y2_0 (to)) (i2) (-(y2_0 (a) (i2))))
def fneg_f (c : Bool) (to : Nat) (a : Nat) (S : StT) : StT := carry_f c (to) (to) (S.1, (fneg_l2 c to a S (fL c)), S.2.2)
set_option maxRecDepth 100000 in
set_option maxHeartbeats 4000000 in
theorem c_fneg {k : KX} {L : Nat → Option Sh} {S : StT} {n : Nat} {c : Bool} {o : Nat} {to : Nat} {a : Nat} (hF : FieldAt k L o c) (hto : L to = some (sJ 16)) (ha : L a = some (sJ 16)) :
    Cs k yX3_negate cX3_negate 4 none 1 0 0 [.ref (k_b k + (o)), .ref (k_b k + (to)), .ref (k_b k + (a))] (inst k L S.1 S.2.1 S.2.2) n (Pv k L n (fneg_f c to a S)) := by
  refine cs_of (by decide) (Nat.le_of_ble_eq_true rfl) ?_
  intro X hXk C Rt hnm
  subst hXk
  have hF9 := hF
  obtain ⟨hF0, hf1, hf2, hf3, hf4, hf5, hf6, hf7, hf8, hf9⟩ := hF9
  obtain ⟨hl1, hl2⟩ := fL_le c
  refine rn_lv [(0, .ref (k_b X.1 + (o))), (1, .ref (k_b X.1 + (to))), (2, .ref (k_b X.1 + (a)))] (fun q h => h) ?_
  refine rn_iconst (v := nI 0) C dX3_negate_0 rfl ?_
  refine rn_istore_n (lv' := [(0, _), (1, _), (2, _), (3, _)]) C dX3_negate_1 (by decide) rfl ?_
  have lp2 : ∀ i2, i2 ≤ fL c → Rn X 2 [(0, .ref (k_b X.1 + (o))), (1, .ref (k_b X.1 + (to))), (2, .ref (k_b X.1 + (a))), (3, .int (nI (i2)))] [] (inst X.1 L S.1 (fneg_l2 c to a S i2) S.2.2) n 0 0 := by
    refine upto _ _ ?_ (fun i2 hi2 ih2 => ?_)
    · skip
      refine rn_iload_n C dX3_negate_2 rfl ?_
      refine rn_aload_n C dX3_negate_3 rfl ?_
      refine rs_get C dX3_negate_4 fl_X3_47 hF0 rfl ?_
      refine rs_ge (tgt := 23) C dX3_negate_7 (by decide) rfl rfl (by omega) (by omega) (fun _ => ?_) (fun q => absurd q (by omega))
      refine rn_aload_n C dX3_negate_23 rfl ?_
      refine rn_aload_n C dX3_negate_24 rfl ?_
      refine rn_aload_n C dX3_negate_25 rfl ?_
      refine rs_vv C dX3_negate_26 mk_X3_carry lv_X3_87 (c_carry (S := (S.1, (fneg_l2 c to a S (fL c)), S.2.2)) hF hto hto (by decide) (by decide)) hF0 rfl rfl rfl rfl (by decide) (Nat.le_of_ble_eq_true rfl) (by decide) (by decide) ?_
      exact rn_vret C Rt dX3_negate_29 (pv_of (tup _)) (Nat.zero_le _) (Nat.zero_le _)
    · skip
      refine rn_iload_n C dX3_negate_2 rfl ?_
      refine rn_aload_n C dX3_negate_3 rfl ?_
      refine rs_get C dX3_negate_4 fl_X3_47 hF0 rfl ?_
      refine rs_ge (tgt := 23) C dX3_negate_7 (by decide) rfl rfl (by omega) (by omega) (fun q => absurd q (by omega)) (fun _ => ?_)
      refine rn_aload_n C dX3_negate_10 rfl ?_
      refine rn_iload_n C dX3_negate_11 rfl ?_
      refine rn_aload_n C dX3_negate_12 rfl ?_
      refine rn_iload_n C dX3_negate_13 rfl ?_
      refine rs_laload C dX3_negate_14 ha rfl (by omega) (by decide) ?_
      refine rn_lneg C dX3_negate_15 ?_
      refine rs_lastore C dX3_negate_16 hto rfl (by omega) (by decide) ?_
      refine rn_iinc (lv' := [(0, _), (1, _), (2, _), (3, _)]) C dX3_negate_17 rfl (nI_inc _) (by decide) rfl ?_
      refine rn_goto (tgt := 2) C dX3_negate_20 (by decide) ?_
      exact rn_ks [0, 1, 2, 3] ih2 rfl
  exact lp2 0 (Nat.zero_le _)
def mulS_l3 (c : Bool) (to : Nat) (a : Nat) (z : Int32) (S : StT)  : Nat → (Nat → Nat → Int64)
  | 0 => S.2.1
  | i3 + 1 => let y3_0 := (mulS_l3 c to a z S i3); va_up y3_0 (to) (vp_updL (y3_0 (to)) (i3) (((z).toInt64) * (y3_0 (a) (i3))))
def mulS_f (c : Bool) (to : Nat) (a : Nat) (z : Int32) (S : StT) : StT := carry_f c (to) (to) (carry_f c (to) (to) (S.1, (mulS_l3 c to a z S (fL c)), S.2.2))
set_option maxRecDepth 100000 in
set_option maxHeartbeats 4000000 in
theorem c_mulS {k : KX} {L : Nat → Option Sh} {S : StT} {n : Nat} {c : Bool} {o : Nat} {to : Nat} {a : Nat} {z : Int32} (hF : FieldAt k L o c) (hto : L to = some (sJ 16)) (ha : L a = some (sJ 16)) :
    Cs k yX3_multiplySmall cX3_multiplySmall 5 none 1 0 0 [.ref (k_b k + (o)), .ref (k_b k + (to)), .ref (k_b k + (a)), .int (z)] (inst k L S.1 S.2.1 S.2.2) n (Pv k L n (mulS_f c to a z S)) := by
  refine cs_of (by decide) (Nat.le_of_ble_eq_true rfl) ?_
  intro X hXk C Rt hnm
  subst hXk
  have hF9 := hF
  obtain ⟨hF0, hf1, hf2, hf3, hf4, hf5, hf6, hf7, hf8, hf9⟩ := hF9
  obtain ⟨hl1, hl2⟩ := fL_le c
  refine rn_lv [(0, .ref (k_b X.1 + (o))), (1, .ref (k_b X.1 + (to))), (2, .ref (k_b X.1 + (a))), (3, .int (z))] (fun q h => h) ?_
  refine rn_iconst (v := nI 0) C dX3_multiplySmall_0 rfl ?_
  refine rn_istore (lv' := [(0, _), (1, _), (2, _), (3, _), (4, _)]) C dX3_multiplySmall_1 (by decide) rfl ?_
  have lp3 : ∀ i3, i3 ≤ fL c → Rn X 3 [(0, .ref (k_b X.1 + (o))), (1, .ref (k_b X.1 + (to))), (2, .ref (k_b X.1 + (a))), (3, .int (z)), (4, .int (nI (i3)))] [] (inst X.1 L S.1 (mulS_l3 c to a z S i3) S.2.2) n 0 0 := by
    refine upto _ _ ?_ (fun i3 hi3 ih3 => ?_)
    · skip
      refine rn_iload C dX3_multiplySmall_3 rfl ?_
      refine rn_aload_n C dX3_multiplySmall_5 rfl ?_
      refine rs_get C dX3_multiplySmall_6 fl_X3_47 hF0 rfl ?_
      refine rs_ge (tgt := 29) C dX3_multiplySmall_9 (by decide) rfl rfl (by omega) (by omega) (fun _ => ?_) (fun q => absurd q (by omega))
      refine rn_aload_n C dX3_multiplySmall_29 rfl ?_
      refine rn_aload_n C dX3_multiplySmall_30 rfl ?_
      refine rn_aload_n C dX3_multiplySmall_31 rfl ?_
      refine rs_vv C dX3_multiplySmall_32 mk_X3_carry lv_X3_87 (c_carry (S := (S.1, (mulS_l3 c to a z S (fL c)), S.2.2)) hF hto hto (by decide) (by decide)) hF0 rfl rfl rfl rfl (by decide) (Nat.le_of_ble_eq_true rfl) (by decide) (by decide) ?_
      refine rn_aload_n C dX3_multiplySmall_35 rfl ?_
      refine rn_aload_n C dX3_multiplySmall_36 rfl ?_
      refine rn_aload_n C dX3_multiplySmall_37 rfl ?_
      refine rs_vv C dX3_multiplySmall_38 mk_X3_carry lv_X3_87 (c_carry hF hto hto (by decide) (by decide)) hF0 rfl rfl rfl rfl (by decide) (Nat.le_of_ble_eq_true rfl) (by decide) (by decide) ?_
      exact rn_vret C Rt dX3_multiplySmall_41 (pv_of (tup _)) (Nat.zero_le _) (Nat.zero_le _)
    · skip
      refine rn_iload C dX3_multiplySmall_3 rfl ?_
      refine rn_aload_n C dX3_multiplySmall_5 rfl ?_
      refine rs_get C dX3_multiplySmall_6 fl_X3_47 hF0 rfl ?_
      refine rs_ge (tgt := 29) C dX3_multiplySmall_9 (by decide) rfl rfl (by omega) (by omega) (fun q => absurd q (by omega)) (fun _ => ?_)
      refine rn_aload_n C dX3_multiplySmall_12 rfl ?_
      refine rn_iload C dX3_multiplySmall_13 rfl ?_
      refine rn_iload_n C dX3_multiplySmall_15 rfl ?_
      refine rn_i2l C dX3_multiplySmall_16 rfl ?_
      refine rn_aload_n C dX3_multiplySmall_17 rfl ?_
      refine rn_iload C dX3_multiplySmall_18 rfl ?_
      refine rs_laload C dX3_multiplySmall_20 ha rfl (by omega) (by decide) ?_
      refine rn_lmul C dX3_multiplySmall_21 rfl ?_
      refine rs_lastore C dX3_multiplySmall_22 hto rfl (by omega) (by decide) ?_
      refine rn_iinc (lv' := [(0, _), (1, _), (2, _), (3, _), (4, _)]) C dX3_multiplySmall_23 rfl (nI_inc _) (by decide) rfl ?_
      refine rn_goto (tgt := 3) C dX3_multiplySmall_26 (by decide) ?_
      exact rn_ks [0, 1, 2, 3, 4] ih3 rfl
  exact lp3 0 (Nat.zero_le _)
def fill_l6 (a : Nat) (m : Nat) (x : Int64) (S : StT)  : Nat → (Nat → Nat → Int64)
  | 0 => S.2.1
  | i6 + 1 => let y6_0 := (fill_l6 a m x S i6); va_up y6_0 (a) (vp_updL (y6_0 (a)) (i6) (x))
def fill_f (a : Nat) (m : Nat) (x : Int64) (S : StT) : StT := (S.1, (fill_l6 a m x S m), S.2.2)
set_option maxRecDepth 100000 in
set_option maxHeartbeats 4000000 in
theorem c_fill {k : KX} {L : Nat → Option Sh} {S : StT} {n : Nat} {a : Nat} {m : Nat} {x : Int64} (ha : L a = some (sJ m)) (hm : m < 2 ^ 31) :
    Cs k yJ7_fill_d0a16 cJ7_fill_d0a16 5 none 0 0 0 [.ref (k_b k + (a)), .long (x)] (inst k L S.1 S.2.1 S.2.2) n (Pv k L n (fill_f a m x S)) := by
  refine cs_of (by decide) (Nat.le_of_ble_eq_true rfl) ?_
  intro X hXk C Rt hnm
  subst hXk
  refine rn_lv [(0, .ref (k_b X.1 + (a))), (1, .long (x))] (fun q h => h) ?_
  refine rn_iconst (v := nI 0) C dJ7_fill_d0a16_0 rfl ?_
  refine rn_istore_n (lv' := [(0, _), (1, _), (3, _)]) C dJ7_fill_d0a16_1 (by decide) rfl ?_
  refine rn_aload_n C dJ7_fill_d0a16_2 rfl ?_
  refine rs_alenJ C dJ7_fill_d0a16_3 ha ?_
  refine rn_istore (lv' := [(0, _), (1, _), (3, _), (4, _)]) C dJ7_fill_d0a16_4 (by decide) rfl ?_
  have lp6 : ∀ i6, i6 ≤ m → Rn X 6 [(0, .ref (k_b X.1 + (a))), (1, .long (x)), (3, .int (nI (i6))), (4, .int (nI (m)))] [] (inst X.1 L S.1 (fill_l6 a m x S i6) S.2.2) n 0 0 := by
    refine upto _ _ ?_ (fun i6 hi6 ih6 => ?_)
    · skip
      refine rn_iload_n C dJ7_fill_d0a16_6 rfl ?_
      refine rn_iload C dJ7_fill_d0a16_7 rfl ?_
      refine rs_ge (tgt := 22) C dJ7_fill_d0a16_9 (by decide) rfl rfl (by omega) (by omega) (fun _ => ?_) (fun q => absurd q (by omega))
      exact rn_vret C Rt dJ7_fill_d0a16_22 (pv_of rfl) (Nat.zero_le _) (Nat.zero_le _)
    · skip
      refine rn_iload_n C dJ7_fill_d0a16_6 rfl ?_
      refine rn_iload C dJ7_fill_d0a16_7 rfl ?_
      refine rs_ge (tgt := 22) C dJ7_fill_d0a16_9 (by decide) rfl rfl (by omega) (by omega) (fun q => absurd q (by omega)) (fun _ => ?_)
      refine rn_aload_n C dJ7_fill_d0a16_12 rfl ?_
      refine rn_iload_n C dJ7_fill_d0a16_13 rfl ?_
      refine rn_lload_n C dJ7_fill_d0a16_14 rfl ?_
      refine rs_lastore C dJ7_fill_d0a16_15 ha rfl (by omega) hm ?_
      refine rn_iinc (lv' := [(0, _), (1, _), (3, _), (4, _)]) C dJ7_fill_d0a16_16 rfl (nI_inc _) (by decide) rfl ?_
      refine rn_goto (tgt := 6) C dJ7_fill_d0a16_19 (by decide) ?_
      exact rn_ks [0, 1, 3, 4] ih6 rfl
  exact lp6 0 (Nat.zero_le _)
def ffold_l9 (c : Bool) (o : Nat) (S : StT)  : Nat → (Nat → Nat → Int64)
  | 0 => S.2.1
  | i9 + 1 => let y9_0 := (ffold_l9 c o S i9); (if (bI c) = 0 then (let J2 := va_up y9_0 (o + 3) (vp_updL (y9_0 (o + 3)) ((2 * fL c - 2) - i9 - (fL c)) ((y9_0 (o + 3) ((2 * fL c - 2) - i9 - (fL c))) + (1216 * ((y9_0 (o + 3) ((2 * fL c - 2) - i9)) &&& (fM c))))); (let J3 := va_up J2 (o + 3) (vp_updL (J2 (o + 3)) ((2 * fL c - 2) - i9 - (fL c) + 1) ((J2 (o + 3) ((2 * fL c - 2) - i9 - (fL c) + 1)) + (1216 * ((y9_0 (o + 3) ((2 * fL c - 2) - i9)) >>> ((nI (fb c)).toInt64 &&& 63))))); J3)) else (let J4 := va_up y9_0 (o + 3) (vp_updL (y9_0 (o + 3)) ((2 * fL c - 2) - i9 - (fL c)) ((y9_0 (o + 3) ((2 * fL c - 2) - i9 - (fL c))) + (y9_0 (o + 3) ((2 * fL c - 2) - i9)))); (let J5 := va_up J4 (o + 3) (vp_updL (J4 (o + 3)) ((2 * fL c - 2) - i9 - 8) ((J4 (o + 3) ((2 * fL c - 2) - i9 - 8)) + (y9_0 (o + 3) ((2 * fL c - 2) - i9)))); J5)))
def ffold_f (c : Bool) (o : Nat) (S : StT) : StT := (S.1, (ffold_l9 c o S (fL c - 1)), S.2.2)
set_option maxRecDepth 100000 in
set_option maxHeartbeats 4000000 in
theorem c_ffold {k : KX} {L : Nat → Option Sh} {S : StT} {n : Nat} {c : Bool} {o : Nat} (hF : FieldAt k L o c) :
    Cs k yX3_fold cX3_fold 4 none 0 0 0 [.ref (k_b k + (o))] (inst k L S.1 S.2.1 S.2.2) n (Pv k L n (ffold_f c o S)) := by
  refine cs_of (by decide) (Nat.le_of_ble_eq_true rfl) ?_
  intro X hXk C Rt hnm
  subst hXk
  have hF9 := hF
  obtain ⟨hF0, hf1, hf2, hf3, hf4, hf5, hf6, hf7, hf8, hf9⟩ := hF9
  obtain ⟨hl1, hl2⟩ := fL_le c
  refine rn_lv [(0, .ref (k_b X.1 + (o)))] (fun q h => h) ?_
  refine rn_iconst (v := nI 2) C dX3_fold_0 rfl ?_
  refine rn_aload_n C dX3_fold_1 rfl ?_
  refine rs_get C dX3_fold_2 fl_X3_47 hF0 rfl ?_
  refine rn_imul C dX3_fold_5 (pk_mul _ _) ?_
  refine rn_iconst (v := nI 2) C dX3_fold_6 rfl ?_
  refine rn_isub C dX3_fold_7 (pk_sub (by omega)) ?_
  refine rn_istore_n (lv' := [(0, _), (1, _)]) C dX3_fold_8 (by decide) rfl ?_
  have lp9 : ∀ i9, i9 ≤ fL c - 1 → Rn X 9 [(0, .ref (k_b X.1 + (o))), (1, .int (nI ((2 * fL c - 2) - i9)))] [] (inst X.1 L S.1 (ffold_l9 c o S i9) S.2.2) n 0 0 := by
    refine upto _ _ ?_ (fun i9 hi9 ih9 => ?_)
    · skip
      refine rn_iload_n C dX3_fold_9 rfl ?_
      refine rn_aload_n C dX3_fold_10 rfl ?_
      refine rs_get C dX3_fold_11 fl_X3_47 hF0 rfl ?_
      refine rs_lt (tgt := 118) C dX3_fold_14 (by decide) rfl rfl (by omega) (by omega) (fun _ => ?_) (fun q => absurd q (by omega))
      exact rn_vret C Rt dX3_fold_118 (pv_of rfl) (Nat.zero_le _) (Nat.zero_le _)
    · skip
      refine rn_iload_n C dX3_fold_9 rfl ?_
      refine rn_aload_n C dX3_fold_10 rfl ?_
      refine rs_get C dX3_fold_11 fl_X3_47 hF0 rfl ?_
      refine rs_lt (tgt := 118) C dX3_fold_14 (by decide) rfl rfl (by omega) (by omega) (fun q => absurd q (by omega)) (fun _ => ?_)
      refine rn_aload_n C dX3_fold_17 rfl ?_
      refine rs_get C dX3_fold_18 fl_X3_18 hF0 rfl ?_
      refine rn_iload_n C dX3_fold_21 rfl ?_
      refine rs_laload C dX3_fold_22 hf3 rfl (by omega) (by decide) ?_
      refine rn_lstore_n (lv' := [(0, _), (1, _), (2, _)]) C dX3_fold_23 (by decide) rfl ?_
      refine rn_aload_n C dX3_fold_24 rfl ?_
      refine rs_get C dX3_fold_25 fl_X3_39 hF0 rfl ?_
      refine rn_if_eq (tgt := 62) C dX3_fold_28 (by decide) (fun hb1 => ?_) (fun hb1 => ?_)
      · skip
        have hc : c = false := bI_f hb1
        refine rn_aload_n C dX3_fold_62 rfl ?_
        refine rs_get C dX3_fold_63 fl_X3_18 hF0 rfl ?_
        refine rn_iload_n C dX3_fold_66 rfl ?_
        refine rn_aload_n C dX3_fold_67 rfl ?_
        refine rs_get C dX3_fold_68 fl_X3_47 hF0 rfl ?_
        refine rn_isub C dX3_fold_71 (pk_sub (by omega)) ?_
        refine rn_dup2 C dX3_fold_72 rfl rfl ?_
        refine rs_laload C dX3_fold_73 hf3 rfl (by omega) (by decide) ?_
        refine rn_ldc2 C dX3_fold_74 lc_X3_122 ?_
        refine rn_lload_n C dX3_fold_77 rfl ?_
        refine rn_aload_n C dX3_fold_78 rfl ?_
        refine rs_get C dX3_fold_79 fl_X3_56 hF0 rfl ?_
        refine rn_land C dX3_fold_82 rfl ?_
        refine rn_lmul C dX3_fold_83 rfl ?_
        refine rn_ladd C dX3_fold_84 rfl ?_
        refine rs_lastore C dX3_fold_85 hf3 rfl (by omega) (by decide) ?_
        refine rn_aload_n C dX3_fold_86 rfl ?_
        refine rs_get C dX3_fold_87 fl_X3_18 hF0 rfl ?_
        refine rn_iload_n C dX3_fold_90 rfl ?_
        refine rn_aload_n C dX3_fold_91 rfl ?_
        refine rs_get C dX3_fold_92 fl_X3_47 hF0 rfl ?_
        refine rn_isub C dX3_fold_95 (pk_sub (by omega)) ?_
        refine rn_iconst (v := nI 1) C dX3_fold_96 rfl ?_
        refine rn_iadd C dX3_fold_97 (nI_add _ _) ?_
        refine rn_dup2 C dX3_fold_98 rfl rfl ?_
        refine rs_laload C dX3_fold_99 hf3 rfl (by omega) (by decide) ?_
        refine rn_ldc2 C dX3_fold_100 lc_X3_122 ?_
        refine rn_lload_n C dX3_fold_103 rfl ?_
        refine rn_aload_n C dX3_fold_104 rfl ?_
        refine rs_get C dX3_fold_105 fl_X3_50 hF0 rfl ?_
        refine rn_lshr C dX3_fold_108 rfl ?_
        refine rn_lmul C dX3_fold_109 rfl ?_
        refine rn_ladd C dX3_fold_110 rfl ?_
        refine rs_lastore C dX3_fold_111 hf3 rfl (by omega) (by decide) ?_
        refine rn_iinc (lv' := [(0, _), (1, _), (2, _)]) C dX3_fold_112 rfl (nI_decs (by omega)) (by decide) rfl ?_
        refine rn_goto (tgt := 9) C dX3_fold_115 (by decide) ?_
        rw [show ffold_l9 c o S (i9 + 1) = _ from (if_pos hb1)] at ih9
        exact rn_ks [0, 1] ih9 rfl
      · skip
        have hc : c = true := bI_t hb1
        have hc2 : fL c = 16 := by rw [hc]; rfl
        refine rn_aload_n C dX3_fold_31 rfl ?_
        refine rs_get C dX3_fold_32 fl_X3_18 hF0 rfl ?_
        refine rn_iload_n C dX3_fold_35 rfl ?_
        refine rn_aload_n C dX3_fold_36 rfl ?_
        refine rs_get C dX3_fold_37 fl_X3_47 hF0 rfl ?_
        refine rn_isub C dX3_fold_40 (pk_sub (by omega)) ?_
        refine rn_dup2 C dX3_fold_41 rfl rfl ?_
        refine rs_laload C dX3_fold_42 hf3 rfl (by omega) (by decide) ?_
        refine rn_lload_n C dX3_fold_43 rfl ?_
        refine rn_ladd C dX3_fold_44 rfl ?_
        refine rs_lastore C dX3_fold_45 hf3 rfl (by omega) (by decide) ?_
        refine rn_aload_n C dX3_fold_46 rfl ?_
        refine rs_get C dX3_fold_47 fl_X3_18 hF0 rfl ?_
        refine rn_iload_n C dX3_fold_50 rfl ?_
        refine rn_bipush (v := nI 8) C dX3_fold_51 rfl ?_
        refine rn_isub C dX3_fold_53 (pk_sub (by omega)) ?_
        refine rn_dup2 C dX3_fold_54 rfl rfl ?_
        refine rs_laload C dX3_fold_55 hf3 rfl (by omega) (by decide) ?_
        refine rn_lload_n C dX3_fold_56 rfl ?_
        refine rn_ladd C dX3_fold_57 rfl ?_
        refine rs_lastore C dX3_fold_58 hf3 rfl (by omega) (by decide) ?_
        refine rn_goto (tgt := 112) C dX3_fold_59 (by decide) ?_
        refine rn_iinc (lv' := [(0, _), (1, _), (2, _)]) C dX3_fold_112 rfl (nI_decs (by omega)) (by decide) rfl ?_
        refine rn_goto (tgt := 9) C dX3_fold_115 (by decide) ?_
        rw [show ffold_l9 c o S (i9 + 1) = _ from (if_neg hb1)] at ih9
        exact rn_ks [0, 1] ih9 rfl
  exact lp9 0 (Nat.zero_le _)
def mul_l37 (c : Bool) (o : Nat) (to : Nat) (a : Nat) (b : Nat) (i21 : Nat) (y21_0 : (Nat → Nat → Int64)) (S : StT)  : Nat → (Nat → Nat → Int64)
  | 0 => S.2.1
  | i37 + 1 => let y37_0 := (mul_l37 c o to a b i21 y21_0 S i37); (let J2 := va_up y37_0 (o + 3) (vp_updL (y37_0 (o + 3)) (i21 + i37) ((y37_0 (o + 3) (i21 + i37)) + ((y21_0 (a) (i21)) * (y37_0 (b) (i37))))); J2)
def mul_l21 (c : Bool) (o : Nat) (to : Nat) (a : Nat) (b : Nat) (S : StT)  : Nat → (Nat → Nat → Int64)
  | 0 => S.2.1
  | i21 + 1 => let y21_0 := (mul_l21 c o to a b S i21); (mul_l37 c o to a b i21 y21_0 (S.1, y21_0, S.2.2) (fL c))
def mul_f (c : Bool) (o : Nat) (to : Nat) (a : Nat) (b : Nat) (S : StT) : StT := (let S1 := ffold_f c (o)  ((fill_f (o + 3) (32) (0) S).1, (mul_l21 c o to a b (fill_f (o + 3) (32) (0) S) (fL c)), (fill_f (o + 3) (32) (0) S).2.2); carry_f c (to) (to) (carry_f c (to) (o + 3) S1))
set_option maxRecDepth 100000 in
set_option maxHeartbeats 4000000 in
theorem c_mul {k : KX} {L : Nat → Option Sh} {S : StT} {n : Nat} {c : Bool} {o : Nat} {to : Nat} {a : Nat} {b : Nat} (hF : FieldAt k L o c) (hto : L to = some (sJ 16)) (ha : L a = some (sJ 16)) (hb : L b = some (sJ 16)) :
    Cs k yX3_multiply cX3_multiply 10 none 1 0 0 [.ref (k_b k + (o)), .ref (k_b k + (to)), .ref (k_b k + (a)), .ref (k_b k + (b))] (inst k L S.1 S.2.1 S.2.2) n (Pv k L n (mul_f c o to a b S)) := by
  refine cs_of (by decide) (Nat.le_of_ble_eq_true rfl) ?_
  intro X hXk C Rt hnm
  subst hXk
  have hF9 := hF
  obtain ⟨hF0, hf1, hf2, hf3, hf4, hf5, hf6, hf7, hf8, hf9⟩ := hF9
  obtain ⟨hl1, hl2⟩ := fL_le c
  refine rn_lv [(0, .ref (k_b X.1 + (o))), (1, .ref (k_b X.1 + (to))), (2, .ref (k_b X.1 + (a))), (3, .ref (k_b X.1 + (b)))] (fun q h => h) ?_
  refine rn_aload_n C dX3_multiply_0 rfl ?_
  refine rs_get C dX3_multiply_1 fl_X3_18 hF0 rfl ?_
  refine rn_astore (lv' := [(0, _), (1, _), (2, _), (3, _), (4, _)]) C dX3_multiply_4 (by decide) rfl ?_
  refine rn_aload_n C dX3_multiply_6 rfl ?_
  refine rs_get C dX3_multiply_7 fl_X3_47 hF0 rfl ?_
  refine rn_istore (lv' := [(0, _), (1, _), (2, _), (3, _), (4, _), (5, _)]) C dX3_multiply_10 (by decide) rfl ?_
  refine rn_aload C dX3_multiply_12 rfl ?_
  refine rn_lconst (v := 0) C dX3_multiply_14 rfl ?_
  refine rs_sv C dX3_multiply_15 mk_J7_fill_d0a16 ls_X3_91 (c_fill hf3 (by decide)) rfl rfl (by decide) (Nat.le_of_ble_eq_true rfl) (by decide) (by decide) ?_
  refine rn_iconst (v := nI 0) C dX3_multiply_18 rfl ?_
  refine rn_istore (lv' := [(0, _), (1, _), (2, _), (3, _), (4, _), (5, _), (6, _)]) C dX3_multiply_19 (by decide) rfl ?_
  have lp21 : ∀ i21, i21 ≤ fL c → Rn X 21 [(0, .ref (k_b X.1 + (o))), (1, .ref (k_b X.1 + (to))), (2, .ref (k_b X.1 + (a))), (3, .ref (k_b X.1 + (b))), (4, .ref (k_b X.1 + (o + 3))), (5, .int (nI (fL c))), (6, .int (nI (i21)))] [] (inst X.1 L (fill_f (o + 3) (32) (0) S).1 (mul_l21 c o to a b (fill_f (o + 3) (32) (0) S) i21) (fill_f (o + 3) (32) (0) S).2.2) n 0 0 := by
    refine upto _ _ ?_ (fun i21 hi21 ih21 => ?_)
    · skip
      refine rn_iload C dX3_multiply_21 rfl ?_
      refine rn_iload C dX3_multiply_23 rfl ?_
      refine rs_ge (tgt := 74) C dX3_multiply_25 (by decide) rfl rfl (by omega) (by omega) (fun _ => ?_) (fun q => absurd q (by omega))
      refine rn_aload_n C dX3_multiply_74 rfl ?_
      refine rs_vv C dX3_multiply_75 mk_X3_fold lv_X3_97 (c_ffold (S := ((fill_f (o + 3) (32) (0) S).1, (mul_l21 c o to a b (fill_f (o + 3) (32) (0) S) (fL c)), (fill_f (o + 3) (32) (0) S).2.2)) hF ) hF0 rfl rfl rfl rfl (by decide) (Nat.le_of_ble_eq_true rfl) (by decide) (by decide) ?_
      refine rn_aload_n C dX3_multiply_78 rfl ?_
      refine rn_aload_n C dX3_multiply_79 rfl ?_
      refine rn_aload_n C dX3_multiply_80 rfl ?_
      refine rs_get C dX3_multiply_81 fl_X3_18 hF0 rfl ?_
      refine rs_vv C dX3_multiply_84 mk_X3_carry lv_X3_87 (c_carry hF hto hf3 (by decide) (by decide)) hF0 rfl rfl rfl rfl (by decide) (Nat.le_of_ble_eq_true rfl) (by decide) (by decide) ?_
      refine rn_aload_n C dX3_multiply_87 rfl ?_
      refine rn_aload_n C dX3_multiply_88 rfl ?_
      refine rn_aload_n C dX3_multiply_89 rfl ?_
      refine rs_vv C dX3_multiply_90 mk_X3_carry lv_X3_87 (c_carry hF hto hto (by decide) (by decide)) hF0 rfl rfl rfl rfl (by decide) (Nat.le_of_ble_eq_true rfl) (by decide) (by decide) ?_
      exact rn_vret C Rt dX3_multiply_93 (pv_of (tup _)) (Nat.zero_le _) (Nat.zero_le _)
    · skip
      refine rn_iload C dX3_multiply_21 rfl ?_
      refine rn_iload C dX3_multiply_23 rfl ?_
      refine rs_ge (tgt := 74) C dX3_multiply_25 (by decide) rfl rfl (by omega) (by omega) (fun q => absurd q (by omega)) (fun _ => ?_)
      refine rn_aload_n C dX3_multiply_28 rfl ?_
      refine rn_iload C dX3_multiply_29 rfl ?_
      refine rs_laload C dX3_multiply_31 ha rfl (by omega) (by decide) ?_
      refine rn_lstore (lv' := [(0, _), (1, _), (2, _), (3, _), (4, _), (5, _), (6, _), (7, _)]) C dX3_multiply_32 (by decide) rfl ?_
      refine rn_iconst (v := nI 0) C dX3_multiply_34 rfl ?_
      refine rn_istore (lv' := [(0, _), (1, _), (2, _), (3, _), (4, _), (5, _), (6, _), (7, _), (9, _)]) C dX3_multiply_35 (by decide) rfl ?_
      have lp37 : ∀ i37, i37 ≤ fL c → Rn X 37 [(0, .ref (k_b X.1 + (o))), (1, .ref (k_b X.1 + (to))), (2, .ref (k_b X.1 + (a))), (3, .ref (k_b X.1 + (b))), (4, .ref (k_b X.1 + (o + 3))), (5, .int (nI (fL c))), (6, .int (nI (i21))), (7, .long ((mul_l21 c o to a b (fill_f (o + 3) (32) (0) S) i21) (a) (i21))), (9, .int (nI (i37)))] [] (inst X.1 L (fill_f (o + 3) (32) (0) S).1 (mul_l37 c o to a b i21 (mul_l21 c o to a b (fill_f (o + 3) (32) (0) S) i21) ((fill_f (o + 3) (32) (0) S).1, (mul_l21 c o to a b (fill_f (o + 3) (32) (0) S) i21), (fill_f (o + 3) (32) (0) S).2.2) i37) (fill_f (o + 3) (32) (0) S).2.2) n 0 0 := by
        refine upto _ _ ?_ (fun i37 hi37 ih37 => ?_)
        · skip
          refine rn_iload C dX3_multiply_37 rfl ?_
          refine rn_iload C dX3_multiply_39 rfl ?_
          refine rs_ge (tgt := 68) C dX3_multiply_41 (by decide) rfl rfl (by omega) (by omega) (fun _ => ?_) (fun q => absurd q (by omega))
          refine rn_iinc (lv' := [(0, _), (1, _), (2, _), (3, _), (4, _), (5, _), (6, _), (7, _), (9, _)]) C dX3_multiply_68 rfl (nI_inc _) (by decide) rfl ?_
          refine rn_goto (tgt := 21) C dX3_multiply_71 (by decide) ?_
          exact rn_ks [0, 1, 2, 3, 4, 5, 6] ih21 rfl
        · skip
          refine rn_iload C dX3_multiply_37 rfl ?_
          refine rn_iload C dX3_multiply_39 rfl ?_
          refine rs_ge (tgt := 68) C dX3_multiply_41 (by decide) rfl rfl (by omega) (by omega) (fun q => absurd q (by omega)) (fun _ => ?_)
          refine rn_aload C dX3_multiply_44 rfl ?_
          refine rn_iload C dX3_multiply_46 rfl ?_
          refine rn_iload C dX3_multiply_48 rfl ?_
          refine rn_iadd C dX3_multiply_50 (nI_add _ _) ?_
          refine rn_dup2 C dX3_multiply_51 rfl rfl ?_
          refine rs_laload C dX3_multiply_52 hf3 rfl (by omega) (by decide) ?_
          refine rn_lload C dX3_multiply_53 rfl ?_
          refine rn_aload_n C dX3_multiply_55 rfl ?_
          refine rn_iload C dX3_multiply_56 rfl ?_
          refine rs_laload C dX3_multiply_58 hb rfl (by omega) (by decide) ?_
          refine rn_lmul C dX3_multiply_59 rfl ?_
          refine rn_ladd C dX3_multiply_60 rfl ?_
          refine rs_lastore C dX3_multiply_61 hf3 rfl (by omega) (by decide) ?_
          refine rn_iinc (lv' := [(0, _), (1, _), (2, _), (3, _), (4, _), (5, _), (6, _), (7, _), (9, _)]) C dX3_multiply_62 rfl (nI_inc _) (by decide) rfl ?_
          refine rn_goto (tgt := 37) C dX3_multiply_65 (by decide) ?_
          exact rn_ks [0, 1, 2, 3, 4, 5, 6, 7, 9] ih37 rfl
      exact lp37 0 (Nat.zero_le _)
  exact lp21 0 (Nat.zero_le _)
def sqr_l60 (c : Bool) (o : Nat) (to : Nat) (a : Nat) (i19 : Nat) (y19_0 : (Nat → Nat → Int64)) (J2 : (Nat → Nat → Int64)) (S : StT)  : Nat → (Nat → Nat → Int64)
  | 0 => S.2.1
  | i60 + 1 => let y60_0 := (sqr_l60 c o to a i19 y19_0 J2 S i60); (let J3 := va_up y60_0 (o + 3) (vp_updL (y60_0 (o + 3)) (i19 + ((i19 + 1) + i60)) ((y60_0 (o + 3) (i19 + ((i19 + 1) + i60))) + ((2 * (y19_0 (a) (i19))) * (y60_0 (a) ((i19 + 1) + i60))))); J3)
def sqr_l19 (c : Bool) (o : Nat) (to : Nat) (a : Nat) (S : StT)  : Nat → (Nat → Nat → Int64)
  | 0 => S.2.1
  | i19 + 1 => let y19_0 := (sqr_l19 c o to a S i19); (let J2 := va_up y19_0 (o + 3) (vp_updL (y19_0 (o + 3)) (2 * i19) ((y19_0 (o + 3) (2 * i19)) + ((y19_0 (a) (i19)) * (y19_0 (a) (i19))))); (sqr_l60 c o to a i19 y19_0 J2 (S.1, J2, S.2.2) (fL c - (i19 + 1))))
def sqr_f (c : Bool) (o : Nat) (to : Nat) (a : Nat) (S : StT) : StT := (let S1 := ffold_f c (o)  ((fill_f (o + 3) (32) (0) S).1, (sqr_l19 c o to a (fill_f (o + 3) (32) (0) S) (fL c)), (fill_f (o + 3) (32) (0) S).2.2); carry_f c (to) (to) (carry_f c (to) (o + 3) S1))
set_option maxRecDepth 100000 in
set_option maxHeartbeats 4000000 in
theorem c_sqr {k : KX} {L : Nat → Option Sh} {S : StT} {n : Nat} {c : Bool} {o : Nat} {to : Nat} {a : Nat} (hF : FieldAt k L o c) (hto : L to = some (sJ 16)) (ha : L a = some (sJ 16)) :
    Cs k yX3_square cX3_square 11 none 1 0 0 [.ref (k_b k + (o)), .ref (k_b k + (to)), .ref (k_b k + (a))] (inst k L S.1 S.2.1 S.2.2) n (Pv k L n (sqr_f c o to a S)) := by
  refine cs_of (by decide) (Nat.le_of_ble_eq_true rfl) ?_
  intro X hXk C Rt hnm
  subst hXk
  have hF9 := hF
  obtain ⟨hF0, hf1, hf2, hf3, hf4, hf5, hf6, hf7, hf8, hf9⟩ := hF9
  obtain ⟨hl1, hl2⟩ := fL_le c
  refine rn_lv [(0, .ref (k_b X.1 + (o))), (1, .ref (k_b X.1 + (to))), (2, .ref (k_b X.1 + (a)))] (fun q h => h) ?_
  refine rn_aload_n C dX3_square_0 rfl ?_
  refine rs_get C dX3_square_1 fl_X3_18 hF0 rfl ?_
  refine rn_astore_n (lv' := [(0, _), (1, _), (2, _), (3, _)]) C dX3_square_4 (by decide) rfl ?_
  refine rn_aload_n C dX3_square_5 rfl ?_
  refine rs_get C dX3_square_6 fl_X3_47 hF0 rfl ?_
  refine rn_istore (lv' := [(0, _), (1, _), (2, _), (3, _), (4, _)]) C dX3_square_9 (by decide) rfl ?_
  refine rn_aload_n C dX3_square_11 rfl ?_
  refine rn_lconst (v := 0) C dX3_square_12 rfl ?_
  refine rs_sv C dX3_square_13 mk_J7_fill_d0a16 ls_X3_91 (c_fill hf3 (by decide)) rfl rfl (by decide) (Nat.le_of_ble_eq_true rfl) (by decide) (by decide) ?_
  refine rn_iconst (v := nI 0) C dX3_square_16 rfl ?_
  refine rn_istore (lv' := [(0, _), (1, _), (2, _), (3, _), (4, _), (5, _)]) C dX3_square_17 (by decide) rfl ?_
  have lp19 : ∀ i19, i19 ≤ fL c → Rn X 19 [(0, .ref (k_b X.1 + (o))), (1, .ref (k_b X.1 + (to))), (2, .ref (k_b X.1 + (a))), (3, .ref (k_b X.1 + (o + 3))), (4, .int (nI (fL c))), (5, .int (nI (i19)))] [] (inst X.1 L (fill_f (o + 3) (32) (0) S).1 (sqr_l19 c o to a (fill_f (o + 3) (32) (0) S) i19) (fill_f (o + 3) (32) (0) S).2.2) n 0 0 := by
    refine upto _ _ ?_ (fun i19 hi19 ih19 => ?_)
    · skip
      refine rn_iload C dX3_square_19 rfl ?_
      refine rn_iload C dX3_square_21 rfl ?_
      refine rs_ge (tgt := 96) C dX3_square_23 (by decide) rfl rfl (by omega) (by omega) (fun _ => ?_) (fun q => absurd q (by omega))
      refine rn_aload_n C dX3_square_96 rfl ?_
      refine rs_vv C dX3_square_97 mk_X3_fold lv_X3_97 (c_ffold (S := ((fill_f (o + 3) (32) (0) S).1, (sqr_l19 c o to a (fill_f (o + 3) (32) (0) S) (fL c)), (fill_f (o + 3) (32) (0) S).2.2)) hF ) hF0 rfl rfl rfl rfl (by decide) (Nat.le_of_ble_eq_true rfl) (by decide) (by decide) ?_
      refine rn_aload_n C dX3_square_100 rfl ?_
      refine rn_aload_n C dX3_square_101 rfl ?_
      refine rn_aload_n C dX3_square_102 rfl ?_
      refine rs_get C dX3_square_103 fl_X3_18 hF0 rfl ?_
      refine rs_vv C dX3_square_106 mk_X3_carry lv_X3_87 (c_carry hF hto hf3 (by decide) (by decide)) hF0 rfl rfl rfl rfl (by decide) (Nat.le_of_ble_eq_true rfl) (by decide) (by decide) ?_
      refine rn_aload_n C dX3_square_109 rfl ?_
      refine rn_aload_n C dX3_square_110 rfl ?_
      refine rn_aload_n C dX3_square_111 rfl ?_
      refine rs_vv C dX3_square_112 mk_X3_carry lv_X3_87 (c_carry hF hto hto (by decide) (by decide)) hF0 rfl rfl rfl rfl (by decide) (Nat.le_of_ble_eq_true rfl) (by decide) (by decide) ?_
      exact rn_vret C Rt dX3_square_115 (pv_of (tup _)) (Nat.zero_le _) (Nat.zero_le _)
    · skip
      refine rn_iload C dX3_square_19 rfl ?_
      refine rn_iload C dX3_square_21 rfl ?_
      refine rs_ge (tgt := 96) C dX3_square_23 (by decide) rfl rfl (by omega) (by omega) (fun q => absurd q (by omega)) (fun _ => ?_)
      refine rn_aload_n C dX3_square_26 rfl ?_
      refine rn_iload C dX3_square_27 rfl ?_
      refine rs_laload C dX3_square_29 ha rfl (by omega) (by decide) ?_
      refine rn_lstore (lv' := [(0, _), (1, _), (2, _), (3, _), (4, _), (5, _), (6, _)]) C dX3_square_30 (by decide) rfl ?_
      refine rn_aload_n C dX3_square_32 rfl ?_
      refine rn_iconst (v := nI 2) C dX3_square_33 rfl ?_
      refine rn_iload C dX3_square_34 rfl ?_
      refine rn_imul C dX3_square_36 (pk_mul _ _) ?_
      refine rn_dup2 C dX3_square_37 rfl rfl ?_
      refine rs_laload C dX3_square_38 hf3 rfl (by omega) (by decide) ?_
      refine rn_lload C dX3_square_39 rfl ?_
      refine rn_lload C dX3_square_41 rfl ?_
      refine rn_lmul C dX3_square_43 rfl ?_
      refine rn_ladd C dX3_square_44 rfl ?_
      refine rs_lastore C dX3_square_45 hf3 rfl (by omega) (by decide) ?_
      refine rn_ldc2 C dX3_square_46 lc_X3_100 ?_
      refine rn_lload C dX3_square_49 rfl ?_
      refine rn_lmul C dX3_square_51 rfl ?_
      refine rn_lstore (lv' := [(0, _), (1, _), (2, _), (3, _), (4, _), (5, _), (6, _), (8, _)]) C dX3_square_52 (by decide) rfl ?_
      refine rn_iload C dX3_square_54 rfl ?_
      refine rn_iconst (v := nI 1) C dX3_square_56 rfl ?_
      refine rn_iadd C dX3_square_57 (nI_add _ _) ?_
      refine rn_istore (lv' := [(0, _), (1, _), (2, _), (3, _), (4, _), (5, _), (6, _), (8, _), (10, _)]) C dX3_square_58 (by decide) rfl ?_
      have lp60 : ∀ i60, i60 ≤ fL c - (i19 + 1) → Rn X 60 [(0, .ref (k_b X.1 + (o))), (1, .ref (k_b X.1 + (to))), (2, .ref (k_b X.1 + (a))), (3, .ref (k_b X.1 + (o + 3))), (4, .int (nI (fL c))), (5, .int (nI (i19))), (6, .long ((sqr_l19 c o to a (fill_f (o + 3) (32) (0) S) i19) (a) (i19))), (8, .long (2 * ((sqr_l19 c o to a (fill_f (o + 3) (32) (0) S) i19) (a) (i19)))), (10, .int (nI ((i19 + 1) + i60)))] [] (inst X.1 L (fill_f (o + 3) (32) (0) S).1 (sqr_l60 c o to a i19 (sqr_l19 c o to a (fill_f (o + 3) (32) (0) S) i19) (va_up (sqr_l19 c o to a (fill_f (o + 3) (32) (0) S) i19) (o + 3) (vp_updL ((sqr_l19 c o to a (fill_f (o + 3) (32) (0) S) i19) (o + 3)) (2 * i19) (((sqr_l19 c o to a (fill_f (o + 3) (32) (0) S) i19) (o + 3) (2 * i19)) + (((sqr_l19 c o to a (fill_f (o + 3) (32) (0) S) i19) (a) (i19)) * ((sqr_l19 c o to a (fill_f (o + 3) (32) (0) S) i19) (a) (i19)))))) ((fill_f (o + 3) (32) (0) S).1, (va_up (sqr_l19 c o to a (fill_f (o + 3) (32) (0) S) i19) (o + 3) (vp_updL ((sqr_l19 c o to a (fill_f (o + 3) (32) (0) S) i19) (o + 3)) (2 * i19) (((sqr_l19 c o to a (fill_f (o + 3) (32) (0) S) i19) (o + 3) (2 * i19)) + (((sqr_l19 c o to a (fill_f (o + 3) (32) (0) S) i19) (a) (i19)) * ((sqr_l19 c o to a (fill_f (o + 3) (32) (0) S) i19) (a) (i19)))))), (fill_f (o + 3) (32) (0) S).2.2) i60) (fill_f (o + 3) (32) (0) S).2.2) n 0 0 := by
        refine upto _ _ ?_ (fun i60 hi60 ih60 => ?_)
        · skip
          refine rn_iload C dX3_square_60 rfl ?_
          refine rn_iload C dX3_square_62 rfl ?_
          refine rs_ge (tgt := 90) C dX3_square_64 (by decide) rfl rfl (by omega) (by omega) (fun _ => ?_) (fun q => absurd q (by omega))
          refine rn_iinc (lv' := [(0, _), (1, _), (2, _), (3, _), (4, _), (5, _), (6, _), (8, _), (10, _)]) C dX3_square_90 rfl (nI_inc _) (by decide) rfl ?_
          refine rn_goto (tgt := 19) C dX3_square_93 (by decide) ?_
          exact rn_ks [0, 1, 2, 3, 4, 5] ih19 rfl
        · skip
          refine rn_iload C dX3_square_60 rfl ?_
          refine rn_iload C dX3_square_62 rfl ?_
          refine rs_ge (tgt := 90) C dX3_square_64 (by decide) rfl rfl (by omega) (by omega) (fun q => absurd q (by omega)) (fun _ => ?_)
          refine rn_aload_n C dX3_square_67 rfl ?_
          refine rn_iload C dX3_square_68 rfl ?_
          refine rn_iload C dX3_square_70 rfl ?_
          refine rn_iadd C dX3_square_72 (nI_add _ _) ?_
          refine rn_dup2 C dX3_square_73 rfl rfl ?_
          refine rs_laload C dX3_square_74 hf3 rfl (by omega) (by decide) ?_
          refine rn_lload C dX3_square_75 rfl ?_
          refine rn_aload_n C dX3_square_77 rfl ?_
          refine rn_iload C dX3_square_78 rfl ?_
          refine rs_laload C dX3_square_80 ha rfl (by omega) (by decide) ?_
          refine rn_lmul C dX3_square_81 rfl ?_
          refine rn_ladd C dX3_square_82 rfl ?_
          refine rs_lastore C dX3_square_83 hf3 rfl (by omega) (by decide) ?_
          refine rn_iinc (lv' := [(0, _), (1, _), (2, _), (3, _), (4, _), (5, _), (6, _), (8, _), (10, _)]) C dX3_square_84 rfl (nI_inc _) (by decide) rfl ?_
          refine rn_goto (tgt := 60) C dX3_square_87 (by decide) ?_
          exact rn_ks [0, 1, 2, 3, 4, 5, 6, 8, 10] ih60 rfl
      exact lp60 0 (Nat.zero_le _)
  exact lp19 0 (Nat.zero_le _)
def fcopy_f (c : Bool) (to : Nat) (a : Nat) (S : StT) : StT := (S.1, va_up S.2.1 (to) (va_cpy (S.2.1 (a)) (S.2.1 (to)) (0) (0) (fL c)), S.2.2)
set_option maxRecDepth 100000 in
set_option maxHeartbeats 4000000 in
theorem c_fcopy {k : KX} {L : Nat → Option Sh} {S : StT} {n : Nat} {c : Bool} {o : Nat} {to : Nat} {a : Nat} (hF : FieldAt k L o c) (hto : L to = some (sJ 16)) (ha : L a = some (sJ 16)) :
    Cs k yX3_copy cX3_copy 3 none 1 0 0 [.ref (k_b k + (o)), .ref (k_b k + (to)), .ref (k_b k + (a))] (inst k L S.1 S.2.1 S.2.2) n (Pv k L n (fcopy_f c to a S)) := by
  refine cs_of (by decide) (Nat.le_of_ble_eq_true rfl) ?_
  intro X hXk C Rt hnm
  subst hXk
  have hF9 := hF
  obtain ⟨hF0, hf1, hf2, hf3, hf4, hf5, hf6, hf7, hf8, hf9⟩ := hF9
  obtain ⟨hl1, hl2⟩ := fL_le c
  refine rn_lv [(0, .ref (k_b X.1 + (o))), (1, .ref (k_b X.1 + (to))), (2, .ref (k_b X.1 + (a)))] (fun q h => h) ?_
  refine rn_aload_n C dX3_copy_0 rfl ?_
  refine rn_iconst (v := nI 0) C dX3_copy_1 rfl ?_
  refine rn_aload_n C dX3_copy_2 rfl ?_
  refine rn_iconst (v := nI 0) C dX3_copy_3 rfl ?_
  refine rn_aload_n C dX3_copy_4 rfl ?_
  refine rs_get C dX3_copy_5 fl_X3_47 hF0 rfl ?_
  refine rs_copyJ C dX3_copy_8 lcp_X3_81 ha hto rfl rfl rfl (by omega) (by omega) (by decide) (by decide) (by decide) (by decide) ?_
  exact rn_vret C Rt dX3_copy_11 (pv_of rfl) (Nat.zero_le _) (Nat.zero_le _)
def freeze_l73 (c : Bool) (o : Nat) (a : Nat) (S1 : StT) (S : StT) (z2 : Int64) : Nat → Int64 × (Nat → Nat → Int64)
  | 0 => (z2, S.2.1)
  | i73 + 1 => let y73_0 := (freeze_l73 c o a S1 S z2 i73).1; let y73_1 := (freeze_l73 c o a S1 S z2 i73).2; (let J4 := va_up y73_1 (o + 5) (vp_updL (y73_1 (o + 5)) (i73) ((((y73_1 (o + 4) (i73)) - (y73_1 (o + 2) (i73))) + y73_0) &&& (fM c))); (let v5 := (((y73_1 (o + 4) (i73)) - (y73_1 (o + 2) (i73))) + y73_0) >>> ((nI (fb c)).toInt64 &&& 63); (v5, J4)))
def freeze_l2 (c : Bool) (o : Nat) (a : Nat) (S : StT)  : Nat → (Nat → Nat → Int64)
  | 0 => S.2.1
  | i2 + 1 => let y2_0 := (freeze_l2 c o a S i2); va_up y2_0 (o + 4) (vp_updL (y2_0 (o + 4)) (i2) ((y2_0 (a) (i2)) + (y2_0 (o + 2) (i2))))
def freeze_f (c : Bool) (o : Nat) (a : Nat) (S : StT) : StT := (let S1 := carry_f c (o + 4) (o + 4) (carry_f c (o + 4) (o + 4) (S.1, (freeze_l2 c o a S (fL c)), S.2.2)); (if (lg_cmp ((freeze_l73 c o a S1 (carry_f c (o + 4) (o + 4) S1) 0 (fL c)).1) (0)) ≠ 0 then ((carry_f c (o + 4) (o + 4) S1).1, (freeze_l73 c o a S1 (carry_f c (o + 4) (o + 4) S1) 0 (fL c)).2, (carry_f c (o + 4) (o + 4) S1).2.2) else (let S3 := fcopy_f c (o + 4) (o + 5) ((carry_f c (o + 4) (o + 4) S1).1, (freeze_l73 c o a S1 (carry_f c (o + 4) (o + 4) S1) 0 (fL c)).2, (carry_f c (o + 4) (o + 4) S1).2.2); S3)))
set_option maxRecDepth 100000 in
set_option maxHeartbeats 4000000 in
theorem c_freeze {k : KX} {L : Nat → Option Sh} {S : StT} {n : Nat} {c : Bool} {o : Nat} {a : Nat} (hF : FieldAt k L o c) (ha : L a = some (sJ 16)) :
    Cs k yX3_freeze cX3_freeze 7 none 2 0 0 [.ref (k_b k + (o)), .ref (k_b k + (a))] (inst k L S.1 S.2.1 S.2.2) n (Pv k L n (freeze_f c o a S)) := by
  refine cs_of (by decide) (Nat.le_of_ble_eq_true rfl) ?_
  intro X hXk C Rt hnm
  subst hXk
  have hF9 := hF
  obtain ⟨hF0, hf1, hf2, hf3, hf4, hf5, hf6, hf7, hf8, hf9⟩ := hF9
  obtain ⟨hl1, hl2⟩ := fL_le c
  refine rn_lv [(0, .ref (k_b X.1 + (o))), (1, .ref (k_b X.1 + (a)))] (fun q h => h) ?_
  refine rn_iconst (v := nI 0) C dX3_freeze_0 rfl ?_
  refine rn_istore_n (lv' := [(0, _), (1, _), (2, _)]) C dX3_freeze_1 (by decide) rfl ?_
  have lp2 : ∀ i2, i2 ≤ fL c → Rn X 2 [(0, .ref (k_b X.1 + (o))), (1, .ref (k_b X.1 + (a))), (2, .int (nI (i2)))] [] (inst X.1 L S.1 (freeze_l2 c o a S i2) S.2.2) n 0 0 := by
    refine upto _ _ ?_ (fun i2 hi2 ih2 => ?_)
    · skip
      refine rn_iload_n C dX3_freeze_2 rfl ?_
      refine rn_aload_n C dX3_freeze_3 rfl ?_
      refine rs_get C dX3_freeze_4 fl_X3_47 hF0 rfl ?_
      refine rs_ge (tgt := 32) C dX3_freeze_7 (by decide) rfl rfl (by omega) (by omega) (fun _ => ?_) (fun q => absurd q (by omega))
      refine rn_aload_n C dX3_freeze_32 rfl ?_
      refine rn_aload_n C dX3_freeze_33 rfl ?_
      refine rs_get C dX3_freeze_34 fl_X3_21 hF0 rfl ?_
      refine rn_aload_n C dX3_freeze_37 rfl ?_
      refine rs_get C dX3_freeze_38 fl_X3_21 hF0 rfl ?_
      refine rs_vv C dX3_freeze_41 mk_X3_carry lv_X3_87 (c_carry (S := (S.1, (freeze_l2 c o a S (fL c)), S.2.2)) hF hf4 hf4 (by decide) (by decide)) hF0 rfl rfl rfl rfl (by decide) (Nat.le_of_ble_eq_true rfl) (by decide) (by decide) ?_
      refine rn_aload_n C dX3_freeze_44 rfl ?_
      refine rn_aload_n C dX3_freeze_45 rfl ?_
      refine rs_get C dX3_freeze_46 fl_X3_21 hF0 rfl ?_
      refine rn_aload_n C dX3_freeze_49 rfl ?_
      refine rs_get C dX3_freeze_50 fl_X3_21 hF0 rfl ?_
      refine rs_vv C dX3_freeze_53 mk_X3_carry lv_X3_87 (c_carry hF hf4 hf4 (by decide) (by decide)) hF0 rfl rfl rfl rfl (by decide) (Nat.le_of_ble_eq_true rfl) (by decide) (by decide) ?_
      refine rn_aload_n C dX3_freeze_56 rfl ?_
      refine rn_aload_n C dX3_freeze_57 rfl ?_
      refine rs_get C dX3_freeze_58 fl_X3_21 hF0 rfl ?_
      refine rn_aload_n C dX3_freeze_61 rfl ?_
      refine rs_get C dX3_freeze_62 fl_X3_21 hF0 rfl ?_
      refine rs_vv C dX3_freeze_65 mk_X3_carry lv_X3_87 (c_carry hF hf4 hf4 (by decide) (by decide)) hF0 rfl rfl rfl rfl (by decide) (Nat.le_of_ble_eq_true rfl) (by decide) (by decide) ?_
      refine rn_lconst (v := 0) C dX3_freeze_68 rfl ?_
      refine rn_lstore_n (lv' := [(0, _), (1, _), (2, _)]) C dX3_freeze_69 (by decide) rfl ?_
      refine rn_iconst (v := nI 0) C dX3_freeze_70 rfl ?_
      refine rn_istore (lv' := [(0, _), (1, _), (2, _), (4, _)]) C dX3_freeze_71 (by decide) rfl ?_
      have lp73 : ∀ i73, i73 ≤ fL c → Rn X 73 [(0, .ref (k_b X.1 + (o))), (1, .ref (k_b X.1 + (a))), (2, .long ((freeze_l73 c o a (carry_f c (o + 4) (o + 4) (carry_f c (o + 4) (o + 4) (S.1, (freeze_l2 c o a S (fL c)), S.2.2))) (carry_f c (o + 4) (o + 4) (carry_f c (o + 4) (o + 4) (carry_f c (o + 4) (o + 4) (S.1, (freeze_l2 c o a S (fL c)), S.2.2)))) 0 i73).1)), (4, .int (nI (i73)))] [] (inst X.1 L (carry_f c (o + 4) (o + 4) (carry_f c (o + 4) (o + 4) (carry_f c (o + 4) (o + 4) (S.1, (freeze_l2 c o a S (fL c)), S.2.2)))).1 (freeze_l73 c o a (carry_f c (o + 4) (o + 4) (carry_f c (o + 4) (o + 4) (S.1, (freeze_l2 c o a S (fL c)), S.2.2))) (carry_f c (o + 4) (o + 4) (carry_f c (o + 4) (o + 4) (carry_f c (o + 4) (o + 4) (S.1, (freeze_l2 c o a S (fL c)), S.2.2)))) 0 i73).2 (carry_f c (o + 4) (o + 4) (carry_f c (o + 4) (o + 4) (carry_f c (o + 4) (o + 4) (S.1, (freeze_l2 c o a S (fL c)), S.2.2)))).2.2) n 0 0 := by
        refine upto _ _ ?_ (fun i73 hi73 ih73 => ?_)
        · skip
          refine rn_iload C dX3_freeze_73 rfl ?_
          refine rn_aload_n C dX3_freeze_75 rfl ?_
          refine rs_get C dX3_freeze_76 fl_X3_47 hF0 rfl ?_
          refine rs_ge (tgt := 129) C dX3_freeze_79 (by decide) rfl rfl (by omega) (by omega) (fun _ => ?_) (fun q => absurd q (by omega))
          refine rn_lload_n C dX3_freeze_129 rfl ?_
          refine rn_lconst (v := 0) C dX3_freeze_130 rfl ?_
          refine rn_lcmp C dX3_freeze_131 ?_
          refine rn_if_ne (tgt := 147) C dX3_freeze_132 (by decide) (fun hb2 => ?_) (fun hb2 => ?_)
          · skip
            exact rn_vret C Rt dX3_freeze_147 (pv_of (if_pos hb2)) (Nat.zero_le _) (Nat.zero_le _)
          · skip
            refine rn_aload_n C dX3_freeze_135 rfl ?_
            refine rn_aload_n C dX3_freeze_136 rfl ?_
            refine rs_get C dX3_freeze_137 fl_X3_21 hF0 rfl ?_
            refine rn_aload_n C dX3_freeze_140 rfl ?_
            refine rs_get C dX3_freeze_141 fl_X3_24 hF0 rfl ?_
            refine rs_vv C dX3_freeze_144 mk_X3_copy lv_X3_112 (c_fcopy (S := ((carry_f c (o + 4) (o + 4) (carry_f c (o + 4) (o + 4) (carry_f c (o + 4) (o + 4) (S.1, (freeze_l2 c o a S (fL c)), S.2.2)))).1, (freeze_l73 c o a (carry_f c (o + 4) (o + 4) (carry_f c (o + 4) (o + 4) (S.1, (freeze_l2 c o a S (fL c)), S.2.2))) (carry_f c (o + 4) (o + 4) (carry_f c (o + 4) (o + 4) (carry_f c (o + 4) (o + 4) (S.1, (freeze_l2 c o a S (fL c)), S.2.2)))) 0 (fL c)).2, (carry_f c (o + 4) (o + 4) (carry_f c (o + 4) (o + 4) (carry_f c (o + 4) (o + 4) (S.1, (freeze_l2 c o a S (fL c)), S.2.2)))).2.2)) hF hf4 hf5) hF0 rfl rfl rfl rfl (by decide) (Nat.le_of_ble_eq_true rfl) (by decide) (by decide) ?_
            exact rn_vret C Rt dX3_freeze_147 (pv_of ((if_neg (fun q => q hb2)).trans (tup _))) (Nat.zero_le _) (Nat.zero_le _)
        · skip
          refine rn_iload C dX3_freeze_73 rfl ?_
          refine rn_aload_n C dX3_freeze_75 rfl ?_
          refine rs_get C dX3_freeze_76 fl_X3_47 hF0 rfl ?_
          refine rs_ge (tgt := 129) C dX3_freeze_79 (by decide) rfl rfl (by omega) (by omega) (fun q => absurd q (by omega)) (fun _ => ?_)
          refine rn_aload_n C dX3_freeze_82 rfl ?_
          refine rs_get C dX3_freeze_83 fl_X3_21 hF0 rfl ?_
          refine rn_iload C dX3_freeze_86 rfl ?_
          refine rs_laload C dX3_freeze_88 hf4 rfl (by omega) (by decide) ?_
          refine rn_aload_n C dX3_freeze_89 rfl ?_
          refine rs_get C dX3_freeze_90 fl_X3_15 hF0 rfl ?_
          refine rn_iload C dX3_freeze_93 rfl ?_
          refine rs_laload C dX3_freeze_95 hf2 rfl (by omega) (by decide) ?_
          refine rn_lsub C dX3_freeze_96 rfl ?_
          refine rn_lload_n C dX3_freeze_97 rfl ?_
          refine rn_ladd C dX3_freeze_98 rfl ?_
          refine rn_lstore (lv' := [(0, _), (1, _), (2, _), (4, _), (5, _)]) C dX3_freeze_99 (by decide) rfl ?_
          refine rn_aload_n C dX3_freeze_101 rfl ?_
          refine rs_get C dX3_freeze_102 fl_X3_24 hF0 rfl ?_
          refine rn_iload C dX3_freeze_105 rfl ?_
          refine rn_lload C dX3_freeze_107 rfl ?_
          refine rn_aload_n C dX3_freeze_109 rfl ?_
          refine rs_get C dX3_freeze_110 fl_X3_56 hF0 rfl ?_
          refine rn_land C dX3_freeze_113 rfl ?_
          refine rs_lastore C dX3_freeze_114 hf5 rfl (by omega) (by decide) ?_
          refine rn_lload C dX3_freeze_115 rfl ?_
          refine rn_aload_n C dX3_freeze_117 rfl ?_
          refine rs_get C dX3_freeze_118 fl_X3_50 hF0 rfl ?_
          refine rn_lshr C dX3_freeze_121 rfl ?_
          refine rn_lstore_n (lv' := [(0, _), (1, _), (2, _), (4, _), (5, _)]) C dX3_freeze_122 (by decide) rfl ?_
          refine rn_iinc (lv' := [(0, _), (1, _), (2, _), (4, _), (5, _)]) C dX3_freeze_123 rfl (nI_inc _) (by decide) rfl ?_
          refine rn_goto (tgt := 73) C dX3_freeze_126 (by decide) ?_
          exact rn_ks [0, 1, 2, 4] ih73 rfl
      exact lp73 0 (Nat.zero_le _)
    · skip
      refine rn_iload_n C dX3_freeze_2 rfl ?_
      refine rn_aload_n C dX3_freeze_3 rfl ?_
      refine rs_get C dX3_freeze_4 fl_X3_47 hF0 rfl ?_
      refine rs_ge (tgt := 32) C dX3_freeze_7 (by decide) rfl rfl (by omega) (by omega) (fun q => absurd q (by omega)) (fun _ => ?_)
      refine rn_aload_n C dX3_freeze_10 rfl ?_
      refine rs_get C dX3_freeze_11 fl_X3_21 hF0 rfl ?_
      refine rn_iload_n C dX3_freeze_14 rfl ?_
      refine rn_aload_n C dX3_freeze_15 rfl ?_
      refine rn_iload_n C dX3_freeze_16 rfl ?_
      refine rs_laload C dX3_freeze_17 ha rfl (by omega) (by decide) ?_
      refine rn_aload_n C dX3_freeze_18 rfl ?_
      refine rs_get C dX3_freeze_19 fl_X3_15 hF0 rfl ?_
      refine rn_iload_n C dX3_freeze_22 rfl ?_
      refine rs_laload C dX3_freeze_23 hf2 rfl (by omega) (by decide) ?_
      refine rn_ladd C dX3_freeze_24 rfl ?_
      refine rs_lastore C dX3_freeze_25 hf4 rfl (by omega) (by decide) ?_
      refine rn_iinc (lv' := [(0, _), (1, _), (2, _)]) C dX3_freeze_26 rfl (nI_inc _) (by decide) rfl ?_
      refine rn_goto (tgt := 2) C dX3_freeze_29 (by decide) ?_
      exact rn_ks [0, 1, 2] ih2 rfl
  exact lp2 0 (Nat.zero_le _)
def isFZ_l4 (c : Bool) (o : Nat) (S : StT) (z1 : Int64) : Nat → Int64
  | 0 => z1
  | i4 + 1 => let y4_0 := (isFZ_l4 c o S z1 i4); y4_0 ||| (S.2.1 (o + 4) (i4))
def isFZ_f (c : Bool) (o : Nat) (S : StT) : Int32 × StT := (if (lg_cmp ((isFZ_l4 c o S 0 (fL c))) (0)) ≠ 0 then (nI (0), S) else (nI (1), S))
theorem isFZ_z (c : Bool) (o : Nat) (S : StT) : narrow .boolean (.int (isFZ_f c o S).1) = .int (isFZ_f c o S).1 := by unfold isFZ_f; split <;> first | exact nz0 | exact nz1
set_option maxRecDepth 100000 in
set_option maxHeartbeats 4000000 in
theorem c_isFZ {k : KX} {L : Nat → Option Sh} {S : StT} {n : Nat} {c : Bool} {o : Nat} (hF : FieldAt k L o c) :
    Cs k yX3_isFrozenZero cX3_isFrozenZero 4 (some .boolean) 0 0 0 [.ref (k_b k + (o))] (inst k L S.1 S.2.1 S.2.2) n (Pi k L n (isFZ_f c o S)) := by
  refine cs_of (by decide) (Nat.le_of_ble_eq_true rfl) ?_
  intro X hXk C Rt hnm
  subst hXk
  have hF9 := hF
  obtain ⟨hF0, hf1, hf2, hf3, hf4, hf5, hf6, hf7, hf8, hf9⟩ := hF9
  obtain ⟨hl1, hl2⟩ := fL_le c
  refine rn_lv [(0, .ref (k_b X.1 + (o)))] (fun q h => h) ?_
  refine rn_lconst (v := 0) C dX3_isFrozenZero_0 rfl ?_
  refine rn_lstore_n (lv' := [(0, _), (1, _)]) C dX3_isFrozenZero_1 (by decide) rfl ?_
  refine rn_iconst (v := nI 0) C dX3_isFrozenZero_2 rfl ?_
  refine rn_istore_n (lv' := [(0, _), (1, _), (3, _)]) C dX3_isFrozenZero_3 (by decide) rfl ?_
  have lp4 : ∀ i4, i4 ≤ fL c → Rn X 4 [(0, .ref (k_b X.1 + (o))), (1, .long ((isFZ_l4 c o S 0 i4))), (3, .int (nI (i4)))] [] (inst X.1 L S.1 S.2.1 S.2.2) n 0 0 := by
    refine upto _ _ ?_ (fun i4 hi4 ih4 => ?_)
    · skip
      refine rn_iload_n C dX3_isFrozenZero_4 rfl ?_
      refine rn_aload_n C dX3_isFrozenZero_5 rfl ?_
      refine rs_get C dX3_isFrozenZero_6 fl_X3_47 hF0 rfl ?_
      refine rs_ge (tgt := 27) C dX3_isFrozenZero_9 (by decide) rfl rfl (by omega) (by omega) (fun _ => ?_) (fun q => absurd q (by omega))
      refine rn_lload_n C dX3_isFrozenZero_27 rfl ?_
      refine rn_lconst (v := 0) C dX3_isFrozenZero_28 rfl ?_
      refine rn_lcmp C dX3_isFrozenZero_29 ?_
      refine rn_if_ne (tgt := 37) C dX3_isFrozenZero_30 (by decide) (fun hb1 => ?_) (fun hb1 => ?_)
      · skip
        refine rn_iconst (v := nI 0) C dX3_isFrozenZero_37 rfl ?_
        exact rn_zret C Rt dX3_isFrozenZero_38 (by first | rfl | exact rfl) (pi_of (if_pos hb1)) (Nat.zero_le _) (Nat.zero_le _)
      · skip
        refine rn_iconst (v := nI 1) C dX3_isFrozenZero_33 rfl ?_
        refine rn_goto (tgt := 38) C dX3_isFrozenZero_34 (by decide) ?_
        exact rn_zret C Rt dX3_isFrozenZero_38 (by first | rfl | exact rfl) (pi_of (if_neg (fun q => q hb1))) (Nat.zero_le _) (Nat.zero_le _)
    · skip
      refine rn_iload_n C dX3_isFrozenZero_4 rfl ?_
      refine rn_aload_n C dX3_isFrozenZero_5 rfl ?_
      refine rs_get C dX3_isFrozenZero_6 fl_X3_47 hF0 rfl ?_
      refine rs_ge (tgt := 27) C dX3_isFrozenZero_9 (by decide) rfl rfl (by omega) (by omega) (fun q => absurd q (by omega)) (fun _ => ?_)
      refine rn_lload_n C dX3_isFrozenZero_12 rfl ?_
      refine rn_aload_n C dX3_isFrozenZero_13 rfl ?_
      refine rs_get C dX3_isFrozenZero_14 fl_X3_21 hF0 rfl ?_
      refine rn_iload_n C dX3_isFrozenZero_17 rfl ?_
      refine rs_laload C dX3_isFrozenZero_18 hf4 rfl (by omega) (by decide) ?_
      refine rn_lor C dX3_isFrozenZero_19 rfl ?_
      refine rn_lstore_n (lv' := [(0, _), (1, _), (3, _)]) C dX3_isFrozenZero_20 (by decide) rfl ?_
      refine rn_iinc (lv' := [(0, _), (1, _), (3, _)]) C dX3_isFrozenZero_21 rfl (nI_inc _) (by decide) rfl ?_
      refine rn_goto (tgt := 4) C dX3_isFrozenZero_24 (by decide) ?_
      exact rn_ks [0, 1, 3] ih4 rfl
  exact lp4 0 (Nat.zero_le _)
theorem isFZ_S (c : Bool) (o : Nat) (S : StT) : (isFZ_f c o S).2 = S := by unfold isFZ_f; split <;> rfl
theorem cp_isFZ {k : KX} {L : Nat → Option Sh} {S : StT} {n : Nat} {c : Bool} {o : Nat} (hF : FieldAt k L o c) :
    Cs k yX3_isFrozenZero cX3_isFrozenZero 4 (some .boolean) 0 0 0 [.ref (k_b k + (o))] (inst k L S.1 S.2.1 S.2.2) n (Pi k L n ((isFZ_f c o S).1, S)) := by
  have h := c_isFZ (k := k) (L := L) (S := S) (n := n) (c := c) (o := o) hF
  have e : isFZ_f c o S = ((isFZ_f c o S).1, S) := Prod.ext rfl (isFZ_S c o S)
  rwa [e] at h
def fisZero_f (c : Bool) (o : Nat) (a : Nat) (S : StT) : Int32 × StT := ((isFZ_f c (o)  (freeze_f c (o) (a) S)).1, freeze_f c (o) (a) S)
theorem fisZero_z (c : Bool) (o a : Nat) (S : StT) : narrow .boolean (.int (fisZero_f c o a S).1) = .int (fisZero_f c o a S).1 := isFZ_z _ _ _
set_option maxRecDepth 100000 in
set_option maxHeartbeats 4000000 in
theorem c_fisZero {k : KX} {L : Nat → Option Sh} {S : StT} {n : Nat} {c : Bool} {o : Nat} {a : Nat} (hF : FieldAt k L o c) (ha : L a = some (sJ 16)) :
    Cs k yX3_isZero cX3_isZero 2 (some .boolean) 3 0 0 [.ref (k_b k + (o)), .ref (k_b k + (a))] (inst k L S.1 S.2.1 S.2.2) n (Pi k L n (fisZero_f c o a S)) := by
  refine cs_of (by decide) (Nat.le_of_ble_eq_true rfl) ?_
  intro X hXk C Rt hnm
  subst hXk
  have hF9 := hF
  obtain ⟨hF0, hf1, hf2, hf3, hf4, hf5, hf6, hf7, hf8, hf9⟩ := hF9
  obtain ⟨hl1, hl2⟩ := fL_le c
  refine rn_lv [(0, .ref (k_b X.1 + (o))), (1, .ref (k_b X.1 + (a)))] (fun q h => h) ?_
  refine rn_aload_n C dX3_isZero_0 rfl ?_
  refine rn_aload_n C dX3_isZero_1 rfl ?_
  refine rs_vv C dX3_isZero_2 mk_X3_freeze lv_X3_73 (c_freeze hF ha) hF0 rfl rfl rfl rfl (by decide) (Nat.le_of_ble_eq_true rfl) (by decide) (by decide) ?_
  refine rn_aload_n C dX3_isZero_5 rfl ?_
  refine rs_vz C dX3_isZero_6 mk_X3_isFrozenZero lv_X3_115 (cp_isFZ hF ) hF0 rfl rfl rfl rfl (by decide) (Nat.le_of_ble_eq_true rfl) (by decide) (by decide) ?_
  exact rn_zret C Rt dX3_isZero_9 (by first | rfl | exact isFZ_z _ _ _) (pi_of (tupi _ _)) (Nat.zero_le _) (Nat.zero_le _)
def fareEq_f (c : Bool) (o : Nat) (a : Nat) (b : Nat) (S : StT) : Int32 × StT := ((isFZ_f c (o)  (freeze_f c (o) (o + 9) (minus_f c (o + 9) (a) (b) S))).1, freeze_f c (o) (o + 9) (minus_f c (o + 9) (a) (b) S))
theorem fareEq_z (c : Bool) (o a b : Nat) (S : StT) : narrow .boolean (.int (fareEq_f c o a b S).1) = .int (fareEq_f c o a b S).1 := isFZ_z _ _ _
set_option maxRecDepth 100000 in
set_option maxHeartbeats 4000000 in
theorem c_fareEq {k : KX} {L : Nat → Option Sh} {S : StT} {n : Nat} {c : Bool} {o : Nat} {a : Nat} {b : Nat} (hF : FieldAt k L o c) (ha : L a = some (sJ 16)) (hb : L b = some (sJ 16)) :
    Cs k yX3_areEqual cX3_areEqual 3 (some .boolean) 3 0 0 [.ref (k_b k + (o)), .ref (k_b k + (a)), .ref (k_b k + (b))] (inst k L S.1 S.2.1 S.2.2) n (Pi k L n (fareEq_f c o a b S)) := by
  refine cs_of (by decide) (Nat.le_of_ble_eq_true rfl) ?_
  intro X hXk C Rt hnm
  subst hXk
  have hF9 := hF
  obtain ⟨hF0, hf1, hf2, hf3, hf4, hf5, hf6, hf7, hf8, hf9⟩ := hF9
  obtain ⟨hl1, hl2⟩ := fL_le c
  refine rn_lv [(0, .ref (k_b X.1 + (o))), (1, .ref (k_b X.1 + (a))), (2, .ref (k_b X.1 + (b)))] (fun q h => h) ?_
  refine rn_aload_n C dX3_areEqual_0 rfl ?_
  refine rn_aload_n C dX3_areEqual_1 rfl ?_
  refine rs_get C dX3_areEqual_2 fl_X3_36 hF0 rfl ?_
  refine rn_aload_n C dX3_areEqual_5 rfl ?_
  refine rn_aload_n C dX3_areEqual_6 rfl ?_
  refine rs_vv C dX3_areEqual_7 mk_X3_minus lv_X3_119 (c_minus hF hf9 ha hb) hF0 rfl rfl rfl rfl (by decide) (Nat.le_of_ble_eq_true rfl) (by decide) (by decide) ?_
  refine rn_aload_n C dX3_areEqual_10 rfl ?_
  refine rn_aload_n C dX3_areEqual_11 rfl ?_
  refine rs_get C dX3_areEqual_12 fl_X3_36 hF0 rfl ?_
  refine rs_vv C dX3_areEqual_15 mk_X3_freeze lv_X3_73 (c_freeze hF hf9) hF0 rfl rfl rfl rfl (by decide) (Nat.le_of_ble_eq_true rfl) (by decide) (by decide) ?_
  refine rn_aload_n C dX3_areEqual_18 rfl ?_
  refine rs_vz C dX3_areEqual_19 mk_X3_isFrozenZero lv_X3_115 (cp_isFZ hF ) hF0 rfl rfl rfl rfl (by decide) (Nat.le_of_ble_eq_true rfl) (by decide) (by decide) ?_
  exact rn_zret C Rt dX3_areEqual_22 (by first | rfl | exact isFZ_z _ _ _) (pi_of (tupi _ _)) (Nat.zero_le _) (Nat.zero_le _)
def fisOdd_f (c : Bool) (o : Nat) (a : Nat) (S : StT) : Int32 × StT := (if (lg_cmp (((freeze_f c (o) (a) S).2.1 (o + 4) (0)) &&& 1) (1)) ≠ 0 then (nI (0), freeze_f c (o) (a) S) else (nI (1), freeze_f c (o) (a) S))
theorem fisOdd_z (c : Bool) (o a : Nat) (S : StT) : narrow .boolean (.int (fisOdd_f c o a S).1) = .int (fisOdd_f c o a S).1 := by unfold fisOdd_f; split <;> first | exact nz0 | exact nz1
set_option maxRecDepth 100000 in
set_option maxHeartbeats 4000000 in
theorem c_fisOdd {k : KX} {L : Nat → Option Sh} {S : StT} {n : Nat} {c : Bool} {o : Nat} {a : Nat} (hF : FieldAt k L o c) (ha : L a = some (sJ 16)) :
    Cs k yX3_isOdd cX3_isOdd 2 (some .boolean) 3 0 0 [.ref (k_b k + (o)), .ref (k_b k + (a))] (inst k L S.1 S.2.1 S.2.2) n (Pi k L n (fisOdd_f c o a S)) := by
  refine cs_of (by decide) (Nat.le_of_ble_eq_true rfl) ?_
  intro X hXk C Rt hnm
  subst hXk
  have hF9 := hF
  obtain ⟨hF0, hf1, hf2, hf3, hf4, hf5, hf6, hf7, hf8, hf9⟩ := hF9
  obtain ⟨hl1, hl2⟩ := fL_le c
  refine rn_lv [(0, .ref (k_b X.1 + (o))), (1, .ref (k_b X.1 + (a)))] (fun q h => h) ?_
  refine rn_aload_n C dX3_isOdd_0 rfl ?_
  refine rn_aload_n C dX3_isOdd_1 rfl ?_
  refine rs_vv C dX3_isOdd_2 mk_X3_freeze lv_X3_73 (c_freeze hF ha) hF0 rfl rfl rfl rfl (by decide) (Nat.le_of_ble_eq_true rfl) (by decide) (by decide) ?_
  refine rn_aload_n C dX3_isOdd_5 rfl ?_
  refine rs_get C dX3_isOdd_6 fl_X3_21 hF0 rfl ?_
  refine rn_iconst (v := nI 0) C dX3_isOdd_9 rfl ?_
  refine rs_laload C dX3_isOdd_10 hf4 rfl (by omega) (by decide) ?_
  refine rn_lconst (v := 1) C dX3_isOdd_11 rfl ?_
  refine rn_land C dX3_isOdd_12 rfl ?_
  refine rn_lconst (v := 1) C dX3_isOdd_13 rfl ?_
  refine rn_lcmp C dX3_isOdd_14 ?_
  refine rn_if_ne (tgt := 22) C dX3_isOdd_15 (by decide) (fun hb1 => ?_) (fun hb1 => ?_)
  · skip
    refine rn_iconst (v := nI 0) C dX3_isOdd_22 rfl ?_
    exact rn_zret C Rt dX3_isOdd_23 (by first | rfl | exact rfl) (pi_of ((if_pos hb1).trans (tupi _ _))) (Nat.zero_le _) (Nat.zero_le _)
  · skip
    refine rn_iconst (v := nI 1) C dX3_isOdd_18 rfl ?_
    refine rn_goto (tgt := 23) C dX3_isOdd_19 (by decide) ?_
    exact rn_zret C Rt dX3_isOdd_23 (by first | rfl | exact rfl) (pi_of ((if_neg (fun q => q hb1)).trans (tupi _ _))) (Nat.zero_le _) (Nat.zero_le _)
