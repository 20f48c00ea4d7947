/-! CurveSuite$Shake256: methods as functions of the contents, by program (dc.py, spec_shake.py) -/
def sturn_f (v : Int64) (r : Int32) (S : StT) : Int64 × StT := ((v <<< ((r).toInt64 &&& 63)) ||| ((v.toUInt64 >>> (((nI (64)) - (r)).toInt64.toUInt64 &&& Int64.toUInt64 63)).toInt64), S)
set_option maxRecDepth 100000 in
set_option maxHeartbeats 200000 in
theorem c_sturn {k : KX} {L : Nat → Option Sh} {S : StT} {n : Nat} {v : Int64} {r : Int32}  :
    Cs k yX9_turn cX9_turn 3 (some .long) 0 0 0 [.long (v), .int (r)] (inst k L S.1 S.2.1 S.2.2) n (Pl k L n (sturn_f v r S)) := by
  refine cs_of (by decide) (Nat.le_of_ble_eq_true rfl) ?_
  intro X hXk C Rt hnm
  subst hXk
  refine rn_lv [(0, .long (v)), (2, .int (r))] (fun q h => h) ?_
  refine rn_lload_n C dX9_turn_0 rfl ?_
  refine rn_iload_n C dX9_turn_1 rfl ?_
  refine rn_lshl C dX9_turn_2 rfl ?_
  refine rn_lload_n C dX9_turn_3 rfl ?_
  refine rn_bipush (v := nI 64) C dX9_turn_4 rfl ?_
  refine rn_iload_n C dX9_turn_6 rfl ?_
  refine rn_isub C dX9_turn_7 rfl ?_
  refine rn_lushr C dX9_turn_8 rfl ?_
  refine rn_lor C dX9_turn_9 rfl ?_
  exact rn_lret C Rt dX9_turn_10 (pl_of rfl) (Nat.zero_le _) (Nat.zero_le _)
theorem sturn_S (v : Int64) (r : Int32) (S : StT) : (sturn_f v r S).2 = S := rfl
theorem cp_sturn {k : KX} {L : Nat → Option Sh} {S : StT} {n : Nat} {v : Int64} {r : Int32}  :
    Cs k yX9_turn cX9_turn 3 (some .long) 0 0 0 [.long (v), .int (r)] (inst k L S.1 S.2.1 S.2.2) n (Pl k L n ((sturn_f v r S).1, S)) := by
  have h := c_sturn (k := k) (L := L) (S := S) (n := n) (v := v) (r := r) 
  have e : sturn_f v r S = ((sturn_f v r S).1, S) := Prod.ext rfl (sturn_S v r S)
  rwa [e] at h
def smix_f (so : Nat) (at_ : Nat) (v : Int32) (S : StT) : StT := (let J1 := va_up S.2.1 (so + 1) (vp_updL (S.2.1 (so + 1)) (at_ / 2 ^ 3) ((S.2.1 (so + 1) (at_ / 2 ^ 3)) ^^^ (((v).toInt64) <<< ((nI (8 * (at_ % 2 ^ 3))).toInt64 &&& 63)))); (S.1, J1, S.2.2))
set_option maxRecDepth 100000 in
set_option maxHeartbeats 200000 in
theorem c_smix {k : KX} {L : Nat → Option Sh} {S : StT} {n : Nat} {so : Nat} {at_ : Nat} {v : Int32} (hS : ShakeAt k L so) (hat : at_ < 200) :
    Cs k yX9_mix cX9_mix 3 none 0 0 0 [.ref (k_b k + (so)), .int (nI (at_)), .int (v)] (inst k L S.1 S.2.1 S.2.2) n (Pv k L n (smix_f so at_ v S)) := by
  refine cs_of (by decide) (Nat.le_of_ble_eq_true rfl) ?_
  intro X hXk C Rt hnm
  subst hXk
  have hS9 := hS
  obtain ⟨hS0, hs1, hs2⟩ := hS9
  refine rn_lv [(0, .ref (k_b X.1 + (so))), (1, .int (nI (at_))), (2, .int (v))] (fun q h => h) ?_
  refine rn_aload_n C dX9_mix_0 rfl ?_
  refine rs_get C dX9_mix_1 fl_X9_7 hS0 rfl ?_
  refine rn_iload_n C dX9_mix_4 rfl ?_
  refine rn_iconst (v := nI 3) C dX9_mix_5 rfl ?_
  refine rn_ishr C dX9_mix_6 (pk_shrN (by omega) _ 3 (by decide)) ?_
  refine rn_dup2 C dX9_mix_7 rfl rfl ?_
  refine rs_laload C dX9_mix_8 hs1 rfl (by omega) (by decide) ?_
  refine rn_iload_n C dX9_mix_9 rfl ?_
  refine rn_i2l C dX9_mix_10 rfl ?_
  refine rn_bipush (v := nI 8) C dX9_mix_11 rfl ?_
  refine rn_iload_n C dX9_mix_13 rfl ?_
  refine rn_bipush (v := nI 7) C dX9_mix_14 rfl ?_
  refine rn_iand C dX9_mix_16 (pk_andN (by omega) 3 (by decide)) ?_
  refine rn_imul C dX9_mix_17 (pk_mul _ _) ?_
  refine rn_lshl C dX9_mix_18 rfl ?_
  refine rn_lxor C dX9_mix_19 rfl ?_
  refine rs_lastore C dX9_mix_20 hs1 rfl (by omega) (by decide) ?_
  exact rn_vret C Rt dX9_mix_21 (pv_of rfl) (Nat.zero_le _) (Nat.zero_le _)
def smixC_l100 (so : Nat) (i66 : Nat) (y66_0 : (Nat → Nat → Int64)) (v1 : Int64) (S : StT)  : Nat → (Nat → Nat → Int64)
  | 0 => S.2.1
  | i100 + 1 => let y100_0 := (smixC_l100 so i66 y66_0 v1 S i100); (let J2 := va_up y100_0 (so + 1) (vp_updL (y100_0 (so + 1)) (5 * i100 + i66) ((y100_0 (so + 1) (5 * i100 + i66)) ^^^ v1)); J2)
def smixC_l66 (so : Nat) (S : StT)  : Nat → (Nat → Nat → Int64)
  | 0 => S.2.1
  | i66 + 1 => let y66_0 := (smixC_l66 so S i66); (let v1 := (y66_0 (so + 2) ((i66 + 4) % 5)) ^^^ (sturn_f (y66_0 (so + 2) ((i66 + 1) % 5)) (nI (1)) (S.1, y66_0, S.2.2)).1; (smixC_l100 so i66 y66_0 v1 (S.1, y66_0, S.2.2) 5))
def smixC_l2 (so : Nat) (S : StT)  : Nat → (Nat → Nat → Int64)
  | 0 => S.2.1
  | i2 + 1 => let y2_0 := (smixC_l2 so S i2); (let J3 := va_up y2_0 (so + 2) (vp_updL (y2_0 (so + 2)) (i2) (((((y2_0 (so + 1) (i2)) ^^^ (y2_0 (so + 1) (i2 + 5))) ^^^ (y2_0 (so + 1) (i2 + 10))) ^^^ (y2_0 (so + 1) (i2 + 15))) ^^^ (y2_0 (so + 1) (i2 + 20)))); J3)
def smixC_f (so : Nat) (S : StT) : StT := (S.1, (smixC_l66 so (S.1, (smixC_l2 so S 5), S.2.2) 5), S.2.2)
set_option maxRecDepth 100000 in
set_option maxHeartbeats 200000 in
theorem c_smixC {k : KX} {L : Nat → Option Sh} {S : StT} {n : Nat} {so : Nat} (hS : ShakeAt k L so) :
    Cs k yX9_mixColumns cX9_mixColumns 5 none 1 0 0 [.ref (k_b k + (so))] (inst k L S.1 S.2.1 S.2.2) n (Pv k L n (smixC_f so S)) := by
  refine cs_of (by decide) (Nat.le_of_ble_eq_true rfl) ?_
  intro X hXk C Rt hnm
  subst hXk
  have hS9 := hS
  obtain ⟨hS0, hs1, hs2⟩ := hS9
  refine rn_lv [(0, .ref (k_b X.1 + (so)))] (fun q h => h) ?_
  refine rn_iconst (v := nI 0) C dX9_mixColumns_0 rfl ?_
  refine rn_istore_n (lv' := [(0, _), (1, _)]) C dX9_mixColumns_1 (by decide) rfl ?_
  have lp2 : ∀ i2, i2 ≤ 5 → Rn X 2 [(0, .ref (k_b X.1 + (so))), (1, .int (nI (i2)))] [] (inst X.1 L S.1 (smixC_l2 so S i2) S.2.2) n 0 0 := by
    refine upto _ _ ?_ (fun i2 hi2 ih2 => ?_)
    · skip
      refine rn_iload_n C dX9_mixColumns_2 rfl ?_
      refine rn_iconst (v := nI 5) C dX9_mixColumns_3 rfl ?_
      refine rs_ge (tgt := 64) C dX9_mixColumns_4 (by decide) rfl rfl (by omega) (by omega) (fun _ => ?_) (fun q => absurd q (by omega))
      refine rn_iconst (v := nI 0) C dX9_mixColumns_64 rfl ?_
      refine rn_istore_n (lv' := [(0, _), (1, _)]) C dX9_mixColumns_65 (by decide) rfl ?_
      have lp66 : ∀ i66, i66 ≤ 5 → Rn X 66 [(0, .ref (k_b X.1 + (so))), (1, .int (nI (i66)))] [] (inst X.1 L S.1 (smixC_l66 so (S.1, (smixC_l2 so S 5), S.2.2) i66) S.2.2) n 0 0 := by
        refine upto _ _ ?_ (fun i66 hi66 ih66 => ?_)
        · skip
          refine rn_iload_n C dX9_mixColumns_66 rfl ?_
          refine rn_iconst (v := nI 5) C dX9_mixColumns_67 rfl ?_
          refine rs_ge (tgt := 132) C dX9_mixColumns_68 (by decide) rfl rfl (by omega) (by omega) (fun _ => ?_) (fun q => absurd q (by omega))
          exact rn_vret C Rt dX9_mixColumns_132 (pv_of rfl) (Nat.zero_le _) (Nat.zero_le _)
        · skip
          refine rn_iload_n C dX9_mixColumns_66 rfl ?_
          refine rn_iconst (v := nI 5) C dX9_mixColumns_67 rfl ?_
          refine rs_ge (tgt := 132) C dX9_mixColumns_68 (by decide) rfl rfl (by omega) (by omega) (fun q => absurd q (by omega)) (fun _ => ?_)
          refine rn_aload_n C dX9_mixColumns_71 rfl ?_
          refine rs_get C dX9_mixColumns_72 fl_X9_13 hS0 rfl ?_
          refine rn_iload_n C dX9_mixColumns_75 rfl ?_
          refine rn_iconst (v := nI 4) C dX9_mixColumns_76 rfl ?_
          refine rn_iadd C dX9_mixColumns_77 (nI_add _ _) ?_
          refine rn_iconst (v := nI 5) C dX9_mixColumns_78 rfl ?_
          refine rn_irem C dX9_mixColumns_79 (by decide) (pk_rem (by omega) (by omega) (by omega)) ?_
          refine rs_laload C dX9_mixColumns_80 hs2 rfl (by omega) (by decide) ?_
          refine rn_aload_n C dX9_mixColumns_81 rfl ?_
          refine rs_get C dX9_mixColumns_82 fl_X9_13 hS0 rfl ?_
          refine rn_iload_n C dX9_mixColumns_85 rfl ?_
          refine rn_iconst (v := nI 1) C dX9_mixColumns_86 rfl ?_
          refine rn_iadd C dX9_mixColumns_87 (nI_add _ _) ?_
          refine rn_iconst (v := nI 5) C dX9_mixColumns_88 rfl ?_
          refine rn_irem C dX9_mixColumns_89 (by decide) (pk_rem (by omega) (by omega) (by omega)) ?_
          refine rs_laload C dX9_mixColumns_90 hs2 rfl (by omega) (by decide) ?_
          refine rn_iconst (v := nI 1) C dX9_mixColumns_91 rfl ?_
          refine rs_sl C dX9_mixColumns_92 mk_X9_turn ls_X9_51 (cp_sturn (S := ((S.1, (smixC_l2 so S 5), S.2.2).1, (smixC_l66 so (S.1, (smixC_l2 so S 5), S.2.2) i66), (S.1, (smixC_l2 so S 5), S.2.2).2.2)) ) rfl rfl (by decide) (Nat.le_of_ble_eq_true rfl) (by decide) (by decide) ?_
          refine rn_lxor C dX9_mixColumns_95 rfl ?_
          refine rn_lstore_n (lv' := [(0, _), (1, _), (2, _)]) C dX9_mixColumns_96 (by decide) rfl ?_
          refine rn_iconst (v := nI 0) C dX9_mixColumns_97 rfl ?_
          refine rn_istore (lv' := [(0, _), (1, _), (2, _), (4, _)]) C dX9_mixColumns_98 (by decide) rfl ?_
          have lp100 : ∀ i100, i100 ≤ 5 → Rn X 100 [(0, .ref (k_b X.1 + (so))), (1, .int (nI (i66))), (2, .long ((((smixC_l66 so (S.1, (smixC_l2 so S 5), S.2.2) i66) (so + 2) ((i66 + 4) % 5)) ^^^ (sturn_f ((smixC_l66 so (S.1, (smixC_l2 so S 5), S.2.2) i66) (so + 2) ((i66 + 1) % 5)) (nI (1)) ((S.1, (smixC_l2 so S 5), S.2.2).1, (smixC_l66 so (S.1, (smixC_l2 so S 5), S.2.2) i66), (S.1, (smixC_l2 so S 5), S.2.2).2.2)).1))), (4, .int (nI (5 * i100)))] [] (inst X.1 L (S.1, (smixC_l2 so S 5), S.2.2).1 (smixC_l100 so i66 (smixC_l66 so (S.1, (smixC_l2 so S 5), S.2.2) i66) (((smixC_l66 so (S.1, (smixC_l2 so S 5), S.2.2) i66) (so + 2) ((i66 + 4) % 5)) ^^^ (sturn_f ((smixC_l66 so (S.1, (smixC_l2 so S 5), S.2.2) i66) (so + 2) ((i66 + 1) % 5)) (nI (1)) ((S.1, (smixC_l2 so S 5), S.2.2).1, (smixC_l66 so (S.1, (smixC_l2 so S 5), S.2.2) i66), (S.1, (smixC_l2 so S 5), S.2.2).2.2)).1) ((S.1, (smixC_l2 so S 5), S.2.2).1, (smixC_l66 so (S.1, (smixC_l2 so S 5), S.2.2) i66), (S.1, (smixC_l2 so S 5), S.2.2).2.2) i100) (S.1, (smixC_l2 so S 5), S.2.2).2.2) n 0 0 := by
            refine upto _ _ ?_ (fun i100 hi100 ih100 => ?_)
            · skip
              refine rn_iload C dX9_mixColumns_100 rfl ?_
              refine rn_bipush (v := nI 25) C dX9_mixColumns_102 rfl ?_
              refine rs_ge (tgt := 126) C dX9_mixColumns_104 (by decide) rfl rfl (by omega) (by omega) (fun _ => ?_) (fun q => absurd q (by omega))
              refine rn_iinc (lv' := [(0, _), (1, _), (2, _), (4, _)]) C dX9_mixColumns_126 rfl (nI_inc _) (by decide) rfl ?_
              refine rn_goto (tgt := 66) C dX9_mixColumns_129 (by decide) ?_
              exact rn_ks [0, 1] ih66 rfl
            · skip
              refine rn_iload C dX9_mixColumns_100 rfl ?_
              refine rn_bipush (v := nI 25) C dX9_mixColumns_102 rfl ?_
              refine rs_ge (tgt := 126) C dX9_mixColumns_104 (by decide) rfl rfl (by omega) (by omega) (fun q => absurd q (by omega)) (fun _ => ?_)
              refine rn_aload_n C dX9_mixColumns_107 rfl ?_
              refine rs_get C dX9_mixColumns_108 fl_X9_7 hS0 rfl ?_
              refine rn_iload C dX9_mixColumns_111 rfl ?_
              refine rn_iload_n C dX9_mixColumns_113 rfl ?_
              refine rn_iadd C dX9_mixColumns_114 (nI_add _ _) ?_
              refine rn_dup2 C dX9_mixColumns_115 rfl rfl ?_
              refine rs_laload C dX9_mixColumns_116 hs1 rfl (by omega) (by decide) ?_
              refine rn_lload_n C dX9_mixColumns_117 rfl ?_
              refine rn_lxor C dX9_mixColumns_118 rfl ?_
              refine rs_lastore C dX9_mixColumns_119 hs1 rfl (by omega) (by decide) ?_
              refine rn_iinc (lv' := [(0, _), (1, _), (2, _), (4, _)]) C dX9_mixColumns_120 rfl (nI_incs _ 5) (by decide) rfl ?_
              refine rn_goto (tgt := 100) C dX9_mixColumns_123 (by decide) ?_
              exact rn_ks [0, 1, 2, 4] ih100 rfl
          exact lp100 0 (Nat.zero_le _)
      exact lp66 0 (Nat.zero_le _)
    · skip
      refine rn_iload_n C dX9_mixColumns_2 rfl ?_
      refine rn_iconst (v := nI 5) C dX9_mixColumns_3 rfl ?_
      refine rs_ge (tgt := 64) C dX9_mixColumns_4 (by decide) rfl rfl (by omega) (by omega) (fun q => absurd q (by omega)) (fun _ => ?_)
      refine rn_aload_n C dX9_mixColumns_7 rfl ?_
      refine rs_get C dX9_mixColumns_8 fl_X9_13 hS0 rfl ?_
      refine rn_iload_n C dX9_mixColumns_11 rfl ?_
      refine rn_aload_n C dX9_mixColumns_12 rfl ?_
      refine rs_get C dX9_mixColumns_13 fl_X9_7 hS0 rfl ?_
      refine rn_iload_n C dX9_mixColumns_16 rfl ?_
      refine rs_laload C dX9_mixColumns_17 hs1 rfl (by omega) (by decide) ?_
      refine rn_aload_n C dX9_mixColumns_18 rfl ?_
      refine rs_get C dX9_mixColumns_19 fl_X9_7 hS0 rfl ?_
      refine rn_iload_n C dX9_mixColumns_22 rfl ?_
      refine rn_iconst (v := nI 5) C dX9_mixColumns_23 rfl ?_
      refine rn_iadd C dX9_mixColumns_24 (nI_add _ _) ?_
      refine rs_laload C dX9_mixColumns_25 hs1 rfl (by omega) (by decide) ?_
      refine rn_lxor C dX9_mixColumns_26 rfl ?_
      refine rn_aload_n C dX9_mixColumns_27 rfl ?_
      refine rs_get C dX9_mixColumns_28 fl_X9_7 hS0 rfl ?_
      refine rn_iload_n C dX9_mixColumns_31 rfl ?_
      refine rn_bipush (v := nI 10) C dX9_mixColumns_32 rfl ?_
      refine rn_iadd C dX9_mixColumns_34 (nI_add _ _) ?_
      refine rs_laload C dX9_mixColumns_35 hs1 rfl (by omega) (by decide) ?_
      refine rn_lxor C dX9_mixColumns_36 rfl ?_
      refine rn_aload_n C dX9_mixColumns_37 rfl ?_
      refine rs_get C dX9_mixColumns_38 fl_X9_7 hS0 rfl ?_
      refine rn_iload_n C dX9_mixColumns_41 rfl ?_
      refine rn_bipush (v := nI 15) C dX9_mixColumns_42 rfl ?_
      refine rn_iadd C dX9_mixColumns_44 (nI_add _ _) ?_
      refine rs_laload C dX9_mixColumns_45 hs1 rfl (by omega) (by decide) ?_
      refine rn_lxor C dX9_mixColumns_46 rfl ?_
      refine rn_aload_n C dX9_mixColumns_47 rfl ?_
      refine rs_get C dX9_mixColumns_48 fl_X9_7 hS0 rfl ?_
      refine rn_iload_n C dX9_mixColumns_51 rfl ?_
      refine rn_bipush (v := nI 20) C dX9_mixColumns_52 rfl ?_
      refine rn_iadd C dX9_mixColumns_54 (nI_add _ _) ?_
      refine rs_laload C dX9_mixColumns_55 hs1 rfl (by omega) (by decide) ?_
      refine rn_lxor C dX9_mixColumns_56 rfl ?_
      refine rs_lastore C dX9_mixColumns_57 hs2 rfl (by omega) (by decide) ?_
      refine rn_iinc (lv' := [(0, _), (1, _)]) C dX9_mixColumns_58 rfl (nI_inc _) (by decide) rfl ?_
      refine rn_goto (tgt := 2) C dX9_mixColumns_61 (by decide) ?_
      exact rn_ks [0, 1] ih2 rfl
  exact lp2 0 (Nat.zero_le _)
def smove_l9 (so : Nat) (S : StT) (z1 : Int64) : Nat → Int64 × (Nat → Nat → Int64)
  | 0 => (z1, S.2.1)
  | i9 + 1 => let y9_0 := (smove_l9 so S z1 i9).1; let y9_1 := (smove_l9 so S z1 i9).2; (let J1 := va_up y9_1 (so + 1) (vp_updL (y9_1 (so + 1)) (nlN (i9)) ((sturn_f (y9_0) (nI (tnN (i9))) (S.1, y9_1, S.2.2)).1)); (y9_1 (so + 1) (nlN (i9)), J1))
def smove_f (so : Nat) (S : StT) : StT := (S.1, (smove_l9 so S (S.2.1 (so + 1) (1)) 24).2, S.2.2)
set_option maxRecDepth 100000 in
set_option maxHeartbeats 200000 in
theorem c_smove {k : KX} {L : Nat → Option Sh} {S : StT} {n : Nat} {so : Nat} (hS : ShakeAt k L so) (hst : ∀ U, k_F k U → ShakeS k U) :
    Cs k yX9_moveLanes cX9_moveLanes 7 none 1 0 0 [.ref (k_b k + (so))] (inst k L S.1 S.2.1 S.2.2) n (Pv k L n (smove_f so S)) := by
  refine cs_of (by decide) (Nat.le_of_ble_eq_true rfl) ?_
  intro X hXk C Rt hnm
  subst hXk
  have hS9 := hS
  obtain ⟨hS0, hs1, hs2⟩ := hS9
  obtain ⟨⟨t1, hz1, ht1⟩, ⟨t2, hz2, ht2⟩, ⟨t3, hz3, ht3⟩⟩ := hst _ C.2.2.2.2.2.2.1.2.1
  refine rn_lv [(0, .ref (k_b X.1 + (so)))] (fun q h => h) ?_
  refine rn_aload_n C dX9_moveLanes_0 rfl ?_
  refine rs_get C dX9_moveLanes_1 fl_X9_7 hS0 rfl ?_
  refine rn_iconst (v := nI 1) C dX9_moveLanes_4 rfl ?_
  refine rs_laload C dX9_moveLanes_5 hs1 rfl (by omega) (by decide) ?_
  refine rn_lstore_n (lv' := [(0, _), (1, _)]) C dX9_moveLanes_6 (by decide) rfl ?_
  refine rn_iconst (v := nI 0) C dX9_moveLanes_7 rfl ?_
  refine rn_istore_n (lv' := [(0, _), (1, _), (3, _)]) C dX9_moveLanes_8 (by decide) rfl ?_
  have lp9 : ∀ i9, i9 ≤ 24 → Rn X 9 [(0, .ref (k_b X.1 + (so))), (1, .long ((smove_l9 so S (S.2.1 (so + 1) (1)) i9).1)), (3, .int (nI (i9)))] [] (inst X.1 L S.1 (smove_l9 so S (S.2.1 (so + 1) (1)) i9).2 S.2.2) n 0 0 := by
    refine upto _ _ ?_ (fun i9 hi9 ih9 => ?_)
    · skip
      refine rn_iload_n C dX9_moveLanes_9 rfl ?_
      refine rn_gets C dX9_moveLanes_10 gs_X9_55 hz2 ?_
      refine rn_stlen C dX9_moveLanes_13 ht2 ?_
      refine rs_ge (tgt := 58) C dX9_moveLanes_14 (by decide) rfl rfl (by omega) (by omega) (fun _ => ?_) (fun q => absurd q (by omega))
      exact rn_vret C Rt dX9_moveLanes_58 (pv_of rfl) (Nat.zero_le _) (Nat.zero_le _)
    · skip
      have hnl := nlN_lt i9 hi9
      refine rn_iload_n C dX9_moveLanes_9 rfl ?_
      refine rn_gets C dX9_moveLanes_10 gs_X9_55 hz2 ?_
      refine rn_stlen C dX9_moveLanes_13 ht2 ?_
      refine rs_ge (tgt := 58) C dX9_moveLanes_14 (by decide) rfl rfl (by omega) (by omega) (fun q => absurd q (by omega)) (fun _ => ?_)
      refine rn_gets C dX9_moveLanes_17 gs_X9_55 hz2 ?_
      refine rn_iload_n C dX9_moveLanes_20 rfl ?_
      refine rn_sti C dX9_moveLanes_21 ht2 rfl (by omega) (by decide) ?_
      refine rn_istore (lv' := [(0, _), (1, _), (3, _), (4, _)]) C dX9_moveLanes_22 (by decide) rfl ?_
      refine rn_aload_n C dX9_moveLanes_24 rfl ?_
      refine rs_get C dX9_moveLanes_25 fl_X9_7 hS0 rfl ?_
      refine rn_iload C dX9_moveLanes_28 rfl ?_
      refine rs_laload C dX9_moveLanes_30 hs1 rfl (by omega) (by decide) ?_
      refine rn_lstore (lv' := [(0, _), (1, _), (3, _), (4, _), (5, _)]) C dX9_moveLanes_31 (by decide) rfl ?_
      refine rn_aload_n C dX9_moveLanes_33 rfl ?_
      refine rs_get C dX9_moveLanes_34 fl_X9_7 hS0 rfl ?_
      refine rn_iload C dX9_moveLanes_37 rfl ?_
      refine rn_lload_n C dX9_moveLanes_39 rfl ?_
      refine rn_gets C dX9_moveLanes_40 gs_X9_58 hz3 ?_
      refine rn_iload_n C dX9_moveLanes_43 rfl ?_
      refine rn_sti C dX9_moveLanes_44 ht3 rfl (by omega) (by decide) ?_
      refine rs_sl C dX9_moveLanes_45 mk_X9_turn ls_X9_51 (cp_sturn (S := (S.1, (smove_l9 so S (S.2.1 (so + 1) (1)) i9).2, S.2.2)) ) rfl rfl (by decide) (Nat.le_of_ble_eq_true rfl) (by decide) (by decide) ?_
      refine rs_lastore C dX9_moveLanes_48 hs1 rfl (by omega) (by decide) ?_
      refine rn_lload C dX9_moveLanes_49 rfl ?_
      refine rn_lstore_n (lv' := [(0, _), (1, _), (3, _), (4, _), (5, _)]) C dX9_moveLanes_51 (by decide) rfl ?_
      refine rn_iinc (lv' := [(0, _), (1, _), (3, _), (4, _), (5, _)]) C dX9_moveLanes_52 rfl (nI_inc _) (by decide) rfl ?_
      refine rn_goto (tgt := 9) C dX9_moveLanes_55 (by decide) ?_
      exact rn_ks [0, 1, 3] ih9 rfl
  exact lp9 0 (Nat.zero_le _)
def smixR_l24 (so : Nat) (i2 : Nat) (y2_0 : (Nat → Nat → Int64)) (S : StT)  : Nat → (Nat → Nat → Int64)
  | 0 => S.2.1
  | i24 + 1 => let y24_0 := (smixR_l24 so i2 y2_0 S i24); (let J1 := va_up y24_0 (so + 1) (vp_updL (y24_0 (so + 1)) (5 * i2 + i24) ((y24_0 (so + 2) (i24)) ^^^ (((y24_0 (so + 2) ((i24 + 1) % 5)) ^^^ (-1)) &&& (y24_0 (so + 2) ((i24 + 2) % 5))))); J1)
def smixR_l2 (so : Nat) (S : StT)  : Nat → (Nat → Nat → Int64)
  | 0 => S.2.1
  | i2 + 1 => let y2_0 := (smixR_l2 so S i2); (smixR_l24 so i2 y2_0 (S.1, va_up y2_0 (so + 2) (va_cpy (y2_0 (so + 1)) (y2_0 (so + 2)) (5 * i2) (0) (5)), S.2.2) 5)
def smixR_f (so : Nat) (S : StT) : StT := (S.1, (smixR_l2 so S 5), S.2.2)
set_option maxRecDepth 100000 in
set_option maxHeartbeats 200000 in
theorem c_smixR {k : KX} {L : Nat → Option Sh} {S : StT} {n : Nat} {so : Nat} (hS : ShakeAt k L so) :
    Cs k yX9_mixRows cX9_mixRows 3 none 1 0 0 [.ref (k_b k + (so))] (inst k L S.1 S.2.1 S.2.2) n (Pv k L n (smixR_f so S)) := by
  refine cs_of (by decide) (Nat.le_of_ble_eq_true rfl) ?_
  intro X hXk C Rt hnm
  subst hXk
  have hS9 := hS
  obtain ⟨hS0, hs1, hs2⟩ := hS9
  refine rn_lv [(0, .ref (k_b X.1 + (so)))] (fun q h => h) ?_
  refine rn_iconst (v := nI 0) C dX9_mixRows_0 rfl ?_
  refine rn_istore_n (lv' := [(0, _), (1, _)]) C dX9_mixRows_1 (by decide) rfl ?_
  have lp2 : ∀ i2, i2 ≤ 5 → Rn X 2 [(0, .ref (k_b X.1 + (so))), (1, .int (nI (5 * i2)))] [] (inst X.1 L S.1 (smixR_l2 so S i2) S.2.2) n 0 0 := by
    refine upto _ _ ?_ (fun i2 hi2 ih2 => ?_)
    · skip
      refine rn_iload_n C dX9_mixRows_2 rfl ?_
      refine rn_bipush (v := nI 25) C dX9_mixRows_3 rfl ?_
      refine rs_ge (tgt := 81) C dX9_mixRows_5 (by decide) rfl rfl (by omega) (by omega) (fun _ => ?_) (fun q => absurd q (by omega))
      exact rn_vret C Rt dX9_mixRows_81 (pv_of rfl) (Nat.zero_le _) (Nat.zero_le _)
    · skip
      refine rn_iload_n C dX9_mixRows_2 rfl ?_
      refine rn_bipush (v := nI 25) C dX9_mixRows_3 rfl ?_
      refine rs_ge (tgt := 81) C dX9_mixRows_5 (by decide) rfl rfl (by omega) (by omega) (fun q => absurd q (by omega)) (fun _ => ?_)
      refine rn_aload_n C dX9_mixRows_8 rfl ?_
      refine rs_get C dX9_mixRows_9 fl_X9_7 hS0 rfl ?_
      refine rn_iload_n C dX9_mixRows_12 rfl ?_
      refine rn_aload_n C dX9_mixRows_13 rfl ?_
      refine rs_get C dX9_mixRows_14 fl_X9_13 hS0 rfl ?_
      refine rn_iconst (v := nI 0) C dX9_mixRows_17 rfl ?_
      refine rn_iconst (v := nI 5) C dX9_mixRows_18 rfl ?_
      refine rs_copyJ C dX9_mixRows_19 lcp_X9_61 hs1 hs2 rfl rfl rfl (by omega) (by omega) (by decide) (by decide) (by decide) (by decide) ?_
      refine rn_iconst (v := nI 0) C dX9_mixRows_22 rfl ?_
      refine rn_istore_n (lv' := [(0, _), (1, _), (2, _)]) C dX9_mixRows_23 (by decide) rfl ?_
      have lp24 : ∀ i24, i24 ≤ 5 → Rn X 24 [(0, .ref (k_b X.1 + (so))), (1, .int (nI (5 * i2))), (2, .int (nI (i24)))] [] (inst X.1 L S.1 (smixR_l24 so i2 (smixR_l2 so S i2) (S.1, va_up (smixR_l2 so S i2) (so + 2) (va_cpy ((smixR_l2 so S i2) (so + 1)) ((smixR_l2 so S i2) (so + 2)) (5 * i2) (0) (5)), S.2.2) i24) S.2.2) n 0 0 := by
        refine upto _ _ ?_ (fun i24 hi24 ih24 => ?_)
        · skip
          refine rn_iload_n C dX9_mixRows_24 rfl ?_
          refine rn_iconst (v := nI 5) C dX9_mixRows_25 rfl ?_
          refine rs_ge (tgt := 75) C dX9_mixRows_26 (by decide) rfl rfl (by omega) (by omega) (fun _ => ?_) (fun q => absurd q (by omega))
          refine rn_iinc (lv' := [(0, _), (1, _), (2, _)]) C dX9_mixRows_75 rfl (nI_incs _ 5) (by decide) rfl ?_
          refine rn_goto (tgt := 2) C dX9_mixRows_78 (by decide) ?_
          exact rn_ks [0, 1] ih2 rfl
        · skip
          refine rn_iload_n C dX9_mixRows_24 rfl ?_
          refine rn_iconst (v := nI 5) C dX9_mixRows_25 rfl ?_
          refine rs_ge (tgt := 75) C dX9_mixRows_26 (by decide) rfl rfl (by omega) (by omega) (fun q => absurd q (by omega)) (fun _ => ?_)
          refine rn_aload_n C dX9_mixRows_29 rfl ?_
          refine rs_get C dX9_mixRows_30 fl_X9_7 hS0 rfl ?_
          refine rn_iload_n C dX9_mixRows_33 rfl ?_
          refine rn_iload_n C dX9_mixRows_34 rfl ?_
          refine rn_iadd C dX9_mixRows_35 (nI_add _ _) ?_
          refine rn_aload_n C dX9_mixRows_36 rfl ?_
          refine rs_get C dX9_mixRows_37 fl_X9_13 hS0 rfl ?_
          refine rn_iload_n C dX9_mixRows_40 rfl ?_
          refine rs_laload C dX9_mixRows_41 hs2 rfl (by omega) (by decide) ?_
          refine rn_aload_n C dX9_mixRows_42 rfl ?_
          refine rs_get C dX9_mixRows_43 fl_X9_13 hS0 rfl ?_
          refine rn_iload_n C dX9_mixRows_46 rfl ?_
          refine rn_iconst (v := nI 1) C dX9_mixRows_47 rfl ?_
          refine rn_iadd C dX9_mixRows_48 (nI_add _ _) ?_
          refine rn_iconst (v := nI 5) C dX9_mixRows_49 rfl ?_
          refine rn_irem C dX9_mixRows_50 (by decide) (pk_rem (by omega) (by omega) (by omega)) ?_
          refine rs_laload C dX9_mixRows_51 hs2 rfl (by omega) (by decide) ?_
          refine rn_ldc2 C dX9_mixRows_52 lc_X9_67 ?_
          refine rn_lxor C dX9_mixRows_55 rfl ?_
          refine rn_aload_n C dX9_mixRows_56 rfl ?_
          refine rs_get C dX9_mixRows_57 fl_X9_13 hS0 rfl ?_
          refine rn_iload_n C dX9_mixRows_60 rfl ?_
          refine rn_iconst (v := nI 2) C dX9_mixRows_61 rfl ?_
          refine rn_iadd C dX9_mixRows_62 (nI_add _ _) ?_
          refine rn_iconst (v := nI 5) C dX9_mixRows_63 rfl ?_
          refine rn_irem C dX9_mixRows_64 (by decide) (pk_rem (by omega) (by omega) (by omega)) ?_
          refine rs_laload C dX9_mixRows_65 hs2 rfl (by omega) (by decide) ?_
          refine rn_land C dX9_mixRows_66 rfl ?_
          refine rn_lxor C dX9_mixRows_67 rfl ?_
          refine rs_lastore C dX9_mixRows_68 hs1 rfl (by omega) (by decide) ?_
          refine rn_iinc (lv' := [(0, _), (1, _), (2, _)]) C dX9_mixRows_69 rfl (nI_inc _) (by decide) rfl ?_
          refine rn_goto (tgt := 24) C dX9_mixRows_72 (by decide) ?_
          exact rn_ks [0, 1, 2] ih24 rfl
      exact lp24 0 (Nat.zero_le _)
  exact lp2 0 (Nat.zero_le _)
def sperm_l2 (so : Nat) (S : StT)  : Nat → StT
  | 0 => S
  | i2 + 1 => let y2_0 := (sperm_l2 so S i2); (let J1 := va_up (smixR_f (so) (smove_f (so) (smixC_f (so) y2_0))).2.1 (so + 1) (vp_updL ((smixR_f (so) (smove_f (so) (smixC_f (so) y2_0))).2.1 (so + 1)) (0) (((smixR_f (so) (smove_f (so) (smixC_f (so) y2_0))).2.1 (so + 1) (0)) ^^^ (rkF (i2)))); ((smixR_f (so) (smove_f (so) (smixC_f (so) y2_0))).1, J1, (smixR_f (so) (smove_f (so) (smixC_f (so) y2_0))).2.2))
def sperm_f (so : Nat) (S : StT) : StT := (sperm_l2 so S 24)
set_option maxRecDepth 100000 in
set_option maxHeartbeats 200000 in
theorem c_sperm {k : KX} {L : Nat → Option Sh} {S : StT} {n : Nat} {so : Nat} (hS : ShakeAt k L so) (hst : ∀ U, k_F k U → ShakeS k U) :
    Cs k yX9_permute cX9_permute 2 none 2 0 0 [.ref (k_b k + (so))] (inst k L S.1 S.2.1 S.2.2) n (Pv k L n (sperm_f so S)) := by
  refine cs_of (by decide) (Nat.le_of_ble_eq_true rfl) ?_
  intro X hXk C Rt hnm
  subst hXk
  have hS9 := hS
  obtain ⟨hS0, hs1, hs2⟩ := hS9
  obtain ⟨⟨t1, hz1, ht1⟩, ⟨t2, hz2, ht2⟩, ⟨t3, hz3, ht3⟩⟩ := hst _ C.2.2.2.2.2.2.1.2.1
  refine rn_lv [(0, .ref (k_b X.1 + (so)))] (fun q h => h) ?_
  refine rn_iconst (v := nI 0) C dX9_permute_0 rfl ?_
  refine rn_istore_n (lv' := [(0, _), (1, _)]) C dX9_permute_1 (by decide) rfl ?_
  have lp2 : ∀ i2, i2 ≤ 24 → Rn X 2 [(0, .ref (k_b X.1 + (so))), (1, .int (nI (i2)))] [] (inst X.1 L (sperm_l2 so S i2).1 (sperm_l2 so S i2).2.1 (sperm_l2 so S i2).2.2) n 0 0 := by
    refine upto _ _ ?_ (fun i2 hi2 ih2 => ?_)
    · skip
      refine rn_iload_n C dX9_permute_2 rfl ?_
      refine rn_gets C dX9_permute_3 gs_X9_39 hz1 ?_
      refine rn_stlen C dX9_permute_6 ht1 ?_
      refine rs_ge (tgt := 42) C dX9_permute_7 (by decide) rfl rfl (by omega) (by omega) (fun _ => ?_) (fun q => absurd q (by omega))
      exact rn_vret C Rt dX9_permute_42 (pv_of (tup _)) (Nat.zero_le _) (Nat.zero_le _)
    · skip
      refine rn_iload_n C dX9_permute_2 rfl ?_
      refine rn_gets C dX9_permute_3 gs_X9_39 hz1 ?_
      refine rn_stlen C dX9_permute_6 ht1 ?_
      refine rs_ge (tgt := 42) C dX9_permute_7 (by decide) rfl rfl (by omega) (by omega) (fun q => absurd q (by omega)) (fun _ => ?_)
      refine rn_aload_n C dX9_permute_10 rfl ?_
      refine rs_vv C dX9_permute_11 mk_X9_mixColumns lv_X9_42 (c_smixC hS) hS0 rfl rfl rfl rfl (by decide) (Nat.le_of_ble_eq_true rfl) (by decide) (by decide) ?_
      refine rn_aload_n C dX9_permute_14 rfl ?_
      refine rs_vv C dX9_permute_15 mk_X9_moveLanes lv_X9_45 (c_smove hS hst) hS0 rfl rfl rfl rfl (by decide) (Nat.le_of_ble_eq_true rfl) (by decide) (by decide) ?_
      refine rn_aload_n C dX9_permute_18 rfl ?_
      refine rs_vv C dX9_permute_19 mk_X9_mixRows lv_X9_48 (c_smixR hS) hS0 rfl rfl rfl rfl (by decide) (Nat.le_of_ble_eq_true rfl) (by decide) (by decide) ?_
      refine rn_aload_n C dX9_permute_22 rfl ?_
      refine rs_get C dX9_permute_23 fl_X9_7 hS0 rfl ?_
      refine rn_iconst (v := nI 0) C dX9_permute_26 rfl ?_
      refine rn_dup2 C dX9_permute_27 rfl rfl ?_
      refine rs_laload C dX9_permute_28 hs1 rfl (by omega) (by decide) ?_
      refine rn_gets C dX9_permute_29 gs_X9_39 hz1 ?_
      refine rn_iload_n C dX9_permute_32 rfl ?_
      refine rn_stl C dX9_permute_33 ht1 rfl (by omega) (by decide) ?_
      refine rn_lxor C dX9_permute_34 rfl ?_
      refine rs_lastore C dX9_permute_35 hs1 rfl (by omega) (by decide) ?_
      refine rn_iinc (lv' := [(0, _), (1, _)]) C dX9_permute_36 rfl (nI_inc _) (by decide) rfl ?_
      refine rn_goto (tgt := 2) C dX9_permute_39 (by decide) ?_
      rw [show sperm_l2 so S (i2 + 1) = ((smixR_f (so) (smove_f (so) (smixC_f (so) (sperm_l2 so S i2)))).1, (va_up (smixR_f (so) (smove_f (so) (smixC_f (so) (sperm_l2 so S i2)))).2.1 (so + 1) (vp_updL ((smixR_f (so) (smove_f (so) (smixC_f (so) (sperm_l2 so S i2)))).2.1 (so + 1)) (0) (((smixR_f (so) (smove_f (so) (smixC_f (so) (sperm_l2 so S i2)))).2.1 (so + 1) (0)) ^^^ (rkF (i2))))), (smixR_f (so) (smove_f (so) (smixC_f (so) (sperm_l2 so S i2)))).2.2) from rfl] at ih2
      exact rn_ks [0, 1] ih2 rfl
  exact lp2 0 (Nat.zero_le _)
