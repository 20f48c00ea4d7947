/-! CurveSuite$Row, and the hashes of its bytes, by program (dc.py, spec_cls3.py) -/
def RowAt (k : KX) (L : Nat → Option Sh) (ro m : Nat) : Prop := L ro = some (sO 4 [rf k (ro + 1), none]) ∧ L (ro + 1) = some (sI m)
theorem fs_nob {F : Nat → Nat → Int32} {o o' q q' : Nat} {x : Int32} (h : o' ≠ o) : fs F o q x o' q' = F o' q' := by
  show va_up F o (upd (F o) q x) o' q' = F o' q'
  rw [vu_n h]
def rapp_f (ro : Nat) (q : Nat) (x : Int32) (S : StT) : StT := (va_up S.1 (ro + 1) (upd (S.1 (ro + 1)) (q) (x)), S.2.1, fs S.2.2 (ro) 1 (nI (q + 1)))
theorem rapp_F (ro : Nat) (q : Nat) (x : Int32) (S : StT) : (rapp_f ro q x S).2.2 = fs S.2.2 (ro) 1 (nI (q + 1)) := by
  unfold rapp_f; first | rfl | ((repeat' split) <;> rfl) | (dsimp only; (repeat' split) <;> rfl)
set_option maxRecDepth 100000 in
set_option maxHeartbeats 400000 in
theorem c_rapp {k : KX} {L : Nat → Option Sh} {S : StT} {n : Nat} {ro : Nat} {m : Nat} {q : Nat} {x : Int32} (hR : RowAt k L ro m) (hm : m < 2 ^ 31) (hq : S.2.2 ro 1 = nI q) (hqm : q < m) :
    Cs k yX6_append cX6_append 2 none 0 0 0 [.ref (k_b k + (ro)), .int (x)] (inst k L S.1 S.2.1 S.2.2) n (Pv k L n (rapp_f ro q x S)) := by
  refine cs_of (by decide) (Nat.le_of_ble_eq_true rfl) ?_
  intro X hXk C Rt hnm
  subst hXk
  have hR9 := hR
  obtain ⟨hR0, hR1⟩ := hR9
  refine rn_lv [(0, .ref (k_b X.1 + (ro))), (1, .int (x))] (fun q h => h) ?_
  refine rn_aload_n C dX6_append_0 rfl ?_
  refine rs_getFe C dX6_append_1 fl_X6_13 hR0 rfl hq ?_
  refine rn_aload_n C dX6_append_4 rfl ?_
  refine rs_get C dX6_append_5 fl_X6_7 hR0 rfl ?_
  refine rs_alenI C dX6_append_8 hR1 ?_
  refine rn_icmp_ge (tgt := 32) C dX6_append_9 (by decide) (fun hb => absurd hb (fun h => absurd ((nI_leI (by omega) (by omega)).mp h) (by omega))) (fun hb => ?_)
  refine rn_aload_n C dX6_append_12 rfl ?_
  refine rs_get C dX6_append_13 fl_X6_7 hR0 rfl ?_
  refine rn_aload_n C dX6_append_16 rfl ?_
  refine rs_getFe C dX6_append_17 fl_X6_13 hR0 rfl hq ?_
  refine rn_iload_n C dX6_append_20 rfl ?_
  refine rs_iastore C dX6_append_21 hR1 rfl (by omega) hm ?_
  refine rn_aload_n C dX6_append_22 rfl ?_
  refine rn_dup C dX6_append_23 rfl ?_
  refine rs_getFe C dX6_append_24 fl_X6_13 hR0 rfl hq ?_
  refine rn_iconst (v := nI 1) C dX6_append_27 rfl ?_
  refine rn_iadd C dX6_append_28 (nI_add _ _) ?_
  refine rs_putF C dX6_append_29 fp_X6_13 hR0 rfl ?_
  have hret : rapp_f ro q x S = (va_up S.1 (ro + 1) (upd (S.1 (ro + 1)) (q) (x)), S.2.1, fs S.2.2 (ro) 1 (nI (q + 1))) := by
    first | (dsimp only [rapp_f]; done) | (dsimp only [rapp_f]; exact rfl) | exact rfl
  exact rn_vret C Rt dX6_append_32 (pv_of hret) (Nat.zero_le _) (Nat.zero_le _)
def rpart_l3 (ro : Nat) (q : Nat) (a : Nat) (st : Nat) (S : StT)  : Nat → (Nat → Nat → Int32) × (Nat → Nat → Int64)
  | 0 => (S.1, S.2.1)
  | i3 + 1 => let y3_0 := (rpart_l3 ro q a st S i3).1; let y3_1 := (rpart_l3 ro q a st S i3).2; (let S1 := rapp_f (ro) (q + i3) (y3_0 (a) (st + i3)) (y3_0, y3_1, fs S.2.2 (ro) 1 (nI (q + i3))); (S1.1, S1.2.1))
def rpart_f (ro : Nat) (q : Nat) (a : Nat) (st : Nat) (nn : Nat) (S : StT) : StT := ((rpart_l3 ro q a st S nn).1, (rpart_l3 ro q a st S nn).2, fs S.2.2 (ro) 1 (nI (q + nn)))
theorem rpart_F (ro : Nat) (q : Nat) (a : Nat) (st : Nat) (nn : Nat) (S : StT) : (rpart_f ro q a st nn S).2.2 = fs S.2.2 (ro) 1 (nI (q + nn)) := by
  unfold rpart_f; first | rfl | ((repeat' split) <;> rfl) | (dsimp only; (repeat' split) <;> rfl)
set_option maxRecDepth 100000 in
set_option maxHeartbeats 400000 in
theorem c_rpart {k : KX} {L : Nat → Option Sh} {S : StT} {n : Nat} {ro : Nat} {m : Nat} {q : Nat} {a : Nat} {ma : Nat} {st : Nat} {nn : Nat} (hR : RowAt k L ro m) (hm : m < 2 ^ 31) (hq : S.2.2 ro 1 = nI q) (ha : L a = some (sI ma)) (hma : ma < 2 ^ 31) (hst : st + nn ≤ ma) (hqm : q + nn ≤ m) :
    Cs k yX6_appendPart cX6_appendPart 5 none 1 0 0 [.ref (k_b k + (ro)), .ref (k_b k + (a)), .int (nI (st)), .int (nI (nn))] (inst k L S.1 S.2.1 S.2.2) n (Pv k L n (rpart_f ro q a st nn S)) := by
  refine cs_of (by decide) (Nat.le_of_ble_eq_true rfl) ?_
  intro X hXk C Rt hnm
  subst hXk
  have hR9 := hR
  obtain ⟨hR0, hR1⟩ := hR9
  refine rn_lv [(0, .ref (k_b X.1 + (ro))), (1, .ref (k_b X.1 + (a))), (2, .int (nI (st))), (3, .int (nI (nn)))] (fun q h => h) ?_
  refine rn_iload_n C dX6_appendPart_0 rfl ?_
  refine rn_istore (lv' := [(0, _), (1, _), (2, _), (3, _), (4, _)]) C dX6_appendPart_1 (by decide) rfl ?_
  have lp3 : ∀ i3, i3 ≤ nn → Rn X 3 [(0, .ref (k_b X.1 + (ro))), (1, .ref (k_b X.1 + (a))), (2, .int (nI (st))), (3, .int (nI (nn))), (4, .int (nI (st + i3)))] [] (inst X.1 L (rpart_l3 ro q a st S i3).1 (rpart_l3 ro q a st S i3).2 (fs S.2.2 (ro) 1 (nI (q + i3)))) n 0 0 := by
    refine upto _ _ ?_ (fun i3 hi3 ih3 => ?_)
    · skip
      refine rn_iload C dX6_appendPart_3 rfl ?_
      refine rn_iload_n C dX6_appendPart_5 rfl ?_
      refine rn_iload_n C dX6_appendPart_6 rfl ?_
      refine rn_iadd C dX6_appendPart_7 (nI_add _ _) ?_
      refine rs_ge (tgt := 25) C dX6_appendPart_8 (by decide) rfl rfl (by omega) (by omega) (fun _ => ?_) (fun q => absurd q (by omega))
      have hret : rpart_f ro q a st nn S = ((rpart_l3 ro q a st S nn).1, (rpart_l3 ro q a st S nn).2, fs S.2.2 (ro) 1 (nI (q + nn))) := by
        first | (dsimp only [rpart_f]; done) | (dsimp only [rpart_f]; exact rfl) | exact rfl
      exact rn_vret C Rt dX6_appendPart_25 (pv_of hret) (Nat.zero_le _) (Nat.zero_le _)
    · skip
      refine rn_iload C dX6_appendPart_3 rfl ?_
      refine rn_iload_n C dX6_appendPart_5 rfl ?_
      refine rn_iload_n C dX6_appendPart_6 rfl ?_
      refine rn_iadd C dX6_appendPart_7 (nI_add _ _) ?_
      refine rs_ge (tgt := 25) C dX6_appendPart_8 (by decide) rfl rfl (by omega) (by omega) (fun q => absurd q (by omega)) (fun _ => ?_)
      refine rn_aload_n C dX6_appendPart_11 rfl ?_
      refine rn_aload_n C dX6_appendPart_12 rfl ?_
      refine rn_iload C dX6_appendPart_13 rfl ?_
      refine rs_iaload C dX6_appendPart_15 ha rfl (by omega) hma ?_
      refine rs_vv C dX6_appendPart_16 mk_X6_append lv_X6_17 (c_rapp (S := ((rpart_l3 ro q a st S i3).1, (rpart_l3 ro q a st S i3).2, fs S.2.2 (ro) 1 (nI (q + i3)))) hR hm fs_get (by omega)) hR0 rfl rfl rfl rfl (by decide) (Nat.le_of_ble_eq_true rfl) (by decide) (by decide) ?_
      rw [show (rapp_f (ro) (q + i3) ((rpart_l3 ro q a st S i3).1 (a) (st + i3)) ((rpart_l3 ro q a st S i3).1, (rpart_l3 ro q a st S i3).2, fs S.2.2 (ro) 1 (nI (q + i3)))).2.2 = fs S.2.2 (ro) 1 (nI (q + i3 + 1)) from (rapp_F (ro) (q + i3) ((rpart_l3 ro q a st S i3).1 (a) (st + i3)) ((rpart_l3 ro q a st S i3).1, (rpart_l3 ro q a st S i3).2, fs S.2.2 (ro) 1 (nI (q + i3)))).trans fs_fs]
      generalize hS1 : rapp_f (ro) (q + i3) ((rpart_l3 ro q a st S i3).1 (a) (st + i3)) ((rpart_l3 ro q a st S i3).1, (rpart_l3 ro q a st S i3).2, fs S.2.2 (ro) 1 (nI (q + i3))) = S1
      refine rn_iinc (lv' := [(0, _), (1, _), (2, _), (3, _), (4, _)]) C dX6_appendPart_19 rfl (nI_inc _) (by decide) rfl ?_
      refine rn_goto (tgt := 3) C dX6_appendPart_22 (by decide) ?_
      have he3 : rpart_l3 ro q a st S (i3 + 1) = (S1.1, S1.2.1) := by
        subst hS1
        first | (dsimp only [rpart_l3]; done) | (dsimp only [rpart_l3]; exact rfl) | exact rfl
      rw [he3] at ih3
      exact rn_ks [0, 1, 2, 3, 4] ih3 rfl
  rw [show inst X.1 L S.1 S.2.1 (S.2.2) = inst X.1 L S.1 S.2.1 (fs S.2.2 (ro) 1 (nI (q + 0))) from in_self hq]
  exact lp3 0 (Nat.zero_le _)
def hpad_f (ro : Nat) (q : Nat) (at_ : Nat) (pd : Nat) (S : StT) : Int32 × StT := (if (nI (q)) ≤ (nI (at_)) then (if (nI (at_)) ≠ (nI (q)) then (if (nI (pd - at_)) ≠ (nI (1)) then (nI ((if (nI (pd - at_)) ≠ (nI (2)) then 0 else ((8 * q) / 2 ^ 8) % 2 ^ 8)), S) else (nI ((8 * q) % 2 ^ 8), S)) else (nI (128), S)) else (S.1 (ro + 1) (at_), S))
set_option maxRecDepth 100000 in
set_option maxHeartbeats 400000 in
theorem c_hpad {k : KX} {L : Nat → Option Sh} {S : StT} {n : Nat} {ro : Nat} {m : Nat} {q : Nat} {at_ : Nat} {pd : Nat} (hR : RowAt k L ro m) (hm : m < 2 ^ 31) (hq : S.2.2 ro 1 = nI q) (hqm : q ≤ m) (hq9 : q ≤ 600) (hat : at_ < pd) (hpd : pd < 2 ^ 20) :
    Cs k yX8_paddedByte cX8_paddedByte 4 (some .int) 0 0 0 [.ref (k_b k + (ro)), .int (nI (at_)), .int (nI (pd))] (inst k L S.1 S.2.1 S.2.2) n (Pi k L n (hpad_f ro q at_ pd S)) := by
  refine cs_of (by decide) (Nat.le_of_ble_eq_true rfl) ?_
  intro X hXk C Rt hnm
  subst hXk
  have hR9 := hR
  obtain ⟨hR0, hR1⟩ := hR9
  refine rn_lv [(0, .ref (k_b X.1 + (ro))), (1, .int (nI (at_))), (2, .int (nI (pd)))] (fun q h => h) ?_
  refine rn_iload_n C dX8_paddedByte_0 rfl ?_
  refine rn_aload_n C dX8_paddedByte_1 rfl ?_
  refine rs_getFe C dX8_paddedByte_2 fl_X8_25 hR0 rfl hq ?_
  refine rn_icmp_ge (tgt := 15) C dX8_paddedByte_5 (by decide) (fun hb1 => ?_) (fun hb1 => ?_)
  · skip
    refine rn_iload_n C dX8_paddedByte_15 rfl ?_
    refine rn_aload_n C dX8_paddedByte_16 rfl ?_
    refine rs_getFe C dX8_paddedByte_17 fl_X8_25 hR0 rfl hq ?_
    refine rn_icmp_ne (tgt := 27) C dX8_paddedByte_20 (by decide) (fun hb2 => ?_) (fun hb2 => ?_)
    · skip
      refine rn_iload_n C dX8_paddedByte_27 rfl ?_
      refine rn_iload_n C dX8_paddedByte_28 rfl ?_
      refine rn_isub C dX8_paddedByte_29 (pk_sub (by omega)) ?_
      refine rn_istore_n (lv' := [(0, _), (1, _), (2, _), (3, _)]) C dX8_paddedByte_30 (by decide) rfl ?_
      refine rn_iload_n C dX8_paddedByte_31 rfl ?_
      refine rn_iconst (v := nI 1) C dX8_paddedByte_32 rfl ?_
      refine rn_icmp_ne (tgt := 50) C dX8_paddedByte_33 (by decide) (fun hb3 => ?_) (fun hb3 => ?_)
      · skip
        refine rn_iload_n C dX8_paddedByte_50 rfl ?_
        refine rn_iconst (v := nI 2) C dX8_paddedByte_51 rfl ?_
        have K52_4 : Rn X 73 [(0, .ref (k_b X.1 + (ro))), (1, .int (nI (at_))), (2, .int (nI (pd))), (3, .int (nI (pd - at_)))] [.int (nI ((if (nI (pd - at_)) ≠ (nI (2)) then 0 else ((8 * q) / 2 ^ 8) % 2 ^ 8)))] (inst X.1 L S.1 S.2.1 S.2.2) n 0 0 := by
          have hret : hpad_f ro q at_ pd S = (nI ((if (nI (pd - at_)) ≠ (nI (2)) then 0 else ((8 * q) / 2 ^ 8) % 2 ^ 8)), S) := by
            first | (dsimp only [hpad_f]; done) | (dsimp only [hpad_f]; exact (((if_pos hb1).trans (if_pos hb2)).trans (if_pos hb3))) | exact (((if_pos hb1).trans (if_pos hb2)).trans (if_pos hb3))
          exact rn_iret C Rt dX8_paddedByte_73 (pi_of hret) (Nat.zero_le _) (Nat.zero_le _)
        refine rn_icmp_ne (tgt := 72) C dX8_paddedByte_52 (by decide) (fun hb4 => ?_) (fun hb4 => ?_)
        · skip
          refine rn_iconst (v := nI 0) C dX8_paddedByte_72 rfl ?_
          rw [if_pos hb4] at K52_4
          exact K52_4
        · skip
          refine rn_bipush (v := nI 8) C dX8_paddedByte_55 rfl ?_
          refine rn_aload_n C dX8_paddedByte_57 rfl ?_
          refine rs_getFe C dX8_paddedByte_58 fl_X8_25 hR0 rfl hq ?_
          refine rn_imul C dX8_paddedByte_61 (pk_mul _ _) ?_
          refine rn_bipush (v := nI 8) C dX8_paddedByte_62 rfl ?_
          refine rn_ishr C dX8_paddedByte_64 (pk_shrN (by omega) _ 8 (by decide)) ?_
          refine rn_sipush (v := nI 255) C dX8_paddedByte_65 rfl ?_
          refine rn_iand C dX8_paddedByte_68 (pk_andN (by omega) 8 (by decide)) ?_
          refine rn_goto (tgt := 73) C dX8_paddedByte_69 (by decide) ?_
          rw [if_neg (fun q => q hb4)] at K52_4
          exact K52_4
      · skip
        refine rn_bipush (v := nI 8) C dX8_paddedByte_36 rfl ?_
        refine rn_aload_n C dX8_paddedByte_38 rfl ?_
        refine rs_getFe C dX8_paddedByte_39 fl_X8_25 hR0 rfl hq ?_
        refine rn_imul C dX8_paddedByte_42 (pk_mul _ _) ?_
        refine rn_sipush (v := nI 255) C dX8_paddedByte_43 rfl ?_
        refine rn_iand C dX8_paddedByte_46 (pk_andN (by omega) 8 (by decide)) ?_
        refine rn_goto (tgt := 73) C dX8_paddedByte_47 (by decide) ?_
        have hret : hpad_f ro q at_ pd S = (nI ((8 * q) % 2 ^ 8), S) := by
          first | (dsimp only [hpad_f]; done) | (dsimp only [hpad_f]; exact (((if_pos hb1).trans (if_pos hb2)).trans (if_neg (fun q => q hb3)))) | exact (((if_pos hb1).trans (if_pos hb2)).trans (if_neg (fun q => q hb3)))
        exact rn_iret C Rt dX8_paddedByte_73 (pi_of hret) (Nat.zero_le _) (Nat.zero_le _)
    · skip
      refine rn_sipush (v := nI 128) C dX8_paddedByte_23 rfl ?_
      have hret : hpad_f ro q at_ pd S = (nI (128), S) := by
        first | (dsimp only [hpad_f]; done) | (dsimp only [hpad_f]; exact ((if_pos hb1).trans (if_neg (fun q => q hb2)))) | exact ((if_pos hb1).trans (if_neg (fun q => q hb2)))
      exact rn_iret C Rt dX8_paddedByte_26 (pi_of hret) (Nat.zero_le _) (Nat.zero_le _)
  · skip
    have hlt : at_ < q := Nat.not_le.mp (fun e => hb1 ((nI_leI (by omega) (by omega)).mpr e))
    refine rn_aload_n C dX8_paddedByte_8 rfl ?_
    refine rs_get C dX8_paddedByte_9 fl_X8_49 hR0 rfl ?_
    refine rn_iload_n C dX8_paddedByte_12 rfl ?_
    refine rs_iaload C dX8_paddedByte_13 hR1 rfl (by omega) hm ?_
    have hret : hpad_f ro q at_ pd S = (S.1 (ro + 1) (at_), S) := by
      first | (dsimp only [hpad_f]; done) | (dsimp only [hpad_f]; exact (if_neg hb1)) | exact (if_neg hb1)
    exact rn_iret C Rt dX8_paddedByte_14 (pi_of hret) (Nat.zero_le _) (Nat.zero_le _)
theorem hpad_S (ro : Nat) (q : Nat) (at_ : Nat) (pd : Nat) (S : StT) : (hpad_f ro q at_ pd S).2 = S := by unfold hpad_f; (repeat' split) <;> rfl
theorem cp_hpad {k : KX} {L : Nat → Option Sh} {S : StT} {n : Nat} {ro : Nat} {m : Nat} {q : Nat} {at_ : Nat} {pd : Nat} (hR : RowAt k L ro m) (hm : m < 2 ^ 31) (hq : S.2.2 ro 1 = nI q) (hqm : q ≤ m) (hq9 : q ≤ 600) (hat : at_ < pd) (hpd : pd < 2 ^ 20) :
    Cs k yX8_paddedByte cX8_paddedByte 4 (some .int) 0 0 0 [.ref (k_b k + (ro)), .int (nI (at_)), .int (nI (pd))] (inst k L S.1 S.2.1 S.2.2) n (Pi k L n ((hpad_f ro q at_ pd S).1, S)) := by
  have h := c_hpad (k := k) (L := L) (S := S) (n := n) (ro := ro) (m := m) (q := q) (at_ := at_) (pd := pd) hR hm hq hqm hq9 hat hpd
  have e : hpad_f ro q at_ pd S = ((hpad_f ro q at_ pd S).1, S) := Prod.ext rfl (hpad_S ro q at_ pd S)
  rwa [e] at h
def hload_l72 (so : Nat) (S : StT)  : Nat → (Nat → Nat → Int64)
  | 0 => S.2.1
  | i72 + 1 => let y72_0 := (hload_l72 so S i72); (let J1 := va_up y72_0 (so + 2) (vp_updL (y72_0 (so + 2)) (16 + i72) ((((y72_0 (so + 2) (16 + i72 - 16)) + (hsmallSigma0_f (y72_0 (so + 2) (16 + i72 - 15)) (S.1, y72_0, S.2.2)).1) + (y72_0 (so + 2) (16 + i72 - 7))) + (hsmallSigma1_f (y72_0 (so + 2) (16 + i72 - 2)) (S.1, y72_0, S.2.2)).1)); J1)
def hload_l16 (ro : Nat) (q : Nat) (fr : Nat) (pd : Nat) (i3 : Nat) (S : StT) (z5 : Int64) : Nat → Int64
  | 0 => z5
  | i16 + 1 => let y16_0 := (hload_l16 ro q fr pd i3 S z5 i16); (let v3 := (y16_0 <<< ((nI (8)).toInt64 &&& 63)) ||| (((hpad_f (ro) (q) (fr + (8 * i3) + i16) (pd) S).1).toInt64); v3)
def hload_l3 (so : Nat) (ro : Nat) (q : Nat) (fr : Nat) (pd : Nat) (S : StT)  : Nat → (Nat → Nat → Int64)
  | 0 => S.2.1
  | i3 + 1 => let y3_0 := (hload_l3 so ro q fr pd S i3); (let J2 := va_up y3_0 (so + 2) (vp_updL (y3_0 (so + 2)) (i3) ((hload_l16 ro q fr pd i3 (S.1, y3_0, S.2.2) 0 8))); J2)
def hload_f (so : Nat) (ro : Nat) (q : Nat) (fr : Nat) (pd : Nat) (S : StT) : StT := (S.1, (hload_l72 so (S.1, (hload_l3 so ro q fr pd S 16), S.2.2) 64), S.2.2)
theorem hload_F (so : Nat) (ro : Nat) (q : Nat) (fr : Nat) (pd : Nat) (S : StT) : (hload_f so ro q fr pd S).2.2 = S.2.2 := by
  unfold hload_f; first | rfl | ((repeat' split) <;> rfl) | (dsimp only; (repeat' split) <;> rfl)
theorem hload_I (so : Nat) (ro : Nat) (q : Nat) (fr : Nat) (pd : Nat) (S : StT) : (hload_f so ro q fr pd S).1 = S.1 := by
  unfold hload_f; first | rfl | ((repeat' split) <;> rfl)
set_option maxRecDepth 100000 in
set_option maxHeartbeats 400000 in
theorem c_hload {k : KX} {L : Nat → Option Sh} {S : StT} {n : Nat} {so : Nat} {ro : Nat} {m : Nat} {q : Nat} {fr : Nat} {pd : Nat} (hS : ShaAt k L so) (hR : RowAt k L ro m) (hm : m < 2 ^ 31) (hq : S.2.2 ro 1 = nI q) (hqm : q ≤ m) (hq9 : q ≤ 600) (hfr : fr + 128 ≤ pd) (hpd : pd < 2 ^ 20) :
    Cs k yX8_loadBlock cX8_loadBlock 8 none 2 0 0 [.ref (k_b k + (so)), .ref (k_b k + (ro)), .int (nI (fr)), .int (nI (pd))] (inst k L S.1 S.2.1 S.2.2) n (Pv k L n (hload_f so ro q fr pd S)) := by
  refine cs_of (by decide) (Nat.le_of_ble_eq_true rfl) ?_
  intro X hXk C Rt hnm
  subst hXk
  have hS9 := hS
  obtain ⟨hS0, hs1, hs2⟩ := hS9
  have hR9 := hR
  obtain ⟨hR0, hR1⟩ := hR9
  refine rn_lv [(0, .ref (k_b X.1 + (so))), (1, .ref (k_b X.1 + (ro))), (2, .int (nI (fr))), (3, .int (nI (pd)))] (fun q h => h) ?_
  refine rn_iconst (v := nI 0) C dX8_loadBlock_0 rfl ?_
  refine rn_istore (lv' := [(0, _), (1, _), (2, _), (3, _), (4, _)]) C dX8_loadBlock_1 (by decide) rfl ?_
  have lp3 : ∀ i3, i3 ≤ 16 → Rn X 3 [(0, .ref (k_b X.1 + (so))), (1, .ref (k_b X.1 + (ro))), (2, .int (nI (fr))), (3, .int (nI (pd))), (4, .int (nI (i3)))] [] (inst X.1 L S.1 (hload_l3 so ro q fr pd S i3) S.2.2) n 0 0 := by
    refine upto _ _ ?_ (fun i3 hi3 ih3 => ?_)
    · skip
      refine rn_iload C dX8_loadBlock_3 rfl ?_
      refine rn_bipush (v := nI 16) C dX8_loadBlock_5 rfl ?_
      refine rs_ge (tgt := 68) C dX8_loadBlock_7 (by decide) rfl rfl (by omega) (by omega) (fun _ => ?_) (fun q => absurd q (by omega))
      refine rn_bipush (v := nI 16) C dX8_loadBlock_68 rfl ?_
      refine rn_istore (lv' := [(0, _), (1, _), (2, _), (3, _), (4, _)]) C dX8_loadBlock_70 (by decide) rfl ?_
      have lp72 : ∀ i72, i72 ≤ 64 → Rn X 72 [(0, .ref (k_b X.1 + (so))), (1, .ref (k_b X.1 + (ro))), (2, .int (nI (fr))), (3, .int (nI (pd))), (4, .int (nI (16 + i72)))] [] (inst X.1 L S.1 (hload_l72 so (S.1, (hload_l3 so ro q fr pd S 16), S.2.2) i72) S.2.2) n 0 0 := by
        refine upto _ _ ?_ (fun i72 hi72 ih72 => ?_)
        · skip
          refine rn_iload C dX8_loadBlock_72 rfl ?_
          refine rn_bipush (v := nI 80) C dX8_loadBlock_74 rfl ?_
          refine rs_ge (tgt := 140) C dX8_loadBlock_76 (by decide) rfl rfl (by omega) (by omega) (fun _ => ?_) (fun q => absurd q (by omega))
          have hret : hload_f so ro q fr pd S = (S.1, (hload_l72 so (S.1, (hload_l3 so ro q fr pd S 16), S.2.2) 64), S.2.2) := by
            first | (dsimp only [hload_f]; done) | (dsimp only [hload_f]; exact rfl) | exact rfl
          exact rn_vret C Rt dX8_loadBlock_140 (pv_of hret) (Nat.zero_le _) (Nat.zero_le _)
        · skip
          refine rn_iload C dX8_loadBlock_72 rfl ?_
          refine rn_bipush (v := nI 80) C dX8_loadBlock_74 rfl ?_
          refine rs_ge (tgt := 140) C dX8_loadBlock_76 (by decide) rfl rfl (by omega) (by omega) (fun q => absurd q (by omega)) (fun _ => ?_)
          refine rn_aload_n C dX8_loadBlock_79 rfl ?_
          refine rs_get C dX8_loadBlock_80 fl_X8_13 hS0 rfl ?_
          refine rn_iload C dX8_loadBlock_83 rfl ?_
          refine rn_aload_n C dX8_loadBlock_85 rfl ?_
          refine rs_get C dX8_loadBlock_86 fl_X8_13 hS0 rfl ?_
          refine rn_iload C dX8_loadBlock_89 rfl ?_
          refine rn_bipush (v := nI 16) C dX8_loadBlock_91 rfl ?_
          refine rn_isub C dX8_loadBlock_93 (pk_sub (by omega)) ?_
          refine rs_laload C dX8_loadBlock_94 hs2 rfl (by omega) (by decide) ?_
          refine rn_aload_n C dX8_loadBlock_95 rfl ?_
          refine rs_get C dX8_loadBlock_96 fl_X8_13 hS0 rfl ?_
          refine rn_iload C dX8_loadBlock_99 rfl ?_
          refine rn_bipush (v := nI 15) C dX8_loadBlock_101 rfl ?_
          refine rn_isub C dX8_loadBlock_103 (pk_sub (by omega)) ?_
          refine rs_laload C dX8_loadBlock_104 hs2 rfl (by omega) (by decide) ?_
          refine rs_sl C dX8_loadBlock_105 mk_X8_smallSigma0 ls_X8_42 (cp_hsmallSigma0 (S := ((S.1, (hload_l3 so ro q fr pd S 16), S.2.2).1, (hload_l72 so (S.1, (hload_l3 so ro q fr pd S 16), S.2.2) i72), S.2.2)) ) rfl rfl (by decide) (Nat.le_of_ble_eq_true rfl) (by decide) (by decide) ?_
          refine rn_ladd C dX8_loadBlock_108 rfl ?_
          refine rn_aload_n C dX8_loadBlock_109 rfl ?_
          refine rs_get C dX8_loadBlock_110 fl_X8_13 hS0 rfl ?_
          refine rn_iload C dX8_loadBlock_113 rfl ?_
          refine rn_bipush (v := nI 7) C dX8_loadBlock_115 rfl ?_
          refine rn_isub C dX8_loadBlock_117 (pk_sub (by omega)) ?_
          refine rs_laload C dX8_loadBlock_118 hs2 rfl (by omega) (by decide) ?_
          refine rn_ladd C dX8_loadBlock_119 rfl ?_
          refine rn_aload_n C dX8_loadBlock_120 rfl ?_
          refine rs_get C dX8_loadBlock_121 fl_X8_13 hS0 rfl ?_
          refine rn_iload C dX8_loadBlock_124 rfl ?_
          refine rn_iconst (v := nI 2) C dX8_loadBlock_126 rfl ?_
          refine rn_isub C dX8_loadBlock_127 (pk_sub (by omega)) ?_
          refine rs_laload C dX8_loadBlock_128 hs2 rfl (by omega) (by decide) ?_
          refine rs_sl C dX8_loadBlock_129 mk_X8_smallSigma1 ls_X8_46 (cp_hsmallSigma1 (S := ((S.1, (hload_l3 so ro q fr pd S 16), S.2.2).1, (hload_l72 so (S.1, (hload_l3 so ro q fr pd S 16), S.2.2) i72), S.2.2)) ) rfl rfl (by decide) (Nat.le_of_ble_eq_true rfl) (by decide) (by decide) ?_
          refine rn_ladd C dX8_loadBlock_132 rfl ?_
          refine rs_lastore C dX8_loadBlock_133 hs2 rfl (by omega) (by decide) ?_
          refine rn_iinc (lv' := [(0, _), (1, _), (2, _), (3, _), (4, _)]) C dX8_loadBlock_134 rfl (nI_inc _) (by decide) rfl ?_
          refine rn_goto (tgt := 72) C dX8_loadBlock_137 (by decide) ?_
          have he72 : hload_l72 so (S.1, (hload_l3 so ro q fr pd S 16), S.2.2) (i72 + 1) = (va_up (hload_l72 so (S.1, (hload_l3 so ro q fr pd S 16), S.2.2) i72) (so + 2) (vp_updL ((hload_l72 so (S.1, (hload_l3 so ro q fr pd S 16), S.2.2) i72) (so + 2)) (16 + i72) (((((hload_l72 so (S.1, (hload_l3 so ro q fr pd S 16), S.2.2) i72) (so + 2) (16 + i72 - 16)) + (hsmallSigma0_f ((hload_l72 so (S.1, (hload_l3 so ro q fr pd S 16), S.2.2) i72) (so + 2) (16 + i72 - 15)) ((S.1, (hload_l3 so ro q fr pd S 16), S.2.2).1, (hload_l72 so (S.1, (hload_l3 so ro q fr pd S 16), S.2.2) i72), S.2.2)).1) + ((hload_l72 so (S.1, (hload_l3 so ro q fr pd S 16), S.2.2) i72) (so + 2) (16 + i72 - 7))) + (hsmallSigma1_f ((hload_l72 so (S.1, (hload_l3 so ro q fr pd S 16), S.2.2) i72) (so + 2) (16 + i72 - 2)) ((S.1, (hload_l3 so ro q fr pd S 16), S.2.2).1, (hload_l72 so (S.1, (hload_l3 so ro q fr pd S 16), S.2.2) i72), S.2.2)).1))) := by
            first | (dsimp only [hload_l72]; done) | (dsimp only [hload_l72]; exact rfl) | exact rfl
          rw [he72] at ih72
          exact rn_ks [0, 1, 2, 3, 4] ih72 rfl
      exact lp72 0 (Nat.zero_le _)
    · skip
      refine rn_iload C dX8_loadBlock_3 rfl ?_
      refine rn_bipush (v := nI 16) C dX8_loadBlock_5 rfl ?_
      refine rs_ge (tgt := 68) C dX8_loadBlock_7 (by decide) rfl rfl (by omega) (by omega) (fun q => absurd q (by omega)) (fun _ => ?_)
      refine rn_lconst (v := 0) C dX8_loadBlock_10 rfl ?_
      refine rn_lstore (lv' := [(0, _), (1, _), (2, _), (3, _), (4, _), (5, _)]) C dX8_loadBlock_11 (by decide) rfl ?_
      refine rn_iconst (v := nI 0) C dX8_loadBlock_13 rfl ?_
      refine rn_istore (lv' := [(0, _), (1, _), (2, _), (3, _), (4, _), (5, _), (7, _)]) C dX8_loadBlock_14 (by decide) rfl ?_
      have lp16 : ∀ i16, i16 ≤ 8 → Rn X 16 [(0, .ref (k_b X.1 + (so))), (1, .ref (k_b X.1 + (ro))), (2, .int (nI (fr))), (3, .int (nI (pd))), (4, .int (nI (i3))), (5, .long ((hload_l16 ro q fr pd i3 (S.1, (hload_l3 so ro q fr pd S i3), S.2.2) 0 i16))), (7, .int (nI (i16)))] [] (inst X.1 L S.1 (hload_l3 so ro q fr pd S i3) S.2.2) n 0 0 := by
        refine upto _ _ ?_ (fun i16 hi16 ih16 => ?_)
        · skip
          refine rn_iload C dX8_loadBlock_16 rfl ?_
          refine rn_bipush (v := nI 8) C dX8_loadBlock_18 rfl ?_
          refine rs_ge (tgt := 53) C dX8_loadBlock_20 (by decide) rfl rfl (by omega) (by omega) (fun _ => ?_) (fun q => absurd q (by omega))
          refine rn_aload_n C dX8_loadBlock_53 rfl ?_
          refine rs_get C dX8_loadBlock_54 fl_X8_13 hS0 rfl ?_
          refine rn_iload C dX8_loadBlock_57 rfl ?_
          refine rn_lload C dX8_loadBlock_59 rfl ?_
          refine rs_lastore C dX8_loadBlock_61 hs2 rfl (by omega) (by decide) ?_
          refine rn_iinc (lv' := [(0, _), (1, _), (2, _), (3, _), (4, _), (5, _), (7, _)]) C dX8_loadBlock_62 rfl (nI_inc _) (by decide) rfl ?_
          refine rn_goto (tgt := 3) C dX8_loadBlock_65 (by decide) ?_
          have he3 : hload_l3 so ro q fr pd S (i3 + 1) = (va_up (hload_l3 so ro q fr pd S i3) (so + 2) (vp_updL ((hload_l3 so ro q fr pd S i3) (so + 2)) (i3) ((hload_l16 ro q fr pd i3 (S.1, (hload_l3 so ro q fr pd S i3), S.2.2) 0 8)))) := by
            first | (dsimp only [hload_l3]; done) | (dsimp only [hload_l3]; exact rfl) | exact rfl
          rw [he3] at ih3
          exact rn_ks [0, 1, 2, 3, 4] ih3 rfl
        · skip
          refine rn_iload C dX8_loadBlock_16 rfl ?_
          refine rn_bipush (v := nI 8) C dX8_loadBlock_18 rfl ?_
          refine rs_ge (tgt := 53) C dX8_loadBlock_20 (by decide) rfl rfl (by omega) (by omega) (fun q => absurd q (by omega)) (fun _ => ?_)
          refine rn_lload C dX8_loadBlock_23 rfl ?_
          refine rn_bipush (v := nI 8) C dX8_loadBlock_25 rfl ?_
          refine rn_lshl C dX8_loadBlock_27 rfl ?_
          refine rn_aload_n C dX8_loadBlock_28 rfl ?_
          refine rn_iload_n C dX8_loadBlock_29 rfl ?_
          refine rn_bipush (v := nI 8) C dX8_loadBlock_30 rfl ?_
          refine rn_iload C dX8_loadBlock_32 rfl ?_
          refine rn_imul C dX8_loadBlock_34 (pk_mul _ _) ?_
          refine rn_iadd C dX8_loadBlock_35 (nI_add _ _) ?_
          refine rn_iload C dX8_loadBlock_36 rfl ?_
          refine rn_iadd C dX8_loadBlock_38 (nI_add _ _) ?_
          refine rn_iload_n C dX8_loadBlock_39 rfl ?_
          refine rs_si C dX8_loadBlock_40 mk_X8_paddedByte ls_X8_38 (cp_hpad (S := (S.1, (hload_l3 so ro q fr pd S i3), S.2.2)) hR hm hq hqm hq9 (by omega) (by omega)) rfl rfl (by decide) (Nat.le_of_ble_eq_true rfl) (by decide) (by decide) ?_
          refine rn_i2l C dX8_loadBlock_43 rfl ?_
          refine rn_lor C dX8_loadBlock_44 rfl ?_
          refine rn_lstore (lv' := [(0, _), (1, _), (2, _), (3, _), (4, _), (5, _), (7, _)]) C dX8_loadBlock_45 (by decide) rfl ?_
          refine rn_iinc (lv' := [(0, _), (1, _), (2, _), (3, _), (4, _), (5, _), (7, _)]) C dX8_loadBlock_47 rfl (nI_inc _) (by decide) rfl ?_
          refine rn_goto (tgt := 16) C dX8_loadBlock_50 (by decide) ?_
          have he16 : hload_l16 ro q fr pd i3 (S.1, (hload_l3 so ro q fr pd S i3), S.2.2) 0 (i16 + 1) = (((hload_l16 ro q fr pd i3 (S.1, (hload_l3 so ro q fr pd S i3), S.2.2) 0 i16) <<< ((nI (8)).toInt64 &&& 63)) ||| (((hpad_f (ro) (q) (fr + (8 * i3) + i16) (pd) (S.1, (hload_l3 so ro q fr pd S i3), S.2.2)).1).toInt64)) := by
            first | (dsimp only [hload_l16]; done) | (dsimp only [hload_l16]; exact rfl) | exact rfl
          rw [he16] at ih16
          exact rn_ks [0, 1, 2, 3, 4, 5, 7] ih16 rfl
      exact lp16 0 (Nat.zero_le _)
  exact lp3 0 (Nat.zero_le _)
def sdig_l85 (so : Nat) (to : Nat) (S : StT)  : Nat → (Nat → Nat → Int32)
  | 0 => S.1
  | i85 + 1 => let y85_0 := (sdig_l85 so to S i85); (let I5 := va_up y85_0 (to) (upd (y85_0 (to)) (i85) (((((S.2.1 (so + 1) (i85 / 2 ^ 3)).toUInt64 >>> ((nI (8 * (i85 % 2 ^ 3))).toInt64.toUInt64 &&& Int64.toUInt64 63)).toInt64).toInt32) &&& (nI (255)))); I5)
def sdig_l14 (so : Nat) (ro : Nat) (S : StT)  : Nat → (Nat → Nat → Int64)
  | 0 => S.2.1
  | i14 + 1 => let y14_0 := (sdig_l14 so ro S i14); (let S6 := smix_f (so) (i14 % 136) (S.1 (ro + 1) (i14)) (S.1, y14_0, S.2.2); (if (nI (i14 % 136 + 1)) ≠ (nI (136)) then S6.2.1 else (let S8 := sperm_f (so) (S.1, S6.2.1, S.2.2); S8.2.1)))
def sdig_f (so : Nat) (to : Nat) (ro : Nat) (q : Nat) (nn : Nat) (S : StT) : StT := (let S1 := fill_f (so + 1) (25) (0) S; (let S2 := smix_f (so) (q % 136) (nI (31)) (S.1, (sdig_l14 so ro (S.1, S1.2.1, S.2.2) q), S.2.2); (let S3 := smix_f (so) (135) (nI (128)) (S.1, S2.2.1, S.2.2); (let S4 := sperm_f (so) (S.1, S3.2.1, S.2.2); ((sdig_l85 so to (S.1, S4.2.1, S.2.2) nn), S4.2.1, S.2.2)))))
theorem sdig_F (so : Nat) (to : Nat) (ro : Nat) (q : Nat) (nn : Nat) (S : StT) : (sdig_f so to ro q nn S).2.2 = S.2.2 := by
  unfold sdig_f; first | rfl | ((repeat' split) <;> rfl) | (dsimp only; (repeat' split) <;> rfl)
set_option maxRecDepth 100000 in
set_option maxHeartbeats 400000 in
theorem c_sdig {k : KX} {L : Nat → Option Sh} {S : StT} {n : Nat} {so : Nat} {to : Nat} {mt : Nat} {ro : Nat} {m : Nat} {q : Nat} {nn : Nat} (hS : ShakeAt k L so) (hst : ∀ U, k_F k U → ShakeS k U) (hto : L to = some (sI mt)) (hmt : mt < 2 ^ 31) (hnt : nn ≤ mt) (hR : RowAt k L ro m) (hm : m < 2 ^ 31) (hq : S.2.2 ro 1 = nI q) (hqm : q ≤ m) (hn : nn ≤ 136) :
    Cs k yX9_digest cX9_digest 6 none 3 0 0 [.ref (k_b k + (so)), .ref (k_b k + (to)), .ref (k_b k + (ro)), .int (nI (nn))] (inst k L S.1 S.2.1 S.2.2) n (Pv k L n (sdig_f so to ro q nn S)) := by
  refine cs_of (by decide) (Nat.le_of_ble_eq_true rfl) ?_
  intro X hXk C Rt hnm
  subst hXk
  have hS9 := hS
  obtain ⟨hS0, hs1, hs2⟩ := hS9
  have hR9 := hR
  obtain ⟨hR0, hR1⟩ := hR9
  refine rn_lv [(0, .ref (k_b X.1 + (so))), (1, .ref (k_b X.1 + (to))), (2, .ref (k_b X.1 + (ro))), (3, .int (nI (nn)))] (fun q h => h) ?_
  refine rn_aload_n C dX9_digest_0 rfl ?_
  refine rs_get C dX9_digest_1 fl_X9_7 hS0 rfl ?_
  refine rn_lconst (v := 0) C dX9_digest_4 rfl ?_
  refine rs_sv C dX9_digest_5 mk_J7_fill_d0a16 ls_X9_16 (c_fill hs1 (by decide)) rfl rfl (by decide) (Nat.le_of_ble_eq_true rfl) (by decide) (by decide) ?_
  rw [show (fill_f (so + 1) (25) (0) S).2.2 = S.2.2 from (fill_F (so + 1) (25) (0) S)]
  rw [show (fill_f (so + 1) (25) (0) S).1 = S.1 from fill_I (so + 1) (25) (0) S]
  generalize hS1 : fill_f (so + 1) (25) (0) S = S1
  refine rn_iconst (v := nI 0) C dX9_digest_8 rfl ?_
  refine rn_istore (lv' := [(0, _), (1, _), (2, _), (3, _), (4, _)]) C dX9_digest_9 (by decide) rfl ?_
  refine rn_iconst (v := nI 0) C dX9_digest_11 rfl ?_
  refine rn_istore (lv' := [(0, _), (1, _), (2, _), (3, _), (4, _), (5, _)]) C dX9_digest_12 (by decide) rfl ?_
  have lp14 : ∀ i14, i14 ≤ q → Rn X 14 [(0, .ref (k_b X.1 + (so))), (1, .ref (k_b X.1 + (to))), (2, .ref (k_b X.1 + (ro))), (3, .int (nI (nn))), (4, .int (nI (i14 % 136))), (5, .int (nI (i14)))] [] (inst X.1 L S.1 (sdig_l14 so ro (S.1, S1.2.1, S.2.2) i14) S.2.2) n 0 0 := by
    refine upto _ _ ?_ (fun i14 hi14 ih14 => ?_)
    · skip
      refine rn_iload C dX9_digest_14 rfl ?_
      refine rn_aload_n C dX9_digest_16 rfl ?_
      refine rs_getFe C dX9_digest_17 fl_X9_22 hR0 rfl hq ?_
      refine rs_ge (tgt := 60) C dX9_digest_20 (by decide) rfl rfl (by omega) (by omega) (fun _ => ?_) (fun q => absurd q (by omega))
      refine rn_aload_n C dX9_digest_60 rfl ?_
      refine rn_iload C dX9_digest_61 rfl ?_
      refine rn_bipush (v := nI 31) C dX9_digest_63 rfl ?_
      refine rs_vv C dX9_digest_65 mk_X9_mix lv_X9_32 (c_smix (S := (S.1, (sdig_l14 so ro (S.1, S1.2.1, S.2.2) q), S.2.2)) hS (by omega)) hS0 rfl rfl rfl rfl (by decide) (Nat.le_of_ble_eq_true rfl) (by decide) (by decide) ?_
      rw [show (smix_f (so) (q % 136) (nI (31)) (S.1, (sdig_l14 so ro (S.1, S1.2.1, S.2.2) q), S.2.2)).2.2 = S.2.2 from (smix_F (so) (q % 136) (nI (31)) (S.1, (sdig_l14 so ro (S.1, S1.2.1, S.2.2) q), S.2.2))]
      rw [show (smix_f (so) (q % 136) (nI (31)) (S.1, (sdig_l14 so ro (S.1, S1.2.1, S.2.2) q), S.2.2)).1 = S.1 from smix_I (so) (q % 136) (nI (31)) (S.1, (sdig_l14 so ro (S.1, S1.2.1, S.2.2) q), S.2.2)]
      generalize hS2 : smix_f (so) (q % 136) (nI (31)) (S.1, (sdig_l14 so ro (S.1, S1.2.1, S.2.2) q), S.2.2) = S2
      refine rn_aload_n C dX9_digest_68 rfl ?_
      refine rn_sipush (v := nI 135) C dX9_digest_69 rfl ?_
      refine rn_sipush (v := nI 128) C dX9_digest_72 rfl ?_
      refine rs_vv C dX9_digest_75 mk_X9_mix lv_X9_32 (c_smix (S := (S.1, S2.2.1, S.2.2)) hS (by omega)) hS0 rfl rfl rfl rfl (by decide) (Nat.le_of_ble_eq_true rfl) (by decide) (by decide) ?_
      rw [show (smix_f (so) (135) (nI (128)) (S.1, S2.2.1, S.2.2)).2.2 = S.2.2 from (smix_F (so) (135) (nI (128)) (S.1, S2.2.1, S.2.2))]
      rw [show (smix_f (so) (135) (nI (128)) (S.1, S2.2.1, S.2.2)).1 = S.1 from smix_I (so) (135) (nI (128)) (S.1, S2.2.1, S.2.2)]
      generalize hS3 : smix_f (so) (135) (nI (128)) (S.1, S2.2.1, S.2.2) = S3
      refine rn_aload_n C dX9_digest_78 rfl ?_
      refine rs_vv C dX9_digest_79 mk_X9_permute lv_X9_36 (c_sperm (S := (S.1, S3.2.1, S.2.2)) hS hst) hS0 rfl rfl rfl rfl (by decide) (Nat.le_of_ble_eq_true rfl) (by decide) (by decide) ?_
      rw [show (sperm_f (so) (S.1, S3.2.1, S.2.2)).2.2 = S.2.2 from (sperm_F (so) (S.1, S3.2.1, S.2.2))]
      rw [show (sperm_f (so) (S.1, S3.2.1, S.2.2)).1 = S.1 from sperm_I (so) (S.1, S3.2.1, S.2.2)]
      generalize hS4 : sperm_f (so) (S.1, S3.2.1, S.2.2) = S4
      refine rn_iconst (v := nI 0) C dX9_digest_82 rfl ?_
      refine rn_istore (lv' := [(0, _), (1, _), (2, _), (3, _), (4, _), (5, _)]) C dX9_digest_83 (by decide) rfl ?_
      have lp85 : ∀ i85, i85 ≤ nn → Rn X 85 [(0, .ref (k_b X.1 + (so))), (1, .ref (k_b X.1 + (to))), (2, .ref (k_b X.1 + (ro))), (3, .int (nI (nn))), (4, .int (nI (q % 136))), (5, .int (nI (i85)))] [] (inst X.1 L (sdig_l85 so to (S.1, S4.2.1, S.2.2) i85) S4.2.1 S.2.2) n 0 0 := by
        refine upto _ _ ?_ (fun i85 hi85 ih85 => ?_)
        · skip
          refine rn_iload C dX9_digest_85 rfl ?_
          refine rn_iload_n C dX9_digest_87 rfl ?_
          refine rs_ge (tgt := 132) C dX9_digest_88 (by decide) rfl rfl (by omega) (by omega) (fun _ => ?_) (fun q => absurd q (by omega))
          have hret : sdig_f so to ro q nn S = ((sdig_l85 so to (S.1, S4.2.1, S.2.2) nn), S4.2.1, S.2.2) := by
            subst hS4
            subst hS3
            subst hS2
            subst hS1
            first | (dsimp only [sdig_f]; done) | (dsimp only [sdig_f]; exact rfl) | exact rfl
          exact rn_vret C Rt dX9_digest_132 (pv_of hret) (Nat.zero_le _) (Nat.zero_le _)
        · skip
          refine rn_iload C dX9_digest_85 rfl ?_
          refine rn_iload_n C dX9_digest_87 rfl ?_
          refine rs_ge (tgt := 132) C dX9_digest_88 (by decide) rfl rfl (by omega) (by omega) (fun q => absurd q (by omega)) (fun _ => ?_)
          refine rn_iload C dX9_digest_91 rfl ?_
          refine rn_sipush (v := nI 136) C dX9_digest_93 rfl ?_
          refine rn_icmp_ge (tgt := 132) C dX9_digest_96 (by decide) (fun hb => absurd hb (fun h => absurd ((nI_leI (by omega) (by omega)).mp h) (by omega))) (fun hb => ?_)
          refine rn_aload_n C dX9_digest_99 rfl ?_
          refine rn_iload C dX9_digest_100 rfl ?_
          refine rn_aload_n C dX9_digest_102 rfl ?_
          refine rs_get C dX9_digest_103 fl_X9_7 hS0 rfl ?_
          refine rn_iload C dX9_digest_106 rfl ?_
          refine rn_iconst (v := nI 3) C dX9_digest_108 rfl ?_
          refine rn_ishr C dX9_digest_109 (pk_shrN (by omega) _ 3 (by decide)) ?_
          refine rs_laload C dX9_digest_110 hs1 rfl (by omega) (by decide) ?_
          refine rn_bipush (v := nI 8) C dX9_digest_111 rfl ?_
          refine rn_iload C dX9_digest_113 rfl ?_
          refine rn_bipush (v := nI 7) C dX9_digest_115 rfl ?_
          refine rn_iand C dX9_digest_117 (pk_andN (by omega) 3 (by decide)) ?_
          refine rn_imul C dX9_digest_118 (pk_mul _ _) ?_
          refine rn_lushr C dX9_digest_119 rfl ?_
          refine rn_l2i C dX9_digest_120 rfl ?_
          refine rn_sipush (v := nI 255) C dX9_digest_121 rfl ?_
          refine rn_iand C dX9_digest_124 rfl ?_
          refine rs_iastore C dX9_digest_125 hto rfl (by omega) hmt ?_
          refine rn_iinc (lv' := [(0, _), (1, _), (2, _), (3, _), (4, _), (5, _)]) C dX9_digest_126 rfl (nI_inc _) (by decide) rfl ?_
          refine rn_goto (tgt := 85) C dX9_digest_129 (by decide) ?_
          have he85 : sdig_l85 so to (S.1, S4.2.1, S.2.2) (i85 + 1) = (va_up (sdig_l85 so to (S.1, S4.2.1, S.2.2) i85) (to) (upd ((sdig_l85 so to (S.1, S4.2.1, S.2.2) i85) (to)) (i85) ((((((S.1, S4.2.1, S.2.2).2.1 (so + 1) (i85 / 2 ^ 3)).toUInt64 >>> ((nI (8 * (i85 % 2 ^ 3))).toInt64.toUInt64 &&& Int64.toUInt64 63)).toInt64).toInt32) &&& (nI (255))))) := by
            first | (dsimp only [sdig_l85]; done) | (dsimp only [sdig_l85]; exact rfl) | exact rfl
          rw [he85] at ih85
          exact rn_ks [0, 1, 2, 3, 4, 5] ih85 rfl
      exact lp85 0 (Nat.zero_le _)
    · skip
      refine rn_iload C dX9_digest_14 rfl ?_
      refine rn_aload_n C dX9_digest_16 rfl ?_
      refine rs_getFe C dX9_digest_17 fl_X9_22 hR0 rfl hq ?_
      refine rs_ge (tgt := 60) C dX9_digest_20 (by decide) rfl rfl (by omega) (by omega) (fun q => absurd q (by omega)) (fun _ => ?_)
      refine rn_aload_n C dX9_digest_23 rfl ?_
      refine rn_iload C dX9_digest_24 rfl ?_
      refine rn_aload_n C dX9_digest_26 rfl ?_
      refine rs_get C dX9_digest_27 fl_X9_28 hR0 rfl ?_
      refine rn_iload C dX9_digest_30 rfl ?_
      refine rs_iaload C dX9_digest_32 hR1 rfl (by omega) hm ?_
      refine rs_vv C dX9_digest_33 mk_X9_mix lv_X9_32 (c_smix (S := ((S.1, S1.2.1, S.2.2).1, (sdig_l14 so ro (S.1, S1.2.1, S.2.2) i14), S.2.2)) hS (by omega)) hS0 rfl rfl rfl rfl (by decide) (Nat.le_of_ble_eq_true rfl) (by decide) (by decide) ?_
      rw [show (smix_f (so) (i14 % 136) ((S.1, S1.2.1, S.2.2).1 (ro + 1) (i14)) ((S.1, S1.2.1, S.2.2).1, (sdig_l14 so ro (S.1, S1.2.1, S.2.2) i14), S.2.2)).2.2 = S.2.2 from (smix_F (so) (i14 % 136) ((S.1, S1.2.1, S.2.2).1 (ro + 1) (i14)) ((S.1, S1.2.1, S.2.2).1, (sdig_l14 so ro (S.1, S1.2.1, S.2.2) i14), S.2.2))]
      rw [show (smix_f (so) (i14 % 136) ((S.1, S1.2.1, S.2.2).1 (ro + 1) (i14)) ((S.1, S1.2.1, S.2.2).1, (sdig_l14 so ro (S.1, S1.2.1, S.2.2) i14), S.2.2)).1 = (S.1, S1.2.1, S.2.2).1 from smix_I (so) (i14 % 136) ((S.1, S1.2.1, S.2.2).1 (ro + 1) (i14)) ((S.1, S1.2.1, S.2.2).1, (sdig_l14 so ro (S.1, S1.2.1, S.2.2) i14), S.2.2)]
      generalize hS6 : smix_f (so) (i14 % 136) ((S.1, S1.2.1, S.2.2).1 (ro + 1) (i14)) ((S.1, S1.2.1, S.2.2).1, (sdig_l14 so ro (S.1, S1.2.1, S.2.2) i14), S.2.2) = S6
      refine rn_iinc (lv' := [(0, _), (1, _), (2, _), (3, _), (4, _), (5, _)]) C dX9_digest_36 rfl (nI_inc _) (by decide) rfl ?_
      refine rn_iload C dX9_digest_39 rfl ?_
      refine rn_sipush (v := nI 136) C dX9_digest_41 rfl ?_
      refine rn_icmp_ne (tgt := 54) C dX9_digest_44 (by decide) (fun hb7 => ?_) (fun hb7 => ?_)
      · skip
        have hne : i14 % 136 + 1 ≠ 136 := fun e => hb7 (by rw [e])
        refine rn_iinc (lv' := [(0, _), (1, _), (2, _), (3, _), (4, _), (5, _)]) C dX9_digest_54 rfl (nI_inc _) (by decide) rfl ?_
        refine rn_goto (tgt := 14) C dX9_digest_57 (by decide) ?_
        have he14 : sdig_l14 so ro (S.1, S1.2.1, S.2.2) (i14 + 1) = S6.2.1 := by
          subst hS6
          first | (dsimp only [sdig_l14]; done) | (dsimp only [sdig_l14]; exact (if_pos hb7)) | exact (if_pos hb7)
        rw [he14] at ih14
        refine rn_lve (lv' := [(0, .ref (k_b X.1 + (so))), (1, .ref (k_b X.1 + (to))), (2, .ref (k_b X.1 + (ro))), (3, .int (nI (nn))), (4, .int (nI ((i14 + 1) % 136))), (5, .int (nI (i14 + 1)))]) (by rw [show nI ((i14 + 1) % 136) = nI (i14 % 136 + 1) from (Eq.symm (nI_is (by omega)))]) ?_
        exact rn_ks [0, 1, 2, 3, 4, 5] ih14 rfl
      · skip
        have heq : i14 % 136 + 1 = 136 := Decidable.byContradiction (fun e => nI_ne (by omega) (by decide) e hb7)
        refine rn_aload_n C dX9_digest_47 rfl ?_
        refine rs_vv C dX9_digest_48 mk_X9_permute lv_X9_36 (c_sperm (S := ((S.1, S1.2.1, S.2.2).1, S6.2.1, S.2.2)) hS hst) hS0 rfl rfl rfl rfl (by decide) (Nat.le_of_ble_eq_true rfl) (by decide) (by decide) ?_
        rw [show (sperm_f (so) ((S.1, S1.2.1, S.2.2).1, S6.2.1, S.2.2)).2.2 = S.2.2 from (sperm_F (so) ((S.1, S1.2.1, S.2.2).1, S6.2.1, S.2.2))]
        rw [show (sperm_f (so) ((S.1, S1.2.1, S.2.2).1, S6.2.1, S.2.2)).1 = (S.1, S1.2.1, S.2.2).1 from sperm_I (so) ((S.1, S1.2.1, S.2.2).1, S6.2.1, S.2.2)]
        generalize hS8 : sperm_f (so) ((S.1, S1.2.1, S.2.2).1, S6.2.1, S.2.2) = S8
        refine rn_iconst (v := nI 0) C dX9_digest_51 rfl ?_
        refine rn_istore (lv' := [(0, _), (1, _), (2, _), (3, _), (4, _), (5, _)]) C dX9_digest_52 (by decide) rfl ?_
        refine rn_iinc (lv' := [(0, _), (1, _), (2, _), (3, _), (4, _), (5, _)]) C dX9_digest_54 rfl (nI_inc _) (by decide) rfl ?_
        refine rn_goto (tgt := 14) C dX9_digest_57 (by decide) ?_
        have he14 : sdig_l14 so ro (S.1, S1.2.1, S.2.2) (i14 + 1) = S8.2.1 := by
          subst hS8
          subst hS6
          first | (dsimp only [sdig_l14]; done) | (dsimp only [sdig_l14]; exact (if_neg (fun q => q hb7))) | exact (if_neg (fun q => q hb7))
        rw [he14] at ih14
        refine rn_lve (lv' := [(0, .ref (k_b X.1 + (so))), (1, .ref (k_b X.1 + (to))), (2, .ref (k_b X.1 + (ro))), (3, .int (nI (nn))), (4, .int (nI ((i14 + 1) % 136))), (5, .int (nI (i14 + 1)))]) (by rw [show nI ((i14 + 1) % 136) = nI (0) from (Eq.symm (nI_is (by omega)))]) ?_
        exact rn_ks [0, 1, 2, 3, 4, 5] ih14 rfl
  refine rn_lve (lv' := [(0, .ref (k_b X.1 + (so))), (1, .ref (k_b X.1 + (to))), (2, .ref (k_b X.1 + (ro))), (3, .int (nI (nn))), (4, .int (nI (0 % 136))), (5, .int (nI (0)))]) (by rw [show nI (0 % 136) = nI (0) from (Eq.symm (nI_is rfl))]) ?_
  exact lp14 0 (Nat.zero_le _)
def hdig_l72 (so : Nat) (to : Nat) (S : StT)  : Nat → (Nat → Nat → Int32)
  | 0 => S.1
  | i72 + 1 => let y72_0 := (hdig_l72 so to S i72); (let I1 := va_up y72_0 (to) (upd (y72_0 (to)) (i72) (((((S.2.1 (so + 1) (i72 / 2 ^ 3)).toUInt64 >>> ((nI (56 - (8 * (i72 % 2 ^ 3)))).toInt64.toUInt64 &&& Int64.toUInt64 63)).toInt64).toInt32) &&& (nI (255)))); I1)
def hdig_l35 (so : Nat) (ro : Nat) (q : Nat) (S : StT)  : Nat → (Nat → Nat → Int64)
  | 0 => S.2.1
  | i35 + 1 => let y35_0 := (hdig_l35 so ro q S i35); (let S2 := hload_f (so) (ro) (q) (i35 * 128) (((q + 16) / 128 + 1) * 128) (S.1, y35_0, S.2.2); (let S3 := hcomp_f (so) (S.1, S2.2.1, S.2.2); S3.2.1))
def hdig_f (so : Nat) (to : Nat) (ro : Nat) (q : Nat) (nn : Nat) (S : StT) : StT := ((hdig_l72 so to (S.1, (hdig_l35 so ro q (S.1, va_up S.2.1 (so + 1) (va_cpy hsF (S.2.1 (so + 1)) (0) (0) (8)), S.2.2) ((q + 16) / 128 + 1)), S.2.2) nn), (hdig_l35 so ro q (S.1, va_up S.2.1 (so + 1) (va_cpy hsF (S.2.1 (so + 1)) (0) (0) (8)), S.2.2) ((q + 16) / 128 + 1)), S.2.2)
theorem hdig_F (so : Nat) (to : Nat) (ro : Nat) (q : Nat) (nn : Nat) (S : StT) : (hdig_f so to ro q nn S).2.2 = S.2.2 := by
  unfold hdig_f; first | rfl | ((repeat' split) <;> rfl) | (dsimp only; (repeat' split) <;> rfl)
set_option maxRecDepth 100000 in
set_option maxHeartbeats 400000 in
theorem c_hdig {k : KX} {L : Nat → Option Sh} {S : StT} {n : Nat} {so : Nat} {to : Nat} {mt : Nat} {ro : Nat} {m : Nat} {q : Nat} {nn : Nat} (hS : ShaAt k L so) (hst : ∀ U, k_F k U → ShaS k U) (hto : L to = some (sI mt)) (hmt : mt < 2 ^ 31) (hnt : nn ≤ mt) (hR : RowAt k L ro m) (hm : m < 2 ^ 31) (hq : S.2.2 ro 1 = nI q) (hqm : q ≤ m) (hq9 : q ≤ 600) (hn : nn ≤ 64) :
    Cs k yX8_digest cX8_digest 6 none 3 0 0 [.ref (k_b k + (so)), .ref (k_b k + (to)), .ref (k_b k + (ro)), .int (nI (nn))] (inst k L S.1 S.2.1 S.2.2) n (Pv k L n (hdig_f so to ro q nn S)) := by
  refine cs_of (by decide) (Nat.le_of_ble_eq_true rfl) ?_
  intro X hXk C Rt hnm
  subst hXk
  have hS9 := hS
  obtain ⟨hS0, hs1, hs2⟩ := hS9
  obtain ⟨⟨t1, hz1, ht1⟩, ⟨t2, hz2, ht2⟩⟩ := hst _ C.2.2.2.2.2.2.1.2.1
  have hR9 := hR
  obtain ⟨hR0, hR1⟩ := hR9
  refine rn_lv [(0, .ref (k_b X.1 + (so))), (1, .ref (k_b X.1 + (to))), (2, .ref (k_b X.1 + (ro))), (3, .int (nI (nn)))] (fun q h => h) ?_
  refine rn_gets C dX8_digest_0 gs_X8_16 hz1 ?_
  refine rn_iconst (v := nI 0) C dX8_digest_3 rfl ?_
  refine rn_aload_n C dX8_digest_4 rfl ?_
  refine rs_get C dX8_digest_5 fl_X8_7 hS0 rfl ?_
  refine rn_iconst (v := nI 0) C dX8_digest_8 rfl ?_
  refine rn_aload_n C dX8_digest_9 rfl ?_
  refine rs_get C dX8_digest_10 fl_X8_7 hS0 rfl ?_
  refine rs_alenJ C dX8_digest_13 hs1 ?_
  refine rs_copySJ C dX8_digest_14 lcp_X8_19 ht1 hs1 rfl rfl rfl (by omega) (by omega) (by decide) (by decide) (by decide) (by decide) ?_
  refine rn_aload_n C dX8_digest_17 rfl ?_
  refine rs_getFe C dX8_digest_18 fl_X8_25 hR0 rfl hq ?_
  refine rn_bipush (v := nI 16) C dX8_digest_21 rfl ?_
  refine rn_iadd C dX8_digest_23 (nI_add _ _) ?_
  refine rn_sipush (v := nI 128) C dX8_digest_24 rfl ?_
  refine rn_idivn C dX8_digest_27 (by omega) (by omega) (by omega) ?_
  refine rn_iconst (v := nI 1) C dX8_digest_28 rfl ?_
  refine rn_iadd C dX8_digest_29 (nI_add _ _) ?_
  refine rn_istore (lv' := [(0, _), (1, _), (2, _), (3, _), (4, _)]) C dX8_digest_30 (by decide) rfl ?_
  refine rn_iconst (v := nI 0) C dX8_digest_32 rfl ?_
  refine rn_istore (lv' := [(0, _), (1, _), (2, _), (3, _), (4, _), (5, _)]) C dX8_digest_33 (by decide) rfl ?_
  have lp35 : ∀ i35, i35 ≤ (q + 16) / 128 + 1 → Rn X 35 [(0, .ref (k_b X.1 + (so))), (1, .ref (k_b X.1 + (to))), (2, .ref (k_b X.1 + (ro))), (3, .int (nI (nn))), (4, .int (nI ((q + 16) / 128 + 1))), (5, .int (nI (i35)))] [] (inst X.1 L S.1 (hdig_l35 so ro q (S.1, va_up S.2.1 (so + 1) (va_cpy hsF (S.2.1 (so + 1)) (0) (0) (8)), S.2.2) i35) S.2.2) n 0 0 := by
    refine upto _ _ ?_ (fun i35 hi35 ih35 => ?_)
    · skip
      refine rn_iload C dX8_digest_35 rfl ?_
      refine rn_iload C dX8_digest_37 rfl ?_
      refine rs_ge (tgt := 69) C dX8_digest_39 (by decide) rfl rfl (by omega) (by omega) (fun _ => ?_) (fun q => absurd q (by omega))
      refine rn_iconst (v := nI 0) C dX8_digest_69 rfl ?_
      refine rn_istore (lv' := [(0, _), (1, _), (2, _), (3, _), (4, _), (5, _)]) C dX8_digest_70 (by decide) rfl ?_
      have lp72 : ∀ i72, i72 ≤ nn → Rn X 72 [(0, .ref (k_b X.1 + (so))), (1, .ref (k_b X.1 + (to))), (2, .ref (k_b X.1 + (ro))), (3, .int (nI (nn))), (4, .int (nI ((q + 16) / 128 + 1))), (5, .int (nI (i72)))] [] (inst X.1 L (hdig_l72 so to (S.1, (hdig_l35 so ro q (S.1, va_up S.2.1 (so + 1) (va_cpy hsF (S.2.1 (so + 1)) (0) (0) (8)), S.2.2) ((q + 16) / 128 + 1)), S.2.2) i72) (hdig_l35 so ro q (S.1, va_up S.2.1 (so + 1) (va_cpy hsF (S.2.1 (so + 1)) (0) (0) (8)), S.2.2) ((q + 16) / 128 + 1)) S.2.2) n 0 0 := by
        refine upto _ _ ?_ (fun i72 hi72 ih72 => ?_)
        · skip
          refine rn_iload C dX8_digest_72 rfl ?_
          refine rn_iload_n C dX8_digest_74 rfl ?_
          refine rs_ge (tgt := 121) C dX8_digest_75 (by decide) rfl rfl (by omega) (by omega) (fun _ => ?_) (fun q => absurd q (by omega))
          have hret : hdig_f so to ro q nn S = ((hdig_l72 so to (S.1, (hdig_l35 so ro q (S.1, va_up S.2.1 (so + 1) (va_cpy hsF (S.2.1 (so + 1)) (0) (0) (8)), S.2.2) ((q + 16) / 128 + 1)), S.2.2) nn), (hdig_l35 so ro q (S.1, va_up S.2.1 (so + 1) (va_cpy hsF (S.2.1 (so + 1)) (0) (0) (8)), S.2.2) ((q + 16) / 128 + 1)), S.2.2) := by
            first | (dsimp only [hdig_f]; done) | (dsimp only [hdig_f]; exact rfl) | exact rfl
          exact rn_vret C Rt dX8_digest_121 (pv_of hret) (Nat.zero_le _) (Nat.zero_le _)
        · skip
          refine rn_iload C dX8_digest_72 rfl ?_
          refine rn_iload_n C dX8_digest_74 rfl ?_
          refine rs_ge (tgt := 121) C dX8_digest_75 (by decide) rfl rfl (by omega) (by omega) (fun q => absurd q (by omega)) (fun _ => ?_)
          refine rn_iload C dX8_digest_78 rfl ?_
          refine rn_bipush (v := nI 64) C dX8_digest_80 rfl ?_
          refine rn_icmp_ge (tgt := 121) C dX8_digest_82 (by decide) (fun hb => absurd hb (fun h => absurd ((nI_leI (by omega) (by omega)).mp h) (by omega))) (fun hb => ?_)
          refine rn_aload_n C dX8_digest_85 rfl ?_
          refine rn_iload C dX8_digest_86 rfl ?_
          refine rn_aload_n C dX8_digest_88 rfl ?_
          refine rs_get C dX8_digest_89 fl_X8_7 hS0 rfl ?_
          refine rn_iload C dX8_digest_92 rfl ?_
          refine rn_iconst (v := nI 3) C dX8_digest_94 rfl ?_
          refine rn_ishr C dX8_digest_95 (pk_shrN (by omega) _ 3 (by decide)) ?_
          refine rs_laload C dX8_digest_96 hs1 rfl (by omega) (by decide) ?_
          refine rn_bipush (v := nI 56) C dX8_digest_97 rfl ?_
          refine rn_bipush (v := nI 8) C dX8_digest_99 rfl ?_
          refine rn_iload C dX8_digest_101 rfl ?_
          refine rn_bipush (v := nI 7) C dX8_digest_103 rfl ?_
          refine rn_iand C dX8_digest_105 (pk_andN (by omega) 3 (by decide)) ?_
          refine rn_imul C dX8_digest_106 (pk_mul _ _) ?_
          refine rn_isub C dX8_digest_107 (pk_sub (by omega)) ?_
          refine rn_lushr C dX8_digest_108 rfl ?_
          refine rn_l2i C dX8_digest_109 rfl ?_
          refine rn_sipush (v := nI 255) C dX8_digest_110 rfl ?_
          refine rn_iand C dX8_digest_113 rfl ?_
          refine rs_iastore C dX8_digest_114 hto rfl (by omega) hmt ?_
          refine rn_iinc (lv' := [(0, _), (1, _), (2, _), (3, _), (4, _), (5, _)]) C dX8_digest_115 rfl (nI_inc _) (by decide) rfl ?_
          refine rn_goto (tgt := 72) C dX8_digest_118 (by decide) ?_
          have he72 : hdig_l72 so to (S.1, (hdig_l35 so ro q (S.1, va_up S.2.1 (so + 1) (va_cpy hsF (S.2.1 (so + 1)) (0) (0) (8)), S.2.2) ((q + 16) / 128 + 1)), S.2.2) (i72 + 1) = (va_up (hdig_l72 so to (S.1, (hdig_l35 so ro q (S.1, va_up S.2.1 (so + 1) (va_cpy hsF (S.2.1 (so + 1)) (0) (0) (8)), S.2.2) ((q + 16) / 128 + 1)), S.2.2) i72) (to) (upd ((hdig_l72 so to (S.1, (hdig_l35 so ro q (S.1, va_up S.2.1 (so + 1) (va_cpy hsF (S.2.1 (so + 1)) (0) (0) (8)), S.2.2) ((q + 16) / 128 + 1)), S.2.2) i72) (to)) (i72) ((((((S.1, (hdig_l35 so ro q (S.1, va_up S.2.1 (so + 1) (va_cpy hsF (S.2.1 (so + 1)) (0) (0) (8)), S.2.2) ((q + 16) / 128 + 1)), S.2.2).2.1 (so + 1) (i72 / 2 ^ 3)).toUInt64 >>> ((nI (56 - (8 * (i72 % 2 ^ 3)))).toInt64.toUInt64 &&& Int64.toUInt64 63)).toInt64).toInt32) &&& (nI (255))))) := by
            first | (dsimp only [hdig_l72]; done) | (dsimp only [hdig_l72]; exact rfl) | exact rfl
          rw [he72] at ih72
          exact rn_ks [0, 1, 2, 3, 4, 5] ih72 rfl
      exact lp72 0 (Nat.zero_le _)
    · skip
      refine rn_iload C dX8_digest_35 rfl ?_
      refine rn_iload C dX8_digest_37 rfl ?_
      refine rs_ge (tgt := 69) C dX8_digest_39 (by decide) rfl rfl (by omega) (by omega) (fun q => absurd q (by omega)) (fun _ => ?_)
      refine rn_aload_n C dX8_digest_42 rfl ?_
      refine rn_aload_n C dX8_digest_43 rfl ?_
      refine rn_iload C dX8_digest_44 rfl ?_
      refine rn_sipush (v := nI 128) C dX8_digest_46 rfl ?_
      refine rn_imul C dX8_digest_49 (pk_mul _ _) ?_
      refine rn_iload C dX8_digest_50 rfl ?_
      refine rn_sipush (v := nI 128) C dX8_digest_52 rfl ?_
      refine rn_imul C dX8_digest_55 (pk_mul _ _) ?_
      refine rs_vv C dX8_digest_56 mk_X8_loadBlock lv_X8_31 (c_hload (S := ((S.1, va_up S.2.1 (so + 1) (va_cpy hsF (S.2.1 (so + 1)) (0) (0) (8)), S.2.2).1, (hdig_l35 so ro q (S.1, va_up S.2.1 (so + 1) (va_cpy hsF (S.2.1 (so + 1)) (0) (0) (8)), S.2.2) i35), S.2.2)) hS hR hm hq hqm hq9 (by omega) (by omega)) hS0 rfl rfl rfl rfl (by decide) (Nat.le_of_ble_eq_true rfl) (by decide) (by decide) ?_
      rw [show (hload_f (so) (ro) (q) (i35 * 128) (((q + 16) / 128 + 1) * 128) ((S.1, va_up S.2.1 (so + 1) (va_cpy hsF (S.2.1 (so + 1)) (0) (0) (8)), S.2.2).1, (hdig_l35 so ro q (S.1, va_up S.2.1 (so + 1) (va_cpy hsF (S.2.1 (so + 1)) (0) (0) (8)), S.2.2) i35), S.2.2)).2.2 = S.2.2 from (hload_F (so) (ro) (q) (i35 * 128) (((q + 16) / 128 + 1) * 128) ((S.1, va_up S.2.1 (so + 1) (va_cpy hsF (S.2.1 (so + 1)) (0) (0) (8)), S.2.2).1, (hdig_l35 so ro q (S.1, va_up S.2.1 (so + 1) (va_cpy hsF (S.2.1 (so + 1)) (0) (0) (8)), S.2.2) i35), S.2.2))]
      rw [show (hload_f (so) (ro) (q) (i35 * 128) (((q + 16) / 128 + 1) * 128) ((S.1, va_up S.2.1 (so + 1) (va_cpy hsF (S.2.1 (so + 1)) (0) (0) (8)), S.2.2).1, (hdig_l35 so ro q (S.1, va_up S.2.1 (so + 1) (va_cpy hsF (S.2.1 (so + 1)) (0) (0) (8)), S.2.2) i35), S.2.2)).1 = (S.1, va_up S.2.1 (so + 1) (va_cpy hsF (S.2.1 (so + 1)) (0) (0) (8)), S.2.2).1 from hload_I (so) (ro) (q) (i35 * 128) (((q + 16) / 128 + 1) * 128) ((S.1, va_up S.2.1 (so + 1) (va_cpy hsF (S.2.1 (so + 1)) (0) (0) (8)), S.2.2).1, (hdig_l35 so ro q (S.1, va_up S.2.1 (so + 1) (va_cpy hsF (S.2.1 (so + 1)) (0) (0) (8)), S.2.2) i35), S.2.2)]
      generalize hS2 : hload_f (so) (ro) (q) (i35 * 128) (((q + 16) / 128 + 1) * 128) ((S.1, va_up S.2.1 (so + 1) (va_cpy hsF (S.2.1 (so + 1)) (0) (0) (8)), S.2.2).1, (hdig_l35 so ro q (S.1, va_up S.2.1 (so + 1) (va_cpy hsF (S.2.1 (so + 1)) (0) (0) (8)), S.2.2) i35), S.2.2) = S2
      refine rn_aload_n C dX8_digest_59 rfl ?_
      refine rs_vv C dX8_digest_60 mk_X8_compress lv_X8_35 (c_hcomp (S := ((S.1, va_up S.2.1 (so + 1) (va_cpy hsF (S.2.1 (so + 1)) (0) (0) (8)), S.2.2).1, S2.2.1, S.2.2)) hS hst) hS0 rfl rfl rfl rfl (by decide) (Nat.le_of_ble_eq_true rfl) (by decide) (by decide) ?_
      rw [show (hcomp_f (so) ((S.1, va_up S.2.1 (so + 1) (va_cpy hsF (S.2.1 (so + 1)) (0) (0) (8)), S.2.2).1, S2.2.1, S.2.2)).2.2 = S.2.2 from (hcomp_F (so) ((S.1, va_up S.2.1 (so + 1) (va_cpy hsF (S.2.1 (so + 1)) (0) (0) (8)), S.2.2).1, S2.2.1, S.2.2))]
      rw [show (hcomp_f (so) ((S.1, va_up S.2.1 (so + 1) (va_cpy hsF (S.2.1 (so + 1)) (0) (0) (8)), S.2.2).1, S2.2.1, S.2.2)).1 = (S.1, va_up S.2.1 (so + 1) (va_cpy hsF (S.2.1 (so + 1)) (0) (0) (8)), S.2.2).1 from hcomp_I (so) ((S.1, va_up S.2.1 (so + 1) (va_cpy hsF (S.2.1 (so + 1)) (0) (0) (8)), S.2.2).1, S2.2.1, S.2.2)]
      generalize hS3 : hcomp_f (so) ((S.1, va_up S.2.1 (so + 1) (va_cpy hsF (S.2.1 (so + 1)) (0) (0) (8)), S.2.2).1, S2.2.1, S.2.2) = S3
      refine rn_iinc (lv' := [(0, _), (1, _), (2, _), (3, _), (4, _), (5, _)]) C dX8_digest_63 rfl (nI_inc _) (by decide) rfl ?_
      refine rn_goto (tgt := 35) C dX8_digest_66 (by decide) ?_
      have he35 : hdig_l35 so ro q (S.1, va_up S.2.1 (so + 1) (va_cpy hsF (S.2.1 (so + 1)) (0) (0) (8)), S.2.2) (i35 + 1) = S3.2.1 := by
        subst hS3
        subst hS2
        first | (dsimp only [hdig_l35]; done) | (dsimp only [hdig_l35]; exact rfl) | exact rfl
      rw [he35] at ih35
      exact rn_ks [0, 1, 2, 3, 4, 5] ih35 rfl
  exact lp35 0 (Nat.zero_le _)
