/-! CurveSuite$Curve: further methods, by program (dc.py, spec_curve2.py) -/
def cfill_l2 (c : Bool) (co : Nat) (fo : Nat) (lo : Nat) (hi : Nat) (S : StT)  : Nat → StT
  | 0 => S
  | i2 + 1 => let y2_0 := (cfill_l2 c co fo lo hi S i2); (if (nI (4)) ≤ (nI (1 + i2)) then csum_f c (co) fo (co + 28 + 4 * (1 + i2)) (co + 28 + 4 * (1 + i2 - 4)) (hi) y2_0 else csum_f c (co) fo (co + 28 + 4 * (1 + i2)) (co + 28 + 4 * (1 + i2 - 1)) (lo) y2_0)
def cfill_f (c : Bool) (co : Nat) (fo : Nat) (lo : Nat) (hi : Nat) (S : StT) : StT := (cfill_l2 c co fo lo hi S 15)
set_option maxRecDepth 100000 in
set_option maxHeartbeats 4000000 in
theorem c_cfill {k : KX} {L : Nat → Option Sh} {S : StT} {n : Nat} {c : Bool} {co : Nat} {fo : Nat} {lo : Nat} {hi : Nat} (hC : CurveAt k L co fo c) (hlo : PtAt k L lo) (hhi : PtAt k L hi) :
    Cs k yX1_fillTable cX1_fillTable 4 none 3 0 0 [.ref (k_b k + (co)), .ref (k_b k + (lo)), .ref (k_b k + (hi))] (inst k L S.1 S.2.1 S.2.2) n (Pv k L n (cfill_f c co fo lo hi S)) := by
  refine cs_of (by decide) (Nat.le_of_ble_eq_true rfl) ?_
  intro X hXk C Rt hnm
  subst hXk
  have hC9 := hC
  obtain ⟨hC0, hF, hc1, hc2, hc3, hc4, hc5, hc6, hc7, hc8, hcr, hcd, hct, hff, hdg, hca, hbs, htb⟩ := hC9
  have hF9 := hF
  obtain ⟨hF0, -⟩ := hF9
  have hff9 := hff
  obtain ⟨hff0, hff1, hff2, hff3⟩ := hff9
  have hlo9 := hlo
  obtain ⟨hlo0, hlo1, hlo2, hlo3⟩ := hlo9
  have hhi9 := hhi
  obtain ⟨hhi0, hhi1, hhi2, hhi3⟩ := hhi9
  refine rn_lv [(0, .ref (k_b X.1 + (co))), (1, .ref (k_b X.1 + (lo))), (2, .ref (k_b X.1 + (hi)))] (fun q h => h) ?_
  refine rn_iconst (v := nI 1) C dX1_fillTable_0 rfl ?_
  refine rn_istore_n (lv' := [(0, _), (1, _), (2, _), (3, _)]) C dX1_fillTable_1 (by decide) rfl ?_
  have lp2 : ∀ i2, i2 ≤ 15 → Rn X 2 [(0, .ref (k_b X.1 + (co))), (1, .ref (k_b X.1 + (lo))), (2, .ref (k_b X.1 + (hi))), (3, .int (nI (1 + i2)))] [] (inst X.1 L (cfill_l2 c co fo lo hi S i2).1 (cfill_l2 c co fo lo hi S i2).2.1 (cfill_l2 c co fo lo hi S i2).2.2) n 0 0 := by
    refine upto _ _ ?_ (fun i2 hi2 ih2 => ?_)
    · skip
      refine rn_iload_n C dX1_fillTable_2 rfl ?_
      refine rn_bipush (v := nI 16) C dX1_fillTable_3 rfl ?_
      refine rs_ge (tgt := 60) C dX1_fillTable_5 (by decide) rfl rfl (by omega) (by omega) (fun _ => ?_) (fun q => absurd q (by omega))
      exact rn_vret C Rt dX1_fillTable_60 (pv_of (tup _)) (Nat.zero_le _) (Nat.zero_le _)
    · skip
      refine rn_iload_n C dX1_fillTable_2 rfl ?_
      refine rn_bipush (v := nI 16) C dX1_fillTable_3 rfl ?_
      refine rs_ge (tgt := 60) C dX1_fillTable_5 (by decide) rfl rfl (by omega) (by omega) (fun q => absurd q (by omega)) (fun _ => ?_)
      refine rn_iload_n C dX1_fillTable_8 rfl ?_
      refine rn_iconst (v := nI 4) C dX1_fillTable_9 rfl ?_
      refine rn_icmp_ge (tgt := 35) C dX1_fillTable_10 (by decide) (fun hb1 => ?_) (fun hb1 => ?_)
      · skip
        have hge : 4 ≤ 1 + i2 := (nI_leI (by omega) (by omega)).mp hb1
        refine rn_aload_n C dX1_fillTable_35 rfl ?_
        refine rn_aload_n C dX1_fillTable_36 rfl ?_
        refine rs_get C dX1_fillTable_37 fl_X1_13 hC0 rfl ?_
        refine rn_iload_n C dX1_fillTable_40 rfl ?_
        refine rs_aaload C dX1_fillTable_41 hct rfl rfl (by omega) (by decide) (if_pos (by omega)) ?_
        refine rn_aload_n C dX1_fillTable_42 rfl ?_
        refine rs_get C dX1_fillTable_43 fl_X1_13 hC0 rfl ?_
        refine rn_iload_n C dX1_fillTable_46 rfl ?_
        refine rn_iconst (v := nI 4) C dX1_fillTable_47 rfl ?_
        refine rn_isub C dX1_fillTable_48 (pk_sub (by omega)) ?_
        refine rs_aaload C dX1_fillTable_49 hct rfl rfl (by omega) (by decide) (if_pos (by omega)) ?_
        refine rn_aload_n C dX1_fillTable_50 rfl ?_
        refine rs_vv C dX1_fillTable_51 mk_X1_sum lv_X1_179 (c_csum hC (htb (1 + i2) (by omega)) (htb (1 + i2 - 4) (by omega)) hhi) hC0 rfl rfl rfl rfl (by decide) (Nat.le_of_ble_eq_true rfl) (by decide) (by decide) ?_
        refine rn_iinc (lv' := [(0, _), (1, _), (2, _), (3, _)]) C dX1_fillTable_54 rfl (nI_inc _) (by decide) rfl ?_
        refine rn_goto (tgt := 2) C dX1_fillTable_57 (by decide) ?_
        rw [show cfill_l2 c co fo lo hi S (i2 + 1) = _ from (if_pos hb1)] at ih2
        exact rn_ks [0, 1, 2, 3] ih2 rfl
      · skip
        refine rn_aload_n C dX1_fillTable_13 rfl ?_
        refine rn_aload_n C dX1_fillTable_14 rfl ?_
        refine rs_get C dX1_fillTable_15 fl_X1_13 hC0 rfl ?_
        refine rn_iload_n C dX1_fillTable_18 rfl ?_
        refine rs_aaload C dX1_fillTable_19 hct rfl rfl (by omega) (by decide) (if_pos (by omega)) ?_
        refine rn_aload_n C dX1_fillTable_20 rfl ?_
        refine rs_get C dX1_fillTable_21 fl_X1_13 hC0 rfl ?_
        refine rn_iload_n C dX1_fillTable_24 rfl ?_
        refine rn_iconst (v := nI 1) C dX1_fillTable_25 rfl ?_
        refine rn_isub C dX1_fillTable_26 (pk_sub (by omega)) ?_
        refine rs_aaload C dX1_fillTable_27 hct rfl rfl (by omega) (by decide) (if_pos (by omega)) ?_
        refine rn_aload_n C dX1_fillTable_28 rfl ?_
        refine rs_vv C dX1_fillTable_29 mk_X1_sum lv_X1_179 (c_csum hC (htb (1 + i2) (by omega)) (htb (1 + i2 - 1) (by omega)) hlo) hC0 rfl rfl rfl rfl (by decide) (Nat.le_of_ble_eq_true rfl) (by decide) (by decide) ?_
        refine rn_goto (tgt := 54) C dX1_fillTable_32 (by decide) ?_
        refine rn_iinc (lv' := [(0, _), (1, _), (2, _), (3, _)]) C dX1_fillTable_54 rfl (nI_inc _) (by decide) rfl ?_
        refine rn_goto (tgt := 2) C dX1_fillTable_57 (by decide) ?_
        rw [show cfill_l2 c co fo lo hi S (i2 + 1) = _ from (if_neg hb1)] at ih2
        exact rn_ks [0, 1, 2, 3] ih2 rfl
  exact lp2 0 (Nat.zero_le _)
