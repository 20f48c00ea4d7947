/-! CurveSuiteModel: further methods, by program (dc.py, spec_model7.py) -/
def mchoose_f (mo : Nat) (cv : Int32) (S : StT) : StT := (let F2 := va_up (va_up S.2.2 (mo) (upd (S.2.2 (mo)) 13 (cv))) (mo) (upd ((va_up S.2.2 (mo) (upd (S.2.2 (mo)) 13 (cv))) (mo)) 14 (nI ((if (cv) ≠ 0 then 28 else 16)))); (S.1, S.2.1, F2))
set_option maxRecDepth 100000 in
set_option maxHeartbeats 4000000 in
theorem c_mchoose {k : KX} {L : Nat → Option Sh} {S : StT} {n : Nat} {mo : Nat} {cv : Int32} (hM : ModelAt k L mo) :
    Cs k yX12_choose cX12_choose 2 none 0 0 0 [.ref (k_b k + (mo)), .int (cv)] (inst k L S.1 S.2.1 S.2.2) n (Pv k L n (mchoose_f mo cv S)) := by
  refine cs_of (by decide) (Nat.le_of_ble_eq_true rfl) ?_
  intro X hXk C Rt hnm
  subst hXk
  have hM9 := hM
  obtain ⟨hM0, hm1, hm2, hm3, hm4, hm5, hm6, hm7, hm8, hm9, hm10, hm11, hm12, hm13, hm14, hm15, hm16, hm17, hm18, hm19, hm20, hm21, hm22, hm23, hm24, hm25, hm26, hm27⟩ := hM9
  refine rn_lv [(0, .ref (k_b X.1 + (mo))), (1, .int (cv))] (fun q h => h) ?_
  refine rn_aload_n C dX12_choose_0 rfl ?_
  refine rn_iload_n C dX12_choose_1 rfl ?_
  refine rs_putF C dX12_choose_2 fp_X12_51 hM0 rfl ?_
  refine rn_aload_n C dX12_choose_5 rfl ?_
  refine rn_iload_n C dX12_choose_6 rfl ?_
  have K7_1 : Rn X 17 [(0, .ref (k_b X.1 + (mo))), (1, .int (cv))] [.int (nI ((if (cv) ≠ 0 then 28 else 16))), .ref (k_b X.1 + (mo))] (inst X.1 L S.1 S.2.1 (va_up S.2.2 (mo) (upd (S.2.2 (mo)) 13 (cv)))) n 0 0 := by
    refine rs_putF C dX12_choose_17 fp_X12_54 hM0 rfl ?_
    exact rn_vret C Rt dX12_choose_20 (pv_of rfl) (Nat.zero_le _) (Nat.zero_le _)
  refine rn_if_ne (tgt := 15) C dX12_choose_7 (by decide) (fun hb1 => ?_) (fun hb1 => ?_)
  · skip
    refine rn_bipush (v := nI 28) C dX12_choose_15 rfl ?_
    rw [if_pos hb1] at K7_1
    exact K7_1
  · skip
    refine rn_bipush (v := nI 16) C dX12_choose_10 rfl ?_
    refine rn_goto (tgt := 17) C dX12_choose_12 (by decide) ?_
    rw [if_neg (fun q => q hb1)] at K7_1
    exact K7_1
def msizeOf_f (rg : Int32) (S : StT) : Int32 × StT := (nI ((if (rg) ≠ (nI (2)) then 57 else 114)), S)
set_option maxRecDepth 100000 in
set_option maxHeartbeats 4000000 in
theorem c_msizeOf {k : KX} {L : Nat → Option Sh} {S : StT} {n : Nat} {rg : Int32}  :
    Cs k yX12_sizeOf cX12_sizeOf 1 (some .int) 0 0 0 [.int (rg)] (inst k L S.1 S.2.1 S.2.2) n (Pi k L n (msizeOf_f rg S)) := by
  refine cs_of (by decide) (Nat.le_of_ble_eq_true rfl) ?_
  intro X hXk C Rt hnm
  subst hXk
  refine rn_lv [(0, .int (rg))] (fun q h => h) ?_
  refine rn_iload_n C dX12_sizeOf_0 rfl ?_
  refine rn_iconst (v := nI 2) C dX12_sizeOf_1 rfl ?_
  have K2_1 : Rn X 12 [(0, .int (rg))] [.int (nI ((if (rg) ≠ (nI (2)) then 57 else 114)))] (inst X.1 L S.1 S.2.1 S.2.2) n 0 0 := by
    exact rn_iret C Rt dX12_sizeOf_12 (pi_of rfl) (Nat.zero_le _) (Nat.zero_le _)
  refine rn_icmp_ne (tgt := 10) C dX12_sizeOf_2 (by decide) (fun hb1 => ?_) (fun hb1 => ?_)
  · skip
    refine rn_bipush (v := nI 57) C dX12_sizeOf_10 rfl ?_
    rw [if_pos hb1] at K2_1
    exact K2_1
  · skip
    refine rn_bipush (v := nI 114) C dX12_sizeOf_5 rfl ?_
    refine rn_goto (tgt := 12) C dX12_sizeOf_7 (by decide) ?_
    rw [if_neg (fun q => q hb1)] at K2_1
    exact K2_1
theorem msizeOf_S (rg : Int32) (S : StT) : (msizeOf_f rg S).2 = S := rfl
theorem cp_msizeOf {k : KX} {L : Nat → Option Sh} {S : StT} {n : Nat} {rg : Int32}  :
    Cs k yX12_sizeOf cX12_sizeOf 1 (some .int) 0 0 0 [.int (rg)] (inst k L S.1 S.2.1 S.2.2) n (Pi k L n ((msizeOf_f rg S).1, S)) := by
  have h := c_msizeOf (k := k) (L := L) (S := S) (n := n) (rg := rg) 
  have e : msizeOf_f rg S = ((msizeOf_f rg S).1, S) := Prod.ext rfl (msizeOf_S rg S)
  rwa [e] at h
def misPl_f (p : Int32) (S : StT) : Int32 × StT := (if (p) < 0 then (nI (0), S) else (if (nI (3)) ≤ (p) then (nI (0), S) else (nI (1), S)))
set_option maxRecDepth 100000 in
set_option maxHeartbeats 4000000 in
theorem c_misPl {k : KX} {L : Nat → Option Sh} {S : StT} {n : Nat} {p : Int32}  :
    Cs k yX12_isPlace cX12_isPlace 1 (some .boolean) 0 0 0 [.int (p)] (inst k L S.1 S.2.1 S.2.2) n (Pi k L n (misPl_f p S)) := by
  refine cs_of (by decide) (Nat.le_of_ble_eq_true rfl) ?_
  intro X hXk C Rt hnm
  subst hXk
  refine rn_lv [(0, .int (p))] (fun q h => h) ?_
  refine rn_iload_n C dX12_isPlace_0 rfl ?_
  refine rn_if_lt (tgt := 13) C dX12_isPlace_1 (by decide) (fun hb1 => ?_) (fun hb1 => ?_)
  · skip
    refine rn_iconst (v := nI 0) C dX12_isPlace_13 rfl ?_
    exact rn_zret C Rt dX12_isPlace_14 (by first | rfl | exact rfl) (pi_of (if_pos hb1)) (Nat.zero_le _) (Nat.zero_le _)
  · skip
    refine rn_iload_n C dX12_isPlace_4 rfl ?_
    refine rn_iconst (v := nI 3) C dX12_isPlace_5 rfl ?_
    refine rn_icmp_ge (tgt := 13) C dX12_isPlace_6 (by decide) (fun hb2 => ?_) (fun hb2 => ?_)
    · skip
      refine rn_iconst (v := nI 0) C dX12_isPlace_13 rfl ?_
      exact rn_zret C Rt dX12_isPlace_14 (by first | rfl | exact rfl) (pi_of ((if_neg hb1).trans (if_pos hb2))) (Nat.zero_le _) (Nat.zero_le _)
    · skip
      refine rn_iconst (v := nI 1) C dX12_isPlace_9 rfl ?_
      refine rn_goto (tgt := 14) C dX12_isPlace_10 (by decide) ?_
      exact rn_zret C Rt dX12_isPlace_14 (by first | rfl | exact rfl) (pi_of ((if_neg hb1).trans (if_neg hb2))) (Nat.zero_le _) (Nat.zero_le _)
theorem misPl_S (p : Int32) (S : StT) : (misPl_f p S).2 = S := by unfold misPl_f; (repeat' split) <;> rfl
theorem cp_misPl {k : KX} {L : Nat → Option Sh} {S : StT} {n : Nat} {p : Int32}  :
    Cs k yX12_isPlace cX12_isPlace 1 (some .boolean) 0 0 0 [.int (p)] (inst k L S.1 S.2.1 S.2.2) n (Pi k L n ((misPl_f p S).1, S)) := by
  have h := c_misPl (k := k) (L := L) (S := S) (n := n) (p := p) 
  have e : misPl_f p S = ((misPl_f p S).1, S) := Prod.ext rfl (misPl_S p S)
  rwa [e] at h
