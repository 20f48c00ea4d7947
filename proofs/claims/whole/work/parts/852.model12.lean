/-! CurveSuiteModel: primes, the constants of its hash (spec_model11.py) -/
/-- the primes up to 409, ahead of them 1 -/
def prL : List Nat := [1, 2, 3, 5, 7, 11, 13, 17, 19, 23, 29, 31, 37, 41, 43, 47, 53, 59, 61, 67, 71, 73, 79, 83, 89, 97, 101, 103, 107, 109, 113, 127, 131, 137, 139, 149, 151, 157, 163, 167, 173, 179, 181, 191, 193, 197, 199, 211, 223, 227, 229, 233, 239, 241, 251, 257, 263, 269, 271, 277, 281, 283, 293, 307, 311, 313, 317, 331, 337, 347, 349, 353, 359, 367, 373, 379, 383, 389, 397, 401, 409]
def prN (i : Nat) : Nat := prL.getD i 0
/-- whether a number s, 2 ≤ s < t, divides q -/
def npb (q : Nat) : Nat → Bool
  | 0 => false
  | t + 1 => npb q t || (decide (2 ≤ t) && decide (q % t = 0))
/-- the first t whose square is above q -/
def tS (q : Nat) : Nat := ((List.range 33).filter (fun t => decide (t * t ≤ q))).length
theorem tS_ok : ∀ q, q < 1000 → 2 ≤ q → 2 ≤ tS q ∧ q < tS q * tS q ∧ tS q ≤ 33 ∧ ∀ t, t < tS q → t * t ≤ q := by decide +kernel
theorem pr_ok : ∀ i, i < 80 → 2 ≤ prN (i + 1) ∧ prN i < prN (i + 1) ∧ prN (i + 1) < 1000 ∧ npb (prN (i + 1)) (tS (prN (i + 1))) = false ∧ ∀ q, q < prN (i + 1) → prN i < q → npb q (tS q) = true := by decide +kernel
theorem pr_one : ∀ i, i < 81 → 1 ≤ prN i := by decide +kernel
theorem npb_2 (q : Nat) : npb q 2 = false := by simp [npb]
theorem c_np {k : KX} {L : Nat → Option Sh} {S : StT} {n i : Nat} (hi : i < 80) :
    Cs k yX12_nextPrime cX12_nextPrime 4 (some .int) 0 0 0 [.int (nI (prN i))] (inst k L S.1 S.2.1 S.2.2) n (Pi k L n (nI (prN (i + 1)), S)) := by
  obtain ⟨p1, p2, p3, p4, p5⟩ := pr_ok i hi
  have p6 : 1 ≤ prN i := pr_one i (by omega)
  refine cs_of (by decide) (Nat.le_of_ble_eq_true rfl) ?_
  intro X hXk C Rt hnm
  subst hXk
  refine rn_lv [(0, .int (nI (prN i)))] (fun q h => h) ?_
  refine rn_iload_n C dX12_nextPrime_0 rfl ?_
  refine rn_iconst (v := nI 1) C dX12_nextPrime_1 rfl ?_
  refine rn_iadd C dX12_nextPrime_2 (nI_add _ _) ?_
  refine rn_istore_n (lv' := [(0, _), (1, _)]) C dX12_nextPrime_3 (by decide) rfl ?_
  refine rn_iconst (v := nI 0) C dX12_nextPrime_4 rfl ?_
  refine rn_istore_n (lv' := [(0, _), (1, _), (2, _)]) C dX12_nextPrime_5 (by decide) rfl ?_
  -- one number: from the head with nothing found to behind the inner loop
  have one : ∀ q, 2 ≤ q → q < 1000 → Rn X 42 [(0, .int (nI (prN i))), (1, .int (nI q)), (2, .int (nI (if npb q (tS q) then 0 else 1)))] [] (inst X.1 L S.1 S.2.1 S.2.2) n 0 0 → Rn X 6 [(0, .int (nI (prN i))), (1, .int (nI q)), (2, .int (nI 0))] [] (inst X.1 L S.1 S.2.1 S.2.2) n 0 0 := by
    intro q h2 hq K
    obtain ⟨t1, t2, t4, t3⟩ := tS_ok q hq h2
    refine rn_iload_n C dX12_nextPrime_6 rfl ?_
    refine rn_if_ne (tgt := 52) C dX12_nextPrime_7 (by decide) (fun h => absurd rfl h) (fun _ => ?_)
    refine rn_iload_n C dX12_nextPrime_10 rfl ?_
    refine rn_sipush (v := nI 1000) C dX12_nextPrime_11 rfl ?_
    refine rs_ge (tgt := 52) C dX12_nextPrime_14 (by decide) rfl rfl (by omega) (by omega) (fun h => absurd h (by omega)) (fun _ => ?_)
    refine rn_iconst (v := nI 1) C dX12_nextPrime_17 rfl ?_
    refine rn_istore_n (lv' := [(0, _), (1, _), (2, _)]) C dX12_nextPrime_18 (by decide) rfl ?_
    refine rn_iconst (v := nI 2) C dX12_nextPrime_19 rfl ?_
    refine rn_istore_n (lv' := [(0, _), (1, _), (2, _), (3, _)]) C dX12_nextPrime_20 (by decide) rfl ?_
    have lp : ∀ t, t ≤ tS q → 2 ≤ t → Rn X 21 [(0, .int (nI (prN i))), (1, .int (nI q)), (2, .int (nI (if npb q t then 0 else 1))), (3, .int (nI t))] [] (inst X.1 L S.1 S.2.1 S.2.2) n 0 0 := by
      refine upto _ _ (fun h => ?_) (fun t ht ih h => ?_)
      · have hb : tS q * tS q < 2 ^ 31 := Nat.lt_of_le_of_lt (Nat.mul_le_mul t4 t4) (by decide)
        refine rn_iload_n C dX12_nextPrime_21 rfl ?_
        refine rn_iload_n C dX12_nextPrime_22 rfl ?_
        refine rn_imul C dX12_nextPrime_23 (pk_mul _ _) ?_
        refine rn_iload_n C dX12_nextPrime_24 rfl ?_
        refine rn_icmp_gt (tgt := 42) C dX12_nextPrime_25 (by decide) (fun _ => ?_) (fun q' => absurd ((nI_ltI (by omega) hb).mpr t2) q')
        exact rn_ks [0, 1, 2] K rfl
      · have h3 := t3 t ht
        refine rn_iload_n C dX12_nextPrime_21 rfl ?_
        refine rn_iload_n C dX12_nextPrime_22 rfl ?_
        refine rn_imul C dX12_nextPrime_23 (pk_mul _ _) ?_
        refine rn_iload_n C dX12_nextPrime_24 rfl ?_
        refine rn_icmp_gt (tgt := 42) C dX12_nextPrime_25 (by decide) (fun q' => absurd ((nI_ltI (by omega) (by omega)).mp q') (by omega)) (fun _ => ?_)
        refine rn_iload_n C dX12_nextPrime_28 rfl ?_
        refine rn_iload_n C dX12_nextPrime_29 rfl ?_
        refine rn_irem C dX12_nextPrime_30 (nI_ne0 (by omega) (by omega)) (pk_rem (by omega) (by omega) (by omega)) ?_
        have step : npb q (t + 1) = (npb q t || decide (q % t = 0)) := by
          show (npb q t || (decide (2 ≤ t) && decide (q % t = 0))) = _
          rw [decide_eq_true h, Bool.true_and]
        refine rn_if_ne (tgt := 36) C dX12_nextPrime_31 (by decide) (fun hn => ?_) (fun hn => ?_)
        · have hm : ¬ q % t = 0 := fun e => hn (by rw [e]; rfl)
          refine rn_iinc (lv' := [(0, _), (1, _), (2, _), (3, _)]) C dX12_nextPrime_36 rfl (nI_inc _) (by decide) rfl ?_
          refine rn_goto (tgt := 21) C dX12_nextPrime_39 (by decide) ?_
          have ih' := ih (by omega)
          rw [step, decide_eq_false hm, Bool.or_false] at ih'
          exact ih'
        · have hm : q % t = 0 := by
            have hlt : q % t < 2 ^ 31 := Nat.lt_of_le_of_lt (Nat.mod_le _ _) (by omega)
            have := nI_clamp hlt
            rw [hn] at this
            exact this.symm
          refine rn_iconst (v := nI 0) C dX12_nextPrime_34 rfl ?_
          refine rn_istore_n (lv' := [(0, _), (1, _), (2, _), (3, _)]) C dX12_nextPrime_35 (by decide) rfl ?_
          refine rn_iinc (lv' := [(0, _), (1, _), (2, _), (3, _)]) C dX12_nextPrime_36 rfl (nI_inc _) (by decide) rfl ?_
          refine rn_goto (tgt := 21) C dX12_nextPrime_39 (by decide) ?_
          have ih' := ih (by omega)
          rw [step, decide_eq_true hm, Bool.or_true] at ih'
          exact ih'
    have l2 := lp 2 t1 (Nat.le_refl _)
    rw [npb_2] at l2
    exact l2
  have out : ∀ q, q ≤ prN (i + 1) → prN i < q → Rn X 6 [(0, .int (nI (prN i))), (1, .int (nI q)), (2, .int (nI 0))] [] (inst X.1 L S.1 S.2.1 S.2.2) n 0 0 := by
    refine upto _ _ (fun h => ?_) (fun q hq ih h => ?_)
    · refine one _ p1 p3 ?_
      rw [p4]
      refine rn_iload_n C dX12_nextPrime_42 rfl ?_
      refine rn_if_ne (tgt := 6) C dX12_nextPrime_43 (by decide) (fun _ => ?_) (fun h => absurd h (by decide))
      refine rn_iload_n C dX12_nextPrime_6 rfl ?_
      refine rn_if_ne (tgt := 52) C dX12_nextPrime_7 (by decide) (fun _ => ?_) (fun h => absurd h (by decide))
      refine rn_iload_n C dX12_nextPrime_52 rfl ?_
      exact rn_iret C Rt dX12_nextPrime_53 ⟨rfl, rfl, rfl⟩ (Nat.zero_le _) (Nat.zero_le _)
    · by_cases h1 : q < 2
      · -- ahead of 2 there is nothing
        omega
      · refine one q (by omega) (by omega) ?_
        rw [p5 q hq h]
        refine rn_iload_n C dX12_nextPrime_42 rfl ?_
        refine rn_if_ne (tgt := 6) C dX12_nextPrime_43 (by decide) (fun h => absurd rfl h) (fun _ => ?_)
        refine rn_iinc (lv' := [(0, _), (1, _), (2, _)]) C dX12_nextPrime_46 rfl (nI_inc _) (by decide) rfl ?_
        refine rn_goto (tgt := 6) C dX12_nextPrime_49 (by decide) ?_
        exact ih (by omega)
  exact out (prN i + 1) (by omega) (Nat.lt_succ_self _)
def mrtC_l4 (mo : Nat) (S : StT)  : Nat → (Nat → Nat → Int32) × (Nat → Nat → Int64)
  | 0 => (S.1, S.2.1)
  | i4 + 1 => let y4_0 := (mrtC_l4 mo S i4).1; let y4_1 := (mrtC_l4 mo S i4).2; (let r1 := mrtB_f (mo) (3) (nI (prN (i4 + 1))) (y4_0, y4_1, S.2.2); (if (nI (8)) ≤ (nI (i4)) then (r1.2.1, va_up r1.2.2.1 (mo + 15) (vp_updL (r1.2.2.1 (mo + 15)) (i4) (r1.1))) else (let r3 := mrtB_f (mo) (2) (nI (prN (i4 + 1))) (r1.2.1, va_up r1.2.2.1 (mo + 15) (vp_updL (r1.2.2.1 (mo + 15)) (i4) (r1.1)), S.2.2); (r3.2.1, va_up r3.2.2.1 (mo + 14) (vp_updL (r3.2.2.1 (mo + 14)) (i4) (r3.1))))))
def mrtC_f (mo : Nat) (S : StT) : StT := ((mrtC_l4 mo S 80).1, (mrtC_l4 mo S 80).2, S.2.2)
theorem mrtC_F (mo : Nat) (S : StT) : (mrtC_f mo S).2.2 = S.2.2 := by
  unfold mrtC_f; first | rfl | ((repeat' split) <;> rfl) | (dsimp only; (repeat' split) <;> rfl)
set_option maxRecDepth 100000 in
set_option maxHeartbeats 4000000 in
theorem c_mrtC {k : KX} {L : Nat → Option Sh} {S : StT} {n : Nat} {mo : Nat} (hM : ModelAt k L mo) :
    Cs k yX12_rootConstants cX12_rootConstants 3 none 3 0 0 [.ref (k_b k + (mo))] (inst k L S.1 S.2.1 S.2.2) n (Pv k L n (mrtC_f mo S)) := by
  refine cs_of (by decide) (Nat.le_of_ble_eq_true rfl) ?_
  intro X hXk C Rt hnm
  subst hXk
  have hM9 := hM
  obtain ⟨hM0, hm1, hm2, hm3, hm4, hm5, hm6, hm7, hm8, hm9, hm10, hm11, hm12, hm13, hm14, hm15, hm16, hm17, hm18, hm19, hm20, hm21, hm22, hm23, hm24, hm25, hm26, hm27⟩ := hM9
  refine rn_lv [(0, .ref (k_b X.1 + (mo)))] (fun q h => h) ?_
  refine rn_iconst (v := nI 1) C dX12_rootConstants_0 rfl ?_
  refine rn_istore_n (lv' := [(0, _), (1, _)]) C dX12_rootConstants_1 (by decide) rfl ?_
  refine rn_iconst (v := nI 0) C dX12_rootConstants_2 rfl ?_
  refine rn_istore_n (lv' := [(0, _), (1, _), (2, _)]) C dX12_rootConstants_3 (by decide) rfl ?_
  have lp4 : ∀ i4, i4 ≤ 80 → Rn X 4 [(0, .ref (k_b X.1 + (mo))), (1, .int (nI (prN (i4)))), (2, .int (nI (i4)))] [] (inst X.1 L (mrtC_l4 mo S i4).1 (mrtC_l4 mo S i4).2 S.2.2) n 0 0 := by
    refine upto _ _ ?_ (fun i4 hi4 ih4 => ?_)
    · skip
      refine rn_iload_n C dX12_rootConstants_4 rfl ?_
      refine rn_bipush (v := nI 80) C dX12_rootConstants_5 rfl ?_
      refine rs_ge (tgt := 51) C dX12_rootConstants_7 (by decide) rfl rfl (by omega) (by omega) (fun _ => ?_) (fun q => absurd q (by omega))
      have hret : mrtC_f mo S = ((mrtC_l4 mo S 80).1, (mrtC_l4 mo S 80).2, S.2.2) := by
        first | (dsimp only [mrtC_f]; done) | (dsimp only [mrtC_f]; exact rfl) | exact rfl
      exact rn_vret C Rt dX12_rootConstants_51 (pv_of hret) (Nat.zero_le _) (Nat.zero_le _)
    · skip
      refine rn_iload_n C dX12_rootConstants_4 rfl ?_
      refine rn_bipush (v := nI 80) C dX12_rootConstants_5 rfl ?_
      refine rs_ge (tgt := 51) C dX12_rootConstants_7 (by decide) rfl rfl (by omega) (by omega) (fun q => absurd q (by omega)) (fun _ => ?_)
      refine rn_iload_n C dX12_rootConstants_10 rfl ?_
      refine rs_si C dX12_rootConstants_11 mk_X12_nextPrime ls_X12_239 (c_np (S := ((mrtC_l4 mo S i4).1, (mrtC_l4 mo S i4).2, S.2.2)) (i := i4) (by omega)) rfl rfl (by decide) (Nat.le_of_ble_eq_true rfl) (by decide) (by decide) ?_
      refine rn_istore_n (lv' := [(0, _), (1, _), (2, _)]) C dX12_rootConstants_14 (by decide) rfl ?_
      refine rn_aload_n C dX12_rootConstants_15 rfl ?_
      refine rs_get C dX12_rootConstants_16 fl_X12_75 hM0 rfl ?_
      refine rn_iload_n C dX12_rootConstants_19 rfl ?_
      refine rn_aload_n C dX12_rootConstants_20 rfl ?_
      refine rn_iload_n C dX12_rootConstants_21 rfl ?_
      refine rn_iconst (v := nI 3) C dX12_rootConstants_22 rfl ?_
      refine rs_vl C dX12_rootConstants_23 mk_X12_rootBits lv_X12_243 (c_mrtB (S := ((mrtC_l4 mo S i4).1, (mrtC_l4 mo S i4).2, S.2.2)) hM (by omega) (by omega)) hM0 rfl rfl rfl rfl (by decide) (Nat.le_of_ble_eq_true rfl) (by decide) (by decide) ?_
      rw [show (mrtB_f (mo) (3) (nI (prN (i4 + 1))) ((mrtC_l4 mo S i4).1, (mrtC_l4 mo S i4).2, S.2.2)).2.2.2 = S.2.2 from (mrtB_F (mo) (3) (nI (prN (i4 + 1))) ((mrtC_l4 mo S i4).1, (mrtC_l4 mo S i4).2, S.2.2))]
      generalize hr1 : mrtB_f (mo) (3) (nI (prN (i4 + 1))) ((mrtC_l4 mo S i4).1, (mrtC_l4 mo S i4).2, S.2.2) = r1
      refine rs_lastore C dX12_rootConstants_26 hm15 rfl (by omega) (by decide) ?_
      refine rn_iload_n C dX12_rootConstants_27 rfl ?_
      refine rn_bipush (v := nI 8) C dX12_rootConstants_28 rfl ?_
      refine rn_icmp_ge (tgt := 45) C dX12_rootConstants_30 (by decide) (fun hb2 => ?_) (fun hb2 => ?_)
      · skip
        refine rn_iinc (lv' := [(0, _), (1, _), (2, _)]) C dX12_rootConstants_45 rfl (nI_inc _) (by decide) rfl ?_
        refine rn_goto (tgt := 4) C dX12_rootConstants_48 (by decide) ?_
        have he4 : mrtC_l4 mo S (i4 + 1) = (r1.2.1, va_up r1.2.2.1 (mo + 15) (vp_updL (r1.2.2.1 (mo + 15)) (i4) (r1.1))) := by
          subst hr1
          first | (dsimp only [mrtC_l4]; done) | (dsimp only [mrtC_l4]; exact (if_pos hb2)) | exact (if_pos hb2)
        rw [he4] at ih4
        exact rn_ks [0, 1, 2] ih4 rfl
      · skip
        refine rn_aload_n C dX12_rootConstants_33 rfl ?_
        refine rs_get C dX12_rootConstants_34 fl_X12_72 hM0 rfl ?_
        refine rn_iload_n C dX12_rootConstants_37 rfl ?_
        refine rn_aload_n C dX12_rootConstants_38 rfl ?_
        refine rn_iload_n C dX12_rootConstants_39 rfl ?_
        refine rn_iconst (v := nI 2) C dX12_rootConstants_40 rfl ?_
        refine rs_vl C dX12_rootConstants_41 mk_X12_rootBits lv_X12_243 (c_mrtB (S := (r1.2.1, va_up r1.2.2.1 (mo + 15) (vp_updL (r1.2.2.1 (mo + 15)) (i4) (r1.1)), S.2.2)) hM (by omega) (by omega)) hM0 rfl rfl rfl rfl (by decide) (Nat.le_of_ble_eq_true rfl) (by decide) (by decide) ?_
        rw [show (mrtB_f (mo) (2) (nI (prN (i4 + 1))) (r1.2.1, va_up r1.2.2.1 (mo + 15) (vp_updL (r1.2.2.1 (mo + 15)) (i4) (r1.1)), S.2.2)).2.2.2 = S.2.2 from (mrtB_F (mo) (2) (nI (prN (i4 + 1))) (r1.2.1, va_up r1.2.2.1 (mo + 15) (vp_updL (r1.2.2.1 (mo + 15)) (i4) (r1.1)), S.2.2))]
        generalize hr3 : mrtB_f (mo) (2) (nI (prN (i4 + 1))) (r1.2.1, va_up r1.2.2.1 (mo + 15) (vp_updL (r1.2.2.1 (mo + 15)) (i4) (r1.1)), S.2.2) = r3
        refine rs_lastore C dX12_rootConstants_44 hm14 rfl (Nat.lt_of_not_le (fun q => hb2 ((nI_leI (by decide) (by omega)).mpr q))) (by decide) ?_
        refine rn_iinc (lv' := [(0, _), (1, _), (2, _)]) C dX12_rootConstants_45 rfl (nI_inc _) (by decide) rfl ?_
        refine rn_goto (tgt := 4) C dX12_rootConstants_48 (by decide) ?_
        have he4 : mrtC_l4 mo S (i4 + 1) = (r3.2.1, va_up r3.2.2.1 (mo + 14) (vp_updL (r3.2.2.1 (mo + 14)) (i4) (r3.1))) := by
          subst hr3
          subst hr1
          first | (dsimp only [mrtC_l4]; done) | (dsimp only [mrtC_l4]; exact (if_neg hb2)) | exact (if_neg hb2)
        rw [he4] at ih4
        exact rn_ks [0, 1, 2] ih4 rfl
  refine rn_lve (lv' := [(0, .ref (k_b X.1 + (mo))), (1, .int (nI (prN (0)))), (2, .int (nI (0)))]) (by rw [show nI (prN (0)) = nI (1) from (Eq.symm (nI_is rfl))]) ?_
  exact lp4 0 (Nat.zero_le _)
