/-! CurveSuiteModel: its public methods, by program (dc.py, spec_model10.py) -/
theorem nI_ge0 {a : Nat} (h : a < 2 ^ 31) : 0 ≤ nI a := (nI_leI (a := 0) (by decide) h).mpr (Nat.zero_le _)
theorem nI_is0 {a : Nat} (h : a = 0) : nI a = 0 := by subst h; rfl
theorem nI_is {a b : Nat} (h : a = b) : nI a = nI b := by subst h; rfl
theorem nI_nle0 {a : Nat} (h : a < 2 ^ 31) (h0 : a ≠ 0) : ¬ nI a ≤ 0 := fun e => by
  have := (nI_leI (b := 0) h (by decide)).mp e
  omega
theorem cv_msizeOf {k : KX} {L : Nat → Option Sh} {S : StT} {n : Nat} {rg v : Nat} (h : msizeOf_f (nI rg) S = (nI v, S)) :
    Cs k yX12_sizeOf cX12_sizeOf 1 (some .int) 0 0 0 [.int (nI rg)] (inst k L S.1 S.2.1 S.2.2) n (Pi k L n (nI v, S)) := by
  rw [← h]
  exact c_msizeOf
theorem cv_misPl {k : KX} {L : Nat → Option Sh} {S : StT} {n : Nat} {p : Nat} (h : p < 3) :
    Cs k yX12_isPlace cX12_isPlace 1 (some .boolean) 0 0 0 [.int (nI p)] (inst k L S.1 S.2.1 S.2.2) n (Pi k L n (nI 1, S)) := by
  have e : misPl_f (nI p) S = (nI 1, S) := by
    rcases p with _ | _ | _ | p
    · rfl
    · rfl
    · rfl
    · omega
  rw [← e]
  exact c_misPl
theorem mv_min {o s : Nat} (ho : o < 2 ^ 31) (hs : s < 2 ^ 31) : (if nI s ≤ nI o then s else o) = min o s := by
  by_cases h : s ≤ o
  · rw [if_pos ((nI_leI hs ho).mpr h)]; omega
  · rw [if_neg (fun q => h ((nI_leI hs ho).mp q))]; omega
def mcho_f (c : Bool) (mo : Nat) (S : StT) : StT := (S.1, S.2.1, fs (fs S.2.2 (mo) 13 (nI (bN c))) (mo) 14 (nI (pN c)))
theorem mcho_F (c : Bool) (mo : Nat) (S : StT) : (mcho_f c mo S).2.2 = fs (fs S.2.2 (mo) 13 (nI (bN c))) (mo) 14 (nI (pN c)) := by
  unfold mcho_f; first | rfl | ((repeat' split) <;> rfl) | (dsimp only; (repeat' split) <;> rfl)
set_option maxRecDepth 100000 in
set_option maxHeartbeats 400000 in
theorem c_mcho {k : KX} {L : Nat → Option Sh} {S : StT} {n : Nat} {c : Bool} {mo : Nat} (hM : ModelAt k L mo) :
    Cs k yX12_choose cX12_choose 2 none 0 0 0 [.ref (k_b k + (mo)), .int (nI (bN c))] (inst k L S.1 S.2.1 S.2.2) n (Pv k L n (mcho_f c mo S)) := by
  refine cs_of (by decide) (Nat.le_of_ble_eq_true rfl) ?_
  intro X hXk C Rt hnm
  subst hXk
  have hM9 := hM
  obtain ⟨hM0, hm1, hm2, hm3, hm4, hm5, hm6, hm7, hm8, hm9, hm10, hm11, hm12, hm13, hm14, hm15, hm16, hm17, hm18, hm19, hm20, hm21, hm22, hm23, hm24, hm25, hm26, hm27⟩ := hM9
  refine rn_lv [(0, .ref (k_b X.1 + (mo))), (1, .int (nI (bN c)))] (fun q h => h) ?_
  refine rn_aload_n C dX12_choose_0 rfl ?_
  refine rn_iload_n C dX12_choose_1 rfl ?_
  refine rs_putF C dX12_choose_2 fp_X12_51 hM0 rfl ?_
  refine rn_aload_n C dX12_choose_5 rfl ?_
  refine rn_iload_n C dX12_choose_6 rfl ?_
  have K7_1 : Rn X 17 [(0, .ref (k_b X.1 + (mo))), (1, .int (nI (bN c)))] [.int (nI ((if (nI (bN c)) ≠ 0 then 28 else 16))), .ref (k_b X.1 + (mo))] (inst X.1 L S.1 S.2.1 (fs S.2.2 (mo) 13 (nI (bN c)))) n 0 0 := by
    rw [show nI ((if (nI (bN c)) ≠ 0 then 28 else 16)) = nI (pN c) from (by cases c <;> rfl)]
    refine rs_putF C dX12_choose_17 fp_X12_54 hM0 rfl ?_
    have hret : mcho_f c mo S = (S.1, S.2.1, fs (fs S.2.2 (mo) 13 (nI (bN c))) (mo) 14 (nI (pN c))) := by
      first | (dsimp only [mcho_f]; done) | (dsimp only [mcho_f]; exact rfl) | exact rfl
    exact rn_vret C Rt dX12_choose_20 (pv_of hret) (Nat.zero_le _) (Nat.zero_le _)
  refine rn_if_ne (tgt := 15) C dX12_choose_7 (by decide) (fun hb1 => ?_) (fun hb1 => ?_)
  · skip
    refine rn_bipush (v := nI 28) C dX12_choose_15 rfl ?_
    rw [if_pos hb1] at K7_1
    exact K7_1
  · skip
    refine rn_bipush (v := nI 16) C dX12_choose_10 rfl ?_
    refine rn_goto (tgt := 17) C dX12_choose_12 (by decide) ?_
    rw [if_neg (fun q => q hb1)] at K7_1
    exact K7_1
def mputX_f (mo : Nat) (rg : Int32) (pl : Int32) (v : Int64) (n_ : Int32) (S : StT) : StT := (S.1, S.2.1, fs S.2.2 (mo) 0 (nI (1)))
theorem mputX_F (mo : Nat) (rg : Int32) (pl : Int32) (v : Int64) (n_ : Int32) (S : StT) : (mputX_f mo rg pl v n_ S).2.2 = fs S.2.2 (mo) 0 (nI (1)) := by
  unfold mputX_f; first | rfl | ((repeat' split) <;> rfl) | (dsimp only; (repeat' split) <;> rfl)
set_option maxRecDepth 100000 in
set_option maxHeartbeats 400000 in
theorem c_mputX {k : KX} {L : Nat → Option Sh} {S : StT} {n : Nat} {mo : Nat} {rg : Int32} {pl : Int32} {v : Int64} {n_ : Int32} (hM : ModelAt k L mo) (hbad : n_ < nI 1 ∨ nI 8 < n_ ∨ rg < 0 ∨ ¬ rg ≤ nI 2) :
    Cs k yX12_put cX12_put 7 none 1 0 0 [.ref (k_b k + (mo)), .int (rg), .int (pl), .long (v), .int (n_)] (inst k L S.1 S.2.1 S.2.2) n (Pv k L n (mputX_f mo rg pl v n_ S)) := by
  refine cs_of (by decide) (Nat.le_of_ble_eq_true rfl) ?_
  intro X hXk C Rt hnm
  subst hXk
  have hM9 := hM
  obtain ⟨hM0, hm1, hm2, hm3, hm4, hm5, hm6, hm7, hm8, hm9, hm10, hm11, hm12, hm13, hm14, hm15, hm16, hm17, hm18, hm19, hm20, hm21, hm22, hm23, hm24, hm25, hm26, hm27⟩ := hM9
  refine rn_lv [(0, .ref (k_b X.1 + (mo))), (1, .int (rg)), (2, .int (pl)), (3, .long (v)), (5, .int (n_))] (fun q h => h) ?_
  refine rn_aload_n C dX12_put_0 rfl ?_
  refine rn_iload C dX12_put_1 rfl ?_
  refine rn_iconst (v := nI 1) C dX12_put_3 rfl ?_
  refine rn_icmp_lt (tgt := 23) C dX12_put_4 (by decide) (fun hb1 => ?_) (fun hb1 => ?_)
  · skip
    refine rn_iconst (v := nI 1) C dX12_put_23 rfl ?_
    refine rn_goto (tgt := 47) C dX12_put_24 (by decide) ?_
    refine rs_putF C dX12_put_47 fp_X12_7 hM0 rfl ?_
    refine rn_aload_n C dX12_put_50 rfl ?_
    refine rs_getFe C dX12_put_51 fl_X12_7 hM0 rfl fs_get ?_
    refine rn_if_eq (tgt := 58) C dX12_put_54 (by decide) (fun hb => absurd hb (show ¬ (nI (1)) = 0 from by decide)) (fun hb => ?_)
    have hret : mputX_f mo rg pl v n_ S = (S.1, S.2.1, fs S.2.2 (mo) 0 (nI (1))) := by
      first | (dsimp only [mputX_f]; done) | (dsimp only [mputX_f]; exact rfl) | exact rfl
    exact rn_vret C Rt dX12_put_57 (pv_of hret) (Nat.zero_le _) (Nat.zero_le _)
  · skip
    refine rn_iload C dX12_put_7 rfl ?_
    refine rn_bipush (v := nI 8) C dX12_put_9 rfl ?_
    refine rn_icmp_gt (tgt := 23) C dX12_put_11 (by decide) (fun hb2 => ?_) (fun hb2 => ?_)
    · skip
      refine rn_iconst (v := nI 1) C dX12_put_23 rfl ?_
      refine rn_goto (tgt := 47) C dX12_put_24 (by decide) ?_
      refine rs_putF C dX12_put_47 fp_X12_7 hM0 rfl ?_
      refine rn_aload_n C dX12_put_50 rfl ?_
      refine rs_getFe C dX12_put_51 fl_X12_7 hM0 rfl fs_get ?_
      refine rn_if_eq (tgt := 58) C dX12_put_54 (by decide) (fun hb => absurd hb (show ¬ (nI (1)) = 0 from by decide)) (fun hb => ?_)
      have hret : mputX_f mo rg pl v n_ S = (S.1, S.2.1, fs S.2.2 (mo) 0 (nI (1))) := by
        first | (dsimp only [mputX_f]; done) | (dsimp only [mputX_f]; exact rfl) | exact rfl
      exact rn_vret C Rt dX12_put_57 (pv_of hret) (Nat.zero_le _) (Nat.zero_le _)
    · skip
      refine rn_iload_n C dX12_put_14 rfl ?_
      refine rn_if_lt (tgt := 23) C dX12_put_15 (by decide) (fun hb3 => ?_) (fun hb3 => ?_)
      · skip
        refine rn_iconst (v := nI 1) C dX12_put_23 rfl ?_
        refine rn_goto (tgt := 47) C dX12_put_24 (by decide) ?_
        refine rs_putF C dX12_put_47 fp_X12_7 hM0 rfl ?_
        refine rn_aload_n C dX12_put_50 rfl ?_
        refine rs_getFe C dX12_put_51 fl_X12_7 hM0 rfl fs_get ?_
        refine rn_if_eq (tgt := 58) C dX12_put_54 (by decide) (fun hb => absurd hb (show ¬ (nI (1)) = 0 from by decide)) (fun hb => ?_)
        have hret : mputX_f mo rg pl v n_ S = (S.1, S.2.1, fs S.2.2 (mo) 0 (nI (1))) := by
          first | (dsimp only [mputX_f]; done) | (dsimp only [mputX_f]; exact rfl) | exact rfl
        exact rn_vret C Rt dX12_put_57 (pv_of hret) (Nat.zero_le _) (Nat.zero_le _)
      · skip
        refine rn_iload_n C dX12_put_18 rfl ?_
        refine rn_iconst (v := nI 2) C dX12_put_19 rfl ?_
        refine rn_icmp_le (tgt := 27) C dX12_put_20 (by decide) (fun hb4 => ?_) (fun hb4 => ?_)
        · skip
          exact absurd hbad (by rintro (h | h | h | h) <;> contradiction)
        · skip
          refine rn_iconst (v := nI 1) C dX12_put_23 rfl ?_
          refine rn_goto (tgt := 47) C dX12_put_24 (by decide) ?_
          refine rs_putF C dX12_put_47 fp_X12_7 hM0 rfl ?_
          refine rn_aload_n C dX12_put_50 rfl ?_
          refine rs_getFe C dX12_put_51 fl_X12_7 hM0 rfl fs_get ?_
          refine rn_if_eq (tgt := 58) C dX12_put_54 (by decide) (fun hb => absurd hb (show ¬ (nI (1)) = 0 from by decide)) (fun hb => ?_)
          have hret : mputX_f mo rg pl v n_ S = (S.1, S.2.1, fs S.2.2 (mo) 0 (nI (1))) := by
            first | (dsimp only [mputX_f]; done) | (dsimp only [mputX_f]; exact rfl) | exact rfl
          exact rn_vret C Rt dX12_put_57 (pv_of hret) (Nat.zero_le _) (Nat.zero_le _)
def mput0_l61 (mo : Nat) (pl : Nat) (nn : Nat) (v : Int64) (S : StT)  : Nat → (Nat → Nat → Int32) × (Nat → Nat → Int64)
  | 0 => (S.1, S.2.1)
  | i61 + 1 => let y61_0 := (mput0_l61 mo pl nn v S i61).1; let y61_1 := (mput0_l61 mo pl nn v S i61).2; (let S1 := mset_f (mo) (nI (0)) (pl + i61) (((v >>> ((nI (8 * (nn - 1 - i61))).toInt64 &&& 63)).toInt32) &&& (nI (255))) (y61_0, y61_1, fs S.2.2 (mo) 0 (nI (0))); (S1.1, S1.2.1))
def mput0_f (mo : Nat) (pl : Nat) (nn : Nat) (v : Int64) (S : StT) : StT := ((mput0_l61 mo pl nn v S nn).1, (mput0_l61 mo pl nn v S nn).2, fs S.2.2 (mo) 0 (nI (0)))
theorem mput0_F (mo : Nat) (pl : Nat) (nn : Nat) (v : Int64) (S : StT) : (mput0_f mo pl nn v S).2.2 = fs S.2.2 (mo) 0 (nI (0)) := by
  unfold mput0_f; first | rfl | ((repeat' split) <;> rfl) | (dsimp only; (repeat' split) <;> rfl)
set_option maxRecDepth 100000 in
set_option maxHeartbeats 400000 in
theorem c_mput0 {k : KX} {L : Nat → Option Sh} {S : StT} {n : Nat} {mo : Nat} {pl : Nat} {nn : Nat} {v : Int64} (hM : ModelAt k L mo) (hn1 : 1 ≤ nn) (hn8 : nn ≤ 8) (hpl : pl + nn ≤ 57) :
    Cs k yX12_put cX12_put 7 none 1 0 0 [.ref (k_b k + (mo)), .int (nI (0)), .int (nI (pl)), .long (v), .int (nI (nn))] (inst k L S.1 S.2.1 S.2.2) n (Pv k L n (mput0_f mo pl nn v S)) := by
  refine cs_of (by decide) (Nat.le_of_ble_eq_true rfl) ?_
  intro X hXk C Rt hnm
  subst hXk
  have hM9 := hM
  obtain ⟨hM0, hm1, hm2, hm3, hm4, hm5, hm6, hm7, hm8, hm9, hm10, hm11, hm12, hm13, hm14, hm15, hm16, hm17, hm18, hm19, hm20, hm21, hm22, hm23, hm24, hm25, hm26, hm27⟩ := hM9
  refine rn_lv [(0, .ref (k_b X.1 + (mo))), (1, .int (nI (0))), (2, .int (nI (pl))), (3, .long (v)), (5, .int (nI (nn)))] (fun q h => h) ?_
  refine rn_aload_n C dX12_put_0 rfl ?_
  refine rn_iload C dX12_put_1 rfl ?_
  refine rn_iconst (v := nI 1) C dX12_put_3 rfl ?_
  refine rn_icmp_lt (tgt := 23) C dX12_put_4 (by decide) (fun hb => absurd hb (fun h => absurd ((nI_ltI (by omega) (by omega)).mp h) (by omega))) (fun hb => ?_)
  refine rn_iload C dX12_put_7 rfl ?_
  refine rn_bipush (v := nI 8) C dX12_put_9 rfl ?_
  refine rn_icmp_gt (tgt := 23) C dX12_put_11 (by decide) (fun hb => absurd hb (fun h => absurd ((nI_ltI (by omega) (by omega)).mp h) (by omega))) (fun hb => ?_)
  refine rn_iload_n C dX12_put_14 rfl ?_
  refine rn_if_lt (tgt := 23) C dX12_put_15 (by decide) (fun hb => absurd hb (show ¬ (nI (0)) < 0 from by decide)) (fun hb => ?_)
  refine rn_iload_n C dX12_put_18 rfl ?_
  refine rn_iconst (v := nI 2) C dX12_put_19 rfl ?_
  refine rn_icmp_le (tgt := 27) C dX12_put_20 (by decide) (fun hb => ?_) (fun hb => absurd (show (nI (0)) ≤ (nI (2)) from by decide) hb)
  refine rn_iload_n C dX12_put_27 rfl ?_
  refine rn_if_lt (tgt := 42) C dX12_put_28 (by decide) (fun hb => absurd hb (nI_n0 (by omega))) (fun hb => ?_)
  refine rn_iload_n C dX12_put_31 rfl ?_
  refine rn_iload_n C dX12_put_32 rfl ?_
  refine rs_si C dX12_put_33 mk_X12_sizeOf ls_X12_328 (cv_msizeOf (rg := 0) (v := 57) rfl) rfl rfl (by decide) (Nat.le_of_ble_eq_true rfl) (by decide) (by decide) ?_
  refine rn_iload C dX12_put_36 rfl ?_
  refine rn_isub C dX12_put_38 (pk_sub (by omega)) ?_
  refine rn_icmp_le (tgt := 46) C dX12_put_39 (by decide) (fun hb => ?_) (fun hb => absurd ((nI_leI (by omega) (by omega)).mpr (by omega)) hb)
  refine rn_iconst (v := nI 0) C dX12_put_46 rfl ?_
  refine rs_putF C dX12_put_47 fp_X12_7 hM0 rfl ?_
  refine rn_aload_n C dX12_put_50 rfl ?_
  refine rs_getFe C dX12_put_51 fl_X12_7 hM0 rfl fs_get ?_
  refine rn_if_eq (tgt := 58) C dX12_put_54 (by decide) (fun hb => ?_) (fun hb => absurd (show (nI (0)) = 0 from by decide) hb)
  refine rn_iconst (v := nI 0) C dX12_put_58 rfl ?_
  refine rn_istore (lv' := [(0, _), (1, _), (2, _), (3, _), (5, _), (6, _)]) C dX12_put_59 (by decide) rfl ?_
  have lp61 : ∀ i61, i61 ≤ nn → Rn X 61 [(0, .ref (k_b X.1 + (mo))), (1, .int (nI (0))), (2, .int (nI (pl))), (3, .long (v)), (5, .int (nI (nn))), (6, .int (nI (i61)))] [] (inst X.1 L (mput0_l61 mo pl nn v S i61).1 (mput0_l61 mo pl nn v S i61).2 (fs S.2.2 (mo) 0 (nI (0)))) n 0 0 := by
    refine upto _ _ ?_ (fun i61 hi61 ih61 => ?_)
    · skip
      refine rn_iload C dX12_put_61 rfl ?_
      refine rn_iload C dX12_put_63 rfl ?_
      refine rs_ge (tgt := 100) C dX12_put_65 (by decide) rfl rfl (by omega) (by omega) (fun _ => ?_) (fun q => absurd q (by omega))
      have hret : mput0_f mo pl nn v S = ((mput0_l61 mo pl nn v S nn).1, (mput0_l61 mo pl nn v S nn).2, fs S.2.2 (mo) 0 (nI (0))) := by
        first | (dsimp only [mput0_f]; done) | (dsimp only [mput0_f]; exact rfl) | exact rfl
      exact rn_vret C Rt dX12_put_100 (pv_of hret) (Nat.zero_le _) (Nat.zero_le _)
    · skip
      refine rn_iload C dX12_put_61 rfl ?_
      refine rn_iload C dX12_put_63 rfl ?_
      refine rs_ge (tgt := 100) C dX12_put_65 (by decide) rfl rfl (by omega) (by omega) (fun q => absurd q (by omega)) (fun _ => ?_)
      refine rn_aload_n C dX12_put_68 rfl ?_
      refine rn_iload_n C dX12_put_69 rfl ?_
      refine rn_iload_n C dX12_put_70 rfl ?_
      refine rn_iload C dX12_put_71 rfl ?_
      refine rn_iadd C dX12_put_73 (nI_add _ _) ?_
      refine rn_lload_n C dX12_put_74 rfl ?_
      refine rn_bipush (v := nI 8) C dX12_put_75 rfl ?_
      refine rn_iload C dX12_put_77 rfl ?_
      refine rn_iconst (v := nI 1) C dX12_put_79 rfl ?_
      refine rn_isub C dX12_put_80 (pk_sub (by omega)) ?_
      refine rn_iload C dX12_put_81 rfl ?_
      refine rn_isub C dX12_put_83 (pk_sub (by omega)) ?_
      refine rn_imul C dX12_put_84 (pk_mul _ _) ?_
      refine rn_lshr C dX12_put_85 rfl ?_
      refine rn_l2i C dX12_put_86 rfl ?_
      refine rn_sipush (v := nI 255) C dX12_put_87 rfl ?_
      refine rn_iand C dX12_put_90 rfl ?_
      refine rs_vv C dX12_put_91 mk_X12_set lv_X12_331 (c_mset (S := ((mput0_l61 mo pl nn v S i61).1, (mput0_l61 mo pl nn v S i61).2, fs S.2.2 (mo) 0 (nI (0)))) hM (by omega) (fun _ => by omega) (fun _ => by omega)) hM0 rfl rfl rfl rfl (by decide) (Nat.le_of_ble_eq_true rfl) (by decide) (by decide) ?_
      rw [show (mset_f (mo) (nI (0)) (pl + i61) (((v >>> ((nI (8 * (nn - 1 - i61))).toInt64 &&& 63)).toInt32) &&& (nI (255))) ((mput0_l61 mo pl nn v S i61).1, (mput0_l61 mo pl nn v S i61).2, fs S.2.2 (mo) 0 (nI (0)))).2.2 = fs S.2.2 (mo) 0 (nI (0)) from (mset_F (mo) (nI (0)) (pl + i61) (((v >>> ((nI (8 * (nn - 1 - i61))).toInt64 &&& 63)).toInt32) &&& (nI (255))) ((mput0_l61 mo pl nn v S i61).1, (mput0_l61 mo pl nn v S i61).2, fs S.2.2 (mo) 0 (nI (0))))]
      generalize hS1 : mset_f (mo) (nI (0)) (pl + i61) (((v >>> ((nI (8 * (nn - 1 - i61))).toInt64 &&& 63)).toInt32) &&& (nI (255))) ((mput0_l61 mo pl nn v S i61).1, (mput0_l61 mo pl nn v S i61).2, fs S.2.2 (mo) 0 (nI (0))) = S1
      refine rn_iinc (lv' := [(0, _), (1, _), (2, _), (3, _), (5, _), (6, _)]) C dX12_put_94 rfl (nI_inc _) (by decide) rfl ?_
      refine rn_goto (tgt := 61) C dX12_put_97 (by decide) ?_
      have he61 : mput0_l61 mo pl nn v S (i61 + 1) = (S1.1, S1.2.1) := by
        subst hS1
        first | (dsimp only [mput0_l61]; done) | (dsimp only [mput0_l61]; exact rfl) | exact rfl
      rw [he61] at ih61
      exact rn_ks [0, 1, 2, 3, 5, 6] ih61 rfl
  exact lp61 0 (Nat.zero_le _)
def mputY0_f (mo : Nat) (nn : Nat) (pl : Int32) (v : Int64) (S : StT) : StT := (S.1, S.2.1, fs S.2.2 (mo) 0 (nI (2)))
theorem mputY0_F (mo : Nat) (nn : Nat) (pl : Int32) (v : Int64) (S : StT) : (mputY0_f mo nn pl v S).2.2 = fs S.2.2 (mo) 0 (nI (2)) := by
  unfold mputY0_f; first | rfl | ((repeat' split) <;> rfl) | (dsimp only; (repeat' split) <;> rfl)
set_option maxRecDepth 100000 in
set_option maxHeartbeats 400000 in
theorem c_mputY0 {k : KX} {L : Nat → Option Sh} {S : StT} {n : Nat} {mo : Nat} {nn : Nat} {pl : Int32} {v : Int64} (hM : ModelAt k L mo) (hn1 : 1 ≤ nn) (hn8 : nn ≤ 8) (hbad : pl < 0 ∨ ¬ pl ≤ nI (57 - nn)) :
    Cs k yX12_put cX12_put 7 none 1 0 0 [.ref (k_b k + (mo)), .int (nI (0)), .int (pl), .long (v), .int (nI (nn))] (inst k L S.1 S.2.1 S.2.2) n (Pv k L n (mputY0_f mo nn pl v S)) := by
  refine cs_of (by decide) (Nat.le_of_ble_eq_true rfl) ?_
  intro X hXk C Rt hnm
  subst hXk
  have hM9 := hM
  obtain ⟨hM0, hm1, hm2, hm3, hm4, hm5, hm6, hm7, hm8, hm9, hm10, hm11, hm12, hm13, hm14, hm15, hm16, hm17, hm18, hm19, hm20, hm21, hm22, hm23, hm24, hm25, hm26, hm27⟩ := hM9
  refine rn_lv [(0, .ref (k_b X.1 + (mo))), (1, .int (nI (0))), (2, .int (pl)), (3, .long (v)), (5, .int (nI (nn)))] (fun q h => h) ?_
  refine rn_aload_n C dX12_put_0 rfl ?_
  refine rn_iload C dX12_put_1 rfl ?_
  refine rn_iconst (v := nI 1) C dX12_put_3 rfl ?_
  refine rn_icmp_lt (tgt := 23) C dX12_put_4 (by decide) (fun hb => absurd hb (fun h => absurd ((nI_ltI (by omega) (by omega)).mp h) (by omega))) (fun hb => ?_)
  refine rn_iload C dX12_put_7 rfl ?_
  refine rn_bipush (v := nI 8) C dX12_put_9 rfl ?_
  refine rn_icmp_gt (tgt := 23) C dX12_put_11 (by decide) (fun hb => absurd hb (fun h => absurd ((nI_ltI (by omega) (by omega)).mp h) (by omega))) (fun hb => ?_)
  refine rn_iload_n C dX12_put_14 rfl ?_
  refine rn_if_lt (tgt := 23) C dX12_put_15 (by decide) (fun hb => absurd hb (show ¬ (nI (0)) < 0 from by decide)) (fun hb => ?_)
  refine rn_iload_n C dX12_put_18 rfl ?_
  refine rn_iconst (v := nI 2) C dX12_put_19 rfl ?_
  refine rn_icmp_le (tgt := 27) C dX12_put_20 (by decide) (fun hb => ?_) (fun hb => absurd (show (nI (0)) ≤ (nI (2)) from by decide) hb)
  refine rn_iload_n C dX12_put_27 rfl ?_
  refine rn_if_lt (tgt := 42) C dX12_put_28 (by decide) (fun hb1 => ?_) (fun hb1 => ?_)
  · skip
    refine rn_iconst (v := nI 2) C dX12_put_42 rfl ?_
    refine rn_goto (tgt := 47) C dX12_put_43 (by decide) ?_
    refine rs_putF C dX12_put_47 fp_X12_7 hM0 rfl ?_
    refine rn_aload_n C dX12_put_50 rfl ?_
    refine rs_getFe C dX12_put_51 fl_X12_7 hM0 rfl fs_get ?_
    refine rn_if_eq (tgt := 58) C dX12_put_54 (by decide) (fun hb => absurd hb (show ¬ (nI (2)) = 0 from by decide)) (fun hb => ?_)
    have hret : mputY0_f mo nn pl v S = (S.1, S.2.1, fs S.2.2 (mo) 0 (nI (2))) := by
      first | (dsimp only [mputY0_f]; done) | (dsimp only [mputY0_f]; exact rfl) | exact rfl
    exact rn_vret C Rt dX12_put_57 (pv_of hret) (Nat.zero_le _) (Nat.zero_le _)
  · skip
    refine rn_iload_n C dX12_put_31 rfl ?_
    refine rn_iload_n C dX12_put_32 rfl ?_
    refine rs_si C dX12_put_33 mk_X12_sizeOf ls_X12_328 (cv_msizeOf (rg := 0) (v := 57) rfl) rfl rfl (by decide) (Nat.le_of_ble_eq_true rfl) (by decide) (by decide) ?_
    refine rn_iload C dX12_put_36 rfl ?_
    refine rn_isub C dX12_put_38 (pk_sub (by omega)) ?_
    refine rn_icmp_le (tgt := 46) C dX12_put_39 (by decide) (fun hb2 => ?_) (fun hb2 => ?_)
    · skip
      exact absurd hbad (by rintro (h | h) <;> contradiction)
    · skip
      refine rn_iconst (v := nI 2) C dX12_put_42 rfl ?_
      refine rn_goto (tgt := 47) C dX12_put_43 (by decide) ?_
      refine rs_putF C dX12_put_47 fp_X12_7 hM0 rfl ?_
      refine rn_aload_n C dX12_put_50 rfl ?_
      refine rs_getFe C dX12_put_51 fl_X12_7 hM0 rfl fs_get ?_
      refine rn_if_eq (tgt := 58) C dX12_put_54 (by decide) (fun hb => absurd hb (show ¬ (nI (2)) = 0 from by decide)) (fun hb => ?_)
      have hret : mputY0_f mo nn pl v S = (S.1, S.2.1, fs S.2.2 (mo) 0 (nI (2))) := by
        first | (dsimp only [mputY0_f]; done) | (dsimp only [mputY0_f]; exact rfl) | exact rfl
      exact rn_vret C Rt dX12_put_57 (pv_of hret) (Nat.zero_le _) (Nat.zero_le _)
def mmove0_l52 (mo : Nat) (S : StT)  : Nat → (Nat → Nat → Int32) × (Nat → Nat → Int64)
  | 0 => (S.1, S.2.1)
  | i52 + 1 => let y52_0 := (mmove0_l52 mo S i52).1; let y52_1 := (mmove0_l52 mo S i52).2; (let S2 := mset_f (mo) (nI (0)) (i52) (y52_0 (mo + 4) (i52)) (y52_0, y52_1, fs S.2.2 (mo) 0 (nI (0))); (S2.1, S2.2.1))
def mmove0_f (mo : Nat) (ou : Nat) (S : StT) : Int32 × StT := (nI (min ou 57), ((mmove0_l52 mo S (min ou 57)).1, (mmove0_l52 mo S (min ou 57)).2, fs S.2.2 (mo) 0 (nI (0))))
theorem mmove0_F (mo : Nat) (ou : Nat) (S : StT) : (mmove0_f mo ou S).2.2.2 = fs S.2.2 (mo) 0 (nI (0)) := by
  unfold mmove0_f; first | rfl | ((repeat' split) <;> rfl) | (dsimp only; (repeat' split) <;> rfl)
set_option maxRecDepth 100000 in
set_option maxHeartbeats 400000 in
theorem c_mmove0 {k : KX} {L : Nat → Option Sh} {S : StT} {n : Nat} {mo : Nat} {ou : Nat} (hM : ModelAt k L mo) (hou : S.2.2 mo 5 = nI ou) (hou1 : ou ≤ 114) :
    Cs k yX12_move cX12_move 4 (some .int) 1 0 0 [.ref (k_b k + (mo)), .int (nI (0))] (inst k L S.1 S.2.1 S.2.2) n (Pi k L n (mmove0_f mo ou S)) := by
  refine cs_of (by decide) (Nat.le_of_ble_eq_true rfl) ?_
  intro X hXk C Rt hnm
  subst hXk
  have hM9 := hM
  obtain ⟨hM0, hm1, hm2, hm3, hm4, hm5, hm6, hm7, hm8, hm9, hm10, hm11, hm12, hm13, hm14, hm15, hm16, hm17, hm18, hm19, hm20, hm21, hm22, hm23, hm24, hm25, hm26, hm27⟩ := hM9
  refine rn_lv [(0, .ref (k_b X.1 + (mo))), (1, .int (nI (0)))] (fun q h => h) ?_
  refine rn_aload_n C dX12_move_0 rfl ?_
  refine rn_iload_n C dX12_move_1 rfl ?_
  refine rn_if_lt (tgt := 10) C dX12_move_2 (by decide) (fun hb => absurd hb (show ¬ (nI (0)) < 0 from by decide)) (fun hb => ?_)
  refine rn_iload_n C dX12_move_5 rfl ?_
  refine rn_iconst (v := nI 2) C dX12_move_6 rfl ?_
  refine rn_icmp_le (tgt := 14) C dX12_move_7 (by decide) (fun hb => ?_) (fun hb => absurd (show (nI (0)) ≤ (nI (2)) from by decide) hb)
  refine rn_iconst (v := nI 0) C dX12_move_14 rfl ?_
  refine rs_putF C dX12_move_15 fp_X12_7 hM0 rfl ?_
  refine rn_aload_n C dX12_move_18 rfl ?_
  refine rs_getFe C dX12_move_19 fl_X12_7 hM0 rfl fs_get ?_
  refine rn_if_eq (tgt := 27) C dX12_move_22 (by decide) (fun hb => ?_) (fun hb => absurd (show (nI (0)) = 0 from by decide) hb)
  refine rn_aload_n C dX12_move_27 rfl ?_
  refine rs_getFe C dX12_move_28 fl_X12_26 hM0 rfl ((fs_oth (by decide)).trans hou) ?_
  refine rn_iload_n C dX12_move_31 rfl ?_
  refine rs_si C dX12_move_32 mk_X12_sizeOf ls_X12_328 (cv_msizeOf (S := (S.1, S.2.1, fs S.2.2 (mo) 0 (nI (0)))) (rg := 0) (v := 57) rfl) rfl rfl (by decide) (Nat.le_of_ble_eq_true rfl) (by decide) (by decide) ?_
  have K35_1 : Rn X 49 [(0, .ref (k_b X.1 + (mo))), (1, .int (nI (0)))] [.int (nI ((if (nI (57)) ≤ (nI (ou)) then 57 else ou)))] (inst X.1 L S.1 S.2.1 (fs S.2.2 (mo) 0 (nI (0)))) n 0 0 := by
    rw [show nI ((if (nI (57)) ≤ (nI (ou)) then 57 else ou)) = nI (min ou 57) from (nI_is (mv_min (by omega) (by omega)))]
    refine rn_istore_n (lv' := [(0, _), (1, _), (2, _)]) C dX12_move_49 (by decide) rfl ?_
    refine rn_iconst (v := nI 0) C dX12_move_50 rfl ?_
    refine rn_istore_n (lv' := [(0, _), (1, _), (2, _), (3, _)]) C dX12_move_51 (by decide) rfl ?_
    have lp52 : ∀ i52, i52 ≤ min ou 57 → Rn X 52 [(0, .ref (k_b X.1 + (mo))), (1, .int (nI (0))), (2, .int (nI (min ou 57))), (3, .int (nI (i52)))] [] (inst X.1 L (mmove0_l52 mo S i52).1 (mmove0_l52 mo S i52).2 (fs S.2.2 (mo) 0 (nI (0)))) n 0 0 := by
      refine upto _ _ ?_ (fun i52 hi52 ih52 => ?_)
      · skip
        refine rn_iload_n C dX12_move_52 rfl ?_
        refine rn_iload_n C dX12_move_53 rfl ?_
        refine rs_ge (tgt := 75) C dX12_move_54 (by decide) rfl rfl (by omega) (by omega) (fun _ => ?_) (fun q => absurd q (by omega))
        refine rn_iload_n C dX12_move_75 rfl ?_
        have hret : mmove0_f mo ou S = (nI (min ou 57), ((mmove0_l52 mo S (min ou 57)).1, (mmove0_l52 mo S (min ou 57)).2, fs S.2.2 (mo) 0 (nI (0)))) := by
          first | (dsimp only [mmove0_f]; done) | (dsimp only [mmove0_f]; exact rfl) | exact rfl
        exact rn_iret C Rt dX12_move_76 (pi_of hret) (Nat.zero_le _) (Nat.zero_le _)
      · skip
        refine rn_iload_n C dX12_move_52 rfl ?_
        refine rn_iload_n C dX12_move_53 rfl ?_
        refine rs_ge (tgt := 75) C dX12_move_54 (by decide) rfl rfl (by omega) (by omega) (fun q => absurd q (by omega)) (fun _ => ?_)
        refine rn_aload_n C dX12_move_57 rfl ?_
        refine rn_iload_n C dX12_move_58 rfl ?_
        refine rn_iload_n C dX12_move_59 rfl ?_
        refine rn_aload_n C dX12_move_60 rfl ?_
        refine rs_get C dX12_move_61 fl_X12_23 hM0 rfl ?_
        refine rn_iload_n C dX12_move_64 rfl ?_
        refine rs_iaload C dX12_move_65 hm4 rfl (by omega) (by decide) ?_
        refine rs_vv C dX12_move_66 mk_X12_set lv_X12_331 (c_mset (S := ((mmove0_l52 mo S i52).1, (mmove0_l52 mo S i52).2, fs S.2.2 (mo) 0 (nI (0)))) hM (by omega) (fun _ => by omega) (fun _ => by omega)) hM0 rfl rfl rfl rfl (by decide) (Nat.le_of_ble_eq_true rfl) (by decide) (by decide) ?_
        rw [show (mset_f (mo) (nI (0)) (i52) ((mmove0_l52 mo S i52).1 (mo + 4) (i52)) ((mmove0_l52 mo S i52).1, (mmove0_l52 mo S i52).2, fs S.2.2 (mo) 0 (nI (0)))).2.2 = fs S.2.2 (mo) 0 (nI (0)) from (mset_F (mo) (nI (0)) (i52) ((mmove0_l52 mo S i52).1 (mo + 4) (i52)) ((mmove0_l52 mo S i52).1, (mmove0_l52 mo S i52).2, fs S.2.2 (mo) 0 (nI (0))))]
        generalize hS2 : mset_f (mo) (nI (0)) (i52) ((mmove0_l52 mo S i52).1 (mo + 4) (i52)) ((mmove0_l52 mo S i52).1, (mmove0_l52 mo S i52).2, fs S.2.2 (mo) 0 (nI (0))) = S2
        refine rn_iinc (lv' := [(0, _), (1, _), (2, _), (3, _)]) C dX12_move_69 rfl (nI_inc _) (by decide) rfl ?_
        refine rn_goto (tgt := 52) C dX12_move_72 (by decide) ?_
        have he52 : mmove0_l52 mo S (i52 + 1) = (S2.1, S2.2.1) := by
          subst hS2
          first | (dsimp only [mmove0_l52]; done) | (dsimp only [mmove0_l52]; exact rfl) | exact rfl
        rw [he52] at ih52
        exact rn_ks [0, 1, 2, 3] ih52 rfl
    exact lp52 0 (Nat.zero_le _)
  refine rn_icmp_ge (tgt := 45) C dX12_move_35 (by decide) (fun hb1 => ?_) (fun hb1 => ?_)
  · skip
    refine rn_iload_n C dX12_move_45 rfl ?_
    refine rs_si C dX12_move_46 mk_X12_sizeOf ls_X12_328 (cv_msizeOf (S := (S.1, S.2.1, fs S.2.2 (mo) 0 (nI (0)))) (rg := 0) (v := 57) rfl) rfl rfl (by decide) (Nat.le_of_ble_eq_true rfl) (by decide) (by decide) ?_
    rw [if_pos hb1] at K35_1
    exact K35_1
  · skip
    refine rn_aload_n C dX12_move_38 rfl ?_
    refine rs_getFe C dX12_move_39 fl_X12_26 hM0 rfl ((fs_oth (by decide)).trans hou) ?_
    refine rn_goto (tgt := 49) C dX12_move_42 (by decide) ?_
    rw [if_neg hb1] at K35_1
    exact K35_1
def mput1_l61 (mo : Nat) (pl : Nat) (nn : Nat) (v : Int64) (S : StT)  : Nat → (Nat → Nat → Int32) × (Nat → Nat → Int64)
  | 0 => (S.1, S.2.1)
  | i61 + 1 => let y61_0 := (mput1_l61 mo pl nn v S i61).1; let y61_1 := (mput1_l61 mo pl nn v S i61).2; (let S1 := mset_f (mo) (nI (1)) (pl + i61) (((v >>> ((nI (8 * (nn - 1 - i61))).toInt64 &&& 63)).toInt32) &&& (nI (255))) (y61_0, y61_1, fs S.2.2 (mo) 0 (nI (0))); (S1.1, S1.2.1))
def mput1_f (mo : Nat) (pl : Nat) (nn : Nat) (v : Int64) (S : StT) : StT := ((mput1_l61 mo pl nn v S nn).1, (mput1_l61 mo pl nn v S nn).2, fs S.2.2 (mo) 0 (nI (0)))
theorem mput1_F (mo : Nat) (pl : Nat) (nn : Nat) (v : Int64) (S : StT) : (mput1_f mo pl nn v S).2.2 = fs S.2.2 (mo) 0 (nI (0)) := by
  unfold mput1_f; first | rfl | ((repeat' split) <;> rfl) | (dsimp only; (repeat' split) <;> rfl)
set_option maxRecDepth 100000 in
set_option maxHeartbeats 400000 in
theorem c_mput1 {k : KX} {L : Nat → Option Sh} {S : StT} {n : Nat} {mo : Nat} {pl : Nat} {nn : Nat} {v : Int64} (hM : ModelAt k L mo) (hn1 : 1 ≤ nn) (hn8 : nn ≤ 8) (hpl : pl + nn ≤ 57) :
    Cs k yX12_put cX12_put 7 none 1 0 0 [.ref (k_b k + (mo)), .int (nI (1)), .int (nI (pl)), .long (v), .int (nI (nn))] (inst k L S.1 S.2.1 S.2.2) n (Pv k L n (mput1_f mo pl nn v S)) := by
  refine cs_of (by decide) (Nat.le_of_ble_eq_true rfl) ?_
  intro X hXk C Rt hnm
  subst hXk
  have hM9 := hM
  obtain ⟨hM0, hm1, hm2, hm3, hm4, hm5, hm6, hm7, hm8, hm9, hm10, hm11, hm12, hm13, hm14, hm15, hm16, hm17, hm18, hm19, hm20, hm21, hm22, hm23, hm24, hm25, hm26, hm27⟩ := hM9
  refine rn_lv [(0, .ref (k_b X.1 + (mo))), (1, .int (nI (1))), (2, .int (nI (pl))), (3, .long (v)), (5, .int (nI (nn)))] (fun q h => h) ?_
  refine rn_aload_n C dX12_put_0 rfl ?_
  refine rn_iload C dX12_put_1 rfl ?_
  refine rn_iconst (v := nI 1) C dX12_put_3 rfl ?_
  refine rn_icmp_lt (tgt := 23) C dX12_put_4 (by decide) (fun hb => absurd hb (fun h => absurd ((nI_ltI (by omega) (by omega)).mp h) (by omega))) (fun hb => ?_)
  refine rn_iload C dX12_put_7 rfl ?_
  refine rn_bipush (v := nI 8) C dX12_put_9 rfl ?_
  refine rn_icmp_gt (tgt := 23) C dX12_put_11 (by decide) (fun hb => absurd hb (fun h => absurd ((nI_ltI (by omega) (by omega)).mp h) (by omega))) (fun hb => ?_)
  refine rn_iload_n C dX12_put_14 rfl ?_
  refine rn_if_lt (tgt := 23) C dX12_put_15 (by decide) (fun hb => absurd hb (show ¬ (nI (1)) < 0 from by decide)) (fun hb => ?_)
  refine rn_iload_n C dX12_put_18 rfl ?_
  refine rn_iconst (v := nI 2) C dX12_put_19 rfl ?_
  refine rn_icmp_le (tgt := 27) C dX12_put_20 (by decide) (fun hb => ?_) (fun hb => absurd (show (nI (1)) ≤ (nI (2)) from by decide) hb)
  refine rn_iload_n C dX12_put_27 rfl ?_
  refine rn_if_lt (tgt := 42) C dX12_put_28 (by decide) (fun hb => absurd hb (nI_n0 (by omega))) (fun hb => ?_)
  refine rn_iload_n C dX12_put_31 rfl ?_
  refine rn_iload_n C dX12_put_32 rfl ?_
  refine rs_si C dX12_put_33 mk_X12_sizeOf ls_X12_328 (cv_msizeOf (rg := 1) (v := 57) rfl) rfl rfl (by decide) (Nat.le_of_ble_eq_true rfl) (by decide) (by decide) ?_
  refine rn_iload C dX12_put_36 rfl ?_
  refine rn_isub C dX12_put_38 (pk_sub (by omega)) ?_
  refine rn_icmp_le (tgt := 46) C dX12_put_39 (by decide) (fun hb => ?_) (fun hb => absurd ((nI_leI (by omega) (by omega)).mpr (by omega)) hb)
  refine rn_iconst (v := nI 0) C dX12_put_46 rfl ?_
  refine rs_putF C dX12_put_47 fp_X12_7 hM0 rfl ?_
  refine rn_aload_n C dX12_put_50 rfl ?_
  refine rs_getFe C dX12_put_51 fl_X12_7 hM0 rfl fs_get ?_
  refine rn_if_eq (tgt := 58) C dX12_put_54 (by decide) (fun hb => ?_) (fun hb => absurd (show (nI (0)) = 0 from by decide) hb)
  refine rn_iconst (v := nI 0) C dX12_put_58 rfl ?_
  refine rn_istore (lv' := [(0, _), (1, _), (2, _), (3, _), (5, _), (6, _)]) C dX12_put_59 (by decide) rfl ?_
  have lp61 : ∀ i61, i61 ≤ nn → Rn X 61 [(0, .ref (k_b X.1 + (mo))), (1, .int (nI (1))), (2, .int (nI (pl))), (3, .long (v)), (5, .int (nI (nn))), (6, .int (nI (i61)))] [] (inst X.1 L (mput1_l61 mo pl nn v S i61).1 (mput1_l61 mo pl nn v S i61).2 (fs S.2.2 (mo) 0 (nI (0)))) n 0 0 := by
    refine upto _ _ ?_ (fun i61 hi61 ih61 => ?_)
    · skip
      refine rn_iload C dX12_put_61 rfl ?_
      refine rn_iload C dX12_put_63 rfl ?_
      refine rs_ge (tgt := 100) C dX12_put_65 (by decide) rfl rfl (by omega) (by omega) (fun _ => ?_) (fun q => absurd q (by omega))
      have hret : mput1_f mo pl nn v S = ((mput1_l61 mo pl nn v S nn).1, (mput1_l61 mo pl nn v S nn).2, fs S.2.2 (mo) 0 (nI (0))) := by
        first | (dsimp only [mput1_f]; done) | (dsimp only [mput1_f]; exact rfl) | exact rfl
      exact rn_vret C Rt dX12_put_100 (pv_of hret) (Nat.zero_le _) (Nat.zero_le _)
    · skip
      refine rn_iload C dX12_put_61 rfl ?_
      refine rn_iload C dX12_put_63 rfl ?_
      refine rs_ge (tgt := 100) C dX12_put_65 (by decide) rfl rfl (by omega) (by omega) (fun q => absurd q (by omega)) (fun _ => ?_)
      refine rn_aload_n C dX12_put_68 rfl ?_
      refine rn_iload_n C dX12_put_69 rfl ?_
      refine rn_iload_n C dX12_put_70 rfl ?_
      refine rn_iload C dX12_put_71 rfl ?_
      refine rn_iadd C dX12_put_73 (nI_add _ _) ?_
      refine rn_lload_n C dX12_put_74 rfl ?_
      refine rn_bipush (v := nI 8) C dX12_put_75 rfl ?_
      refine rn_iload C dX12_put_77 rfl ?_
      refine rn_iconst (v := nI 1) C dX12_put_79 rfl ?_
      refine rn_isub C dX12_put_80 (pk_sub (by omega)) ?_
      refine rn_iload C dX12_put_81 rfl ?_
      refine rn_isub C dX12_put_83 (pk_sub (by omega)) ?_
      refine rn_imul C dX12_put_84 (pk_mul _ _) ?_
      refine rn_lshr C dX12_put_85 rfl ?_
      refine rn_l2i C dX12_put_86 rfl ?_
      refine rn_sipush (v := nI 255) C dX12_put_87 rfl ?_
      refine rn_iand C dX12_put_90 rfl ?_
      refine rs_vv C dX12_put_91 mk_X12_set lv_X12_331 (c_mset (S := ((mput1_l61 mo pl nn v S i61).1, (mput1_l61 mo pl nn v S i61).2, fs S.2.2 (mo) 0 (nI (0)))) hM (by omega) (fun _ => by omega) (fun _ => by omega)) hM0 rfl rfl rfl rfl (by decide) (Nat.le_of_ble_eq_true rfl) (by decide) (by decide) ?_
      rw [show (mset_f (mo) (nI (1)) (pl + i61) (((v >>> ((nI (8 * (nn - 1 - i61))).toInt64 &&& 63)).toInt32) &&& (nI (255))) ((mput1_l61 mo pl nn v S i61).1, (mput1_l61 mo pl nn v S i61).2, fs S.2.2 (mo) 0 (nI (0)))).2.2 = fs S.2.2 (mo) 0 (nI (0)) from (mset_F (mo) (nI (1)) (pl + i61) (((v >>> ((nI (8 * (nn - 1 - i61))).toInt64 &&& 63)).toInt32) &&& (nI (255))) ((mput1_l61 mo pl nn v S i61).1, (mput1_l61 mo pl nn v S i61).2, fs S.2.2 (mo) 0 (nI (0))))]
      generalize hS1 : mset_f (mo) (nI (1)) (pl + i61) (((v >>> ((nI (8 * (nn - 1 - i61))).toInt64 &&& 63)).toInt32) &&& (nI (255))) ((mput1_l61 mo pl nn v S i61).1, (mput1_l61 mo pl nn v S i61).2, fs S.2.2 (mo) 0 (nI (0))) = S1
      refine rn_iinc (lv' := [(0, _), (1, _), (2, _), (3, _), (5, _), (6, _)]) C dX12_put_94 rfl (nI_inc _) (by decide) rfl ?_
      refine rn_goto (tgt := 61) C dX12_put_97 (by decide) ?_
      have he61 : mput1_l61 mo pl nn v S (i61 + 1) = (S1.1, S1.2.1) := by
        subst hS1
        first | (dsimp only [mput1_l61]; done) | (dsimp only [mput1_l61]; exact rfl) | exact rfl
      rw [he61] at ih61
      exact rn_ks [0, 1, 2, 3, 5, 6] ih61 rfl
  exact lp61 0 (Nat.zero_le _)
def mputY1_f (mo : Nat) (nn : Nat) (pl : Int32) (v : Int64) (S : StT) : StT := (S.1, S.2.1, fs S.2.2 (mo) 0 (nI (2)))
theorem mputY1_F (mo : Nat) (nn : Nat) (pl : Int32) (v : Int64) (S : StT) : (mputY1_f mo nn pl v S).2.2 = fs S.2.2 (mo) 0 (nI (2)) := by
  unfold mputY1_f; first | rfl | ((repeat' split) <;> rfl) | (dsimp only; (repeat' split) <;> rfl)
set_option maxRecDepth 100000 in
set_option maxHeartbeats 400000 in
theorem c_mputY1 {k : KX} {L : Nat → Option Sh} {S : StT} {n : Nat} {mo : Nat} {nn : Nat} {pl : Int32} {v : Int64} (hM : ModelAt k L mo) (hn1 : 1 ≤ nn) (hn8 : nn ≤ 8) (hbad : pl < 0 ∨ ¬ pl ≤ nI (57 - nn)) :
    Cs k yX12_put cX12_put 7 none 1 0 0 [.ref (k_b k + (mo)), .int (nI (1)), .int (pl), .long (v), .int (nI (nn))] (inst k L S.1 S.2.1 S.2.2) n (Pv k L n (mputY1_f mo nn pl v S)) := by
  refine cs_of (by decide) (Nat.le_of_ble_eq_true rfl) ?_
  intro X hXk C Rt hnm
  subst hXk
  have hM9 := hM
  obtain ⟨hM0, hm1, hm2, hm3, hm4, hm5, hm6, hm7, hm8, hm9, hm10, hm11, hm12, hm13, hm14, hm15, hm16, hm17, hm18, hm19, hm20, hm21, hm22, hm23, hm24, hm25, hm26, hm27⟩ := hM9
  refine rn_lv [(0, .ref (k_b X.1 + (mo))), (1, .int (nI (1))), (2, .int (pl)), (3, .long (v)), (5, .int (nI (nn)))] (fun q h => h) ?_
  refine rn_aload_n C dX12_put_0 rfl ?_
  refine rn_iload C dX12_put_1 rfl ?_
  refine rn_iconst (v := nI 1) C dX12_put_3 rfl ?_
  refine rn_icmp_lt (tgt := 23) C dX12_put_4 (by decide) (fun hb => absurd hb (fun h => absurd ((nI_ltI (by omega) (by omega)).mp h) (by omega))) (fun hb => ?_)
  refine rn_iload C dX12_put_7 rfl ?_
  refine rn_bipush (v := nI 8) C dX12_put_9 rfl ?_
  refine rn_icmp_gt (tgt := 23) C dX12_put_11 (by decide) (fun hb => absurd hb (fun h => absurd ((nI_ltI (by omega) (by omega)).mp h) (by omega))) (fun hb => ?_)
  refine rn_iload_n C dX12_put_14 rfl ?_
  refine rn_if_lt (tgt := 23) C dX12_put_15 (by decide) (fun hb => absurd hb (show ¬ (nI (1)) < 0 from by decide)) (fun hb => ?_)
  refine rn_iload_n C dX12_put_18 rfl ?_
  refine rn_iconst (v := nI 2) C dX12_put_19 rfl ?_
  refine rn_icmp_le (tgt := 27) C dX12_put_20 (by decide) (fun hb => ?_) (fun hb => absurd (show (nI (1)) ≤ (nI (2)) from by decide) hb)
  refine rn_iload_n C dX12_put_27 rfl ?_
  refine rn_if_lt (tgt := 42) C dX12_put_28 (by decide) (fun hb1 => ?_) (fun hb1 => ?_)
  · skip
    refine rn_iconst (v := nI 2) C dX12_put_42 rfl ?_
    refine rn_goto (tgt := 47) C dX12_put_43 (by decide) ?_
    refine rs_putF C dX12_put_47 fp_X12_7 hM0 rfl ?_
    refine rn_aload_n C dX12_put_50 rfl ?_
    refine rs_getFe C dX12_put_51 fl_X12_7 hM0 rfl fs_get ?_
    refine rn_if_eq (tgt := 58) C dX12_put_54 (by decide) (fun hb => absurd hb (show ¬ (nI (2)) = 0 from by decide)) (fun hb => ?_)
    have hret : mputY1_f mo nn pl v S = (S.1, S.2.1, fs S.2.2 (mo) 0 (nI (2))) := by
      first | (dsimp only [mputY1_f]; done) | (dsimp only [mputY1_f]; exact rfl) | exact rfl
    exact rn_vret C Rt dX12_put_57 (pv_of hret) (Nat.zero_le _) (Nat.zero_le _)
  · skip
    refine rn_iload_n C dX12_put_31 rfl ?_
    refine rn_iload_n C dX12_put_32 rfl ?_
    refine rs_si C dX12_put_33 mk_X12_sizeOf ls_X12_328 (cv_msizeOf (rg := 1) (v := 57) rfl) rfl rfl (by decide) (Nat.le_of_ble_eq_true rfl) (by decide) (by decide) ?_
    refine rn_iload C dX12_put_36 rfl ?_
    refine rn_isub C dX12_put_38 (pk_sub (by omega)) ?_
    refine rn_icmp_le (tgt := 46) C dX12_put_39 (by decide) (fun hb2 => ?_) (fun hb2 => ?_)
    · skip
      exact absurd hbad (by rintro (h | h) <;> contradiction)
    · skip
      refine rn_iconst (v := nI 2) C dX12_put_42 rfl ?_
      refine rn_goto (tgt := 47) C dX12_put_43 (by decide) ?_
      refine rs_putF C dX12_put_47 fp_X12_7 hM0 rfl ?_
      refine rn_aload_n C dX12_put_50 rfl ?_
      refine rs_getFe C dX12_put_51 fl_X12_7 hM0 rfl fs_get ?_
      refine rn_if_eq (tgt := 58) C dX12_put_54 (by decide) (fun hb => absurd hb (show ¬ (nI (2)) = 0 from by decide)) (fun hb => ?_)
      have hret : mputY1_f mo nn pl v S = (S.1, S.2.1, fs S.2.2 (mo) 0 (nI (2))) := by
        first | (dsimp only [mputY1_f]; done) | (dsimp only [mputY1_f]; exact rfl) | exact rfl
      exact rn_vret C Rt dX12_put_57 (pv_of hret) (Nat.zero_le _) (Nat.zero_le _)
def mmove1_l52 (mo : Nat) (S : StT)  : Nat → (Nat → Nat → Int32) × (Nat → Nat → Int64)
  | 0 => (S.1, S.2.1)
  | i52 + 1 => let y52_0 := (mmove1_l52 mo S i52).1; let y52_1 := (mmove1_l52 mo S i52).2; (let S2 := mset_f (mo) (nI (1)) (i52) (y52_0 (mo + 4) (i52)) (y52_0, y52_1, fs S.2.2 (mo) 0 (nI (0))); (S2.1, S2.2.1))
def mmove1_f (mo : Nat) (ou : Nat) (S : StT) : Int32 × StT := (nI (min ou 57), ((mmove1_l52 mo S (min ou 57)).1, (mmove1_l52 mo S (min ou 57)).2, fs S.2.2 (mo) 0 (nI (0))))
theorem mmove1_F (mo : Nat) (ou : Nat) (S : StT) : (mmove1_f mo ou S).2.2.2 = fs S.2.2 (mo) 0 (nI (0)) := by
  unfold mmove1_f; first | rfl | ((repeat' split) <;> rfl) | (dsimp only; (repeat' split) <;> rfl)
set_option maxRecDepth 100000 in
set_option maxHeartbeats 400000 in
theorem c_mmove1 {k : KX} {L : Nat → Option Sh} {S : StT} {n : Nat} {mo : Nat} {ou : Nat} (hM : ModelAt k L mo) (hou : S.2.2 mo 5 = nI ou) (hou1 : ou ≤ 114) :
    Cs k yX12_move cX12_move 4 (some .int) 1 0 0 [.ref (k_b k + (mo)), .int (nI (1))] (inst k L S.1 S.2.1 S.2.2) n (Pi k L n (mmove1_f mo ou S)) := by
  refine cs_of (by decide) (Nat.le_of_ble_eq_true rfl) ?_
  intro X hXk C Rt hnm
  subst hXk
  have hM9 := hM
  obtain ⟨hM0, hm1, hm2, hm3, hm4, hm5, hm6, hm7, hm8, hm9, hm10, hm11, hm12, hm13, hm14, hm15, hm16, hm17, hm18, hm19, hm20, hm21, hm22, hm23, hm24, hm25, hm26, hm27⟩ := hM9
  refine rn_lv [(0, .ref (k_b X.1 + (mo))), (1, .int (nI (1)))] (fun q h => h) ?_
  refine rn_aload_n C dX12_move_0 rfl ?_
  refine rn_iload_n C dX12_move_1 rfl ?_
  refine rn_if_lt (tgt := 10) C dX12_move_2 (by decide) (fun hb => absurd hb (show ¬ (nI (1)) < 0 from by decide)) (fun hb => ?_)
  refine rn_iload_n C dX12_move_5 rfl ?_
  refine rn_iconst (v := nI 2) C dX12_move_6 rfl ?_
  refine rn_icmp_le (tgt := 14) C dX12_move_7 (by decide) (fun hb => ?_) (fun hb => absurd (show (nI (1)) ≤ (nI (2)) from by decide) hb)
  refine rn_iconst (v := nI 0) C dX12_move_14 rfl ?_
  refine rs_putF C dX12_move_15 fp_X12_7 hM0 rfl ?_
  refine rn_aload_n C dX12_move_18 rfl ?_
  refine rs_getFe C dX12_move_19 fl_X12_7 hM0 rfl fs_get ?_
  refine rn_if_eq (tgt := 27) C dX12_move_22 (by decide) (fun hb => ?_) (fun hb => absurd (show (nI (0)) = 0 from by decide) hb)
  refine rn_aload_n C dX12_move_27 rfl ?_
  refine rs_getFe C dX12_move_28 fl_X12_26 hM0 rfl ((fs_oth (by decide)).trans hou) ?_
  refine rn_iload_n C dX12_move_31 rfl ?_
  refine rs_si C dX12_move_32 mk_X12_sizeOf ls_X12_328 (cv_msizeOf (S := (S.1, S.2.1, fs S.2.2 (mo) 0 (nI (0)))) (rg := 1) (v := 57) rfl) rfl rfl (by decide) (Nat.le_of_ble_eq_true rfl) (by decide) (by decide) ?_
  have K35_1 : Rn X 49 [(0, .ref (k_b X.1 + (mo))), (1, .int (nI (1)))] [.int (nI ((if (nI (57)) ≤ (nI (ou)) then 57 else ou)))] (inst X.1 L S.1 S.2.1 (fs S.2.2 (mo) 0 (nI (0)))) n 0 0 := by
    rw [show nI ((if (nI (57)) ≤ (nI (ou)) then 57 else ou)) = nI (min ou 57) from (nI_is (mv_min (by omega) (by omega)))]
    refine rn_istore_n (lv' := [(0, _), (1, _), (2, _)]) C dX12_move_49 (by decide) rfl ?_
    refine rn_iconst (v := nI 0) C dX12_move_50 rfl ?_
    refine rn_istore_n (lv' := [(0, _), (1, _), (2, _), (3, _)]) C dX12_move_51 (by decide) rfl ?_
    have lp52 : ∀ i52, i52 ≤ min ou 57 → Rn X 52 [(0, .ref (k_b X.1 + (mo))), (1, .int (nI (1))), (2, .int (nI (min ou 57))), (3, .int (nI (i52)))] [] (inst X.1 L (mmove1_l52 mo S i52).1 (mmove1_l52 mo S i52).2 (fs S.2.2 (mo) 0 (nI (0)))) n 0 0 := by
      refine upto _ _ ?_ (fun i52 hi52 ih52 => ?_)
      · skip
        refine rn_iload_n C dX12_move_52 rfl ?_
        refine rn_iload_n C dX12_move_53 rfl ?_
        refine rs_ge (tgt := 75) C dX12_move_54 (by decide) rfl rfl (by omega) (by omega) (fun _ => ?_) (fun q => absurd q (by omega))
        refine rn_iload_n C dX12_move_75 rfl ?_
        have hret : mmove1_f mo ou S = (nI (min ou 57), ((mmove1_l52 mo S (min ou 57)).1, (mmove1_l52 mo S (min ou 57)).2, fs S.2.2 (mo) 0 (nI (0)))) := by
          first | (dsimp only [mmove1_f]; done) | (dsimp only [mmove1_f]; exact rfl) | exact rfl
        exact rn_iret C Rt dX12_move_76 (pi_of hret) (Nat.zero_le _) (Nat.zero_le _)
      · skip
        refine rn_iload_n C dX12_move_52 rfl ?_
        refine rn_iload_n C dX12_move_53 rfl ?_
        refine rs_ge (tgt := 75) C dX12_move_54 (by decide) rfl rfl (by omega) (by omega) (fun q => absurd q (by omega)) (fun _ => ?_)
        refine rn_aload_n C dX12_move_57 rfl ?_
        refine rn_iload_n C dX12_move_58 rfl ?_
        refine rn_iload_n C dX12_move_59 rfl ?_
        refine rn_aload_n C dX12_move_60 rfl ?_
        refine rs_get C dX12_move_61 fl_X12_23 hM0 rfl ?_
        refine rn_iload_n C dX12_move_64 rfl ?_
        refine rs_iaload C dX12_move_65 hm4 rfl (by omega) (by decide) ?_
        refine rs_vv C dX12_move_66 mk_X12_set lv_X12_331 (c_mset (S := ((mmove1_l52 mo S i52).1, (mmove1_l52 mo S i52).2, fs S.2.2 (mo) 0 (nI (0)))) hM (by omega) (fun _ => by omega) (fun _ => by omega)) hM0 rfl rfl rfl rfl (by decide) (Nat.le_of_ble_eq_true rfl) (by decide) (by decide) ?_
        rw [show (mset_f (mo) (nI (1)) (i52) ((mmove1_l52 mo S i52).1 (mo + 4) (i52)) ((mmove1_l52 mo S i52).1, (mmove1_l52 mo S i52).2, fs S.2.2 (mo) 0 (nI (0)))).2.2 = fs S.2.2 (mo) 0 (nI (0)) from (mset_F (mo) (nI (1)) (i52) ((mmove1_l52 mo S i52).1 (mo + 4) (i52)) ((mmove1_l52 mo S i52).1, (mmove1_l52 mo S i52).2, fs S.2.2 (mo) 0 (nI (0))))]
        generalize hS2 : mset_f (mo) (nI (1)) (i52) ((mmove1_l52 mo S i52).1 (mo + 4) (i52)) ((mmove1_l52 mo S i52).1, (mmove1_l52 mo S i52).2, fs S.2.2 (mo) 0 (nI (0))) = S2
        refine rn_iinc (lv' := [(0, _), (1, _), (2, _), (3, _)]) C dX12_move_69 rfl (nI_inc _) (by decide) rfl ?_
        refine rn_goto (tgt := 52) C dX12_move_72 (by decide) ?_
        have he52 : mmove1_l52 mo S (i52 + 1) = (S2.1, S2.2.1) := by
          subst hS2
          first | (dsimp only [mmove1_l52]; done) | (dsimp only [mmove1_l52]; exact rfl) | exact rfl
        rw [he52] at ih52
        exact rn_ks [0, 1, 2, 3] ih52 rfl
    exact lp52 0 (Nat.zero_le _)
  refine rn_icmp_ge (tgt := 45) C dX12_move_35 (by decide) (fun hb1 => ?_) (fun hb1 => ?_)
  · skip
    refine rn_iload_n C dX12_move_45 rfl ?_
    refine rs_si C dX12_move_46 mk_X12_sizeOf ls_X12_328 (cv_msizeOf (S := (S.1, S.2.1, fs S.2.2 (mo) 0 (nI (0)))) (rg := 1) (v := 57) rfl) rfl rfl (by decide) (Nat.le_of_ble_eq_true rfl) (by decide) (by decide) ?_
    rw [if_pos hb1] at K35_1
    exact K35_1
  · skip
    refine rn_aload_n C dX12_move_38 rfl ?_
    refine rs_getFe C dX12_move_39 fl_X12_26 hM0 rfl ((fs_oth (by decide)).trans hou) ?_
    refine rn_goto (tgt := 49) C dX12_move_42 (by decide) ?_
    rw [if_neg hb1] at K35_1
    exact K35_1
def mput2_l61 (mo : Nat) (pl : Nat) (nn : Nat) (v : Int64) (S : StT)  : Nat → (Nat → Nat → Int32) × (Nat → Nat → Int64)
  | 0 => (S.1, S.2.1)
  | i61 + 1 => let y61_0 := (mput2_l61 mo pl nn v S i61).1; let y61_1 := (mput2_l61 mo pl nn v S i61).2; (let S1 := mset_f (mo) (nI (2)) (pl + i61) (((v >>> ((nI (8 * (nn - 1 - i61))).toInt64 &&& 63)).toInt32) &&& (nI (255))) (y61_0, y61_1, fs S.2.2 (mo) 0 (nI (0))); (S1.1, S1.2.1))
def mput2_f (mo : Nat) (pl : Nat) (nn : Nat) (v : Int64) (S : StT) : StT := ((mput2_l61 mo pl nn v S nn).1, (mput2_l61 mo pl nn v S nn).2, fs S.2.2 (mo) 0 (nI (0)))
theorem mput2_F (mo : Nat) (pl : Nat) (nn : Nat) (v : Int64) (S : StT) : (mput2_f mo pl nn v S).2.2 = fs S.2.2 (mo) 0 (nI (0)) := by
  unfold mput2_f; first | rfl | ((repeat' split) <;> rfl) | (dsimp only; (repeat' split) <;> rfl)
set_option maxRecDepth 100000 in
set_option maxHeartbeats 400000 in
theorem c_mput2 {k : KX} {L : Nat → Option Sh} {S : StT} {n : Nat} {mo : Nat} {pl : Nat} {nn : Nat} {v : Int64} (hM : ModelAt k L mo) (hn1 : 1 ≤ nn) (hn8 : nn ≤ 8) (hpl : pl + nn ≤ 114) :
    Cs k yX12_put cX12_put 7 none 1 0 0 [.ref (k_b k + (mo)), .int (nI (2)), .int (nI (pl)), .long (v), .int (nI (nn))] (inst k L S.1 S.2.1 S.2.2) n (Pv k L n (mput2_f mo pl nn v S)) := by
  refine cs_of (by decide) (Nat.le_of_ble_eq_true rfl) ?_
  intro X hXk C Rt hnm
  subst hXk
  have hM9 := hM
  obtain ⟨hM0, hm1, hm2, hm3, hm4, hm5, hm6, hm7, hm8, hm9, hm10, hm11, hm12, hm13, hm14, hm15, hm16, hm17, hm18, hm19, hm20, hm21, hm22, hm23, hm24, hm25, hm26, hm27⟩ := hM9
  refine rn_lv [(0, .ref (k_b X.1 + (mo))), (1, .int (nI (2))), (2, .int (nI (pl))), (3, .long (v)), (5, .int (nI (nn)))] (fun q h => h) ?_
  refine rn_aload_n C dX12_put_0 rfl ?_
  refine rn_iload C dX12_put_1 rfl ?_
  refine rn_iconst (v := nI 1) C dX12_put_3 rfl ?_
  refine rn_icmp_lt (tgt := 23) C dX12_put_4 (by decide) (fun hb => absurd hb (fun h => absurd ((nI_ltI (by omega) (by omega)).mp h) (by omega))) (fun hb => ?_)
  refine rn_iload C dX12_put_7 rfl ?_
  refine rn_bipush (v := nI 8) C dX12_put_9 rfl ?_
  refine rn_icmp_gt (tgt := 23) C dX12_put_11 (by decide) (fun hb => absurd hb (fun h => absurd ((nI_ltI (by omega) (by omega)).mp h) (by omega))) (fun hb => ?_)
  refine rn_iload_n C dX12_put_14 rfl ?_
  refine rn_if_lt (tgt := 23) C dX12_put_15 (by decide) (fun hb => absurd hb (show ¬ (nI (2)) < 0 from by decide)) (fun hb => ?_)
  refine rn_iload_n C dX12_put_18 rfl ?_
  refine rn_iconst (v := nI 2) C dX12_put_19 rfl ?_
  refine rn_icmp_le (tgt := 27) C dX12_put_20 (by decide) (fun hb => ?_) (fun hb => absurd (show (nI (2)) ≤ (nI (2)) from by decide) hb)
  refine rn_iload_n C dX12_put_27 rfl ?_
  refine rn_if_lt (tgt := 42) C dX12_put_28 (by decide) (fun hb => absurd hb (nI_n0 (by omega))) (fun hb => ?_)
  refine rn_iload_n C dX12_put_31 rfl ?_
  refine rn_iload_n C dX12_put_32 rfl ?_
  refine rs_si C dX12_put_33 mk_X12_sizeOf ls_X12_328 (cv_msizeOf (rg := 2) (v := 114) rfl) rfl rfl (by decide) (Nat.le_of_ble_eq_true rfl) (by decide) (by decide) ?_
  refine rn_iload C dX12_put_36 rfl ?_
  refine rn_isub C dX12_put_38 (pk_sub (by omega)) ?_
  refine rn_icmp_le (tgt := 46) C dX12_put_39 (by decide) (fun hb => ?_) (fun hb => absurd ((nI_leI (by omega) (by omega)).mpr (by omega)) hb)
  refine rn_iconst (v := nI 0) C dX12_put_46 rfl ?_
  refine rs_putF C dX12_put_47 fp_X12_7 hM0 rfl ?_
  refine rn_aload_n C dX12_put_50 rfl ?_
  refine rs_getFe C dX12_put_51 fl_X12_7 hM0 rfl fs_get ?_
  refine rn_if_eq (tgt := 58) C dX12_put_54 (by decide) (fun hb => ?_) (fun hb => absurd (show (nI (0)) = 0 from by decide) hb)
  refine rn_iconst (v := nI 0) C dX12_put_58 rfl ?_
  refine rn_istore (lv' := [(0, _), (1, _), (2, _), (3, _), (5, _), (6, _)]) C dX12_put_59 (by decide) rfl ?_
  have lp61 : ∀ i61, i61 ≤ nn → Rn X 61 [(0, .ref (k_b X.1 + (mo))), (1, .int (nI (2))), (2, .int (nI (pl))), (3, .long (v)), (5, .int (nI (nn))), (6, .int (nI (i61)))] [] (inst X.1 L (mput2_l61 mo pl nn v S i61).1 (mput2_l61 mo pl nn v S i61).2 (fs S.2.2 (mo) 0 (nI (0)))) n 0 0 := by
    refine upto _ _ ?_ (fun i61 hi61 ih61 => ?_)
    · skip
      refine rn_iload C dX12_put_61 rfl ?_
      refine rn_iload C dX12_put_63 rfl ?_
      refine rs_ge (tgt := 100) C dX12_put_65 (by decide) rfl rfl (by omega) (by omega) (fun _ => ?_) (fun q => absurd q (by omega))
      have hret : mput2_f mo pl nn v S = ((mput2_l61 mo pl nn v S nn).1, (mput2_l61 mo pl nn v S nn).2, fs S.2.2 (mo) 0 (nI (0))) := by
        first | (dsimp only [mput2_f]; done) | (dsimp only [mput2_f]; exact rfl) | exact rfl
      exact rn_vret C Rt dX12_put_100 (pv_of hret) (Nat.zero_le _) (Nat.zero_le _)
    · skip
      refine rn_iload C dX12_put_61 rfl ?_
      refine rn_iload C dX12_put_63 rfl ?_
      refine rs_ge (tgt := 100) C dX12_put_65 (by decide) rfl rfl (by omega) (by omega) (fun q => absurd q (by omega)) (fun _ => ?_)
      refine rn_aload_n C dX12_put_68 rfl ?_
      refine rn_iload_n C dX12_put_69 rfl ?_
      refine rn_iload_n C dX12_put_70 rfl ?_
      refine rn_iload C dX12_put_71 rfl ?_
      refine rn_iadd C dX12_put_73 (nI_add _ _) ?_
      refine rn_lload_n C dX12_put_74 rfl ?_
      refine rn_bipush (v := nI 8) C dX12_put_75 rfl ?_
      refine rn_iload C dX12_put_77 rfl ?_
      refine rn_iconst (v := nI 1) C dX12_put_79 rfl ?_
      refine rn_isub C dX12_put_80 (pk_sub (by omega)) ?_
      refine rn_iload C dX12_put_81 rfl ?_
      refine rn_isub C dX12_put_83 (pk_sub (by omega)) ?_
      refine rn_imul C dX12_put_84 (pk_mul _ _) ?_
      refine rn_lshr C dX12_put_85 rfl ?_
      refine rn_l2i C dX12_put_86 rfl ?_
      refine rn_sipush (v := nI 255) C dX12_put_87 rfl ?_
      refine rn_iand C dX12_put_90 rfl ?_
      refine rs_vv C dX12_put_91 mk_X12_set lv_X12_331 (c_mset (S := ((mput2_l61 mo pl nn v S i61).1, (mput2_l61 mo pl nn v S i61).2, fs S.2.2 (mo) 0 (nI (0)))) hM (by omega) (fun h => absurd h (by decide)) (fun h => absurd h (by decide))) hM0 rfl rfl rfl rfl (by decide) (Nat.le_of_ble_eq_true rfl) (by decide) (by decide) ?_
      rw [show (mset_f (mo) (nI (2)) (pl + i61) (((v >>> ((nI (8 * (nn - 1 - i61))).toInt64 &&& 63)).toInt32) &&& (nI (255))) ((mput2_l61 mo pl nn v S i61).1, (mput2_l61 mo pl nn v S i61).2, fs S.2.2 (mo) 0 (nI (0)))).2.2 = fs S.2.2 (mo) 0 (nI (0)) from (mset_F (mo) (nI (2)) (pl + i61) (((v >>> ((nI (8 * (nn - 1 - i61))).toInt64 &&& 63)).toInt32) &&& (nI (255))) ((mput2_l61 mo pl nn v S i61).1, (mput2_l61 mo pl nn v S i61).2, fs S.2.2 (mo) 0 (nI (0))))]
      generalize hS1 : mset_f (mo) (nI (2)) (pl + i61) (((v >>> ((nI (8 * (nn - 1 - i61))).toInt64 &&& 63)).toInt32) &&& (nI (255))) ((mput2_l61 mo pl nn v S i61).1, (mput2_l61 mo pl nn v S i61).2, fs S.2.2 (mo) 0 (nI (0))) = S1
      refine rn_iinc (lv' := [(0, _), (1, _), (2, _), (3, _), (5, _), (6, _)]) C dX12_put_94 rfl (nI_inc _) (by decide) rfl ?_
      refine rn_goto (tgt := 61) C dX12_put_97 (by decide) ?_
      have he61 : mput2_l61 mo pl nn v S (i61 + 1) = (S1.1, S1.2.1) := by
        subst hS1
        first | (dsimp only [mput2_l61]; done) | (dsimp only [mput2_l61]; exact rfl) | exact rfl
      rw [he61] at ih61
      exact rn_ks [0, 1, 2, 3, 5, 6] ih61 rfl
  exact lp61 0 (Nat.zero_le _)
def mputY2_f (mo : Nat) (nn : Nat) (pl : Int32) (v : Int64) (S : StT) : StT := (S.1, S.2.1, fs S.2.2 (mo) 0 (nI (2)))
theorem mputY2_F (mo : Nat) (nn : Nat) (pl : Int32) (v : Int64) (S : StT) : (mputY2_f mo nn pl v S).2.2 = fs S.2.2 (mo) 0 (nI (2)) := by
  unfold mputY2_f; first | rfl | ((repeat' split) <;> rfl) | (dsimp only; (repeat' split) <;> rfl)
set_option maxRecDepth 100000 in
set_option maxHeartbeats 400000 in
theorem c_mputY2 {k : KX} {L : Nat → Option Sh} {S : StT} {n : Nat} {mo : Nat} {nn : Nat} {pl : Int32} {v : Int64} (hM : ModelAt k L mo) (hn1 : 1 ≤ nn) (hn8 : nn ≤ 8) (hbad : pl < 0 ∨ ¬ pl ≤ nI (114 - nn)) :
    Cs k yX12_put cX12_put 7 none 1 0 0 [.ref (k_b k + (mo)), .int (nI (2)), .int (pl), .long (v), .int (nI (nn))] (inst k L S.1 S.2.1 S.2.2) n (Pv k L n (mputY2_f mo nn pl v S)) := by
  refine cs_of (by decide) (Nat.le_of_ble_eq_true rfl) ?_
  intro X hXk C Rt hnm
  subst hXk
  have hM9 := hM
  obtain ⟨hM0, hm1, hm2, hm3, hm4, hm5, hm6, hm7, hm8, hm9, hm10, hm11, hm12, hm13, hm14, hm15, hm16, hm17, hm18, hm19, hm20, hm21, hm22, hm23, hm24, hm25, hm26, hm27⟩ := hM9
  refine rn_lv [(0, .ref (k_b X.1 + (mo))), (1, .int (nI (2))), (2, .int (pl)), (3, .long (v)), (5, .int (nI (nn)))] (fun q h => h) ?_
  refine rn_aload_n C dX12_put_0 rfl ?_
  refine rn_iload C dX12_put_1 rfl ?_
  refine rn_iconst (v := nI 1) C dX12_put_3 rfl ?_
  refine rn_icmp_lt (tgt := 23) C dX12_put_4 (by decide) (fun hb => absurd hb (fun h => absurd ((nI_ltI (by omega) (by omega)).mp h) (by omega))) (fun hb => ?_)
  refine rn_iload C dX12_put_7 rfl ?_
  refine rn_bipush (v := nI 8) C dX12_put_9 rfl ?_
  refine rn_icmp_gt (tgt := 23) C dX12_put_11 (by decide) (fun hb => absurd hb (fun h => absurd ((nI_ltI (by omega) (by omega)).mp h) (by omega))) (fun hb => ?_)
  refine rn_iload_n C dX12_put_14 rfl ?_
  refine rn_if_lt (tgt := 23) C dX12_put_15 (by decide) (fun hb => absurd hb (show ¬ (nI (2)) < 0 from by decide)) (fun hb => ?_)
  refine rn_iload_n C dX12_put_18 rfl ?_
  refine rn_iconst (v := nI 2) C dX12_put_19 rfl ?_
  refine rn_icmp_le (tgt := 27) C dX12_put_20 (by decide) (fun hb => ?_) (fun hb => absurd (show (nI (2)) ≤ (nI (2)) from by decide) hb)
  refine rn_iload_n C dX12_put_27 rfl ?_
  refine rn_if_lt (tgt := 42) C dX12_put_28 (by decide) (fun hb1 => ?_) (fun hb1 => ?_)
  · skip
    refine rn_iconst (v := nI 2) C dX12_put_42 rfl ?_
    refine rn_goto (tgt := 47) C dX12_put_43 (by decide) ?_
    refine rs_putF C dX12_put_47 fp_X12_7 hM0 rfl ?_
    refine rn_aload_n C dX12_put_50 rfl ?_
    refine rs_getFe C dX12_put_51 fl_X12_7 hM0 rfl fs_get ?_
    refine rn_if_eq (tgt := 58) C dX12_put_54 (by decide) (fun hb => absurd hb (show ¬ (nI (2)) = 0 from by decide)) (fun hb => ?_)
    have hret : mputY2_f mo nn pl v S = (S.1, S.2.1, fs S.2.2 (mo) 0 (nI (2))) := by
      first | (dsimp only [mputY2_f]; done) | (dsimp only [mputY2_f]; exact rfl) | exact rfl
    exact rn_vret C Rt dX12_put_57 (pv_of hret) (Nat.zero_le _) (Nat.zero_le _)
  · skip
    refine rn_iload_n C dX12_put_31 rfl ?_
    refine rn_iload_n C dX12_put_32 rfl ?_
    refine rs_si C dX12_put_33 mk_X12_sizeOf ls_X12_328 (cv_msizeOf (rg := 2) (v := 114) rfl) rfl rfl (by decide) (Nat.le_of_ble_eq_true rfl) (by decide) (by decide) ?_
    refine rn_iload C dX12_put_36 rfl ?_
    refine rn_isub C dX12_put_38 (pk_sub (by omega)) ?_
    refine rn_icmp_le (tgt := 46) C dX12_put_39 (by decide) (fun hb2 => ?_) (fun hb2 => ?_)
    · skip
      exact absurd hbad (by rintro (h | h) <;> contradiction)
    · skip
      refine rn_iconst (v := nI 2) C dX12_put_42 rfl ?_
      refine rn_goto (tgt := 47) C dX12_put_43 (by decide) ?_
      refine rs_putF C dX12_put_47 fp_X12_7 hM0 rfl ?_
      refine rn_aload_n C dX12_put_50 rfl ?_
      refine rs_getFe C dX12_put_51 fl_X12_7 hM0 rfl fs_get ?_
      refine rn_if_eq (tgt := 58) C dX12_put_54 (by decide) (fun hb => absurd hb (show ¬ (nI (2)) = 0 from by decide)) (fun hb => ?_)
      have hret : mputY2_f mo nn pl v S = (S.1, S.2.1, fs S.2.2 (mo) 0 (nI (2))) := by
        first | (dsimp only [mputY2_f]; done) | (dsimp only [mputY2_f]; exact rfl) | exact rfl
      exact rn_vret C Rt dX12_put_57 (pv_of hret) (Nat.zero_le _) (Nat.zero_le _)
def mmove2_l52 (mo : Nat) (S : StT)  : Nat → (Nat → Nat → Int32) × (Nat → Nat → Int64)
  | 0 => (S.1, S.2.1)
  | i52 + 1 => let y52_0 := (mmove2_l52 mo S i52).1; let y52_1 := (mmove2_l52 mo S i52).2; (let S2 := mset_f (mo) (nI (2)) (i52) (y52_0 (mo + 4) (i52)) (y52_0, y52_1, fs S.2.2 (mo) 0 (nI (0))); (S2.1, S2.2.1))
def mmove2_f (mo : Nat) (ou : Nat) (S : StT) : Int32 × StT := (nI (min ou 114), ((mmove2_l52 mo S (min ou 114)).1, (mmove2_l52 mo S (min ou 114)).2, fs S.2.2 (mo) 0 (nI (0))))
theorem mmove2_F (mo : Nat) (ou : Nat) (S : StT) : (mmove2_f mo ou S).2.2.2 = fs S.2.2 (mo) 0 (nI (0)) := by
  unfold mmove2_f; first | rfl | ((repeat' split) <;> rfl) | (dsimp only; (repeat' split) <;> rfl)
set_option maxRecDepth 100000 in
set_option maxHeartbeats 400000 in
theorem c_mmove2 {k : KX} {L : Nat → Option Sh} {S : StT} {n : Nat} {mo : Nat} {ou : Nat} (hM : ModelAt k L mo) (hou : S.2.2 mo 5 = nI ou) (hou1 : ou ≤ 114) :
    Cs k yX12_move cX12_move 4 (some .int) 1 0 0 [.ref (k_b k + (mo)), .int (nI (2))] (inst k L S.1 S.2.1 S.2.2) n (Pi k L n (mmove2_f mo ou S)) := by
  refine cs_of (by decide) (Nat.le_of_ble_eq_true rfl) ?_
  intro X hXk C Rt hnm
  subst hXk
  have hM9 := hM
  obtain ⟨hM0, hm1, hm2, hm3, hm4, hm5, hm6, hm7, hm8, hm9, hm10, hm11, hm12, hm13, hm14, hm15, hm16, hm17, hm18, hm19, hm20, hm21, hm22, hm23, hm24, hm25, hm26, hm27⟩ := hM9
  refine rn_lv [(0, .ref (k_b X.1 + (mo))), (1, .int (nI (2)))] (fun q h => h) ?_
  refine rn_aload_n C dX12_move_0 rfl ?_
  refine rn_iload_n C dX12_move_1 rfl ?_
  refine rn_if_lt (tgt := 10) C dX12_move_2 (by decide) (fun hb => absurd hb (show ¬ (nI (2)) < 0 from by decide)) (fun hb => ?_)
  refine rn_iload_n C dX12_move_5 rfl ?_
  refine rn_iconst (v := nI 2) C dX12_move_6 rfl ?_
  refine rn_icmp_le (tgt := 14) C dX12_move_7 (by decide) (fun hb => ?_) (fun hb => absurd (show (nI (2)) ≤ (nI (2)) from by decide) hb)
  refine rn_iconst (v := nI 0) C dX12_move_14 rfl ?_
  refine rs_putF C dX12_move_15 fp_X12_7 hM0 rfl ?_
  refine rn_aload_n C dX12_move_18 rfl ?_
  refine rs_getFe C dX12_move_19 fl_X12_7 hM0 rfl fs_get ?_
  refine rn_if_eq (tgt := 27) C dX12_move_22 (by decide) (fun hb => ?_) (fun hb => absurd (show (nI (0)) = 0 from by decide) hb)
  refine rn_aload_n C dX12_move_27 rfl ?_
  refine rs_getFe C dX12_move_28 fl_X12_26 hM0 rfl ((fs_oth (by decide)).trans hou) ?_
  refine rn_iload_n C dX12_move_31 rfl ?_
  refine rs_si C dX12_move_32 mk_X12_sizeOf ls_X12_328 (cv_msizeOf (S := (S.1, S.2.1, fs S.2.2 (mo) 0 (nI (0)))) (rg := 2) (v := 114) rfl) rfl rfl (by decide) (Nat.le_of_ble_eq_true rfl) (by decide) (by decide) ?_
  have K35_1 : Rn X 49 [(0, .ref (k_b X.1 + (mo))), (1, .int (nI (2)))] [.int (nI ((if (nI (114)) ≤ (nI (ou)) then 114 else ou)))] (inst X.1 L S.1 S.2.1 (fs S.2.2 (mo) 0 (nI (0)))) n 0 0 := by
    rw [show nI ((if (nI (114)) ≤ (nI (ou)) then 114 else ou)) = nI (min ou 114) from (nI_is (mv_min (by omega) (by omega)))]
    refine rn_istore_n (lv' := [(0, _), (1, _), (2, _)]) C dX12_move_49 (by decide) rfl ?_
    refine rn_iconst (v := nI 0) C dX12_move_50 rfl ?_
    refine rn_istore_n (lv' := [(0, _), (1, _), (2, _), (3, _)]) C dX12_move_51 (by decide) rfl ?_
    have lp52 : ∀ i52, i52 ≤ min ou 114 → Rn X 52 [(0, .ref (k_b X.1 + (mo))), (1, .int (nI (2))), (2, .int (nI (min ou 114))), (3, .int (nI (i52)))] [] (inst X.1 L (mmove2_l52 mo S i52).1 (mmove2_l52 mo S i52).2 (fs S.2.2 (mo) 0 (nI (0)))) n 0 0 := by
      refine upto _ _ ?_ (fun i52 hi52 ih52 => ?_)
      · skip
        refine rn_iload_n C dX12_move_52 rfl ?_
        refine rn_iload_n C dX12_move_53 rfl ?_
        refine rs_ge (tgt := 75) C dX12_move_54 (by decide) rfl rfl (by omega) (by omega) (fun _ => ?_) (fun q => absurd q (by omega))
        refine rn_iload_n C dX12_move_75 rfl ?_
        have hret : mmove2_f mo ou S = (nI (min ou 114), ((mmove2_l52 mo S (min ou 114)).1, (mmove2_l52 mo S (min ou 114)).2, fs S.2.2 (mo) 0 (nI (0)))) := by
          first | (dsimp only [mmove2_f]; done) | (dsimp only [mmove2_f]; exact rfl) | exact rfl
        exact rn_iret C Rt dX12_move_76 (pi_of hret) (Nat.zero_le _) (Nat.zero_le _)
      · skip
        refine rn_iload_n C dX12_move_52 rfl ?_
        refine rn_iload_n C dX12_move_53 rfl ?_
        refine rs_ge (tgt := 75) C dX12_move_54 (by decide) rfl rfl (by omega) (by omega) (fun q => absurd q (by omega)) (fun _ => ?_)
        refine rn_aload_n C dX12_move_57 rfl ?_
        refine rn_iload_n C dX12_move_58 rfl ?_
        refine rn_iload_n C dX12_move_59 rfl ?_
        refine rn_aload_n C dX12_move_60 rfl ?_
        refine rs_get C dX12_move_61 fl_X12_23 hM0 rfl ?_
        refine rn_iload_n C dX12_move_64 rfl ?_
        refine rs_iaload C dX12_move_65 hm4 rfl (by omega) (by decide) ?_
        refine rs_vv C dX12_move_66 mk_X12_set lv_X12_331 (c_mset (S := ((mmove2_l52 mo S i52).1, (mmove2_l52 mo S i52).2, fs S.2.2 (mo) 0 (nI (0)))) hM (by omega) (fun h => absurd h (by decide)) (fun h => absurd h (by decide))) hM0 rfl rfl rfl rfl (by decide) (Nat.le_of_ble_eq_true rfl) (by decide) (by decide) ?_
        rw [show (mset_f (mo) (nI (2)) (i52) ((mmove2_l52 mo S i52).1 (mo + 4) (i52)) ((mmove2_l52 mo S i52).1, (mmove2_l52 mo S i52).2, fs S.2.2 (mo) 0 (nI (0)))).2.2 = fs S.2.2 (mo) 0 (nI (0)) from (mset_F (mo) (nI (2)) (i52) ((mmove2_l52 mo S i52).1 (mo + 4) (i52)) ((mmove2_l52 mo S i52).1, (mmove2_l52 mo S i52).2, fs S.2.2 (mo) 0 (nI (0))))]
        generalize hS2 : mset_f (mo) (nI (2)) (i52) ((mmove2_l52 mo S i52).1 (mo + 4) (i52)) ((mmove2_l52 mo S i52).1, (mmove2_l52 mo S i52).2, fs S.2.2 (mo) 0 (nI (0))) = S2
        refine rn_iinc (lv' := [(0, _), (1, _), (2, _), (3, _)]) C dX12_move_69 rfl (nI_inc _) (by decide) rfl ?_
        refine rn_goto (tgt := 52) C dX12_move_72 (by decide) ?_
        have he52 : mmove2_l52 mo S (i52 + 1) = (S2.1, S2.2.1) := by
          subst hS2
          first | (dsimp only [mmove2_l52]; done) | (dsimp only [mmove2_l52]; exact rfl) | exact rfl
        rw [he52] at ih52
        exact rn_ks [0, 1, 2, 3] ih52 rfl
    exact lp52 0 (Nat.zero_le _)
  refine rn_icmp_ge (tgt := 45) C dX12_move_35 (by decide) (fun hb1 => ?_) (fun hb1 => ?_)
  · skip
    refine rn_iload_n C dX12_move_45 rfl ?_
    refine rs_si C dX12_move_46 mk_X12_sizeOf ls_X12_328 (cv_msizeOf (S := (S.1, S.2.1, fs S.2.2 (mo) 0 (nI (0)))) (rg := 2) (v := 114) rfl) rfl rfl (by decide) (Nat.le_of_ble_eq_true rfl) (by decide) (by decide) ?_
    rw [if_pos hb1] at K35_1
    exact K35_1
  · skip
    refine rn_aload_n C dX12_move_38 rfl ?_
    refine rs_getFe C dX12_move_39 fl_X12_26 hM0 rfl ((fs_oth (by decide)).trans hou) ?_
    refine rn_goto (tgt := 49) C dX12_move_42 (by decide) ?_
    rw [if_neg hb1] at K35_1
    exact K35_1
def mmoveX_f (mo : Nat) (rg : Int32) (S : StT) : Int32 × StT := (nI (0), (S.1, S.2.1, fs S.2.2 (mo) 0 (nI (1))))
theorem mmoveX_F (mo : Nat) (rg : Int32) (S : StT) : (mmoveX_f mo rg S).2.2.2 = fs S.2.2 (mo) 0 (nI (1)) := by
  unfold mmoveX_f; first | rfl | ((repeat' split) <;> rfl) | (dsimp only; (repeat' split) <;> rfl)
set_option maxRecDepth 100000 in
set_option maxHeartbeats 400000 in
theorem c_mmoveX {k : KX} {L : Nat → Option Sh} {S : StT} {n : Nat} {mo : Nat} {rg : Int32} (hM : ModelAt k L mo) (hbad : rg < 0 ∨ ¬ rg ≤ nI 2) :
    Cs k yX12_move cX12_move 4 (some .int) 1 0 0 [.ref (k_b k + (mo)), .int (rg)] (inst k L S.1 S.2.1 S.2.2) n (Pi k L n (mmoveX_f mo rg S)) := by
  refine cs_of (by decide) (Nat.le_of_ble_eq_true rfl) ?_
  intro X hXk C Rt hnm
  subst hXk
  have hM9 := hM
  obtain ⟨hM0, hm1, hm2, hm3, hm4, hm5, hm6, hm7, hm8, hm9, hm10, hm11, hm12, hm13, hm14, hm15, hm16, hm17, hm18, hm19, hm20, hm21, hm22, hm23, hm24, hm25, hm26, hm27⟩ := hM9
  refine rn_lv [(0, .ref (k_b X.1 + (mo))), (1, .int (rg))] (fun q h => h) ?_
  refine rn_aload_n C dX12_move_0 rfl ?_
  refine rn_iload_n C dX12_move_1 rfl ?_
  refine rn_if_lt (tgt := 10) C dX12_move_2 (by decide) (fun hb1 => ?_) (fun hb1 => ?_)
  · skip
    refine rn_iconst (v := nI 1) C dX12_move_10 rfl ?_
    refine rn_goto (tgt := 15) C dX12_move_11 (by decide) ?_
    refine rs_putF C dX12_move_15 fp_X12_7 hM0 rfl ?_
    refine rn_aload_n C dX12_move_18 rfl ?_
    refine rs_getFe C dX12_move_19 fl_X12_7 hM0 rfl fs_get ?_
    refine rn_if_eq (tgt := 27) C dX12_move_22 (by decide) (fun hb => absurd hb (show ¬ (nI (1)) = 0 from by decide)) (fun hb => ?_)
    refine rn_iconst (v := nI 0) C dX12_move_25 rfl ?_
    have hret : mmoveX_f mo rg S = (nI (0), (S.1, S.2.1, fs S.2.2 (mo) 0 (nI (1)))) := by
      first | (dsimp only [mmoveX_f]; done) | (dsimp only [mmoveX_f]; exact rfl) | exact rfl
    exact rn_iret C Rt dX12_move_26 (pi_of hret) (Nat.zero_le _) (Nat.zero_le _)
  · skip
    refine rn_iload_n C dX12_move_5 rfl ?_
    refine rn_iconst (v := nI 2) C dX12_move_6 rfl ?_
    refine rn_icmp_le (tgt := 14) C dX12_move_7 (by decide) (fun hb2 => ?_) (fun hb2 => ?_)
    · skip
      exact absurd hbad (by rintro (h | h) <;> contradiction)
    · skip
      refine rn_iconst (v := nI 1) C dX12_move_10 rfl ?_
      refine rn_goto (tgt := 15) C dX12_move_11 (by decide) ?_
      refine rs_putF C dX12_move_15 fp_X12_7 hM0 rfl ?_
      refine rn_aload_n C dX12_move_18 rfl ?_
      refine rs_getFe C dX12_move_19 fl_X12_7 hM0 rfl fs_get ?_
      refine rn_if_eq (tgt := 27) C dX12_move_22 (by decide) (fun hb => absurd hb (show ¬ (nI (1)) = 0 from by decide)) (fun hb => ?_)
      refine rn_iconst (v := nI 0) C dX12_move_25 rfl ?_
      have hret : mmoveX_f mo rg S = (nI (0), (S.1, S.2.1, fs S.2.2 (mo) 0 (nI (1)))) := by
        first | (dsimp only [mmoveX_f]; done) | (dsimp only [mmoveX_f]; exact rfl) | exact rfl
      exact rn_iret C Rt dX12_move_26 (pi_of hret) (Nat.zero_le _) (Nat.zero_le _)
def mfeed0_l75 (mo : Nat) (mg : Nat) (nn : Nat) (v : Int64) (S : StT)  : Nat → (Nat → Nat → Int32)
  | 0 => S.1
  | i75 + 1 => let y75_0 := (mfeed0_l75 mo mg nn v S i75); (let I1 := va_up y75_0 (mo + 5) (upd (y75_0 (mo + 5)) (mg + i75) (((v >>> ((nI (8 * (nn - 1 - i75))).toInt64 &&& 63)).toInt32) &&& (nI (255)))); I1)
def mfeed0_f (mo : Nat) (mg : Nat) (nn : Nat) (v : Int64) (S : StT) : Int32 × StT := (nI (mg + nn), ((mfeed0_l75 mo mg nn v S nn), S.2.1, fs (fs S.2.2 (mo) 0 (nI (0))) (mo) 7 (nI (mg + nn))))
theorem mfeed0_F (mo : Nat) (mg : Nat) (nn : Nat) (v : Int64) (S : StT) : (mfeed0_f mo mg nn v S).2.2.2 = fs (fs S.2.2 (mo) 0 (nI (0))) (mo) 7 (nI (mg + nn)) := by
  unfold mfeed0_f; first | rfl | ((repeat' split) <;> rfl) | (dsimp only; (repeat' split) <;> rfl)
set_option maxRecDepth 100000 in
set_option maxHeartbeats 400000 in
theorem c_mfeed0 {k : KX} {L : Nat → Option Sh} {S : StT} {n : Nat} {mo : Nat} {mg : Nat} {nn : Nat} {v : Int64} (hM : ModelAt k L mo) (hmg : S.2.2 mo 7 = nI mg) (hmg1 : mg ≤ 256) (hn1 : 1 ≤ nn) (hn8 : nn ≤ 8) (hfit : mg + nn ≤ 256) :
    Cs k yX12_feed cX12_feed 8 (some .int) 1 0 0 [.ref (k_b k + (mo)), .int (nI (0)), .long (v), .int (nI (nn))] (inst k L S.1 S.2.1 S.2.2) n (Pi k L n (mfeed0_f mo mg nn v S)) := by
  refine cs_of (by decide) (Nat.le_of_ble_eq_true rfl) ?_
  intro X hXk C Rt hnm
  subst hXk
  have hM9 := hM
  obtain ⟨hM0, hm1, hm2, hm3, hm4, hm5, hm6, hm7, hm8, hm9, hm10, hm11, hm12, hm13, hm14, hm15, hm16, hm17, hm18, hm19, hm20, hm21, hm22, hm23, hm24, hm25, hm26, hm27⟩ := hM9
  refine rn_lv [(0, .ref (k_b X.1 + (mo))), (1, .int (nI (0))), (2, .long (v)), (4, .int (nI (nn)))] (fun q h => h) ?_
  refine rn_iload_n C dX12_feed_0 rfl ?_
  refine rn_if_eq (tgt := 11) C dX12_feed_1 (by decide) (fun hb => ?_) (fun hb => absurd (show (nI (0)) = 0 from by decide) hb)
  refine rn_aload_n C dX12_feed_11 rfl ?_
  refine rs_getFe C dX12_feed_12 fl_X12_32 hM0 rfl hmg ?_
  refine rn_istore (lv' := [(0, _), (1, _), (2, _), (4, _), (5, _)]) C dX12_feed_15 (by decide) rfl ?_
  refine rn_aload_n C dX12_feed_17 rfl ?_
  refine rn_iload C dX12_feed_18 rfl ?_
  refine rn_iconst (v := nI 1) C dX12_feed_20 rfl ?_
  refine rn_icmp_lt (tgt := 31) C dX12_feed_21 (by decide) (fun hb => absurd hb (fun h => absurd ((nI_ltI (by omega) (by omega)).mp h) (by omega))) (fun hb => ?_)
  refine rn_iload C dX12_feed_24 rfl ?_
  refine rn_bipush (v := nI 8) C dX12_feed_26 rfl ?_
  refine rn_icmp_le (tgt := 35) C dX12_feed_28 (by decide) (fun hb => ?_) (fun hb => absurd ((nI_leI (by omega) (by omega)).mpr (by omega)) hb)
  refine rn_iload C dX12_feed_35 rfl ?_
  refine rn_iload C dX12_feed_37 rfl ?_
  refine rn_iadd C dX12_feed_39 (nI_add _ _) ?_
  refine rn_iload_n C dX12_feed_40 rfl ?_
  refine rn_if_eq (tgt := 49) C dX12_feed_41 (by decide) (fun hb => ?_) (fun hb => absurd (show (nI (0)) = 0 from by decide) hb)
  refine rn_sipush (v := nI 256) C dX12_feed_49 rfl ?_
  refine rn_icmp_le (tgt := 59) C dX12_feed_52 (by decide) (fun hb => ?_) (fun hb => absurd ((nI_leI (by omega) (by omega)).mpr (by omega)) hb)
  refine rn_iconst (v := nI 0) C dX12_feed_59 rfl ?_
  refine rs_putF C dX12_feed_60 fp_X12_7 hM0 rfl ?_
  refine rn_aload_n C dX12_feed_63 rfl ?_
  refine rs_getFe C dX12_feed_64 fl_X12_7 hM0 rfl fs_get ?_
  refine rn_if_eq (tgt := 72) C dX12_feed_67 (by decide) (fun hb => ?_) (fun hb => absurd (show (nI (0)) = 0 from by decide) hb)
  refine rn_iconst (v := nI 0) C dX12_feed_72 rfl ?_
  refine rn_istore (lv' := [(0, _), (1, _), (2, _), (4, _), (5, _), (6, _)]) C dX12_feed_73 (by decide) rfl ?_
  have lp75 : ∀ i75, i75 ≤ nn → Rn X 75 [(0, .ref (k_b X.1 + (mo))), (1, .int (nI (0))), (2, .long (v)), (4, .int (nI (nn))), (5, .int (nI (mg))), (6, .int (nI (i75)))] [] (inst X.1 L (mfeed0_l75 mo mg nn v S i75) S.2.1 (fs S.2.2 (mo) 0 (nI (0)))) n 0 0 := by
    refine upto _ _ ?_ (fun i75 hi75 ih75 => ?_)
    · skip
      refine rn_iload C dX12_feed_75 rfl ?_
      refine rn_iload C dX12_feed_77 rfl ?_
      refine rs_ge (tgt := 138) C dX12_feed_79 (by decide) rfl rfl (by omega) (by omega) (fun _ => ?_) (fun q => absurd q (by omega))
      refine rn_iload_n C dX12_feed_138 rfl ?_
      refine rn_if_eq (tgt := 156) C dX12_feed_139 (by decide) (fun hb => ?_) (fun hb => absurd (show (nI (0)) = 0 from by decide) hb)
      refine rn_aload_n C dX12_feed_156 rfl ?_
      refine rn_dup C dX12_feed_157 rfl ?_
      refine rs_getFe C dX12_feed_158 fl_X12_32 hM0 rfl ((fs_oth (by decide)).trans hmg) ?_
      refine rn_iload C dX12_feed_161 rfl ?_
      refine rn_iadd C dX12_feed_163 (nI_add _ _) ?_
      refine rs_putF C dX12_feed_164 fp_X12_32 hM0 rfl ?_
      refine rn_iload C dX12_feed_167 rfl ?_
      refine rn_iload C dX12_feed_169 rfl ?_
      refine rn_iadd C dX12_feed_171 (nI_add _ _) ?_
      have hret : mfeed0_f mo mg nn v S = (nI (mg + nn), ((mfeed0_l75 mo mg nn v S nn), S.2.1, fs (fs S.2.2 (mo) 0 (nI (0))) (mo) 7 (nI (mg + nn)))) := by
        first | (dsimp only [mfeed0_f]; done) | (dsimp only [mfeed0_f]; exact rfl) | exact rfl
      exact rn_iret C Rt dX12_feed_172 (pi_of hret) (Nat.zero_le _) (Nat.zero_le _)
    · skip
      refine rn_iload C dX12_feed_75 rfl ?_
      refine rn_iload C dX12_feed_77 rfl ?_
      refine rs_ge (tgt := 138) C dX12_feed_79 (by decide) rfl rfl (by omega) (by omega) (fun q => absurd q (by omega)) (fun _ => ?_)
      refine rn_lload_n C dX12_feed_82 rfl ?_
      refine rn_bipush (v := nI 8) C dX12_feed_83 rfl ?_
      refine rn_iload C dX12_feed_85 rfl ?_
      refine rn_iconst (v := nI 1) C dX12_feed_87 rfl ?_
      refine rn_isub C dX12_feed_88 (pk_sub (by omega)) ?_
      refine rn_iload C dX12_feed_89 rfl ?_
      refine rn_isub C dX12_feed_91 (pk_sub (by omega)) ?_
      refine rn_imul C dX12_feed_92 (pk_mul _ _) ?_
      refine rn_lshr C dX12_feed_93 rfl ?_
      refine rn_l2i C dX12_feed_94 rfl ?_
      refine rn_sipush (v := nI 255) C dX12_feed_95 rfl ?_
      refine rn_iand C dX12_feed_98 rfl ?_
      refine rn_istore (lv' := [(0, _), (1, _), (2, _), (4, _), (5, _), (6, _), (7, _)]) C dX12_feed_99 (by decide) rfl ?_
      refine rn_iload_n C dX12_feed_101 rfl ?_
      refine rn_if_eq (tgt := 120) C dX12_feed_102 (by decide) (fun hb => ?_) (fun hb => absurd (show (nI (0)) = 0 from by decide) hb)
      refine rn_aload_n C dX12_feed_120 rfl ?_
      refine rs_get C dX12_feed_121 fl_X12_29 hM0 rfl ?_
      refine rn_iload C dX12_feed_124 rfl ?_
      refine rn_iload C dX12_feed_126 rfl ?_
      refine rn_iadd C dX12_feed_128 (nI_add _ _) ?_
      refine rn_iload C dX12_feed_129 rfl ?_
      refine rs_iastore C dX12_feed_131 hm5 rfl (by omega) (by decide) ?_
      refine rn_iinc (lv' := [(0, _), (1, _), (2, _), (4, _), (5, _), (6, _), (7, _)]) C dX12_feed_132 rfl (nI_inc _) (by decide) rfl ?_
      refine rn_goto (tgt := 75) C dX12_feed_135 (by decide) ?_
      have he75 : mfeed0_l75 mo mg nn v S (i75 + 1) = (va_up (mfeed0_l75 mo mg nn v S i75) (mo + 5) (upd ((mfeed0_l75 mo mg nn v S i75) (mo + 5)) (mg + i75) (((v >>> ((nI (8 * (nn - 1 - i75))).toInt64 &&& 63)).toInt32) &&& (nI (255))))) := by
        first | (dsimp only [mfeed0_l75]; done) | (dsimp only [mfeed0_l75]; exact rfl) | exact rfl
      rw [he75] at ih75
      exact rn_ks [0, 1, 2, 4, 5, 6] ih75 rfl
  exact lp75 0 (Nat.zero_le _)
def mfeedY0_f (mo : Nat) (mg : Nat) (nn : Nat) (v : Int64) (S : StT) : Int32 × StT := (nI (0), (S.1, S.2.1, fs S.2.2 (mo) 0 (nI (2))))
theorem mfeedY0_F (mo : Nat) (mg : Nat) (nn : Nat) (v : Int64) (S : StT) : (mfeedY0_f mo mg nn v S).2.2.2 = fs S.2.2 (mo) 0 (nI (2)) := by
  unfold mfeedY0_f; first | rfl | ((repeat' split) <;> rfl) | (dsimp only; (repeat' split) <;> rfl)
set_option maxRecDepth 100000 in
set_option maxHeartbeats 400000 in
theorem c_mfeedY0 {k : KX} {L : Nat → Option Sh} {S : StT} {n : Nat} {mo : Nat} {mg : Nat} {nn : Nat} {v : Int64} (hM : ModelAt k L mo) (hmg : S.2.2 mo 7 = nI mg) (hmg1 : mg ≤ 256) (hn1 : 1 ≤ nn) (hn8 : nn ≤ 8) (hfit : 256 < mg + nn) :
    Cs k yX12_feed cX12_feed 8 (some .int) 1 0 0 [.ref (k_b k + (mo)), .int (nI (0)), .long (v), .int (nI (nn))] (inst k L S.1 S.2.1 S.2.2) n (Pi k L n (mfeedY0_f mo mg nn v S)) := by
  refine cs_of (by decide) (Nat.le_of_ble_eq_true rfl) ?_
  intro X hXk C Rt hnm
  subst hXk
  have hM9 := hM
  obtain ⟨hM0, hm1, hm2, hm3, hm4, hm5, hm6, hm7, hm8, hm9, hm10, hm11, hm12, hm13, hm14, hm15, hm16, hm17, hm18, hm19, hm20, hm21, hm22, hm23, hm24, hm25, hm26, hm27⟩ := hM9
  refine rn_lv [(0, .ref (k_b X.1 + (mo))), (1, .int (nI (0))), (2, .long (v)), (4, .int (nI (nn)))] (fun q h => h) ?_
  refine rn_iload_n C dX12_feed_0 rfl ?_
  refine rn_if_eq (tgt := 11) C dX12_feed_1 (by decide) (fun hb => ?_) (fun hb => absurd (show (nI (0)) = 0 from by decide) hb)
  refine rn_aload_n C dX12_feed_11 rfl ?_
  refine rs_getFe C dX12_feed_12 fl_X12_32 hM0 rfl hmg ?_
  refine rn_istore (lv' := [(0, _), (1, _), (2, _), (4, _), (5, _)]) C dX12_feed_15 (by decide) rfl ?_
  refine rn_aload_n C dX12_feed_17 rfl ?_
  refine rn_iload C dX12_feed_18 rfl ?_
  refine rn_iconst (v := nI 1) C dX12_feed_20 rfl ?_
  refine rn_icmp_lt (tgt := 31) C dX12_feed_21 (by decide) (fun hb => absurd hb (fun h => absurd ((nI_ltI (by omega) (by omega)).mp h) (by omega))) (fun hb => ?_)
  refine rn_iload C dX12_feed_24 rfl ?_
  refine rn_bipush (v := nI 8) C dX12_feed_26 rfl ?_
  refine rn_icmp_le (tgt := 35) C dX12_feed_28 (by decide) (fun hb => ?_) (fun hb => absurd ((nI_leI (by omega) (by omega)).mpr (by omega)) hb)
  refine rn_iload C dX12_feed_35 rfl ?_
  refine rn_iload C dX12_feed_37 rfl ?_
  refine rn_iadd C dX12_feed_39 (nI_add _ _) ?_
  refine rn_iload_n C dX12_feed_40 rfl ?_
  refine rn_if_eq (tgt := 49) C dX12_feed_41 (by decide) (fun hb => ?_) (fun hb => absurd (show (nI (0)) = 0 from by decide) hb)
  refine rn_sipush (v := nI 256) C dX12_feed_49 rfl ?_
  refine rn_icmp_le (tgt := 59) C dX12_feed_52 (by decide) (fun hb => absurd hb (fun h => absurd ((nI_leI (by omega) (by omega)).mp h) (by omega))) (fun hb => ?_)
  refine rn_iconst (v := nI 2) C dX12_feed_55 rfl ?_
  refine rn_goto (tgt := 60) C dX12_feed_56 (by decide) ?_
  refine rs_putF C dX12_feed_60 fp_X12_7 hM0 rfl ?_
  refine rn_aload_n C dX12_feed_63 rfl ?_
  refine rs_getFe C dX12_feed_64 fl_X12_7 hM0 rfl fs_get ?_
  refine rn_if_eq (tgt := 72) C dX12_feed_67 (by decide) (fun hb => absurd hb (show ¬ (nI (2)) = 0 from by decide)) (fun hb => ?_)
  refine rn_iconst (v := nI 0) C dX12_feed_70 rfl ?_
  have hret : mfeedY0_f mo mg nn v S = (nI (0), (S.1, S.2.1, fs S.2.2 (mo) 0 (nI (2)))) := by
    first | (dsimp only [mfeedY0_f]; done) | (dsimp only [mfeedY0_f]; exact rfl) | exact rfl
  exact rn_iret C Rt dX12_feed_71 (pi_of hret) (Nat.zero_le _) (Nat.zero_le _)
def mfeedX0_f (mo : Nat) (v : Int64) (n_ : Int32) (S : StT) : Int32 × StT := (nI (0), (S.1, S.2.1, fs S.2.2 (mo) 0 (nI (1))))
theorem mfeedX0_F (mo : Nat) (v : Int64) (n_ : Int32) (S : StT) : (mfeedX0_f mo v n_ S).2.2.2 = fs S.2.2 (mo) 0 (nI (1)) := by
  unfold mfeedX0_f; first | rfl | ((repeat' split) <;> rfl) | (dsimp only; (repeat' split) <;> rfl)
set_option maxRecDepth 100000 in
set_option maxHeartbeats 400000 in
theorem c_mfeedX0 {k : KX} {L : Nat → Option Sh} {S : StT} {n : Nat} {mo : Nat} {v : Int64} {n_ : Int32} (hM : ModelAt k L mo) (hbad : n_ < nI 1 ∨ ¬ n_ ≤ nI 8) :
    Cs k yX12_feed cX12_feed 8 (some .int) 1 0 0 [.ref (k_b k + (mo)), .int (nI (0)), .long (v), .int (n_)] (inst k L S.1 S.2.1 S.2.2) n (Pi k L n (mfeedX0_f mo v n_ S)) := by
  refine cs_of (by decide) (Nat.le_of_ble_eq_true rfl) ?_
  intro X hXk C Rt hnm
  subst hXk
  have hM9 := hM
  obtain ⟨hM0, hm1, hm2, hm3, hm4, hm5, hm6, hm7, hm8, hm9, hm10, hm11, hm12, hm13, hm14, hm15, hm16, hm17, hm18, hm19, hm20, hm21, hm22, hm23, hm24, hm25, hm26, hm27⟩ := hM9
  refine rn_lv [(0, .ref (k_b X.1 + (mo))), (1, .int (nI (0))), (2, .long (v)), (4, .int (n_))] (fun q h => h) ?_
  refine rn_iload_n C dX12_feed_0 rfl ?_
  refine rn_if_eq (tgt := 11) C dX12_feed_1 (by decide) (fun hb => ?_) (fun hb => absurd (show (nI (0)) = 0 from by decide) hb)
  refine rn_aload_n C dX12_feed_11 rfl ?_
  refine rs_getFe C dX12_feed_12 fl_X12_32 hM0 rfl rfl ?_
  refine rn_istore (lv' := [(0, _), (1, _), (2, _), (4, _), (5, _)]) C dX12_feed_15 (by decide) rfl ?_
  refine rn_aload_n C dX12_feed_17 rfl ?_
  refine rn_iload C dX12_feed_18 rfl ?_
  refine rn_iconst (v := nI 1) C dX12_feed_20 rfl ?_
  refine rn_icmp_lt (tgt := 31) C dX12_feed_21 (by decide) (fun hb1 => ?_) (fun hb1 => ?_)
  · skip
    refine rn_iconst (v := nI 1) C dX12_feed_31 rfl ?_
    refine rn_goto (tgt := 60) C dX12_feed_32 (by decide) ?_
    refine rs_putF C dX12_feed_60 fp_X12_7 hM0 rfl ?_
    refine rn_aload_n C dX12_feed_63 rfl ?_
    refine rs_getFe C dX12_feed_64 fl_X12_7 hM0 rfl fs_get ?_
    refine rn_if_eq (tgt := 72) C dX12_feed_67 (by decide) (fun hb => absurd hb (show ¬ (nI (1)) = 0 from by decide)) (fun hb => ?_)
    refine rn_iconst (v := nI 0) C dX12_feed_70 rfl ?_
    have hret : mfeedX0_f mo v n_ S = (nI (0), (S.1, S.2.1, fs S.2.2 (mo) 0 (nI (1)))) := by
      first | (dsimp only [mfeedX0_f]; done) | (dsimp only [mfeedX0_f]; exact rfl) | exact rfl
    exact rn_iret C Rt dX12_feed_71 (pi_of hret) (Nat.zero_le _) (Nat.zero_le _)
  · skip
    refine rn_iload C dX12_feed_24 rfl ?_
    refine rn_bipush (v := nI 8) C dX12_feed_26 rfl ?_
    refine rn_icmp_le (tgt := 35) C dX12_feed_28 (by decide) (fun hb2 => ?_) (fun hb2 => ?_)
    · skip
      exact absurd hbad (by rintro (h | h) <;> contradiction)
    · skip
      refine rn_iconst (v := nI 1) C dX12_feed_31 rfl ?_
      refine rn_goto (tgt := 60) C dX12_feed_32 (by decide) ?_
      refine rs_putF C dX12_feed_60 fp_X12_7 hM0 rfl ?_
      refine rn_aload_n C dX12_feed_63 rfl ?_
      refine rs_getFe C dX12_feed_64 fl_X12_7 hM0 rfl fs_get ?_
      refine rn_if_eq (tgt := 72) C dX12_feed_67 (by decide) (fun hb => absurd hb (show ¬ (nI (1)) = 0 from by decide)) (fun hb => ?_)
      refine rn_iconst (v := nI 0) C dX12_feed_70 rfl ?_
      have hret : mfeedX0_f mo v n_ S = (nI (0), (S.1, S.2.1, fs S.2.2 (mo) 0 (nI (1)))) := by
        first | (dsimp only [mfeedX0_f]; done) | (dsimp only [mfeedX0_f]; exact rfl) | exact rfl
      exact rn_iret C Rt dX12_feed_71 (pi_of hret) (Nat.zero_le _) (Nat.zero_le _)
def mfeed1_l75 (mo : Nat) (cx : Nat) (nn : Nat) (v : Int64) (S : StT)  : Nat → (Nat → Nat → Int32)
  | 0 => S.1
  | i75 + 1 => let y75_0 := (mfeed1_l75 mo cx nn v S i75); (let I1 := va_up y75_0 (mo + 6) (upd (y75_0 (mo + 6)) (cx + i75) (((v >>> ((nI (8 * (nn - 1 - i75))).toInt64 &&& 63)).toInt32) &&& (nI (255)))); I1)
def mfeed1_f (mo : Nat) (cx : Nat) (nn : Nat) (v : Int64) (S : StT) : Int32 × StT := (nI (cx + nn), ((mfeed1_l75 mo cx nn v S nn), S.2.1, fs (fs S.2.2 (mo) 0 (nI (0))) (mo) 9 (nI (cx + nn))))
theorem mfeed1_F (mo : Nat) (cx : Nat) (nn : Nat) (v : Int64) (S : StT) : (mfeed1_f mo cx nn v S).2.2.2 = fs (fs S.2.2 (mo) 0 (nI (0))) (mo) 9 (nI (cx + nn)) := by
  unfold mfeed1_f; first | rfl | ((repeat' split) <;> rfl) | (dsimp only; (repeat' split) <;> rfl)
set_option maxRecDepth 100000 in
set_option maxHeartbeats 400000 in
theorem c_mfeed1 {k : KX} {L : Nat → Option Sh} {S : StT} {n : Nat} {mo : Nat} {cx : Nat} {nn : Nat} {v : Int64} (hM : ModelAt k L mo) (hcx : S.2.2 mo 9 = nI cx) (hcx1 : cx ≤ 64) (hn1 : 1 ≤ nn) (hn8 : nn ≤ 8) (hfit : cx + nn ≤ 64) :
    Cs k yX12_feed cX12_feed 8 (some .int) 1 0 0 [.ref (k_b k + (mo)), .int (nI (1)), .long (v), .int (nI (nn))] (inst k L S.1 S.2.1 S.2.2) n (Pi k L n (mfeed1_f mo cx nn v S)) := by
  refine cs_of (by decide) (Nat.le_of_ble_eq_true rfl) ?_
  intro X hXk C Rt hnm
  subst hXk
  have hM9 := hM
  obtain ⟨hM0, hm1, hm2, hm3, hm4, hm5, hm6, hm7, hm8, hm9, hm10, hm11, hm12, hm13, hm14, hm15, hm16, hm17, hm18, hm19, hm20, hm21, hm22, hm23, hm24, hm25, hm26, hm27⟩ := hM9
  refine rn_lv [(0, .ref (k_b X.1 + (mo))), (1, .int (nI (1))), (2, .long (v)), (4, .int (nI (nn)))] (fun q h => h) ?_
  refine rn_iload_n C dX12_feed_0 rfl ?_
  refine rn_if_eq (tgt := 11) C dX12_feed_1 (by decide) (fun hb => absurd hb (show ¬ (nI (1)) = 0 from by decide)) (fun hb => ?_)
  refine rn_aload_n C dX12_feed_4 rfl ?_
  refine rs_getFe C dX12_feed_5 fl_X12_38 hM0 rfl hcx ?_
  refine rn_goto (tgt := 15) C dX12_feed_8 (by decide) ?_
  refine rn_istore (lv' := [(0, _), (1, _), (2, _), (4, _), (5, _)]) C dX12_feed_15 (by decide) rfl ?_
  refine rn_aload_n C dX12_feed_17 rfl ?_
  refine rn_iload C dX12_feed_18 rfl ?_
  refine rn_iconst (v := nI 1) C dX12_feed_20 rfl ?_
  refine rn_icmp_lt (tgt := 31) C dX12_feed_21 (by decide) (fun hb => absurd hb (fun h => absurd ((nI_ltI (by omega) (by omega)).mp h) (by omega))) (fun hb => ?_)
  refine rn_iload C dX12_feed_24 rfl ?_
  refine rn_bipush (v := nI 8) C dX12_feed_26 rfl ?_
  refine rn_icmp_le (tgt := 35) C dX12_feed_28 (by decide) (fun hb => ?_) (fun hb => absurd ((nI_leI (by omega) (by omega)).mpr (by omega)) hb)
  refine rn_iload C dX12_feed_35 rfl ?_
  refine rn_iload C dX12_feed_37 rfl ?_
  refine rn_iadd C dX12_feed_39 (nI_add _ _) ?_
  refine rn_iload_n C dX12_feed_40 rfl ?_
  refine rn_if_eq (tgt := 49) C dX12_feed_41 (by decide) (fun hb => absurd hb (show ¬ (nI (1)) = 0 from by decide)) (fun hb => ?_)
  refine rn_bipush (v := nI 64) C dX12_feed_44 rfl ?_
  refine rn_goto (tgt := 52) C dX12_feed_46 (by decide) ?_
  refine rn_icmp_le (tgt := 59) C dX12_feed_52 (by decide) (fun hb => ?_) (fun hb => absurd ((nI_leI (by omega) (by omega)).mpr (by omega)) hb)
  refine rn_iconst (v := nI 0) C dX12_feed_59 rfl ?_
  refine rs_putF C dX12_feed_60 fp_X12_7 hM0 rfl ?_
  refine rn_aload_n C dX12_feed_63 rfl ?_
  refine rs_getFe C dX12_feed_64 fl_X12_7 hM0 rfl fs_get ?_
  refine rn_if_eq (tgt := 72) C dX12_feed_67 (by decide) (fun hb => ?_) (fun hb => absurd (show (nI (0)) = 0 from by decide) hb)
  refine rn_iconst (v := nI 0) C dX12_feed_72 rfl ?_
  refine rn_istore (lv' := [(0, _), (1, _), (2, _), (4, _), (5, _), (6, _)]) C dX12_feed_73 (by decide) rfl ?_
  have lp75 : ∀ i75, i75 ≤ nn → Rn X 75 [(0, .ref (k_b X.1 + (mo))), (1, .int (nI (1))), (2, .long (v)), (4, .int (nI (nn))), (5, .int (nI (cx))), (6, .int (nI (i75)))] [] (inst X.1 L (mfeed1_l75 mo cx nn v S i75) S.2.1 (fs S.2.2 (mo) 0 (nI (0)))) n 0 0 := by
    refine upto _ _ ?_ (fun i75 hi75 ih75 => ?_)
    · skip
      refine rn_iload C dX12_feed_75 rfl ?_
      refine rn_iload C dX12_feed_77 rfl ?_
      refine rs_ge (tgt := 138) C dX12_feed_79 (by decide) rfl rfl (by omega) (by omega) (fun _ => ?_) (fun q => absurd q (by omega))
      refine rn_iload_n C dX12_feed_138 rfl ?_
      refine rn_if_eq (tgt := 156) C dX12_feed_139 (by decide) (fun hb => absurd hb (show ¬ (nI (1)) = 0 from by decide)) (fun hb => ?_)
      refine rn_aload_n C dX12_feed_142 rfl ?_
      refine rn_dup C dX12_feed_143 rfl ?_
      refine rs_getFe C dX12_feed_144 fl_X12_38 hM0 rfl ((fs_oth (by decide)).trans hcx) ?_
      refine rn_iload C dX12_feed_147 rfl ?_
      refine rn_iadd C dX12_feed_149 (nI_add _ _) ?_
      refine rs_putF C dX12_feed_150 fp_X12_38 hM0 rfl ?_
      refine rn_goto (tgt := 167) C dX12_feed_153 (by decide) ?_
      refine rn_iload C dX12_feed_167 rfl ?_
      refine rn_iload C dX12_feed_169 rfl ?_
      refine rn_iadd C dX12_feed_171 (nI_add _ _) ?_
      have hret : mfeed1_f mo cx nn v S = (nI (cx + nn), ((mfeed1_l75 mo cx nn v S nn), S.2.1, fs (fs S.2.2 (mo) 0 (nI (0))) (mo) 9 (nI (cx + nn)))) := by
        first | (dsimp only [mfeed1_f]; done) | (dsimp only [mfeed1_f]; exact rfl) | exact rfl
      exact rn_iret C Rt dX12_feed_172 (pi_of hret) (Nat.zero_le _) (Nat.zero_le _)
    · skip
      refine rn_iload C dX12_feed_75 rfl ?_
      refine rn_iload C dX12_feed_77 rfl ?_
      refine rs_ge (tgt := 138) C dX12_feed_79 (by decide) rfl rfl (by omega) (by omega) (fun q => absurd q (by omega)) (fun _ => ?_)
      refine rn_lload_n C dX12_feed_82 rfl ?_
      refine rn_bipush (v := nI 8) C dX12_feed_83 rfl ?_
      refine rn_iload C dX12_feed_85 rfl ?_
      refine rn_iconst (v := nI 1) C dX12_feed_87 rfl ?_
      refine rn_isub C dX12_feed_88 (pk_sub (by omega)) ?_
      refine rn_iload C dX12_feed_89 rfl ?_
      refine rn_isub C dX12_feed_91 (pk_sub (by omega)) ?_
      refine rn_imul C dX12_feed_92 (pk_mul _ _) ?_
      refine rn_lshr C dX12_feed_93 rfl ?_
      refine rn_l2i C dX12_feed_94 rfl ?_
      refine rn_sipush (v := nI 255) C dX12_feed_95 rfl ?_
      refine rn_iand C dX12_feed_98 rfl ?_
      refine rn_istore (lv' := [(0, _), (1, _), (2, _), (4, _), (5, _), (6, _), (7, _)]) C dX12_feed_99 (by decide) rfl ?_
      refine rn_iload_n C dX12_feed_101 rfl ?_
      refine rn_if_eq (tgt := 120) C dX12_feed_102 (by decide) (fun hb => absurd hb (show ¬ (nI (1)) = 0 from by decide)) (fun hb => ?_)
      refine rn_aload_n C dX12_feed_105 rfl ?_
      refine rs_get C dX12_feed_106 fl_X12_35 hM0 rfl ?_
      refine rn_iload C dX12_feed_109 rfl ?_
      refine rn_iload C dX12_feed_111 rfl ?_
      refine rn_iadd C dX12_feed_113 (nI_add _ _) ?_
      refine rn_iload C dX12_feed_114 rfl ?_
      refine rs_iastore C dX12_feed_116 hm6 rfl (by omega) (by decide) ?_
      refine rn_goto (tgt := 132) C dX12_feed_117 (by decide) ?_
      refine rn_iinc (lv' := [(0, _), (1, _), (2, _), (4, _), (5, _), (6, _), (7, _)]) C dX12_feed_132 rfl (nI_inc _) (by decide) rfl ?_
      refine rn_goto (tgt := 75) C dX12_feed_135 (by decide) ?_
      have he75 : mfeed1_l75 mo cx nn v S (i75 + 1) = (va_up (mfeed1_l75 mo cx nn v S i75) (mo + 6) (upd ((mfeed1_l75 mo cx nn v S i75) (mo + 6)) (cx + i75) (((v >>> ((nI (8 * (nn - 1 - i75))).toInt64 &&& 63)).toInt32) &&& (nI (255))))) := by
        first | (dsimp only [mfeed1_l75]; done) | (dsimp only [mfeed1_l75]; exact rfl) | exact rfl
      rw [he75] at ih75
      exact rn_ks [0, 1, 2, 4, 5, 6] ih75 rfl
  exact lp75 0 (Nat.zero_le _)
def mfeedY1_f (mo : Nat) (cx : Nat) (nn : Nat) (v : Int64) (S : StT) : Int32 × StT := (nI (0), (S.1, S.2.1, fs S.2.2 (mo) 0 (nI (2))))
theorem mfeedY1_F (mo : Nat) (cx : Nat) (nn : Nat) (v : Int64) (S : StT) : (mfeedY1_f mo cx nn v S).2.2.2 = fs S.2.2 (mo) 0 (nI (2)) := by
  unfold mfeedY1_f; first | rfl | ((repeat' split) <;> rfl) | (dsimp only; (repeat' split) <;> rfl)
set_option maxRecDepth 100000 in
set_option maxHeartbeats 400000 in
theorem c_mfeedY1 {k : KX} {L : Nat → Option Sh} {S : StT} {n : Nat} {mo : Nat} {cx : Nat} {nn : Nat} {v : Int64} (hM : ModelAt k L mo) (hcx : S.2.2 mo 9 = nI cx) (hcx1 : cx ≤ 64) (hn1 : 1 ≤ nn) (hn8 : nn ≤ 8) (hfit : 64 < cx + nn) :
    Cs k yX12_feed cX12_feed 8 (some .int) 1 0 0 [.ref (k_b k + (mo)), .int (nI (1)), .long (v), .int (nI (nn))] (inst k L S.1 S.2.1 S.2.2) n (Pi k L n (mfeedY1_f mo cx nn v S)) := by
  refine cs_of (by decide) (Nat.le_of_ble_eq_true rfl) ?_
  intro X hXk C Rt hnm
  subst hXk
  have hM9 := hM
  obtain ⟨hM0, hm1, hm2, hm3, hm4, hm5, hm6, hm7, hm8, hm9, hm10, hm11, hm12, hm13, hm14, hm15, hm16, hm17, hm18, hm19, hm20, hm21, hm22, hm23, hm24, hm25, hm26, hm27⟩ := hM9
  refine rn_lv [(0, .ref (k_b X.1 + (mo))), (1, .int (nI (1))), (2, .long (v)), (4, .int (nI (nn)))] (fun q h => h) ?_
  refine rn_iload_n C dX12_feed_0 rfl ?_
  refine rn_if_eq (tgt := 11) C dX12_feed_1 (by decide) (fun hb => absurd hb (show ¬ (nI (1)) = 0 from by decide)) (fun hb => ?_)
  refine rn_aload_n C dX12_feed_4 rfl ?_
  refine rs_getFe C dX12_feed_5 fl_X12_38 hM0 rfl hcx ?_
  refine rn_goto (tgt := 15) C dX12_feed_8 (by decide) ?_
  refine rn_istore (lv' := [(0, _), (1, _), (2, _), (4, _), (5, _)]) C dX12_feed_15 (by decide) rfl ?_
  refine rn_aload_n C dX12_feed_17 rfl ?_
  refine rn_iload C dX12_feed_18 rfl ?_
  refine rn_iconst (v := nI 1) C dX12_feed_20 rfl ?_
  refine rn_icmp_lt (tgt := 31) C dX12_feed_21 (by decide) (fun hb => absurd hb (fun h => absurd ((nI_ltI (by omega) (by omega)).mp h) (by omega))) (fun hb => ?_)
  refine rn_iload C dX12_feed_24 rfl ?_
  refine rn_bipush (v := nI 8) C dX12_feed_26 rfl ?_
  refine rn_icmp_le (tgt := 35) C dX12_feed_28 (by decide) (fun hb => ?_) (fun hb => absurd ((nI_leI (by omega) (by omega)).mpr (by omega)) hb)
  refine rn_iload C dX12_feed_35 rfl ?_
  refine rn_iload C dX12_feed_37 rfl ?_
  refine rn_iadd C dX12_feed_39 (nI_add _ _) ?_
  refine rn_iload_n C dX12_feed_40 rfl ?_
  refine rn_if_eq (tgt := 49) C dX12_feed_41 (by decide) (fun hb => absurd hb (show ¬ (nI (1)) = 0 from by decide)) (fun hb => ?_)
  refine rn_bipush (v := nI 64) C dX12_feed_44 rfl ?_
  refine rn_goto (tgt := 52) C dX12_feed_46 (by decide) ?_
  refine rn_icmp_le (tgt := 59) C dX12_feed_52 (by decide) (fun hb => absurd hb (fun h => absurd ((nI_leI (by omega) (by omega)).mp h) (by omega))) (fun hb => ?_)
  refine rn_iconst (v := nI 2) C dX12_feed_55 rfl ?_
  refine rn_goto (tgt := 60) C dX12_feed_56 (by decide) ?_
  refine rs_putF C dX12_feed_60 fp_X12_7 hM0 rfl ?_
  refine rn_aload_n C dX12_feed_63 rfl ?_
  refine rs_getFe C dX12_feed_64 fl_X12_7 hM0 rfl fs_get ?_
  refine rn_if_eq (tgt := 72) C dX12_feed_67 (by decide) (fun hb => absurd hb (show ¬ (nI (2)) = 0 from by decide)) (fun hb => ?_)
  refine rn_iconst (v := nI 0) C dX12_feed_70 rfl ?_
  have hret : mfeedY1_f mo cx nn v S = (nI (0), (S.1, S.2.1, fs S.2.2 (mo) 0 (nI (2)))) := by
    first | (dsimp only [mfeedY1_f]; done) | (dsimp only [mfeedY1_f]; exact rfl) | exact rfl
  exact rn_iret C Rt dX12_feed_71 (pi_of hret) (Nat.zero_le _) (Nat.zero_le _)
def mfeedX1_f (mo : Nat) (v : Int64) (n_ : Int32) (S : StT) : Int32 × StT := (nI (0), (S.1, S.2.1, fs S.2.2 (mo) 0 (nI (1))))
theorem mfeedX1_F (mo : Nat) (v : Int64) (n_ : Int32) (S : StT) : (mfeedX1_f mo v n_ S).2.2.2 = fs S.2.2 (mo) 0 (nI (1)) := by
  unfold mfeedX1_f; first | rfl | ((repeat' split) <;> rfl) | (dsimp only; (repeat' split) <;> rfl)
set_option maxRecDepth 100000 in
set_option maxHeartbeats 400000 in
theorem c_mfeedX1 {k : KX} {L : Nat → Option Sh} {S : StT} {n : Nat} {mo : Nat} {v : Int64} {n_ : Int32} (hM : ModelAt k L mo) (hbad : n_ < nI 1 ∨ ¬ n_ ≤ nI 8) :
    Cs k yX12_feed cX12_feed 8 (some .int) 1 0 0 [.ref (k_b k + (mo)), .int (nI (1)), .long (v), .int (n_)] (inst k L S.1 S.2.1 S.2.2) n (Pi k L n (mfeedX1_f mo v n_ S)) := by
  refine cs_of (by decide) (Nat.le_of_ble_eq_true rfl) ?_
  intro X hXk C Rt hnm
  subst hXk
  have hM9 := hM
  obtain ⟨hM0, hm1, hm2, hm3, hm4, hm5, hm6, hm7, hm8, hm9, hm10, hm11, hm12, hm13, hm14, hm15, hm16, hm17, hm18, hm19, hm20, hm21, hm22, hm23, hm24, hm25, hm26, hm27⟩ := hM9
  refine rn_lv [(0, .ref (k_b X.1 + (mo))), (1, .int (nI (1))), (2, .long (v)), (4, .int (n_))] (fun q h => h) ?_
  refine rn_iload_n C dX12_feed_0 rfl ?_
  refine rn_if_eq (tgt := 11) C dX12_feed_1 (by decide) (fun hb => absurd hb (show ¬ (nI (1)) = 0 from by decide)) (fun hb => ?_)
  refine rn_aload_n C dX12_feed_4 rfl ?_
  refine rs_getFe C dX12_feed_5 fl_X12_38 hM0 rfl rfl ?_
  refine rn_goto (tgt := 15) C dX12_feed_8 (by decide) ?_
  refine rn_istore (lv' := [(0, _), (1, _), (2, _), (4, _), (5, _)]) C dX12_feed_15 (by decide) rfl ?_
  refine rn_aload_n C dX12_feed_17 rfl ?_
  refine rn_iload C dX12_feed_18 rfl ?_
  refine rn_iconst (v := nI 1) C dX12_feed_20 rfl ?_
  refine rn_icmp_lt (tgt := 31) C dX12_feed_21 (by decide) (fun hb1 => ?_) (fun hb1 => ?_)
  · skip
    refine rn_iconst (v := nI 1) C dX12_feed_31 rfl ?_
    refine rn_goto (tgt := 60) C dX12_feed_32 (by decide) ?_
    refine rs_putF C dX12_feed_60 fp_X12_7 hM0 rfl ?_
    refine rn_aload_n C dX12_feed_63 rfl ?_
    refine rs_getFe C dX12_feed_64 fl_X12_7 hM0 rfl fs_get ?_
    refine rn_if_eq (tgt := 72) C dX12_feed_67 (by decide) (fun hb => absurd hb (show ¬ (nI (1)) = 0 from by decide)) (fun hb => ?_)
    refine rn_iconst (v := nI 0) C dX12_feed_70 rfl ?_
    have hret : mfeedX1_f mo v n_ S = (nI (0), (S.1, S.2.1, fs S.2.2 (mo) 0 (nI (1)))) := by
      first | (dsimp only [mfeedX1_f]; done) | (dsimp only [mfeedX1_f]; exact rfl) | exact rfl
    exact rn_iret C Rt dX12_feed_71 (pi_of hret) (Nat.zero_le _) (Nat.zero_le _)
  · skip
    refine rn_iload C dX12_feed_24 rfl ?_
    refine rn_bipush (v := nI 8) C dX12_feed_26 rfl ?_
    refine rn_icmp_le (tgt := 35) C dX12_feed_28 (by decide) (fun hb2 => ?_) (fun hb2 => ?_)
    · skip
      exact absurd hbad (by rintro (h | h) <;> contradiction)
    · skip
      refine rn_iconst (v := nI 1) C dX12_feed_31 rfl ?_
      refine rn_goto (tgt := 60) C dX12_feed_32 (by decide) ?_
      refine rs_putF C dX12_feed_60 fp_X12_7 hM0 rfl ?_
      refine rn_aload_n C dX12_feed_63 rfl ?_
      refine rs_getFe C dX12_feed_64 fl_X12_7 hM0 rfl fs_get ?_
      refine rn_if_eq (tgt := 72) C dX12_feed_67 (by decide) (fun hb => absurd hb (show ¬ (nI (1)) = 0 from by decide)) (fun hb => ?_)
      refine rn_iconst (v := nI 0) C dX12_feed_70 rfl ?_
      have hret : mfeedX1_f mo v n_ S = (nI (0), (S.1, S.2.1, fs S.2.2 (mo) 0 (nI (1)))) := by
        first | (dsimp only [mfeedX1_f]; done) | (dsimp only [mfeedX1_f]; exact rfl) | exact rfl
      exact rn_iret C Rt dX12_feed_71 (pi_of hret) (Nat.zero_le _) (Nat.zero_le _)
def mlook0_f (mo : Nat) (q : Nat) (S : StT) : Int32 × StT := (S.1 (mo + 1) (q), (S.1, S.2.1, fs S.2.2 (mo) 0 (nI (0))))
theorem mlook0_F (mo : Nat) (q : Nat) (S : StT) : (mlook0_f mo q S).2.2.2 = fs S.2.2 (mo) 0 (nI (0)) := by
  unfold mlook0_f; first | rfl | ((repeat' split) <;> rfl) | (dsimp only; (repeat' split) <;> rfl)
set_option maxRecDepth 100000 in
set_option maxHeartbeats 400000 in
theorem c_mlook0 {k : KX} {L : Nat → Option Sh} {S : StT} {n : Nat} {mo : Nat} {q : Nat} (hM : ModelAt k L mo) (hq : q < 57) :
    Cs k yX12_look cX12_look 4 (some .int) 1 0 0 [.ref (k_b k + (mo)), .int (nI (0)), .int (nI (q))] (inst k L S.1 S.2.1 S.2.2) n (Pi k L n (mlook0_f mo q S)) := by
  refine cs_of (by decide) (Nat.le_of_ble_eq_true rfl) ?_
  intro X hXk C Rt hnm
  subst hXk
  have hM9 := hM
  obtain ⟨hM0, hm1, hm2, hm3, hm4, hm5, hm6, hm7, hm8, hm9, hm10, hm11, hm12, hm13, hm14, hm15, hm16, hm17, hm18, hm19, hm20, hm21, hm22, hm23, hm24, hm25, hm26, hm27⟩ := hM9
  refine rn_lv [(0, .ref (k_b X.1 + (mo))), (1, .int (nI (0))), (2, .int (nI (q)))] (fun q h => h) ?_
  refine rn_iload_n C dX12_look_0 rfl ?_
  refine rn_iconst (v := nI 3) C dX12_look_1 rfl ?_
  refine rn_icmp_ne (tgt := 12) C dX12_look_2 (by decide) (fun _ => ?_) (fun hb => absurd hb (show ¬ (nI (0)) = (nI (3)) from by decide))
  refine rn_iload_n C dX12_look_12 rfl ?_
  refine rs_si C dX12_look_13 mk_X12_sizeOf ls_X12_328 (cv_msizeOf (rg := 0) (v := 57) rfl) rfl rfl (by decide) (Nat.le_of_ble_eq_true rfl) (by decide) (by decide) ?_
  refine rn_istore_n (lv' := [(0, _), (1, _), (2, _), (3, _)]) C dX12_look_16 (by decide) rfl ?_
  refine rn_aload_n C dX12_look_17 rfl ?_
  refine rn_iload_n C dX12_look_18 rfl ?_
  refine rn_if_lt (tgt := 27) C dX12_look_19 (by decide) (fun hb => absurd hb (show ¬ (nI (0)) < 0 from by decide)) (fun hb => ?_)
  refine rn_iload_n C dX12_look_22 rfl ?_
  refine rn_iconst (v := nI 3) C dX12_look_23 rfl ?_
  refine rn_icmp_le (tgt := 31) C dX12_look_24 (by decide) (fun hb => ?_) (fun hb => absurd (show (nI (0)) ≤ (nI (3)) from by decide) hb)
  refine rn_iload_n C dX12_look_31 rfl ?_
  refine rn_if_lt (tgt := 40) C dX12_look_32 (by decide) (fun hb => absurd hb (nI_n0 (by omega))) (fun hb => ?_)
  refine rn_iload_n C dX12_look_35 rfl ?_
  refine rn_iload_n C dX12_look_36 rfl ?_
  refine rn_icmp_lt (tgt := 44) C dX12_look_37 (by decide) (fun hb => ?_) (fun hb => absurd ((nI_ltI (by omega) (by omega)).mpr (by omega)) hb)
  refine rn_iconst (v := nI 0) C dX12_look_44 rfl ?_
  refine rs_putF C dX12_look_45 fp_X12_7 hM0 rfl ?_
  refine rn_aload_n C dX12_look_48 rfl ?_
  refine rs_getFe C dX12_look_49 fl_X12_7 hM0 rfl fs_get ?_
  refine rn_if_eq (tgt := 57) C dX12_look_52 (by decide) (fun hb => ?_) (fun hb => absurd (show (nI (0)) = 0 from by decide) hb)
  refine rn_iload_n C dX12_look_57 rfl ?_
  refine rn_if_ne (tgt := 70) C dX12_look_58 (by decide) (fun hb => absurd (show (nI (0)) = 0 from by decide) hb) (fun _ => ?_)
  refine rn_aload_n C dX12_look_61 rfl ?_
  refine rs_get C dX12_look_62 fl_X12_13 hM0 rfl ?_
  refine rn_iload_n C dX12_look_65 rfl ?_
  refine rs_iaload C dX12_look_66 hm1 rfl (by omega) (by decide) ?_
  refine rn_goto (tgt := 104) C dX12_look_67 (by decide) ?_
  have hret : mlook0_f mo q S = (S.1 (mo + 1) (q), (S.1, S.2.1, fs S.2.2 (mo) 0 (nI (0)))) := by
    first | (dsimp only [mlook0_f]; done) | (dsimp only [mlook0_f]; exact rfl) | exact rfl
  exact rn_iret C Rt dX12_look_104 (pi_of hret) (Nat.zero_le _) (Nat.zero_le _)
def mlookY0_f (mo : Nat) (q : Int32) (S : StT) : Int32 × StT := (nI (0), (S.1, S.2.1, fs S.2.2 (mo) 0 (nI (2))))
theorem mlookY0_F (mo : Nat) (q : Int32) (S : StT) : (mlookY0_f mo q S).2.2.2 = fs S.2.2 (mo) 0 (nI (2)) := by
  unfold mlookY0_f; first | rfl | ((repeat' split) <;> rfl) | (dsimp only; (repeat' split) <;> rfl)
set_option maxRecDepth 100000 in
set_option maxHeartbeats 400000 in
theorem c_mlookY0 {k : KX} {L : Nat → Option Sh} {S : StT} {n : Nat} {mo : Nat} {q : Int32} (hM : ModelAt k L mo) (hbad : q < 0 ∨ ¬ q < nI 57) :
    Cs k yX12_look cX12_look 4 (some .int) 1 0 0 [.ref (k_b k + (mo)), .int (nI (0)), .int (q)] (inst k L S.1 S.2.1 S.2.2) n (Pi k L n (mlookY0_f mo q S)) := by
  refine cs_of (by decide) (Nat.le_of_ble_eq_true rfl) ?_
  intro X hXk C Rt hnm
  subst hXk
  have hM9 := hM
  obtain ⟨hM0, hm1, hm2, hm3, hm4, hm5, hm6, hm7, hm8, hm9, hm10, hm11, hm12, hm13, hm14, hm15, hm16, hm17, hm18, hm19, hm20, hm21, hm22, hm23, hm24, hm25, hm26, hm27⟩ := hM9
  refine rn_lv [(0, .ref (k_b X.1 + (mo))), (1, .int (nI (0))), (2, .int (q))] (fun q h => h) ?_
  refine rn_iload_n C dX12_look_0 rfl ?_
  refine rn_iconst (v := nI 3) C dX12_look_1 rfl ?_
  refine rn_icmp_ne (tgt := 12) C dX12_look_2 (by decide) (fun _ => ?_) (fun hb => absurd hb (show ¬ (nI (0)) = (nI (3)) from by decide))
  refine rn_iload_n C dX12_look_12 rfl ?_
  refine rs_si C dX12_look_13 mk_X12_sizeOf ls_X12_328 (cv_msizeOf (rg := 0) (v := 57) rfl) rfl rfl (by decide) (Nat.le_of_ble_eq_true rfl) (by decide) (by decide) ?_
  refine rn_istore_n (lv' := [(0, _), (1, _), (2, _), (3, _)]) C dX12_look_16 (by decide) rfl ?_
  refine rn_aload_n C dX12_look_17 rfl ?_
  refine rn_iload_n C dX12_look_18 rfl ?_
  refine rn_if_lt (tgt := 27) C dX12_look_19 (by decide) (fun hb => absurd hb (show ¬ (nI (0)) < 0 from by decide)) (fun hb => ?_)
  refine rn_iload_n C dX12_look_22 rfl ?_
  refine rn_iconst (v := nI 3) C dX12_look_23 rfl ?_
  refine rn_icmp_le (tgt := 31) C dX12_look_24 (by decide) (fun hb => ?_) (fun hb => absurd (show (nI (0)) ≤ (nI (3)) from by decide) hb)
  refine rn_iload_n C dX12_look_31 rfl ?_
  refine rn_if_lt (tgt := 40) C dX12_look_32 (by decide) (fun hb1 => ?_) (fun hb1 => ?_)
  · skip
    refine rn_iconst (v := nI 2) C dX12_look_40 rfl ?_
    refine rn_goto (tgt := 45) C dX12_look_41 (by decide) ?_
    refine rs_putF C dX12_look_45 fp_X12_7 hM0 rfl ?_
    refine rn_aload_n C dX12_look_48 rfl ?_
    refine rs_getFe C dX12_look_49 fl_X12_7 hM0 rfl fs_get ?_
    refine rn_if_eq (tgt := 57) C dX12_look_52 (by decide) (fun hb => absurd hb (show ¬ (nI (2)) = 0 from by decide)) (fun hb => ?_)
    refine rn_iconst (v := nI 0) C dX12_look_55 rfl ?_
    have hret : mlookY0_f mo q S = (nI (0), (S.1, S.2.1, fs S.2.2 (mo) 0 (nI (2)))) := by
      first | (dsimp only [mlookY0_f]; done) | (dsimp only [mlookY0_f]; exact rfl) | exact rfl
    exact rn_iret C Rt dX12_look_56 (pi_of hret) (Nat.zero_le _) (Nat.zero_le _)
  · skip
    refine rn_iload_n C dX12_look_35 rfl ?_
    refine rn_iload_n C dX12_look_36 rfl ?_
    refine rn_icmp_lt (tgt := 44) C dX12_look_37 (by decide) (fun hb2 => ?_) (fun hb2 => ?_)
    · skip
      exact absurd hbad (by rintro (h | h) <;> contradiction)
    · skip
      refine rn_iconst (v := nI 2) C dX12_look_40 rfl ?_
      refine rn_goto (tgt := 45) C dX12_look_41 (by decide) ?_
      refine rs_putF C dX12_look_45 fp_X12_7 hM0 rfl ?_
      refine rn_aload_n C dX12_look_48 rfl ?_
      refine rs_getFe C dX12_look_49 fl_X12_7 hM0 rfl fs_get ?_
      refine rn_if_eq (tgt := 57) C dX12_look_52 (by decide) (fun hb => absurd hb (show ¬ (nI (2)) = 0 from by decide)) (fun hb => ?_)
      refine rn_iconst (v := nI 0) C dX12_look_55 rfl ?_
      have hret : mlookY0_f mo q S = (nI (0), (S.1, S.2.1, fs S.2.2 (mo) 0 (nI (2)))) := by
        first | (dsimp only [mlookY0_f]; done) | (dsimp only [mlookY0_f]; exact rfl) | exact rfl
      exact rn_iret C Rt dX12_look_56 (pi_of hret) (Nat.zero_le _) (Nat.zero_le _)
def mlook1_f (mo : Nat) (q : Nat) (S : StT) : Int32 × StT := (S.1 (mo + 2) (q), (S.1, S.2.1, fs S.2.2 (mo) 0 (nI (0))))
theorem mlook1_F (mo : Nat) (q : Nat) (S : StT) : (mlook1_f mo q S).2.2.2 = fs S.2.2 (mo) 0 (nI (0)) := by
  unfold mlook1_f; first | rfl | ((repeat' split) <;> rfl) | (dsimp only; (repeat' split) <;> rfl)
set_option maxRecDepth 100000 in
set_option maxHeartbeats 400000 in
theorem c_mlook1 {k : KX} {L : Nat → Option Sh} {S : StT} {n : Nat} {mo : Nat} {q : Nat} (hM : ModelAt k L mo) (hq : q < 57) :
    Cs k yX12_look cX12_look 4 (some .int) 1 0 0 [.ref (k_b k + (mo)), .int (nI (1)), .int (nI (q))] (inst k L S.1 S.2.1 S.2.2) n (Pi k L n (mlook1_f mo q S)) := by
  refine cs_of (by decide) (Nat.le_of_ble_eq_true rfl) ?_
  intro X hXk C Rt hnm
  subst hXk
  have hM9 := hM
  obtain ⟨hM0, hm1, hm2, hm3, hm4, hm5, hm6, hm7, hm8, hm9, hm10, hm11, hm12, hm13, hm14, hm15, hm16, hm17, hm18, hm19, hm20, hm21, hm22, hm23, hm24, hm25, hm26, hm27⟩ := hM9
  refine rn_lv [(0, .ref (k_b X.1 + (mo))), (1, .int (nI (1))), (2, .int (nI (q)))] (fun q h => h) ?_
  refine rn_iload_n C dX12_look_0 rfl ?_
  refine rn_iconst (v := nI 3) C dX12_look_1 rfl ?_
  refine rn_icmp_ne (tgt := 12) C dX12_look_2 (by decide) (fun _ => ?_) (fun hb => absurd hb (show ¬ (nI (1)) = (nI (3)) from by decide))
  refine rn_iload_n C dX12_look_12 rfl ?_
  refine rs_si C dX12_look_13 mk_X12_sizeOf ls_X12_328 (cv_msizeOf (rg := 1) (v := 57) rfl) rfl rfl (by decide) (Nat.le_of_ble_eq_true rfl) (by decide) (by decide) ?_
  refine rn_istore_n (lv' := [(0, _), (1, _), (2, _), (3, _)]) C dX12_look_16 (by decide) rfl ?_
  refine rn_aload_n C dX12_look_17 rfl ?_
  refine rn_iload_n C dX12_look_18 rfl ?_
  refine rn_if_lt (tgt := 27) C dX12_look_19 (by decide) (fun hb => absurd hb (show ¬ (nI (1)) < 0 from by decide)) (fun hb => ?_)
  refine rn_iload_n C dX12_look_22 rfl ?_
  refine rn_iconst (v := nI 3) C dX12_look_23 rfl ?_
  refine rn_icmp_le (tgt := 31) C dX12_look_24 (by decide) (fun hb => ?_) (fun hb => absurd (show (nI (1)) ≤ (nI (3)) from by decide) hb)
  refine rn_iload_n C dX12_look_31 rfl ?_
  refine rn_if_lt (tgt := 40) C dX12_look_32 (by decide) (fun hb => absurd hb (nI_n0 (by omega))) (fun hb => ?_)
  refine rn_iload_n C dX12_look_35 rfl ?_
  refine rn_iload_n C dX12_look_36 rfl ?_
  refine rn_icmp_lt (tgt := 44) C dX12_look_37 (by decide) (fun hb => ?_) (fun hb => absurd ((nI_ltI (by omega) (by omega)).mpr (by omega)) hb)
  refine rn_iconst (v := nI 0) C dX12_look_44 rfl ?_
  refine rs_putF C dX12_look_45 fp_X12_7 hM0 rfl ?_
  refine rn_aload_n C dX12_look_48 rfl ?_
  refine rs_getFe C dX12_look_49 fl_X12_7 hM0 rfl fs_get ?_
  refine rn_if_eq (tgt := 57) C dX12_look_52 (by decide) (fun hb => ?_) (fun hb => absurd (show (nI (0)) = 0 from by decide) hb)
  refine rn_iload_n C dX12_look_57 rfl ?_
  refine rn_if_ne (tgt := 70) C dX12_look_58 (by decide) (fun _ => ?_) (fun hb => absurd hb (show ¬ (nI (1)) = 0 from by decide))
  refine rn_iload_n C dX12_look_70 rfl ?_
  refine rn_iconst (v := nI 1) C dX12_look_71 rfl ?_
  refine rn_icmp_ne (tgt := 84) C dX12_look_72 (by decide) (fun hb => absurd (show (nI (1)) = (nI (1)) from by decide) hb) (fun _ => ?_)
  refine rn_aload_n C dX12_look_75 rfl ?_
  refine rs_get C dX12_look_76 fl_X12_17 hM0 rfl ?_
  refine rn_iload_n C dX12_look_79 rfl ?_
  refine rs_iaload C dX12_look_80 hm2 rfl (by omega) (by decide) ?_
  refine rn_goto (tgt := 104) C dX12_look_81 (by decide) ?_
  have hret : mlook1_f mo q S = (S.1 (mo + 2) (q), (S.1, S.2.1, fs S.2.2 (mo) 0 (nI (0)))) := by
    first | (dsimp only [mlook1_f]; done) | (dsimp only [mlook1_f]; exact rfl) | exact rfl
  exact rn_iret C Rt dX12_look_104 (pi_of hret) (Nat.zero_le _) (Nat.zero_le _)
def mlookY1_f (mo : Nat) (q : Int32) (S : StT) : Int32 × StT := (nI (0), (S.1, S.2.1, fs S.2.2 (mo) 0 (nI (2))))
theorem mlookY1_F (mo : Nat) (q : Int32) (S : StT) : (mlookY1_f mo q S).2.2.2 = fs S.2.2 (mo) 0 (nI (2)) := by
  unfold mlookY1_f; first | rfl | ((repeat' split) <;> rfl) | (dsimp only; (repeat' split) <;> rfl)
set_option maxRecDepth 100000 in
set_option maxHeartbeats 400000 in
theorem c_mlookY1 {k : KX} {L : Nat → Option Sh} {S : StT} {n : Nat} {mo : Nat} {q : Int32} (hM : ModelAt k L mo) (hbad : q < 0 ∨ ¬ q < nI 57) :
    Cs k yX12_look cX12_look 4 (some .int) 1 0 0 [.ref (k_b k + (mo)), .int (nI (1)), .int (q)] (inst k L S.1 S.2.1 S.2.2) n (Pi k L n (mlookY1_f mo q S)) := by
  refine cs_of (by decide) (Nat.le_of_ble_eq_true rfl) ?_
  intro X hXk C Rt hnm
  subst hXk
  have hM9 := hM
  obtain ⟨hM0, hm1, hm2, hm3, hm4, hm5, hm6, hm7, hm8, hm9, hm10, hm11, hm12, hm13, hm14, hm15, hm16, hm17, hm18, hm19, hm20, hm21, hm22, hm23, hm24, hm25, hm26, hm27⟩ := hM9
  refine rn_lv [(0, .ref (k_b X.1 + (mo))), (1, .int (nI (1))), (2, .int (q))] (fun q h => h) ?_
  refine rn_iload_n C dX12_look_0 rfl ?_
  refine rn_iconst (v := nI 3) C dX12_look_1 rfl ?_
  refine rn_icmp_ne (tgt := 12) C dX12_look_2 (by decide) (fun _ => ?_) (fun hb => absurd hb (show ¬ (nI (1)) = (nI (3)) from by decide))
  refine rn_iload_n C dX12_look_12 rfl ?_
  refine rs_si C dX12_look_13 mk_X12_sizeOf ls_X12_328 (cv_msizeOf (rg := 1) (v := 57) rfl) rfl rfl (by decide) (Nat.le_of_ble_eq_true rfl) (by decide) (by decide) ?_
  refine rn_istore_n (lv' := [(0, _), (1, _), (2, _), (3, _)]) C dX12_look_16 (by decide) rfl ?_
  refine rn_aload_n C dX12_look_17 rfl ?_
  refine rn_iload_n C dX12_look_18 rfl ?_
  refine rn_if_lt (tgt := 27) C dX12_look_19 (by decide) (fun hb => absurd hb (show ¬ (nI (1)) < 0 from by decide)) (fun hb => ?_)
  refine rn_iload_n C dX12_look_22 rfl ?_
  refine rn_iconst (v := nI 3) C dX12_look_23 rfl ?_
  refine rn_icmp_le (tgt := 31) C dX12_look_24 (by decide) (fun hb => ?_) (fun hb => absurd (show (nI (1)) ≤ (nI (3)) from by decide) hb)
  refine rn_iload_n C dX12_look_31 rfl ?_
  refine rn_if_lt (tgt := 40) C dX12_look_32 (by decide) (fun hb1 => ?_) (fun hb1 => ?_)
  · skip
    refine rn_iconst (v := nI 2) C dX12_look_40 rfl ?_
    refine rn_goto (tgt := 45) C dX12_look_41 (by decide) ?_
    refine rs_putF C dX12_look_45 fp_X12_7 hM0 rfl ?_
    refine rn_aload_n C dX12_look_48 rfl ?_
    refine rs_getFe C dX12_look_49 fl_X12_7 hM0 rfl fs_get ?_
    refine rn_if_eq (tgt := 57) C dX12_look_52 (by decide) (fun hb => absurd hb (show ¬ (nI (2)) = 0 from by decide)) (fun hb => ?_)
    refine rn_iconst (v := nI 0) C dX12_look_55 rfl ?_
    have hret : mlookY1_f mo q S = (nI (0), (S.1, S.2.1, fs S.2.2 (mo) 0 (nI (2)))) := by
      first | (dsimp only [mlookY1_f]; done) | (dsimp only [mlookY1_f]; exact rfl) | exact rfl
    exact rn_iret C Rt dX12_look_56 (pi_of hret) (Nat.zero_le _) (Nat.zero_le _)
  · skip
    refine rn_iload_n C dX12_look_35 rfl ?_
    refine rn_iload_n C dX12_look_36 rfl ?_
    refine rn_icmp_lt (tgt := 44) C dX12_look_37 (by decide) (fun hb2 => ?_) (fun hb2 => ?_)
    · skip
      exact absurd hbad (by rintro (h | h) <;> contradiction)
    · skip
      refine rn_iconst (v := nI 2) C dX12_look_40 rfl ?_
      refine rn_goto (tgt := 45) C dX12_look_41 (by decide) ?_
      refine rs_putF C dX12_look_45 fp_X12_7 hM0 rfl ?_
      refine rn_aload_n C dX12_look_48 rfl ?_
      refine rs_getFe C dX12_look_49 fl_X12_7 hM0 rfl fs_get ?_
      refine rn_if_eq (tgt := 57) C dX12_look_52 (by decide) (fun hb => absurd hb (show ¬ (nI (2)) = 0 from by decide)) (fun hb => ?_)
      refine rn_iconst (v := nI 0) C dX12_look_55 rfl ?_
      have hret : mlookY1_f mo q S = (nI (0), (S.1, S.2.1, fs S.2.2 (mo) 0 (nI (2)))) := by
        first | (dsimp only [mlookY1_f]; done) | (dsimp only [mlookY1_f]; exact rfl) | exact rfl
      exact rn_iret C Rt dX12_look_56 (pi_of hret) (Nat.zero_le _) (Nat.zero_le _)
def mlook2_f (mo : Nat) (q : Nat) (S : StT) : Int32 × StT := (S.1 (mo + 3) (q), (S.1, S.2.1, fs S.2.2 (mo) 0 (nI (0))))
theorem mlook2_F (mo : Nat) (q : Nat) (S : StT) : (mlook2_f mo q S).2.2.2 = fs S.2.2 (mo) 0 (nI (0)) := by
  unfold mlook2_f; first | rfl | ((repeat' split) <;> rfl) | (dsimp only; (repeat' split) <;> rfl)
set_option maxRecDepth 100000 in
set_option maxHeartbeats 400000 in
theorem c_mlook2 {k : KX} {L : Nat → Option Sh} {S : StT} {n : Nat} {mo : Nat} {q : Nat} (hM : ModelAt k L mo) (hq : q < 114) :
    Cs k yX12_look cX12_look 4 (some .int) 1 0 0 [.ref (k_b k + (mo)), .int (nI (2)), .int (nI (q))] (inst k L S.1 S.2.1 S.2.2) n (Pi k L n (mlook2_f mo q S)) := by
  refine cs_of (by decide) (Nat.le_of_ble_eq_true rfl) ?_
  intro X hXk C Rt hnm
  subst hXk
  have hM9 := hM
  obtain ⟨hM0, hm1, hm2, hm3, hm4, hm5, hm6, hm7, hm8, hm9, hm10, hm11, hm12, hm13, hm14, hm15, hm16, hm17, hm18, hm19, hm20, hm21, hm22, hm23, hm24, hm25, hm26, hm27⟩ := hM9
  refine rn_lv [(0, .ref (k_b X.1 + (mo))), (1, .int (nI (2))), (2, .int (nI (q)))] (fun q h => h) ?_
  refine rn_iload_n C dX12_look_0 rfl ?_
  refine rn_iconst (v := nI 3) C dX12_look_1 rfl ?_
  refine rn_icmp_ne (tgt := 12) C dX12_look_2 (by decide) (fun _ => ?_) (fun hb => absurd hb (show ¬ (nI (2)) = (nI (3)) from by decide))
  refine rn_iload_n C dX12_look_12 rfl ?_
  refine rs_si C dX12_look_13 mk_X12_sizeOf ls_X12_328 (cv_msizeOf (rg := 2) (v := 114) rfl) rfl rfl (by decide) (Nat.le_of_ble_eq_true rfl) (by decide) (by decide) ?_
  refine rn_istore_n (lv' := [(0, _), (1, _), (2, _), (3, _)]) C dX12_look_16 (by decide) rfl ?_
  refine rn_aload_n C dX12_look_17 rfl ?_
  refine rn_iload_n C dX12_look_18 rfl ?_
  refine rn_if_lt (tgt := 27) C dX12_look_19 (by decide) (fun hb => absurd hb (show ¬ (nI (2)) < 0 from by decide)) (fun hb => ?_)
  refine rn_iload_n C dX12_look_22 rfl ?_
  refine rn_iconst (v := nI 3) C dX12_look_23 rfl ?_
  refine rn_icmp_le (tgt := 31) C dX12_look_24 (by decide) (fun hb => ?_) (fun hb => absurd (show (nI (2)) ≤ (nI (3)) from by decide) hb)
  refine rn_iload_n C dX12_look_31 rfl ?_
  refine rn_if_lt (tgt := 40) C dX12_look_32 (by decide) (fun hb => absurd hb (nI_n0 (by omega))) (fun hb => ?_)
  refine rn_iload_n C dX12_look_35 rfl ?_
  refine rn_iload_n C dX12_look_36 rfl ?_
  refine rn_icmp_lt (tgt := 44) C dX12_look_37 (by decide) (fun hb => ?_) (fun hb => absurd ((nI_ltI (by omega) (by omega)).mpr (by omega)) hb)
  refine rn_iconst (v := nI 0) C dX12_look_44 rfl ?_
  refine rs_putF C dX12_look_45 fp_X12_7 hM0 rfl ?_
  refine rn_aload_n C dX12_look_48 rfl ?_
  refine rs_getFe C dX12_look_49 fl_X12_7 hM0 rfl fs_get ?_
  refine rn_if_eq (tgt := 57) C dX12_look_52 (by decide) (fun hb => ?_) (fun hb => absurd (show (nI (0)) = 0 from by decide) hb)
  refine rn_iload_n C dX12_look_57 rfl ?_
  refine rn_if_ne (tgt := 70) C dX12_look_58 (by decide) (fun _ => ?_) (fun hb => absurd hb (show ¬ (nI (2)) = 0 from by decide))
  refine rn_iload_n C dX12_look_70 rfl ?_
  refine rn_iconst (v := nI 1) C dX12_look_71 rfl ?_
  refine rn_icmp_ne (tgt := 84) C dX12_look_72 (by decide) (fun _ => ?_) (fun hb => absurd hb (show ¬ (nI (2)) = (nI (1)) from by decide))
  refine rn_iload_n C dX12_look_84 rfl ?_
  refine rn_iconst (v := nI 2) C dX12_look_85 rfl ?_
  refine rn_icmp_ne (tgt := 98) C dX12_look_86 (by decide) (fun hb => absurd (show (nI (2)) = (nI (2)) from by decide) hb) (fun _ => ?_)
  refine rn_aload_n C dX12_look_89 rfl ?_
  refine rs_get C dX12_look_90 fl_X12_20 hM0 rfl ?_
  refine rn_iload_n C dX12_look_93 rfl ?_
  refine rs_iaload C dX12_look_94 hm3 rfl (by omega) (by decide) ?_
  refine rn_goto (tgt := 104) C dX12_look_95 (by decide) ?_
  have hret : mlook2_f mo q S = (S.1 (mo + 3) (q), (S.1, S.2.1, fs S.2.2 (mo) 0 (nI (0)))) := by
    first | (dsimp only [mlook2_f]; done) | (dsimp only [mlook2_f]; exact rfl) | exact rfl
  exact rn_iret C Rt dX12_look_104 (pi_of hret) (Nat.zero_le _) (Nat.zero_le _)
def mlookY2_f (mo : Nat) (q : Int32) (S : StT) : Int32 × StT := (nI (0), (S.1, S.2.1, fs S.2.2 (mo) 0 (nI (2))))
theorem mlookY2_F (mo : Nat) (q : Int32) (S : StT) : (mlookY2_f mo q S).2.2.2 = fs S.2.2 (mo) 0 (nI (2)) := by
  unfold mlookY2_f; first | rfl | ((repeat' split) <;> rfl) | (dsimp only; (repeat' split) <;> rfl)
set_option maxRecDepth 100000 in
set_option maxHeartbeats 400000 in
theorem c_mlookY2 {k : KX} {L : Nat → Option Sh} {S : StT} {n : Nat} {mo : Nat} {q : Int32} (hM : ModelAt k L mo) (hbad : q < 0 ∨ ¬ q < nI 114) :
    Cs k yX12_look cX12_look 4 (some .int) 1 0 0 [.ref (k_b k + (mo)), .int (nI (2)), .int (q)] (inst k L S.1 S.2.1 S.2.2) n (Pi k L n (mlookY2_f mo q S)) := by
  refine cs_of (by decide) (Nat.le_of_ble_eq_true rfl) ?_
  intro X hXk C Rt hnm
  subst hXk
  have hM9 := hM
  obtain ⟨hM0, hm1, hm2, hm3, hm4, hm5, hm6, hm7, hm8, hm9, hm10, hm11, hm12, hm13, hm14, hm15, hm16, hm17, hm18, hm19, hm20, hm21, hm22, hm23, hm24, hm25, hm26, hm27⟩ := hM9
  refine rn_lv [(0, .ref (k_b X.1 + (mo))), (1, .int (nI (2))), (2, .int (q))] (fun q h => h) ?_
  refine rn_iload_n C dX12_look_0 rfl ?_
  refine rn_iconst (v := nI 3) C dX12_look_1 rfl ?_
  refine rn_icmp_ne (tgt := 12) C dX12_look_2 (by decide) (fun _ => ?_) (fun hb => absurd hb (show ¬ (nI (2)) = (nI (3)) from by decide))
  refine rn_iload_n C dX12_look_12 rfl ?_
  refine rs_si C dX12_look_13 mk_X12_sizeOf ls_X12_328 (cv_msizeOf (rg := 2) (v := 114) rfl) rfl rfl (by decide) (Nat.le_of_ble_eq_true rfl) (by decide) (by decide) ?_
  refine rn_istore_n (lv' := [(0, _), (1, _), (2, _), (3, _)]) C dX12_look_16 (by decide) rfl ?_
  refine rn_aload_n C dX12_look_17 rfl ?_
  refine rn_iload_n C dX12_look_18 rfl ?_
  refine rn_if_lt (tgt := 27) C dX12_look_19 (by decide) (fun hb => absurd hb (show ¬ (nI (2)) < 0 from by decide)) (fun hb => ?_)
  refine rn_iload_n C dX12_look_22 rfl ?_
  refine rn_iconst (v := nI 3) C dX12_look_23 rfl ?_
  refine rn_icmp_le (tgt := 31) C dX12_look_24 (by decide) (fun hb => ?_) (fun hb => absurd (show (nI (2)) ≤ (nI (3)) from by decide) hb)
  refine rn_iload_n C dX12_look_31 rfl ?_
  refine rn_if_lt (tgt := 40) C dX12_look_32 (by decide) (fun hb1 => ?_) (fun hb1 => ?_)
  · skip
    refine rn_iconst (v := nI 2) C dX12_look_40 rfl ?_
    refine rn_goto (tgt := 45) C dX12_look_41 (by decide) ?_
    refine rs_putF C dX12_look_45 fp_X12_7 hM0 rfl ?_
    refine rn_aload_n C dX12_look_48 rfl ?_
    refine rs_getFe C dX12_look_49 fl_X12_7 hM0 rfl fs_get ?_
    refine rn_if_eq (tgt := 57) C dX12_look_52 (by decide) (fun hb => absurd hb (show ¬ (nI (2)) = 0 from by decide)) (fun hb => ?_)
    refine rn_iconst (v := nI 0) C dX12_look_55 rfl ?_
    have hret : mlookY2_f mo q S = (nI (0), (S.1, S.2.1, fs S.2.2 (mo) 0 (nI (2)))) := by
      first | (dsimp only [mlookY2_f]; done) | (dsimp only [mlookY2_f]; exact rfl) | exact rfl
    exact rn_iret C Rt dX12_look_56 (pi_of hret) (Nat.zero_le _) (Nat.zero_le _)
  · skip
    refine rn_iload_n C dX12_look_35 rfl ?_
    refine rn_iload_n C dX12_look_36 rfl ?_
    refine rn_icmp_lt (tgt := 44) C dX12_look_37 (by decide) (fun hb2 => ?_) (fun hb2 => ?_)
    · skip
      exact absurd hbad (by rintro (h | h) <;> contradiction)
    · skip
      refine rn_iconst (v := nI 2) C dX12_look_40 rfl ?_
      refine rn_goto (tgt := 45) C dX12_look_41 (by decide) ?_
      refine rs_putF C dX12_look_45 fp_X12_7 hM0 rfl ?_
      refine rn_aload_n C dX12_look_48 rfl ?_
      refine rs_getFe C dX12_look_49 fl_X12_7 hM0 rfl fs_get ?_
      refine rn_if_eq (tgt := 57) C dX12_look_52 (by decide) (fun hb => absurd hb (show ¬ (nI (2)) = 0 from by decide)) (fun hb => ?_)
      refine rn_iconst (v := nI 0) C dX12_look_55 rfl ?_
      have hret : mlookY2_f mo q S = (nI (0), (S.1, S.2.1, fs S.2.2 (mo) 0 (nI (2)))) := by
        first | (dsimp only [mlookY2_f]; done) | (dsimp only [mlookY2_f]; exact rfl) | exact rfl
      exact rn_iret C Rt dX12_look_56 (pi_of hret) (Nat.zero_le _) (Nat.zero_le _)
def mlook3_f (mo : Nat) (q : Nat) (ou : Nat) (S : StT) : Int32 × StT := (S.1 (mo + 4) (q), (S.1, S.2.1, fs S.2.2 (mo) 0 (nI (0))))
theorem mlook3_F (mo : Nat) (q : Nat) (ou : Nat) (S : StT) : (mlook3_f mo q ou S).2.2.2 = fs S.2.2 (mo) 0 (nI (0)) := by
  unfold mlook3_f; first | rfl | ((repeat' split) <;> rfl) | (dsimp only; (repeat' split) <;> rfl)
set_option maxRecDepth 100000 in
set_option maxHeartbeats 400000 in
theorem c_mlook3 {k : KX} {L : Nat → Option Sh} {S : StT} {n : Nat} {mo : Nat} {q : Nat} {ou : Nat} (hM : ModelAt k L mo) (hou : S.2.2 mo 5 = nI ou) (hou1 : ou ≤ 114) (hq : q < ou) :
    Cs k yX12_look cX12_look 4 (some .int) 1 0 0 [.ref (k_b k + (mo)), .int (nI (3)), .int (nI (q))] (inst k L S.1 S.2.1 S.2.2) n (Pi k L n (mlook3_f mo q ou S)) := by
  refine cs_of (by decide) (Nat.le_of_ble_eq_true rfl) ?_
  intro X hXk C Rt hnm
  subst hXk
  have hM9 := hM
  obtain ⟨hM0, hm1, hm2, hm3, hm4, hm5, hm6, hm7, hm8, hm9, hm10, hm11, hm12, hm13, hm14, hm15, hm16, hm17, hm18, hm19, hm20, hm21, hm22, hm23, hm24, hm25, hm26, hm27⟩ := hM9
  refine rn_lv [(0, .ref (k_b X.1 + (mo))), (1, .int (nI (3))), (2, .int (nI (q)))] (fun q h => h) ?_
  refine rn_iload_n C dX12_look_0 rfl ?_
  refine rn_iconst (v := nI 3) C dX12_look_1 rfl ?_
  refine rn_icmp_ne (tgt := 12) C dX12_look_2 (by decide) (fun hb => absurd (show (nI (3)) = (nI (3)) from by decide) hb) (fun _ => ?_)
  refine rn_aload_n C dX12_look_5 rfl ?_
  refine rs_getFe C dX12_look_6 fl_X12_26 hM0 rfl hou ?_
  refine rn_goto (tgt := 16) C dX12_look_9 (by decide) ?_
  refine rn_istore_n (lv' := [(0, _), (1, _), (2, _), (3, _)]) C dX12_look_16 (by decide) rfl ?_
  refine rn_aload_n C dX12_look_17 rfl ?_
  refine rn_iload_n C dX12_look_18 rfl ?_
  refine rn_if_lt (tgt := 27) C dX12_look_19 (by decide) (fun hb => absurd hb (show ¬ (nI (3)) < 0 from by decide)) (fun hb => ?_)
  refine rn_iload_n C dX12_look_22 rfl ?_
  refine rn_iconst (v := nI 3) C dX12_look_23 rfl ?_
  refine rn_icmp_le (tgt := 31) C dX12_look_24 (by decide) (fun hb => ?_) (fun hb => absurd (show (nI (3)) ≤ (nI (3)) from by decide) hb)
  refine rn_iload_n C dX12_look_31 rfl ?_
  refine rn_if_lt (tgt := 40) C dX12_look_32 (by decide) (fun hb => absurd hb (nI_n0 (by omega))) (fun hb => ?_)
  refine rn_iload_n C dX12_look_35 rfl ?_
  refine rn_iload_n C dX12_look_36 rfl ?_
  refine rn_icmp_lt (tgt := 44) C dX12_look_37 (by decide) (fun hb => ?_) (fun hb => absurd ((nI_ltI (by omega) (by omega)).mpr (by omega)) hb)
  refine rn_iconst (v := nI 0) C dX12_look_44 rfl ?_
  refine rs_putF C dX12_look_45 fp_X12_7 hM0 rfl ?_
  refine rn_aload_n C dX12_look_48 rfl ?_
  refine rs_getFe C dX12_look_49 fl_X12_7 hM0 rfl fs_get ?_
  refine rn_if_eq (tgt := 57) C dX12_look_52 (by decide) (fun hb => ?_) (fun hb => absurd (show (nI (0)) = 0 from by decide) hb)
  refine rn_iload_n C dX12_look_57 rfl ?_
  refine rn_if_ne (tgt := 70) C dX12_look_58 (by decide) (fun _ => ?_) (fun hb => absurd hb (show ¬ (nI (3)) = 0 from by decide))
  refine rn_iload_n C dX12_look_70 rfl ?_
  refine rn_iconst (v := nI 1) C dX12_look_71 rfl ?_
  refine rn_icmp_ne (tgt := 84) C dX12_look_72 (by decide) (fun _ => ?_) (fun hb => absurd hb (show ¬ (nI (3)) = (nI (1)) from by decide))
  refine rn_iload_n C dX12_look_84 rfl ?_
  refine rn_iconst (v := nI 2) C dX12_look_85 rfl ?_
  refine rn_icmp_ne (tgt := 98) C dX12_look_86 (by decide) (fun _ => ?_) (fun hb => absurd hb (show ¬ (nI (3)) = (nI (2)) from by decide))
  refine rn_aload_n C dX12_look_98 rfl ?_
  refine rs_get C dX12_look_99 fl_X12_23 hM0 rfl ?_
  refine rn_iload_n C dX12_look_102 rfl ?_
  refine rs_iaload C dX12_look_103 hm4 rfl (by omega) (by decide) ?_
  have hret : mlook3_f mo q ou S = (S.1 (mo + 4) (q), (S.1, S.2.1, fs S.2.2 (mo) 0 (nI (0)))) := by
    first | (dsimp only [mlook3_f]; done) | (dsimp only [mlook3_f]; exact rfl) | exact rfl
  exact rn_iret C Rt dX12_look_104 (pi_of hret) (Nat.zero_le _) (Nat.zero_le _)
def mlookY3_f (mo : Nat) (ou : Nat) (q : Int32) (S : StT) : Int32 × StT := (nI (0), (S.1, S.2.1, fs S.2.2 (mo) 0 (nI (2))))
theorem mlookY3_F (mo : Nat) (ou : Nat) (q : Int32) (S : StT) : (mlookY3_f mo ou q S).2.2.2 = fs S.2.2 (mo) 0 (nI (2)) := by
  unfold mlookY3_f; first | rfl | ((repeat' split) <;> rfl) | (dsimp only; (repeat' split) <;> rfl)
set_option maxRecDepth 100000 in
set_option maxHeartbeats 400000 in
theorem c_mlookY3 {k : KX} {L : Nat → Option Sh} {S : StT} {n : Nat} {mo : Nat} {ou : Nat} {q : Int32} (hM : ModelAt k L mo) (hou : S.2.2 mo 5 = nI ou) (hou1 : ou ≤ 114) (hbad : q < 0 ∨ ¬ q < nI ou) :
    Cs k yX12_look cX12_look 4 (some .int) 1 0 0 [.ref (k_b k + (mo)), .int (nI (3)), .int (q)] (inst k L S.1 S.2.1 S.2.2) n (Pi k L n (mlookY3_f mo ou q S)) := by
  refine cs_of (by decide) (Nat.le_of_ble_eq_true rfl) ?_
  intro X hXk C Rt hnm
  subst hXk
  have hM9 := hM
  obtain ⟨hM0, hm1, hm2, hm3, hm4, hm5, hm6, hm7, hm8, hm9, hm10, hm11, hm12, hm13, hm14, hm15, hm16, hm17, hm18, hm19, hm20, hm21, hm22, hm23, hm24, hm25, hm26, hm27⟩ := hM9
  refine rn_lv [(0, .ref (k_b X.1 + (mo))), (1, .int (nI (3))), (2, .int (q))] (fun q h => h) ?_
  refine rn_iload_n C dX12_look_0 rfl ?_
  refine rn_iconst (v := nI 3) C dX12_look_1 rfl ?_
  refine rn_icmp_ne (tgt := 12) C dX12_look_2 (by decide) (fun hb => absurd (show (nI (3)) = (nI (3)) from by decide) hb) (fun _ => ?_)
  refine rn_aload_n C dX12_look_5 rfl ?_
  refine rs_getFe C dX12_look_6 fl_X12_26 hM0 rfl hou ?_
  refine rn_goto (tgt := 16) C dX12_look_9 (by decide) ?_
  refine rn_istore_n (lv' := [(0, _), (1, _), (2, _), (3, _)]) C dX12_look_16 (by decide) rfl ?_
  refine rn_aload_n C dX12_look_17 rfl ?_
  refine rn_iload_n C dX12_look_18 rfl ?_
  refine rn_if_lt (tgt := 27) C dX12_look_19 (by decide) (fun hb => absurd hb (show ¬ (nI (3)) < 0 from by decide)) (fun hb => ?_)
  refine rn_iload_n C dX12_look_22 rfl ?_
  refine rn_iconst (v := nI 3) C dX12_look_23 rfl ?_
  refine rn_icmp_le (tgt := 31) C dX12_look_24 (by decide) (fun hb => ?_) (fun hb => absurd (show (nI (3)) ≤ (nI (3)) from by decide) hb)
  refine rn_iload_n C dX12_look_31 rfl ?_
  refine rn_if_lt (tgt := 40) C dX12_look_32 (by decide) (fun hb1 => ?_) (fun hb1 => ?_)
  · skip
    refine rn_iconst (v := nI 2) C dX12_look_40 rfl ?_
    refine rn_goto (tgt := 45) C dX12_look_41 (by decide) ?_
    refine rs_putF C dX12_look_45 fp_X12_7 hM0 rfl ?_
    refine rn_aload_n C dX12_look_48 rfl ?_
    refine rs_getFe C dX12_look_49 fl_X12_7 hM0 rfl fs_get ?_
    refine rn_if_eq (tgt := 57) C dX12_look_52 (by decide) (fun hb => absurd hb (show ¬ (nI (2)) = 0 from by decide)) (fun hb => ?_)
    refine rn_iconst (v := nI 0) C dX12_look_55 rfl ?_
    have hret : mlookY3_f mo ou q S = (nI (0), (S.1, S.2.1, fs S.2.2 (mo) 0 (nI (2)))) := by
      first | (dsimp only [mlookY3_f]; done) | (dsimp only [mlookY3_f]; exact rfl) | exact rfl
    exact rn_iret C Rt dX12_look_56 (pi_of hret) (Nat.zero_le _) (Nat.zero_le _)
  · skip
    refine rn_iload_n C dX12_look_35 rfl ?_
    refine rn_iload_n C dX12_look_36 rfl ?_
    refine rn_icmp_lt (tgt := 44) C dX12_look_37 (by decide) (fun hb2 => ?_) (fun hb2 => ?_)
    · skip
      exact absurd hbad (by rintro (h | h) <;> contradiction)
    · skip
      refine rn_iconst (v := nI 2) C dX12_look_40 rfl ?_
      refine rn_goto (tgt := 45) C dX12_look_41 (by decide) ?_
      refine rs_putF C dX12_look_45 fp_X12_7 hM0 rfl ?_
      refine rn_aload_n C dX12_look_48 rfl ?_
      refine rs_getFe C dX12_look_49 fl_X12_7 hM0 rfl fs_get ?_
      refine rn_if_eq (tgt := 57) C dX12_look_52 (by decide) (fun hb => absurd hb (show ¬ (nI (2)) = 0 from by decide)) (fun hb => ?_)
      refine rn_iconst (v := nI 0) C dX12_look_55 rfl ?_
      have hret : mlookY3_f mo ou q S = (nI (0), (S.1, S.2.1, fs S.2.2 (mo) 0 (nI (2)))) := by
        first | (dsimp only [mlookY3_f]; done) | (dsimp only [mlookY3_f]; exact rfl) | exact rfl
      exact rn_iret C Rt dX12_look_56 (pi_of hret) (Nat.zero_le _) (Nat.zero_le _)
def mlookX_f (mo : Nat) (rg : Int32) (q : Int32) (S : StT) : Int32 × StT := (nI (0), (S.1, S.2.1, fs S.2.2 (mo) 0 (nI (1))))
theorem mlookX_F (mo : Nat) (rg : Int32) (q : Int32) (S : StT) : (mlookX_f mo rg q S).2.2.2 = fs S.2.2 (mo) 0 (nI (1)) := by
  unfold mlookX_f; first | rfl | ((repeat' split) <;> rfl) | (dsimp only; (repeat' split) <;> rfl)
set_option maxRecDepth 100000 in
set_option maxHeartbeats 400000 in
theorem c_mlookX {k : KX} {L : Nat → Option Sh} {S : StT} {n : Nat} {mo : Nat} {rg : Int32} {q : Int32} (hM : ModelAt k L mo) (hbad : rg < 0 ∨ ¬ rg ≤ nI 3) :
    Cs k yX12_look cX12_look 4 (some .int) 1 0 0 [.ref (k_b k + (mo)), .int (rg), .int (q)] (inst k L S.1 S.2.1 S.2.2) n (Pi k L n (mlookX_f mo rg q S)) := by
  refine cs_of (by decide) (Nat.le_of_ble_eq_true rfl) ?_
  intro X hXk C Rt hnm
  subst hXk
  have hM9 := hM
  obtain ⟨hM0, hm1, hm2, hm3, hm4, hm5, hm6, hm7, hm8, hm9, hm10, hm11, hm12, hm13, hm14, hm15, hm16, hm17, hm18, hm19, hm20, hm21, hm22, hm23, hm24, hm25, hm26, hm27⟩ := hM9
  refine rn_lv [(0, .ref (k_b X.1 + (mo))), (1, .int (rg)), (2, .int (q))] (fun q h => h) ?_
  refine rn_iload_n C dX12_look_0 rfl ?_
  refine rn_iconst (v := nI 3) C dX12_look_1 rfl ?_
  refine rn_icmp_ne (tgt := 12) C dX12_look_2 (by decide) (fun hb1 => ?_) (fun hb1 => ?_)
  · skip
    refine rn_iload_n C dX12_look_12 rfl ?_
    refine rs_si C dX12_look_13 mk_X12_sizeOf ls_X12_328 (cp_msizeOf ) rfl rfl (by decide) (Nat.le_of_ble_eq_true rfl) (by decide) (by decide) ?_
    refine rn_istore_n (lv' := [(0, _), (1, _), (2, _), (3, _)]) C dX12_look_16 (by decide) rfl ?_
    refine rn_aload_n C dX12_look_17 rfl ?_
    refine rn_iload_n C dX12_look_18 rfl ?_
    refine rn_if_lt (tgt := 27) C dX12_look_19 (by decide) (fun hb2 => ?_) (fun hb2 => ?_)
    · skip
      refine rn_iconst (v := nI 1) C dX12_look_27 rfl ?_
      refine rn_goto (tgt := 45) C dX12_look_28 (by decide) ?_
      refine rs_putF C dX12_look_45 fp_X12_7 hM0 rfl ?_
      refine rn_aload_n C dX12_look_48 rfl ?_
      refine rs_getFe C dX12_look_49 fl_X12_7 hM0 rfl fs_get ?_
      refine rn_if_eq (tgt := 57) C dX12_look_52 (by decide) (fun hb => absurd hb (show ¬ (nI (1)) = 0 from by decide)) (fun hb => ?_)
      refine rn_iconst (v := nI 0) C dX12_look_55 rfl ?_
      have hret : mlookX_f mo rg q S = (nI (0), (S.1, S.2.1, fs S.2.2 (mo) 0 (nI (1)))) := by
        first | (dsimp only [mlookX_f]; done) | (dsimp only [mlookX_f]; exact rfl) | exact rfl
      exact rn_iret C Rt dX12_look_56 (pi_of hret) (Nat.zero_le _) (Nat.zero_le _)
    · skip
      refine rn_iload_n C dX12_look_22 rfl ?_
      refine rn_iconst (v := nI 3) C dX12_look_23 rfl ?_
      refine rn_icmp_le (tgt := 31) C dX12_look_24 (by decide) (fun hb3 => ?_) (fun hb3 => ?_)
      · skip
        exact absurd hbad (by rintro (h | h) <;> contradiction)
      · skip
        refine rn_iconst (v := nI 1) C dX12_look_27 rfl ?_
        refine rn_goto (tgt := 45) C dX12_look_28 (by decide) ?_
        refine rs_putF C dX12_look_45 fp_X12_7 hM0 rfl ?_
        refine rn_aload_n C dX12_look_48 rfl ?_
        refine rs_getFe C dX12_look_49 fl_X12_7 hM0 rfl fs_get ?_
        refine rn_if_eq (tgt := 57) C dX12_look_52 (by decide) (fun hb => absurd hb (show ¬ (nI (1)) = 0 from by decide)) (fun hb => ?_)
        refine rn_iconst (v := nI 0) C dX12_look_55 rfl ?_
        have hret : mlookX_f mo rg q S = (nI (0), (S.1, S.2.1, fs S.2.2 (mo) 0 (nI (1)))) := by
          first | (dsimp only [mlookX_f]; done) | (dsimp only [mlookX_f]; exact rfl) | exact rfl
        exact rn_iret C Rt dX12_look_56 (pi_of hret) (Nat.zero_le _) (Nat.zero_le _)
  · skip
    refine rn_aload_n C dX12_look_5 rfl ?_
    refine rs_getFe C dX12_look_6 fl_X12_26 hM0 rfl rfl ?_
    refine rn_goto (tgt := 16) C dX12_look_9 (by decide) ?_
    refine rn_istore_n (lv' := [(0, _), (1, _), (2, _), (3, _)]) C dX12_look_16 (by decide) rfl ?_
    refine rn_aload_n C dX12_look_17 rfl ?_
    refine rn_iload_n C dX12_look_18 rfl ?_
    refine rn_if_lt (tgt := 27) C dX12_look_19 (by decide) (fun hb4 => ?_) (fun hb4 => ?_)
    · skip
      refine rn_iconst (v := nI 1) C dX12_look_27 rfl ?_
      refine rn_goto (tgt := 45) C dX12_look_28 (by decide) ?_
      refine rs_putF C dX12_look_45 fp_X12_7 hM0 rfl ?_
      refine rn_aload_n C dX12_look_48 rfl ?_
      refine rs_getFe C dX12_look_49 fl_X12_7 hM0 rfl fs_get ?_
      refine rn_if_eq (tgt := 57) C dX12_look_52 (by decide) (fun hb => absurd hb (show ¬ (nI (1)) = 0 from by decide)) (fun hb => ?_)
      refine rn_iconst (v := nI 0) C dX12_look_55 rfl ?_
      have hret : mlookX_f mo rg q S = (nI (0), (S.1, S.2.1, fs S.2.2 (mo) 0 (nI (1)))) := by
        first | (dsimp only [mlookX_f]; done) | (dsimp only [mlookX_f]; exact rfl) | exact rfl
      exact rn_iret C Rt dX12_look_56 (pi_of hret) (Nat.zero_le _) (Nat.zero_le _)
    · skip
      refine rn_iload_n C dX12_look_22 rfl ?_
      refine rn_iconst (v := nI 3) C dX12_look_23 rfl ?_
      refine rn_icmp_le (tgt := 31) C dX12_look_24 (by decide) (fun hb5 => ?_) (fun hb5 => ?_)
      · skip
        exact absurd hbad (by rintro (h | h) <;> contradiction)
      · skip
        refine rn_iconst (v := nI 1) C dX12_look_27 rfl ?_
        refine rn_goto (tgt := 45) C dX12_look_28 (by decide) ?_
        refine rs_putF C dX12_look_45 fp_X12_7 hM0 rfl ?_
        refine rn_aload_n C dX12_look_48 rfl ?_
        refine rs_getFe C dX12_look_49 fl_X12_7 hM0 rfl fs_get ?_
        refine rn_if_eq (tgt := 57) C dX12_look_52 (by decide) (fun hb => absurd hb (show ¬ (nI (1)) = 0 from by decide)) (fun hb => ?_)
        refine rn_iconst (v := nI 0) C dX12_look_55 rfl ?_
        have hret : mlookX_f mo rg q S = (nI (0), (S.1, S.2.1, fs S.2.2 (mo) 0 (nI (1)))) := by
          first | (dsimp only [mlookX_f]; done) | (dsimp only [mlookX_f]; exact rfl) | exact rfl
        exact rn_iret C Rt dX12_look_56 (pi_of hret) (Nat.zero_le _) (Nat.zero_le _)
def mhash1_l81 (mo : Nat) (S : StT)  : Nat → (Nat → Nat → Int32)
  | 0 => S.1
  | i81 + 1 => let y81_0 := (mhash1_l81 mo S i81); va_up y81_0 (mo + 4) (upd (y81_0 (mo + 4)) (i81) (y81_0 (mo + 12) (i81)))
def mhash1_f (mo : Nat) (mg : Nat) (nn : Nat) (S : StT) : StT := (let S1 := minB_f (mo) (mo + 5) (0) (mg) (0) (S.1, S.2.1, fs (fs S.2.2 (mo) 0 (nI (0))) (mo) 17 (nI (0))); (let S2 := mshake_f (mo) (nn) (0 + mg) (S1.1, S1.2.1, fs (fs S.2.2 (mo) 0 (nI (0))) (mo) 17 (nI (0 + mg))); ((mhash1_l81 mo (S2.1, S2.2.1, S.2.2) nn), S2.2.1, fs (fs (fs S.2.2 (mo) 0 (nI (0))) (mo) 17 (nI (0 + mg + 1 + skN (0 + mg)))) (mo) 5 (nI (nn)))))
theorem mhash1_F (mo : Nat) (mg : Nat) (nn : Nat) (S : StT) : (mhash1_f mo mg nn S).2.2 = fs (fs (fs S.2.2 (mo) 0 (nI (0))) (mo) 17 (nI (0 + mg + 1 + skN (0 + mg)))) (mo) 5 (nI (nn)) := by
  unfold mhash1_f; first | rfl | ((repeat' split) <;> rfl) | (dsimp only; (repeat' split) <;> rfl)
set_option maxRecDepth 100000 in
set_option maxHeartbeats 400000 in
theorem c_mhash1 {k : KX} {L : Nat → Option Sh} {S : StT} {n : Nat} {mo : Nat} {mg : Nat} {nn : Nat} (hM : ModelAt k L mo) (hmg : S.2.2 mo 7 = nI mg) (hmg1 : mg ≤ 256) (hn : nn ≤ 114) :
    Cs k yX12_hash cX12_hash 4 none 3 0 0 [.ref (k_b k + (mo)), .int (nI (1)), .int (nI (nn))] (inst k L S.1 S.2.1 S.2.2) n (Pv k L n (mhash1_f mo mg nn S)) := by
  refine cs_of (by decide) (Nat.le_of_ble_eq_true rfl) ?_
  intro X hXk C Rt hnm
  subst hXk
  have hM9 := hM
  obtain ⟨hM0, hm1, hm2, hm3, hm4, hm5, hm6, hm7, hm8, hm9, hm10, hm11, hm12, hm13, hm14, hm15, hm16, hm17, hm18, hm19, hm20, hm21, hm22, hm23, hm24, hm25, hm26, hm27⟩ := hM9
  refine rn_lv [(0, .ref (k_b X.1 + (mo))), (1, .int (nI (1))), (2, .int (nI (nn)))] (fun q h => h) ?_
  refine rn_aload_n C dX12_hash_0 rfl ?_
  refine rn_iload_n C dX12_hash_1 rfl ?_
  refine rn_if_eq (tgt := 19) C dX12_hash_2 (by decide) (fun hb => absurd hb (show ¬ (nI (1)) = 0 from by decide)) (fun hb => ?_)
  refine rn_iload_n C dX12_hash_5 rfl ?_
  refine rn_if_lt (tgt := 15) C dX12_hash_6 (by decide) (fun hb => absurd hb (nI_n0 (by omega))) (fun hb => ?_)
  refine rn_iload_n C dX12_hash_9 rfl ?_
  refine rn_bipush (v := nI 114) C dX12_hash_10 rfl ?_
  refine rn_icmp_le (tgt := 19) C dX12_hash_12 (by decide) (fun hb => ?_) (fun hb => absurd ((nI_leI (by omega) (by omega)).mpr (by omega)) hb)
  refine rn_iconst (v := nI 0) C dX12_hash_19 rfl ?_
  refine rs_putF C dX12_hash_20 fp_X12_7 hM0 rfl ?_
  refine rn_aload_n C dX12_hash_23 rfl ?_
  refine rs_getFe C dX12_hash_24 fl_X12_7 hM0 rfl fs_get ?_
  refine rn_if_eq (tgt := 31) C dX12_hash_27 (by decide) (fun hb => ?_) (fun hb => absurd (show (nI (0)) = 0 from by decide) hb)
  refine rn_aload_n C dX12_hash_31 rfl ?_
  refine rn_iconst (v := nI 0) C dX12_hash_32 rfl ?_
  refine rs_putF C dX12_hash_33 fp_X12_63 hM0 rfl ?_
  refine rn_aload_n C dX12_hash_36 rfl ?_
  refine rn_aload_n C dX12_hash_37 rfl ?_
  refine rs_get C dX12_hash_38 fl_X12_29 hM0 rfl ?_
  refine rn_iconst (v := nI 0) C dX12_hash_41 rfl ?_
  refine rn_aload_n C dX12_hash_42 rfl ?_
  refine rs_getFe C dX12_hash_43 fl_X12_32 hM0 rfl ((fs_oth (by decide)).trans ((fs_oth (by decide)).trans hmg)) ?_
  refine rs_vv C dX12_hash_46 mk_X12_inBytes lv_X12_279 (c_minB (S := (S.1, S.2.1, fs (fs S.2.2 (mo) 0 (nI (0))) (mo) 17 (nI (0)))) hM hm5 (by decide) (by omega) fs_get (by omega)) hM0 rfl rfl rfl rfl (by decide) (Nat.le_of_ble_eq_true rfl) (by decide) (by decide) ?_
  rw [show (minB_f (mo) (mo + 5) (0) (mg) (0) (S.1, S.2.1, fs (fs S.2.2 (mo) 0 (nI (0))) (mo) 17 (nI (0)))).2.2 = fs (fs S.2.2 (mo) 0 (nI (0))) (mo) 17 (nI (0 + mg)) from (minB_F (mo) (mo + 5) (0) (mg) (0) (S.1, S.2.1, fs (fs S.2.2 (mo) 0 (nI (0))) (mo) 17 (nI (0)))).trans fs_fs]
  generalize hS1 : minB_f (mo) (mo + 5) (0) (mg) (0) (S.1, S.2.1, fs (fs S.2.2 (mo) 0 (nI (0))) (mo) 17 (nI (0))) = S1
  refine rn_iload_n C dX12_hash_49 rfl ?_
  refine rn_if_eq (tgt := 61) C dX12_hash_50 (by decide) (fun hb => absurd hb (show ¬ (nI (1)) = 0 from by decide)) (fun hb => ?_)
  refine rn_aload_n C dX12_hash_53 rfl ?_
  refine rn_iload_n C dX12_hash_54 rfl ?_
  refine rs_vv C dX12_hash_55 mk_X12_shake lv_X12_286 (c_mshake (S := (S1.1, S1.2.1, fs (fs S.2.2 (mo) 0 (nI (0))) (mo) 17 (nI (0 + mg)))) hM (by omega) fs_get (by omega)) hM0 rfl rfl rfl rfl (by decide) (Nat.le_of_ble_eq_true rfl) (by decide) (by decide) ?_
  rw [show (mshake_f (mo) (nn) (0 + mg) (S1.1, S1.2.1, fs (fs S.2.2 (mo) 0 (nI (0))) (mo) 17 (nI (0 + mg)))).2.2 = fs (fs S.2.2 (mo) 0 (nI (0))) (mo) 17 (nI (0 + mg + 1 + skN (0 + mg))) from (mshake_F (mo) (nn) (0 + mg) (S1.1, S1.2.1, fs (fs S.2.2 (mo) 0 (nI (0))) (mo) 17 (nI (0 + mg)))).trans fs_fs]
  generalize hS2 : mshake_f (mo) (nn) (0 + mg) (S1.1, S1.2.1, fs (fs S.2.2 (mo) 0 (nI (0))) (mo) 17 (nI (0 + mg))) = S2
  refine rn_goto (tgt := 65) C dX12_hash_58 (by decide) ?_
  refine rn_aload_n C dX12_hash_65 rfl ?_
  refine rn_iload_n C dX12_hash_66 rfl ?_
  refine rn_if_eq (tgt := 74) C dX12_hash_67 (by decide) (fun hb => absurd hb (show ¬ (nI (1)) = 0 from by decide)) (fun hb => ?_)
  refine rn_iload_n C dX12_hash_70 rfl ?_
  refine rn_goto (tgt := 76) C dX12_hash_71 (by decide) ?_
  refine rs_putF C dX12_hash_76 fp_X12_26 hM0 rfl ?_
  refine rn_iconst (v := nI 0) C dX12_hash_79 rfl ?_
  refine rn_istore_n (lv' := [(0, _), (1, _), (2, _), (3, _)]) C dX12_hash_80 (by decide) rfl ?_
  have lp81 : ∀ i81, i81 ≤ nn → Rn X 81 [(0, .ref (k_b X.1 + (mo))), (1, .int (nI (1))), (2, .int (nI (nn))), (3, .int (nI (i81)))] [] (inst X.1 L (mhash1_l81 mo (S2.1, S2.2.1, S.2.2) i81) S2.2.1 (fs (fs (fs S.2.2 (mo) 0 (nI (0))) (mo) 17 (nI (0 + mg + 1 + skN (0 + mg)))) (mo) 5 (nI (nn)))) n 0 0 := by
    refine upto _ _ ?_ (fun i81 hi81 ih81 => ?_)
    · skip
      refine rn_iload_n C dX12_hash_81 rfl ?_
      refine rn_aload_n C dX12_hash_82 rfl ?_
      refine rs_getFe C dX12_hash_83 fl_X12_26 hM0 rfl fs_get ?_
      refine rs_ge (tgt := 107) C dX12_hash_86 (by decide) rfl rfl (by omega) (by omega) (fun _ => ?_) (fun q => absurd q (by omega))
      have hret : mhash1_f mo mg nn S = ((mhash1_l81 mo (S2.1, S2.2.1, S.2.2) nn), S2.2.1, fs (fs (fs S.2.2 (mo) 0 (nI (0))) (mo) 17 (nI (0 + mg + 1 + skN (0 + mg)))) (mo) 5 (nI (nn))) := by
        subst hS2
        subst hS1
        first | (dsimp only [mhash1_f]; done) | (dsimp only [mhash1_f]; exact rfl) | exact rfl
      exact rn_vret C Rt dX12_hash_107 (pv_of hret) (Nat.zero_le _) (Nat.zero_le _)
    · skip
      refine rn_iload_n C dX12_hash_81 rfl ?_
      refine rn_aload_n C dX12_hash_82 rfl ?_
      refine rs_getFe C dX12_hash_83 fl_X12_26 hM0 rfl fs_get ?_
      refine rs_ge (tgt := 107) C dX12_hash_86 (by decide) rfl rfl (by omega) (by omega) (fun q => absurd q (by omega)) (fun _ => ?_)
      refine rn_aload_n C dX12_hash_89 rfl ?_
      refine rs_get C dX12_hash_90 fl_X12_23 hM0 rfl ?_
      refine rn_iload_n C dX12_hash_93 rfl ?_
      refine rn_aload_n C dX12_hash_94 rfl ?_
      refine rs_get C dX12_hash_95 fl_X12_66 hM0 rfl ?_
      refine rn_iload_n C dX12_hash_98 rfl ?_
      refine rs_iaload C dX12_hash_99 hm12 rfl (by omega) (by decide) ?_
      refine rs_iastore C dX12_hash_100 hm4 rfl (by omega) (by decide) ?_
      refine rn_iinc (lv' := [(0, _), (1, _), (2, _), (3, _)]) C dX12_hash_101 rfl (nI_inc _) (by decide) rfl ?_
      refine rn_goto (tgt := 81) C dX12_hash_104 (by decide) ?_
      have he81 : mhash1_l81 mo (S2.1, S2.2.1, S.2.2) (i81 + 1) = va_up (mhash1_l81 mo (S2.1, S2.2.1, S.2.2) i81) (mo + 4) (upd ((mhash1_l81 mo (S2.1, S2.2.1, S.2.2) i81) (mo + 4)) (i81) ((mhash1_l81 mo (S2.1, S2.2.1, S.2.2) i81) (mo + 12) (i81))) := by
        first | (dsimp only [mhash1_l81]; done) | (dsimp only [mhash1_l81]; exact rfl) | exact rfl
      rw [he81] at ih81
      exact rn_ks [0, 1, 2, 3] ih81 rfl
  exact lp81 0 (Nat.zero_le _)
def mhash0_l81 (mo : Nat) (S : StT)  : Nat → (Nat → Nat → Int32)
  | 0 => S.1
  | i81 + 1 => let y81_0 := (mhash0_l81 mo S i81); va_up y81_0 (mo + 4) (upd (y81_0 (mo + 4)) (i81) (y81_0 (mo + 12) (i81)))
def mhash0_f (mo : Nat) (mg : Nat) (n_ : Int32) (S : StT) : StT := (let S1 := minB_f (mo) (mo + 5) (0) (mg) (0) (S.1, S.2.1, fs (fs S.2.2 (mo) 0 (nI (0))) (mo) 17 (nI (0))); (let S2 := msha_f (mo) (0 + mg) (S1.1, S1.2.1, fs (fs S.2.2 (mo) 0 (nI (0))) (mo) 17 (nI (0 + mg))); ((mhash0_l81 mo (S2.1, S2.2.1, S.2.2) 64), S2.2.1, fs (fs (fs S.2.2 (mo) 0 (nI (0))) (mo) 17 (nI (0 + mg + 1 + shN (0 + mg) + 16))) (mo) 5 (nI (64)))))
theorem mhash0_F (mo : Nat) (mg : Nat) (n_ : Int32) (S : StT) : (mhash0_f mo mg n_ S).2.2 = fs (fs (fs S.2.2 (mo) 0 (nI (0))) (mo) 17 (nI (0 + mg + 1 + shN (0 + mg) + 16))) (mo) 5 (nI (64)) := by
  unfold mhash0_f; first | rfl | ((repeat' split) <;> rfl) | (dsimp only; (repeat' split) <;> rfl)
set_option maxRecDepth 100000 in
set_option maxHeartbeats 400000 in
theorem c_mhash0 {k : KX} {L : Nat → Option Sh} {S : StT} {n : Nat} {mo : Nat} {mg : Nat} {n_ : Int32} (hM : ModelAt k L mo) (hmg : S.2.2 mo 7 = nI mg) (hmg1 : mg ≤ 256) :
    Cs k yX12_hash cX12_hash 4 none 3 0 0 [.ref (k_b k + (mo)), .int (nI (0)), .int (n_)] (inst k L S.1 S.2.1 S.2.2) n (Pv k L n (mhash0_f mo mg n_ S)) := by
  refine cs_of (by decide) (Nat.le_of_ble_eq_true rfl) ?_
  intro X hXk C Rt hnm
  subst hXk
  have hM9 := hM
  obtain ⟨hM0, hm1, hm2, hm3, hm4, hm5, hm6, hm7, hm8, hm9, hm10, hm11, hm12, hm13, hm14, hm15, hm16, hm17, hm18, hm19, hm20, hm21, hm22, hm23, hm24, hm25, hm26, hm27⟩ := hM9
  refine rn_lv [(0, .ref (k_b X.1 + (mo))), (1, .int (nI (0))), (2, .int (n_))] (fun q h => h) ?_
  refine rn_aload_n C dX12_hash_0 rfl ?_
  refine rn_iload_n C dX12_hash_1 rfl ?_
  refine rn_if_eq (tgt := 19) C dX12_hash_2 (by decide) (fun hb => ?_) (fun hb => absurd (show (nI (0)) = 0 from by decide) hb)
  refine rn_iconst (v := nI 0) C dX12_hash_19 rfl ?_
  refine rs_putF C dX12_hash_20 fp_X12_7 hM0 rfl ?_
  refine rn_aload_n C dX12_hash_23 rfl ?_
  refine rs_getFe C dX12_hash_24 fl_X12_7 hM0 rfl fs_get ?_
  refine rn_if_eq (tgt := 31) C dX12_hash_27 (by decide) (fun hb => ?_) (fun hb => absurd (show (nI (0)) = 0 from by decide) hb)
  refine rn_aload_n C dX12_hash_31 rfl ?_
  refine rn_iconst (v := nI 0) C dX12_hash_32 rfl ?_
  refine rs_putF C dX12_hash_33 fp_X12_63 hM0 rfl ?_
  refine rn_aload_n C dX12_hash_36 rfl ?_
  refine rn_aload_n C dX12_hash_37 rfl ?_
  refine rs_get C dX12_hash_38 fl_X12_29 hM0 rfl ?_
  refine rn_iconst (v := nI 0) C dX12_hash_41 rfl ?_
  refine rn_aload_n C dX12_hash_42 rfl ?_
  refine rs_getFe C dX12_hash_43 fl_X12_32 hM0 rfl ((fs_oth (by decide)).trans ((fs_oth (by decide)).trans hmg)) ?_
  refine rs_vv C dX12_hash_46 mk_X12_inBytes lv_X12_279 (c_minB (S := (S.1, S.2.1, fs (fs S.2.2 (mo) 0 (nI (0))) (mo) 17 (nI (0)))) hM hm5 (by decide) (by omega) fs_get (by omega)) hM0 rfl rfl rfl rfl (by decide) (Nat.le_of_ble_eq_true rfl) (by decide) (by decide) ?_
  rw [show (minB_f (mo) (mo + 5) (0) (mg) (0) (S.1, S.2.1, fs (fs S.2.2 (mo) 0 (nI (0))) (mo) 17 (nI (0)))).2.2 = fs (fs S.2.2 (mo) 0 (nI (0))) (mo) 17 (nI (0 + mg)) from (minB_F (mo) (mo + 5) (0) (mg) (0) (S.1, S.2.1, fs (fs S.2.2 (mo) 0 (nI (0))) (mo) 17 (nI (0)))).trans fs_fs]
  generalize hS1 : minB_f (mo) (mo + 5) (0) (mg) (0) (S.1, S.2.1, fs (fs S.2.2 (mo) 0 (nI (0))) (mo) 17 (nI (0))) = S1
  refine rn_iload_n C dX12_hash_49 rfl ?_
  refine rn_if_eq (tgt := 61) C dX12_hash_50 (by decide) (fun hb => ?_) (fun hb => absurd (show (nI (0)) = 0 from by decide) hb)
  refine rn_aload_n C dX12_hash_61 rfl ?_
  refine rs_vv C dX12_hash_62 mk_X12_sha512 lv_X12_283 (c_msha (S := (S1.1, S1.2.1, fs (fs S.2.2 (mo) 0 (nI (0))) (mo) 17 (nI (0 + mg)))) hM fs_get (by omega)) hM0 rfl rfl rfl rfl (by decide) (Nat.le_of_ble_eq_true rfl) (by decide) (by decide) ?_
  rw [show (msha_f (mo) (0 + mg) (S1.1, S1.2.1, fs (fs S.2.2 (mo) 0 (nI (0))) (mo) 17 (nI (0 + mg)))).2.2 = fs (fs S.2.2 (mo) 0 (nI (0))) (mo) 17 (nI (0 + mg + 1 + shN (0 + mg) + 16)) from (msha_F (mo) (0 + mg) (S1.1, S1.2.1, fs (fs S.2.2 (mo) 0 (nI (0))) (mo) 17 (nI (0 + mg)))).trans fs_fs]
  generalize hS2 : msha_f (mo) (0 + mg) (S1.1, S1.2.1, fs (fs S.2.2 (mo) 0 (nI (0))) (mo) 17 (nI (0 + mg))) = S2
  refine rn_aload_n C dX12_hash_65 rfl ?_
  refine rn_iload_n C dX12_hash_66 rfl ?_
  refine rn_if_eq (tgt := 74) C dX12_hash_67 (by decide) (fun hb => ?_) (fun hb => absurd (show (nI (0)) = 0 from by decide) hb)
  refine rn_bipush (v := nI 64) C dX12_hash_74 rfl ?_
  refine rs_putF C dX12_hash_76 fp_X12_26 hM0 rfl ?_
  refine rn_iconst (v := nI 0) C dX12_hash_79 rfl ?_
  refine rn_istore_n (lv' := [(0, _), (1, _), (2, _), (3, _)]) C dX12_hash_80 (by decide) rfl ?_
  have lp81 : ∀ i81, i81 ≤ 64 → Rn X 81 [(0, .ref (k_b X.1 + (mo))), (1, .int (nI (0))), (2, .int (n_)), (3, .int (nI (i81)))] [] (inst X.1 L (mhash0_l81 mo (S2.1, S2.2.1, S.2.2) i81) S2.2.1 (fs (fs (fs S.2.2 (mo) 0 (nI (0))) (mo) 17 (nI (0 + mg + 1 + shN (0 + mg) + 16))) (mo) 5 (nI (64)))) n 0 0 := by
    refine upto _ _ ?_ (fun i81 hi81 ih81 => ?_)
    · skip
      refine rn_iload_n C dX12_hash_81 rfl ?_
      refine rn_aload_n C dX12_hash_82 rfl ?_
      refine rs_getFe C dX12_hash_83 fl_X12_26 hM0 rfl fs_get ?_
      refine rs_ge (tgt := 107) C dX12_hash_86 (by decide) rfl rfl (by omega) (by omega) (fun _ => ?_) (fun q => absurd q (by omega))
      have hret : mhash0_f mo mg n_ S = ((mhash0_l81 mo (S2.1, S2.2.1, S.2.2) 64), S2.2.1, fs (fs (fs S.2.2 (mo) 0 (nI (0))) (mo) 17 (nI (0 + mg + 1 + shN (0 + mg) + 16))) (mo) 5 (nI (64))) := by
        subst hS2
        subst hS1
        first | (dsimp only [mhash0_f]; done) | (dsimp only [mhash0_f]; exact rfl) | exact rfl
      exact rn_vret C Rt dX12_hash_107 (pv_of hret) (Nat.zero_le _) (Nat.zero_le _)
    · skip
      refine rn_iload_n C dX12_hash_81 rfl ?_
      refine rn_aload_n C dX12_hash_82 rfl ?_
      refine rs_getFe C dX12_hash_83 fl_X12_26 hM0 rfl fs_get ?_
      refine rs_ge (tgt := 107) C dX12_hash_86 (by decide) rfl rfl (by omega) (by omega) (fun q => absurd q (by omega)) (fun _ => ?_)
      refine rn_aload_n C dX12_hash_89 rfl ?_
      refine rs_get C dX12_hash_90 fl_X12_23 hM0 rfl ?_
      refine rn_iload_n C dX12_hash_93 rfl ?_
      refine rn_aload_n C dX12_hash_94 rfl ?_
      refine rs_get C dX12_hash_95 fl_X12_66 hM0 rfl ?_
      refine rn_iload_n C dX12_hash_98 rfl ?_
      refine rs_iaload C dX12_hash_99 hm12 rfl (by omega) (by decide) ?_
      refine rs_iastore C dX12_hash_100 hm4 rfl (by omega) (by decide) ?_
      refine rn_iinc (lv' := [(0, _), (1, _), (2, _), (3, _)]) C dX12_hash_101 rfl (nI_inc _) (by decide) rfl ?_
      refine rn_goto (tgt := 81) C dX12_hash_104 (by decide) ?_
      have he81 : mhash0_l81 mo (S2.1, S2.2.1, S.2.2) (i81 + 1) = va_up (mhash0_l81 mo (S2.1, S2.2.1, S.2.2) i81) (mo + 4) (upd ((mhash0_l81 mo (S2.1, S2.2.1, S.2.2) i81) (mo + 4)) (i81) ((mhash0_l81 mo (S2.1, S2.2.1, S.2.2) i81) (mo + 12) (i81))) := by
        first | (dsimp only [mhash0_l81]; done) | (dsimp only [mhash0_l81]; exact rfl) | exact rfl
      rw [he81] at ih81
      exact rn_ks [0, 1, 2, 3] ih81 rfl
  exact lp81 0 (Nat.zero_le _)
def mhashX_f (mo : Nat) (n_ : Int32) (S : StT) : StT := (S.1, S.2.1, fs S.2.2 (mo) 0 (nI (1)))
theorem mhashX_F (mo : Nat) (n_ : Int32) (S : StT) : (mhashX_f mo n_ S).2.2 = fs S.2.2 (mo) 0 (nI (1)) := by
  unfold mhashX_f; first | rfl | ((repeat' split) <;> rfl) | (dsimp only; (repeat' split) <;> rfl)
set_option maxRecDepth 100000 in
set_option maxHeartbeats 400000 in
theorem c_mhashX {k : KX} {L : Nat → Option Sh} {S : StT} {n : Nat} {mo : Nat} {n_ : Int32} (hM : ModelAt k L mo) (hbad : n_ < 0 ∨ ¬ n_ ≤ nI 114) :
    Cs k yX12_hash cX12_hash 4 none 3 0 0 [.ref (k_b k + (mo)), .int (nI (1)), .int (n_)] (inst k L S.1 S.2.1 S.2.2) n (Pv k L n (mhashX_f mo n_ S)) := by
  refine cs_of (by decide) (Nat.le_of_ble_eq_true rfl) ?_
  intro X hXk C Rt hnm
  subst hXk
  have hM9 := hM
  obtain ⟨hM0, hm1, hm2, hm3, hm4, hm5, hm6, hm7, hm8, hm9, hm10, hm11, hm12, hm13, hm14, hm15, hm16, hm17, hm18, hm19, hm20, hm21, hm22, hm23, hm24, hm25, hm26, hm27⟩ := hM9
  refine rn_lv [(0, .ref (k_b X.1 + (mo))), (1, .int (nI (1))), (2, .int (n_))] (fun q h => h) ?_
  refine rn_aload_n C dX12_hash_0 rfl ?_
  refine rn_iload_n C dX12_hash_1 rfl ?_
  refine rn_if_eq (tgt := 19) C dX12_hash_2 (by decide) (fun hb => absurd hb (show ¬ (nI (1)) = 0 from by decide)) (fun hb => ?_)
  refine rn_iload_n C dX12_hash_5 rfl ?_
  refine rn_if_lt (tgt := 15) C dX12_hash_6 (by decide) (fun hb1 => ?_) (fun hb1 => ?_)
  · skip
    refine rn_iconst (v := nI 1) C dX12_hash_15 rfl ?_
    refine rn_goto (tgt := 20) C dX12_hash_16 (by decide) ?_
    refine rs_putF C dX12_hash_20 fp_X12_7 hM0 rfl ?_
    refine rn_aload_n C dX12_hash_23 rfl ?_
    refine rs_getFe C dX12_hash_24 fl_X12_7 hM0 rfl fs_get ?_
    refine rn_if_eq (tgt := 31) C dX12_hash_27 (by decide) (fun hb => absurd hb (show ¬ (nI (1)) = 0 from by decide)) (fun hb => ?_)
    have hret : mhashX_f mo n_ S = (S.1, S.2.1, fs S.2.2 (mo) 0 (nI (1))) := by
      first | (dsimp only [mhashX_f]; done) | (dsimp only [mhashX_f]; exact rfl) | exact rfl
    exact rn_vret C Rt dX12_hash_30 (pv_of hret) (Nat.zero_le _) (Nat.zero_le _)
  · skip
    refine rn_iload_n C dX12_hash_9 rfl ?_
    refine rn_bipush (v := nI 114) C dX12_hash_10 rfl ?_
    refine rn_icmp_le (tgt := 19) C dX12_hash_12 (by decide) (fun hb2 => ?_) (fun hb2 => ?_)
    · skip
      exact absurd hbad (by rintro (h | h) <;> contradiction)
    · skip
      refine rn_iconst (v := nI 1) C dX12_hash_15 rfl ?_
      refine rn_goto (tgt := 20) C dX12_hash_16 (by decide) ?_
      refine rs_putF C dX12_hash_20 fp_X12_7 hM0 rfl ?_
      refine rn_aload_n C dX12_hash_23 rfl ?_
      refine rs_getFe C dX12_hash_24 fl_X12_7 hM0 rfl fs_get ?_
      refine rn_if_eq (tgt := 31) C dX12_hash_27 (by decide) (fun hb => absurd hb (show ¬ (nI (1)) = 0 from by decide)) (fun hb => ?_)
      have hret : mhashX_f mo n_ S = (S.1, S.2.1, fs S.2.2 (mo) 0 (nI (1))) := by
        first | (dsimp only [mhashX_f]; done) | (dsimp only [mhashX_f]; exact rfl) | exact rfl
      exact rn_vret C Rt dX12_hash_30 (pv_of hret) (Nat.zero_le _) (Nat.zero_le _)
def mnoC_f (c : Bool) (mo : Nat) (S : StT) : Int32 × StT := (let S1 := mcho_f c (mo) (S.1, S.2.1, fs S.2.2 (mo) 0 (nI (0))); (nI (0), (S1.1, S1.2.1, fs (fs (fs S.2.2 (mo) 0 (nI (0))) (mo) 13 (nI (bN c))) (mo) 14 (nI (pN c)))))
theorem mnoC_F (c : Bool) (mo : Nat) (S : StT) : (mnoC_f c mo S).2.2.2 = fs (fs (fs S.2.2 (mo) 0 (nI (0))) (mo) 13 (nI (bN c))) (mo) 14 (nI (pN c)) := by
  unfold mnoC_f; first | rfl | ((repeat' split) <;> rfl) | (dsimp only; (repeat' split) <;> rfl)
set_option maxRecDepth 100000 in
set_option maxHeartbeats 400000 in
theorem c_mnoC {k : KX} {L : Nat → Option Sh} {S : StT} {n : Nat} {c : Bool} {mo : Nat} (hM : ModelAt k L mo) :
    Cs k yX12_noCurve cX12_noCurve 2 (some .boolean) 1 0 0 [.ref (k_b k + (mo)), .int (nI (bN c))] (inst k L S.1 S.2.1 S.2.2) n (Pi k L n (mnoC_f c mo S)) := by
  refine cs_of (by decide) (Nat.le_of_ble_eq_true rfl) ?_
  intro X hXk C Rt hnm
  subst hXk
  have hM9 := hM
  obtain ⟨hM0, hm1, hm2, hm3, hm4, hm5, hm6, hm7, hm8, hm9, hm10, hm11, hm12, hm13, hm14, hm15, hm16, hm17, hm18, hm19, hm20, hm21, hm22, hm23, hm24, hm25, hm26, hm27⟩ := hM9
  have hbn := bN_le c
  refine rn_lv [(0, .ref (k_b X.1 + (mo))), (1, .int (nI (bN c)))] (fun q h => h) ?_
  refine rn_aload_n C dX12_noCurve_0 rfl ?_
  refine rn_iload_n C dX12_noCurve_1 rfl ?_
  refine rn_if_lt (tgt := 10) C dX12_noCurve_2 (by decide) (fun hb => absurd hb (nI_n0 (by omega))) (fun hb => ?_)
  refine rn_iload_n C dX12_noCurve_5 rfl ?_
  refine rn_iconst (v := nI 1) C dX12_noCurve_6 rfl ?_
  refine rn_icmp_le (tgt := 14) C dX12_noCurve_7 (by decide) (fun hb => ?_) (fun hb => absurd ((nI_leI (by omega) (by omega)).mpr (by omega)) hb)
  refine rn_iconst (v := nI 0) C dX12_noCurve_14 rfl ?_
  refine rs_putF C dX12_noCurve_15 fp_X12_7 hM0 rfl ?_
  refine rn_aload_n C dX12_noCurve_18 rfl ?_
  refine rs_getFe C dX12_noCurve_19 fl_X12_7 hM0 rfl fs_get ?_
  refine rn_if_ne (tgt := 30) C dX12_noCurve_22 (by decide) (fun hb => absurd (show (nI (0)) = 0 from by decide) hb) (fun _ => ?_)
  refine rn_aload_n C dX12_noCurve_25 rfl ?_
  refine rn_iload_n C dX12_noCurve_26 rfl ?_
  refine rs_vv C dX12_noCurve_27 mk_X12_choose lv_X12_131 (c_mcho (S := (S.1, S.2.1, fs S.2.2 (mo) 0 (nI (0)))) hM) hM0 rfl rfl rfl rfl (by decide) (Nat.le_of_ble_eq_true rfl) (by decide) (by decide) ?_
  rw [show (mcho_f c (mo) (S.1, S.2.1, fs S.2.2 (mo) 0 (nI (0)))).2.2 = fs (fs (fs S.2.2 (mo) 0 (nI (0))) (mo) 13 (nI (bN c))) (mo) 14 (nI (pN c)) from (mcho_F c (mo) (S.1, S.2.1, fs S.2.2 (mo) 0 (nI (0))))]
  generalize hS1 : mcho_f c (mo) (S.1, S.2.1, fs S.2.2 (mo) 0 (nI (0))) = S1
  refine rn_aload_n C dX12_noCurve_30 rfl ?_
  refine rs_getFe C dX12_noCurve_31 fl_X12_7 hM0 rfl ((fs_oth (by decide)).trans ((fs_oth (by decide)).trans fs_get)) ?_
  refine rn_if_eq (tgt := 41) C dX12_noCurve_34 (by decide) (fun hb => ?_) (fun hb => absurd (show (nI (0)) = 0 from by decide) hb)
  refine rn_iconst (v := nI 0) C dX12_noCurve_41 rfl ?_
  have hret : mnoC_f c mo S = (nI (0), (S1.1, S1.2.1, fs (fs (fs S.2.2 (mo) 0 (nI (0))) (mo) 13 (nI (bN c))) (mo) 14 (nI (pN c)))) := by
    subst hS1
    first | (dsimp only [mnoC_f]; done) | (dsimp only [mnoC_f]; exact rfl) | exact rfl
  exact rn_zret C Rt dX12_noCurve_42 (by first | rfl | exact rfl) (pi_of hret) (Nat.zero_le _) (Nat.zero_le _)
def mnoCX_f (mo : Nat) (cv : Int32) (S : StT) : Int32 × StT := (nI (1), (S.1, S.2.1, fs S.2.2 (mo) 0 (nI (1))))
theorem mnoCX_F (mo : Nat) (cv : Int32) (S : StT) : (mnoCX_f mo cv S).2.2.2 = fs S.2.2 (mo) 0 (nI (1)) := by
  unfold mnoCX_f; first | rfl | ((repeat' split) <;> rfl) | (dsimp only; (repeat' split) <;> rfl)
set_option maxRecDepth 100000 in
set_option maxHeartbeats 400000 in
theorem c_mnoCX {k : KX} {L : Nat → Option Sh} {S : StT} {n : Nat} {mo : Nat} {cv : Int32} (hM : ModelAt k L mo) (hbad : cv < 0 ∨ ¬ cv ≤ nI 1) :
    Cs k yX12_noCurve cX12_noCurve 2 (some .boolean) 1 0 0 [.ref (k_b k + (mo)), .int (cv)] (inst k L S.1 S.2.1 S.2.2) n (Pi k L n (mnoCX_f mo cv S)) := by
  refine cs_of (by decide) (Nat.le_of_ble_eq_true rfl) ?_
  intro X hXk C Rt hnm
  subst hXk
  have hM9 := hM
  obtain ⟨hM0, hm1, hm2, hm3, hm4, hm5, hm6, hm7, hm8, hm9, hm10, hm11, hm12, hm13, hm14, hm15, hm16, hm17, hm18, hm19, hm20, hm21, hm22, hm23, hm24, hm25, hm26, hm27⟩ := hM9
  refine rn_lv [(0, .ref (k_b X.1 + (mo))), (1, .int (cv))] (fun q h => h) ?_
  refine rn_aload_n C dX12_noCurve_0 rfl ?_
  refine rn_iload_n C dX12_noCurve_1 rfl ?_
  refine rn_if_lt (tgt := 10) C dX12_noCurve_2 (by decide) (fun hb1 => ?_) (fun hb1 => ?_)
  · skip
    refine rn_iconst (v := nI 1) C dX12_noCurve_10 rfl ?_
    refine rn_goto (tgt := 15) C dX12_noCurve_11 (by decide) ?_
    refine rs_putF C dX12_noCurve_15 fp_X12_7 hM0 rfl ?_
    refine rn_aload_n C dX12_noCurve_18 rfl ?_
    refine rs_getFe C dX12_noCurve_19 fl_X12_7 hM0 rfl fs_get ?_
    refine rn_if_ne (tgt := 30) C dX12_noCurve_22 (by decide) (fun _ => ?_) (fun hb => absurd hb (show ¬ (nI (1)) = 0 from by decide))
    refine rn_aload_n C dX12_noCurve_30 rfl ?_
    refine rs_getFe C dX12_noCurve_31 fl_X12_7 hM0 rfl fs_get ?_
    refine rn_if_eq (tgt := 41) C dX12_noCurve_34 (by decide) (fun hb => absurd hb (show ¬ (nI (1)) = 0 from by decide)) (fun hb => ?_)
    refine rn_iconst (v := nI 1) C dX12_noCurve_37 rfl ?_
    refine rn_goto (tgt := 42) C dX12_noCurve_38 (by decide) ?_
    have hret : mnoCX_f mo cv S = (nI (1), (S.1, S.2.1, fs S.2.2 (mo) 0 (nI (1)))) := by
      first | (dsimp only [mnoCX_f]; done) | (dsimp only [mnoCX_f]; exact rfl) | exact rfl
    exact rn_zret C Rt dX12_noCurve_42 (by first | rfl | exact rfl) (pi_of hret) (Nat.zero_le _) (Nat.zero_le _)
  · skip
    refine rn_iload_n C dX12_noCurve_5 rfl ?_
    refine rn_iconst (v := nI 1) C dX12_noCurve_6 rfl ?_
    refine rn_icmp_le (tgt := 14) C dX12_noCurve_7 (by decide) (fun hb2 => ?_) (fun hb2 => ?_)
    · skip
      exact absurd hbad (by rintro (h | h) <;> contradiction)
    · skip
      refine rn_iconst (v := nI 1) C dX12_noCurve_10 rfl ?_
      refine rn_goto (tgt := 15) C dX12_noCurve_11 (by decide) ?_
      refine rs_putF C dX12_noCurve_15 fp_X12_7 hM0 rfl ?_
      refine rn_aload_n C dX12_noCurve_18 rfl ?_
      refine rs_getFe C dX12_noCurve_19 fl_X12_7 hM0 rfl fs_get ?_
      refine rn_if_ne (tgt := 30) C dX12_noCurve_22 (by decide) (fun _ => ?_) (fun hb => absurd hb (show ¬ (nI (1)) = 0 from by decide))
      refine rn_aload_n C dX12_noCurve_30 rfl ?_
      refine rs_getFe C dX12_noCurve_31 fl_X12_7 hM0 rfl fs_get ?_
      refine rn_if_eq (tgt := 41) C dX12_noCurve_34 (by decide) (fun hb => absurd hb (show ¬ (nI (1)) = 0 from by decide)) (fun hb => ?_)
      refine rn_iconst (v := nI 1) C dX12_noCurve_37 rfl ?_
      refine rn_goto (tgt := 42) C dX12_noCurve_38 (by decide) ?_
      have hret : mnoCX_f mo cv S = (nI (1), (S.1, S.2.1, fs S.2.2 (mo) 0 (nI (1)))) := by
        first | (dsimp only [mnoCX_f]; done) | (dsimp only [mnoCX_f]; exact rfl) | exact rfl
      exact rn_zret C Rt dX12_noCurve_42 (by first | rfl | exact rfl) (pi_of hret) (Nat.zero_le _) (Nat.zero_le _)
def magree_s17 (c : Bool) (mo : Nat) (S2 : StT) (S : StT) : Nat → Nat → Int32 × StT
  | 0, i17 => (nI (0), (S.1, S.2.1, fs (fs (fs (fs S.2.2 (mo) 0 (nI (0))) (mo) 13 (nI (bN c))) (mo) 14 (nI (pN c))) (mo) 5 (nI (fB c))))
  | f17 + 1, i17 => (if (S.1 (mo + 4) (i17)) = 0 then magree_s17 c mo S2 (S2.1, S2.2.1, S.2.2) f17 (i17 + 1) else (nI (1), (S.1, S.2.1, fs (fs (fs (fs S.2.2 (mo) 0 (nI (0))) (mo) 13 (nI (bN c))) (mo) 14 (nI (pN c))) (mo) 5 (nI (fB c)))))
def magree_f (c : Bool) (mo : Nat) (bs : Bool) (S : StT) : Int32 × StT := (let r1 := mnoC_f c (mo) S; (let S2 := mlad_f c (mo) bs (r1.2.1, r1.2.2.1, fs (fs (fs S.2.2 (mo) 0 (nI (0))) (mo) 13 (nI (bN c))) (mo) 14 (nI (pN c))); magree_s17 c mo S2 (S2.1, S2.2.1, S.2.2) (fB c) 0))
set_option maxRecDepth 100000 in
set_option maxHeartbeats 400000 in
theorem c_magree {k : KX} {L : Nat → Option Sh} {S : StT} {n : Nat} {c : Bool} {mo : Nat} {bs : Bool} (hM : ModelAt k L mo) :
    Cs k yX12_agree cX12_agree 4 (some .boolean) 6 0 0 [.ref (k_b k + (mo)), .int (nI (bN c)), .int (bI bs)] (inst k L S.1 S.2.1 S.2.2) n (Pi k L n (magree_f c mo bs S)) := by
  refine cs_of (by decide) (Nat.le_of_ble_eq_true rfl) ?_
  intro X hXk C Rt hnm
  subst hXk
  have hM9 := hM
  obtain ⟨hM0, hm1, hm2, hm3, hm4, hm5, hm6, hm7, hm8, hm9, hm10, hm11, hm12, hm13, hm14, hm15, hm16, hm17, hm18, hm19, hm20, hm21, hm22, hm23, hm24, hm25, hm26, hm27⟩ := hM9
  obtain ⟨hp1, hp2⟩ := pN_le c
  have hbn := bN_le c
  obtain ⟨hk1, hk2⟩ := cB_le c
  have hfb : 32 ≤ fB c ∧ fB c ≤ 56 := by cases c <;> decide
  obtain ⟨hf1, hf2⟩ := hfb
  refine rn_lv [(0, .ref (k_b X.1 + (mo))), (1, .int (nI (bN c))), (2, .int (bI bs))] (fun q h => h) ?_
  refine rn_aload_n C dX12_agree_0 rfl ?_
  refine rn_iload_n C dX12_agree_1 rfl ?_
  refine rs_vz C dX12_agree_2 mk_X12_noCurve lv_X12_334 (c_mnoC hM) hM0 rfl rfl rfl rfl (by decide) (Nat.le_of_ble_eq_true rfl) (by decide) (by decide) ?_
  rw [show (mnoC_f c (mo) S).2.2.2 = fs (fs (fs S.2.2 (mo) 0 (nI (0))) (mo) 13 (nI (bN c))) (mo) 14 (nI (pN c)) from (mnoC_F c (mo) S)]
  rw [show (mnoC_f c (mo) S).1 = nI (0) from rfl]
  generalize hr1 : mnoC_f c (mo) S = r1
  refine rn_if_eq (tgt := 10) C dX12_agree_5 (by decide) (fun hb => ?_) (fun hb => absurd (show (nI (0)) = 0 from by decide) hb)
  refine rn_aload_n C dX12_agree_10 rfl ?_
  refine rn_iload_n C dX12_agree_11 rfl ?_
  refine rs_vv C dX12_agree_12 mk_X12_ladder lv_X12_337 (c_mlad (S := (r1.2.1, r1.2.2.1, fs (fs (fs S.2.2 (mo) 0 (nI (0))) (mo) 13 (nI (bN c))) (mo) 14 (nI (pN c)))) hM ((fs_oth (by decide)).trans fs_get) fs_get) hM0 rfl rfl rfl rfl (by decide) (Nat.le_of_ble_eq_true rfl) (by decide) (by decide) ?_
  rw [show (mlad_f c (mo) bs (r1.2.1, r1.2.2.1, fs (fs (fs S.2.2 (mo) 0 (nI (0))) (mo) 13 (nI (bN c))) (mo) 14 (nI (pN c)))).2.2 = fs (fs (fs (fs S.2.2 (mo) 0 (nI (0))) (mo) 13 (nI (bN c))) (mo) 14 (nI (pN c))) (mo) 5 (nI (fB c)) from (mlad_F c (mo) bs (r1.2.1, r1.2.2.1, fs (fs (fs S.2.2 (mo) 0 (nI (0))) (mo) 13 (nI (bN c))) (mo) 14 (nI (pN c))))]
  generalize hS2 : mlad_f c (mo) bs (r1.2.1, r1.2.2.1, fs (fs (fs S.2.2 (mo) 0 (nI (0))) (mo) 13 (nI (bN c))) (mo) 14 (nI (pN c))) = S2
  refine rn_iconst (v := nI 0) C dX12_agree_15 rfl ?_
  refine rn_istore_n (lv' := [(0, _), (1, _), (2, _), (3, _)]) C dX12_agree_16 (by decide) rfl ?_
  have lp17 : ∀ i17, i17 ≤ (fB c) → (magree_s17 c mo S2 (S2.1, S2.2.1, S.2.2) (fB c) 0 = magree_s17 c mo S2 (S2.1, S2.2.1, S.2.2) ((fB c) - i17) i17) → Rn X 17 [(0, .ref (k_b X.1 + (mo))), (1, .int (nI (bN c))), (2, .int (bI bs)), (3, .int (nI (i17)))] [] (inst X.1 L S2.1 S2.2.1 (fs (fs (fs (fs S.2.2 (mo) 0 (nI (0))) (mo) 13 (nI (bN c))) (mo) 14 (nI (pN c))) (mo) 5 (nI (fB c)))) n 0 0 := by
    refine upto _ _ (fun he17 => ?_) (fun i17 hi17 ih17 he17 => ?_)
    · skip
      rw [Nat.sub_self] at he17
      refine rn_iload_n C dX12_agree_17 rfl ?_
      refine rn_aload_n C dX12_agree_18 rfl ?_
      refine rs_getFe C dX12_agree_19 fl_X12_26 hM0 rfl fs_get ?_
      refine rs_ge (tgt := 42) C dX12_agree_22 (by decide) rfl rfl (by omega) (by omega) (fun _ => ?_) (fun q => absurd q (by omega))
      refine rn_iconst (v := nI 0) C dX12_agree_42 rfl ?_
      subst hS2
      subst hr1
      exact rn_zret C Rt dX12_agree_43 (by first | rfl | exact rfl) (pi_of (he17)) (Nat.zero_le _) (Nat.zero_le _)
    · skip
      have hq17 : magree_s17 c mo S2 (S2.1, S2.2.1, S.2.2) (fB c) 0 = magree_s17 c mo S2 (S2.1, S2.2.1, S.2.2) ((fB c) - (i17 + 1) + 1) i17 := by rw [show (fB c) - (i17 + 1) + 1 = (fB c) - i17 from by omega]; exact he17
      refine rn_iload_n C dX12_agree_17 rfl ?_
      refine rn_aload_n C dX12_agree_18 rfl ?_
      refine rs_getFe C dX12_agree_19 fl_X12_26 hM0 rfl fs_get ?_
      refine rs_ge (tgt := 42) C dX12_agree_22 (by decide) rfl rfl (by omega) (by omega) (fun q => absurd q (by omega)) (fun _ => ?_)
      refine rn_aload_n C dX12_agree_25 rfl ?_
      refine rs_get C dX12_agree_26 fl_X12_23 hM0 rfl ?_
      refine rn_iload_n C dX12_agree_29 rfl ?_
      refine rs_iaload C dX12_agree_30 hm4 rfl (by omega) (by decide) ?_
      refine rn_if_eq (tgt := 36) C dX12_agree_31 (by decide) (fun hb3 => ?_) (fun hb3 => ?_)
      · skip
        refine rn_iinc (lv' := [(0, _), (1, _), (2, _), (3, _)]) C dX12_agree_36 rfl (nI_inc _) (by decide) rfl ?_
        refine rn_goto (tgt := 17) C dX12_agree_39 (by decide) ?_
        exact rn_ks [0, 1, 2, 3] (ih17 ((hq17).trans (if_pos hb3))) rfl
      · skip
        refine rn_iconst (v := nI 1) C dX12_agree_34 rfl ?_
        subst hS2
        subst hr1
        exact rn_zret C Rt dX12_agree_35 (by first | rfl | exact rfl) (pi_of ((hq17).trans (if_neg hb3))) (Nat.zero_le _) (Nat.zero_le _)
  exact lp17 0 (Nat.zero_le _) rfl
def mderive_l23 (mo : Nat) (S : StT)  : Nat → (Nat → Nat → Int32)
  | 0 => S.1
  | i23 + 1 => let y23_0 := (mderive_l23 mo S i23); va_up y23_0 (mo + 4) (upd (y23_0 (mo + 4)) (i23) (y23_0 (mo + 22) (i23)))
def mderive_f (c : Bool) (mo : Nat) (S : StT) : StT := (let r1 := mnoC_f c (mo) S; (let S2 := mexp_f c (mo) (r1.2.1, r1.2.2.1, fs (fs (fs S.2.2 (mo) 0 (nI (0))) (mo) 13 (nI (bN c))) (mo) 14 (nI (pN c))); ((mderive_l23 mo (S2.1, S2.2.1, S.2.2) (cB c)), S2.2.1, fs (fs (fs (fs (fs S.2.2 (mo) 0 (nI (0))) (mo) 13 (nI (bN c))) (mo) 14 (nI (pN c))) (mo) 17 (nI (haN c (0 + cB c)))) (mo) 5 (nI (cB c)))))
theorem mderive_F (c : Bool) (mo : Nat) (S : StT) : (mderive_f c mo S).2.2 = fs (fs (fs (fs (fs S.2.2 (mo) 0 (nI (0))) (mo) 13 (nI (bN c))) (mo) 14 (nI (pN c))) (mo) 17 (nI (haN c (0 + cB c)))) (mo) 5 (nI (cB c)) := by
  unfold mderive_f; first | rfl | ((repeat' split) <;> rfl) | (dsimp only; (repeat' split) <;> rfl)
set_option maxRecDepth 100000 in
set_option maxHeartbeats 400000 in
theorem c_mderive {k : KX} {L : Nat → Option Sh} {S : StT} {n : Nat} {c : Bool} {mo : Nat} (hM : ModelAt k L mo) :
    Cs k yX12_derive cX12_derive 3 none 7 0 0 [.ref (k_b k + (mo)), .int (nI (bN c))] (inst k L S.1 S.2.1 S.2.2) n (Pv k L n (mderive_f c mo S)) := by
  refine cs_of (by decide) (Nat.le_of_ble_eq_true rfl) ?_
  intro X hXk C Rt hnm
  subst hXk
  have hM9 := hM
  obtain ⟨hM0, hm1, hm2, hm3, hm4, hm5, hm6, hm7, hm8, hm9, hm10, hm11, hm12, hm13, hm14, hm15, hm16, hm17, hm18, hm19, hm20, hm21, hm22, hm23, hm24, hm25, hm26, hm27⟩ := hM9
  obtain ⟨hp1, hp2⟩ := pN_le c
  have hbn := bN_le c
  obtain ⟨hk1, hk2⟩ := cB_le c
  have hfb : 32 ≤ fB c ∧ fB c ≤ 56 := by cases c <;> decide
  obtain ⟨hf1, hf2⟩ := hfb
  refine rn_lv [(0, .ref (k_b X.1 + (mo))), (1, .int (nI (bN c)))] (fun q h => h) ?_
  refine rn_aload_n C dX12_derive_0 rfl ?_
  refine rn_iload_n C dX12_derive_1 rfl ?_
  refine rs_vz C dX12_derive_2 mk_X12_noCurve lv_X12_334 (c_mnoC hM) hM0 rfl rfl rfl rfl (by decide) (Nat.le_of_ble_eq_true rfl) (by decide) (by decide) ?_
  rw [show (mnoC_f c (mo) S).2.2.2 = fs (fs (fs S.2.2 (mo) 0 (nI (0))) (mo) 13 (nI (bN c))) (mo) 14 (nI (pN c)) from (mnoC_F c (mo) S)]
  rw [show (mnoC_f c (mo) S).1 = nI (0) from rfl]
  generalize hr1 : mnoC_f c (mo) S = r1
  refine rn_if_eq (tgt := 9) C dX12_derive_5 (by decide) (fun hb => ?_) (fun hb => absurd (show (nI (0)) = 0 from by decide) hb)
  refine rn_aload_n C dX12_derive_9 rfl ?_
  refine rs_vv C dX12_derive_10 mk_X12_expand lv_X12_302 (c_mexp (S := (r1.2.1, r1.2.2.1, fs (fs (fs S.2.2 (mo) 0 (nI (0))) (mo) 13 (nI (bN c))) (mo) 14 (nI (pN c)))) hM ((fs_oth (by decide)).trans fs_get) fs_get) hM0 rfl rfl rfl rfl (by decide) (Nat.le_of_ble_eq_true rfl) (by decide) (by decide) ?_
  rw [show (mexp_f c (mo) (r1.2.1, r1.2.2.1, fs (fs (fs S.2.2 (mo) 0 (nI (0))) (mo) 13 (nI (bN c))) (mo) 14 (nI (pN c)))).2.2 = fs (fs (fs (fs S.2.2 (mo) 0 (nI (0))) (mo) 13 (nI (bN c))) (mo) 14 (nI (pN c))) (mo) 17 (nI (haN c (0 + cB c))) from (mexp_F c (mo) (r1.2.1, r1.2.2.1, fs (fs (fs S.2.2 (mo) 0 (nI (0))) (mo) 13 (nI (bN c))) (mo) 14 (nI (pN c))))]
  generalize hS2 : mexp_f c (mo) (r1.2.1, r1.2.2.1, fs (fs (fs S.2.2 (mo) 0 (nI (0))) (mo) 13 (nI (bN c))) (mo) 14 (nI (pN c))) = S2
  refine rn_aload_n C dX12_derive_13 rfl ?_
  refine rn_aload_n C dX12_derive_14 rfl ?_
  refine rs_vi C dX12_derive_15 mk_X12_keyBytes lv_X12_231 (cv_mkeyB (S := (S2.1, S2.2.1, fs (fs (fs (fs S.2.2 (mo) 0 (nI (0))) (mo) 13 (nI (bN c))) (mo) 14 (nI (pN c))) (mo) 17 (nI (haN c (0 + cB c))))) hM  ((fs_oth (by decide)).trans ((fs_oth (by decide)).trans fs_get)) ((fs_oth (by decide)).trans fs_get)) hM0 rfl rfl rfl rfl (by decide) (Nat.le_of_ble_eq_true rfl) (by decide) (by decide) ?_
  refine rs_putF C dX12_derive_18 fp_X12_26 hM0 rfl ?_
  refine rn_iconst (v := nI 0) C dX12_derive_21 rfl ?_
  refine rn_istore_n (lv' := [(0, _), (1, _), (2, _)]) C dX12_derive_22 (by decide) rfl ?_
  have lp23 : ∀ i23, i23 ≤ cB c → Rn X 23 [(0, .ref (k_b X.1 + (mo))), (1, .int (nI (bN c))), (2, .int (nI (i23)))] [] (inst X.1 L (mderive_l23 mo (S2.1, S2.2.1, S.2.2) i23) S2.2.1 (fs (fs (fs (fs (fs S.2.2 (mo) 0 (nI (0))) (mo) 13 (nI (bN c))) (mo) 14 (nI (pN c))) (mo) 17 (nI (haN c (0 + cB c)))) (mo) 5 (nI (cB c)))) n 0 0 := by
    refine upto _ _ ?_ (fun i23 hi23 ih23 => ?_)
    · skip
      refine rn_iload_n C dX12_derive_23 rfl ?_
      refine rn_aload_n C dX12_derive_24 rfl ?_
      refine rs_getFe C dX12_derive_25 fl_X12_26 hM0 rfl fs_get ?_
      refine rs_ge (tgt := 49) C dX12_derive_28 (by decide) rfl rfl (by omega) (by omega) (fun _ => ?_) (fun q => absurd q (by omega))
      have hret : mderive_f c mo S = ((mderive_l23 mo (S2.1, S2.2.1, S.2.2) (cB c)), S2.2.1, fs (fs (fs (fs (fs S.2.2 (mo) 0 (nI (0))) (mo) 13 (nI (bN c))) (mo) 14 (nI (pN c))) (mo) 17 (nI (haN c (0 + cB c)))) (mo) 5 (nI (cB c))) := by
        subst hS2
        subst hr1
        first | (dsimp only [mderive_f]; done) | (dsimp only [mderive_f]; exact rfl) | exact rfl
      exact rn_vret C Rt dX12_derive_49 (pv_of hret) (Nat.zero_le _) (Nat.zero_le _)
    · skip
      refine rn_iload_n C dX12_derive_23 rfl ?_
      refine rn_aload_n C dX12_derive_24 rfl ?_
      refine rs_getFe C dX12_derive_25 fl_X12_26 hM0 rfl fs_get ?_
      refine rs_ge (tgt := 49) C dX12_derive_28 (by decide) rfl rfl (by omega) (by omega) (fun q => absurd q (by omega)) (fun _ => ?_)
      refine rn_aload_n C dX12_derive_31 rfl ?_
      refine rs_get C dX12_derive_32 fl_X12_23 hM0 rfl ?_
      refine rn_iload_n C dX12_derive_35 rfl ?_
      refine rn_aload_n C dX12_derive_36 rfl ?_
      refine rs_get C dX12_derive_37 fl_X12_96 hM0 rfl ?_
      refine rn_iload_n C dX12_derive_40 rfl ?_
      refine rs_iaload C dX12_derive_41 hm22 rfl (by omega) (by decide) ?_
      refine rs_iastore C dX12_derive_42 hm4 rfl (by omega) (by decide) ?_
      refine rn_iinc (lv' := [(0, _), (1, _), (2, _)]) C dX12_derive_43 rfl (nI_inc _) (by decide) rfl ?_
      refine rn_goto (tgt := 23) C dX12_derive_46 (by decide) ?_
      have he23 : mderive_l23 mo (S2.1, S2.2.1, S.2.2) (i23 + 1) = va_up (mderive_l23 mo (S2.1, S2.2.1, S.2.2) i23) (mo + 4) (upd ((mderive_l23 mo (S2.1, S2.2.1, S.2.2) i23) (mo + 4)) (i23) ((mderive_l23 mo (S2.1, S2.2.1, S.2.2) i23) (mo + 22) (i23))) := by
        first | (dsimp only [mderive_l23]; done) | (dsimp only [mderive_l23]; exact rfl) | exact rfl
      rw [he23] at ih23
      exact rn_ks [0, 1, 2] ih23 rfl
  exact lp23 0 (Nat.zero_le _)
def msignP_f (c : Bool) (mo : Nat) (mg : Nat) (cx : Nat) (ph : Bool) (S : StT) : StT := (let r1 := mnoC_f c (mo) S; (let S2 := msign_f c (mo) mg cx ph (r1.2.1, r1.2.2.1, fs (fs (fs S.2.2 (mo) 0 (nI (0))) (mo) 13 (nI (bN c))) (mo) 14 (nI (pN c))); (S2.1, S2.2.1, fs (fs (fs (fs (fs S.2.2 (mo) 0 (nI (0))) (mo) 13 (nI (bN c))) (mo) 14 (nI (pN c))) (mo) 17 (nI (haN c (dmN c ph cx + (cB c) + (cB c) + (if ph then 64 else mg))))) (mo) 5 (nI (2 * (cB c))))))
theorem msignP_F (c : Bool) (mo : Nat) (mg : Nat) (cx : Nat) (ph : Bool) (S : StT) : (msignP_f c mo mg cx ph S).2.2 = fs (fs (fs (fs (fs S.2.2 (mo) 0 (nI (0))) (mo) 13 (nI (bN c))) (mo) 14 (nI (pN c))) (mo) 17 (nI (haN c (dmN c ph cx + (cB c) + (cB c) + (if ph then 64 else mg))))) (mo) 5 (nI (2 * (cB c))) := by
  unfold msignP_f; first | rfl | ((repeat' split) <;> rfl) | (dsimp only; (repeat' split) <;> rfl)
set_option maxRecDepth 100000 in
set_option maxHeartbeats 400000 in
theorem c_msignP {k : KX} {L : Nat → Option Sh} {S : StT} {n : Nat} {c : Bool} {mo : Nat} {mg : Nat} {cx : Nat} {ph : Bool} (hM : ModelAt k L mo) (hmg : S.2.2 mo 7 = nI mg) (hmg1 : mg ≤ 256) (hcx : S.2.2 mo 9 = nI cx) (hcx1 : cx ≤ 64) :
    Cs k yX12_sign cX12_sign 3 none 8 0 0 [.ref (k_b k + (mo)), .int (nI (bN c)), .int (bI ph)] (inst k L S.1 S.2.1 S.2.2) n (Pv k L n (msignP_f c mo mg cx ph S)) := by
  refine cs_of (by decide) (Nat.le_of_ble_eq_true rfl) ?_
  intro X hXk C Rt hnm
  subst hXk
  have hM9 := hM
  obtain ⟨hM0, hm1, hm2, hm3, hm4, hm5, hm6, hm7, hm8, hm9, hm10, hm11, hm12, hm13, hm14, hm15, hm16, hm17, hm18, hm19, hm20, hm21, hm22, hm23, hm24, hm25, hm26, hm27⟩ := hM9
  obtain ⟨hp1, hp2⟩ := pN_le c
  have hbn := bN_le c
  obtain ⟨hk1, hk2⟩ := cB_le c
  have hfb : 32 ≤ fB c ∧ fB c ≤ 56 := by cases c <;> decide
  obtain ⟨hf1, hf2⟩ := hfb
  refine rn_lv [(0, .ref (k_b X.1 + (mo))), (1, .int (nI (bN c))), (2, .int (bI ph))] (fun q h => h) ?_
  refine rn_aload_n C dX12_sign_0 rfl ?_
  refine rn_iload_n C dX12_sign_1 rfl ?_
  refine rs_vz C dX12_sign_2 mk_X12_noCurve lv_X12_334 (c_mnoC hM) hM0 rfl rfl rfl rfl (by decide) (Nat.le_of_ble_eq_true rfl) (by decide) (by decide) ?_
  rw [show (mnoC_f c (mo) S).2.2.2 = fs (fs (fs S.2.2 (mo) 0 (nI (0))) (mo) 13 (nI (bN c))) (mo) 14 (nI (pN c)) from (mnoC_F c (mo) S)]
  rw [show (mnoC_f c (mo) S).1 = nI (0) from rfl]
  generalize hr1 : mnoC_f c (mo) S = r1
  refine rn_if_eq (tgt := 9) C dX12_sign_5 (by decide) (fun hb => ?_) (fun hb => absurd (show (nI (0)) = 0 from by decide) hb)
  refine rn_aload_n C dX12_sign_9 rfl ?_
  refine rn_iload_n C dX12_sign_10 rfl ?_
  refine rs_vv C dX12_sign_11 mk_X12_signNow lv_X12_340 (c_msign (S := (r1.2.1, r1.2.2.1, fs (fs (fs S.2.2 (mo) 0 (nI (0))) (mo) 13 (nI (bN c))) (mo) 14 (nI (pN c)))) hM ((fs_oth (by decide)).trans ((fs_oth (by decide)).trans ((fs_oth (by decide)).trans hmg))) (by omega) ((fs_oth (by decide)).trans ((fs_oth (by decide)).trans ((fs_oth (by decide)).trans hcx))) (by omega) ((fs_oth (by decide)).trans fs_get) fs_get) hM0 rfl rfl rfl rfl (by decide) (Nat.le_of_ble_eq_true rfl) (by decide) (by decide) ?_
  rw [show (msign_f c (mo) mg cx ph (r1.2.1, r1.2.2.1, fs (fs (fs S.2.2 (mo) 0 (nI (0))) (mo) 13 (nI (bN c))) (mo) 14 (nI (pN c)))).2.2 = fs (fs (fs (fs (fs S.2.2 (mo) 0 (nI (0))) (mo) 13 (nI (bN c))) (mo) 14 (nI (pN c))) (mo) 17 (nI (haN c (dmN c ph cx + (cB c) + (cB c) + (if ph then 64 else mg))))) (mo) 5 (nI (2 * (cB c))) from (msign_F c (mo) mg cx ph (r1.2.1, r1.2.2.1, fs (fs (fs S.2.2 (mo) 0 (nI (0))) (mo) 13 (nI (bN c))) (mo) 14 (nI (pN c))))]
  generalize hS2 : msign_f c (mo) mg cx ph (r1.2.1, r1.2.2.1, fs (fs (fs S.2.2 (mo) 0 (nI (0))) (mo) 13 (nI (bN c))) (mo) 14 (nI (pN c))) = S2
  have hret : msignP_f c mo mg cx ph S = (S2.1, S2.2.1, fs (fs (fs (fs (fs S.2.2 (mo) 0 (nI (0))) (mo) 13 (nI (bN c))) (mo) 14 (nI (pN c))) (mo) 17 (nI (haN c (dmN c ph cx + (cB c) + (cB c) + (if ph then 64 else mg))))) (mo) 5 (nI (2 * (cB c)))) := by
    subst hS2
    subst hr1
    first | (dsimp only [msignP_f]; done) | (dsimp only [msignP_f]; exact rfl) | exact rfl
  exact rn_vret C Rt dX12_sign_14 (pv_of hret) (Nat.zero_le _) (Nat.zero_le _)
def mveriP_f (c : Bool) (mo : Nat) (mg : Nat) (cx : Nat) (ph : Bool) (S : StT) : Int32 × StT := (let r1 := mnoC_f c (mo) S; (let r2 := mveri_f c (mo) mg cx ph (r1.2.1, r1.2.2.1, fs (fs (fs (fs S.2.2 (mo) 0 (nI (0))) (mo) 13 (nI (bN c))) (mo) 14 (nI (pN c))) (mo) 5 (nI (0))); (r2.1, (r2.2.1, r2.2.2.1, r2.2.2.2))))
set_option maxRecDepth 100000 in
set_option maxHeartbeats 400000 in
theorem c_mveriP {k : KX} {L : Nat → Option Sh} {S : StT} {n : Nat} {c : Bool} {mo : Nat} {mg : Nat} {cx : Nat} {ph : Bool} (hM : ModelAt k L mo) (hmg : S.2.2 mo 7 = nI mg) (hmg1 : mg ≤ 256) (hcx : S.2.2 mo 9 = nI cx) (hcx1 : cx ≤ 64) :
    Cs k yX12_verify cX12_verify 3 (some .boolean) 8 0 0 [.ref (k_b k + (mo)), .int (nI (bN c)), .int (bI ph)] (inst k L S.1 S.2.1 S.2.2) n (Pi k L n (mveriP_f c mo mg cx ph S)) := by
  refine cs_of (by decide) (Nat.le_of_ble_eq_true rfl) ?_
  intro X hXk C Rt hnm
  subst hXk
  have hM9 := hM
  obtain ⟨hM0, hm1, hm2, hm3, hm4, hm5, hm6, hm7, hm8, hm9, hm10, hm11, hm12, hm13, hm14, hm15, hm16, hm17, hm18, hm19, hm20, hm21, hm22, hm23, hm24, hm25, hm26, hm27⟩ := hM9
  obtain ⟨hp1, hp2⟩ := pN_le c
  have hbn := bN_le c
  obtain ⟨hk1, hk2⟩ := cB_le c
  have hfb : 32 ≤ fB c ∧ fB c ≤ 56 := by cases c <;> decide
  obtain ⟨hf1, hf2⟩ := hfb
  refine rn_lv [(0, .ref (k_b X.1 + (mo))), (1, .int (nI (bN c))), (2, .int (bI ph))] (fun q h => h) ?_
  refine rn_aload_n C dX12_verify_0 rfl ?_
  refine rn_iload_n C dX12_verify_1 rfl ?_
  refine rs_vz C dX12_verify_2 mk_X12_noCurve lv_X12_334 (c_mnoC hM) hM0 rfl rfl rfl rfl (by decide) (Nat.le_of_ble_eq_true rfl) (by decide) (by decide) ?_
  rw [show (mnoC_f c (mo) S).2.2.2 = fs (fs (fs S.2.2 (mo) 0 (nI (0))) (mo) 13 (nI (bN c))) (mo) 14 (nI (pN c)) from (mnoC_F c (mo) S)]
  rw [show (mnoC_f c (mo) S).1 = nI (0) from rfl]
  generalize hr1 : mnoC_f c (mo) S = r1
  refine rn_if_eq (tgt := 10) C dX12_verify_5 (by decide) (fun hb => ?_) (fun hb => absurd (show (nI (0)) = 0 from by decide) hb)
  refine rn_aload_n C dX12_verify_10 rfl ?_
  refine rn_iconst (v := nI 0) C dX12_verify_11 rfl ?_
  refine rs_putF C dX12_verify_12 fp_X12_26 hM0 rfl ?_
  refine rn_aload_n C dX12_verify_15 rfl ?_
  refine rn_iload_n C dX12_verify_16 rfl ?_
  refine rs_vz C dX12_verify_17 mk_X12_verified lv_X12_343 (c_mveri (S := (r1.2.1, r1.2.2.1, fs (fs (fs (fs S.2.2 (mo) 0 (nI (0))) (mo) 13 (nI (bN c))) (mo) 14 (nI (pN c))) (mo) 5 (nI (0)))) hM ((fs_oth (by decide)).trans ((fs_oth (by decide)).trans ((fs_oth (by decide)).trans ((fs_oth (by decide)).trans hmg)))) (by omega) ((fs_oth (by decide)).trans ((fs_oth (by decide)).trans ((fs_oth (by decide)).trans ((fs_oth (by decide)).trans hcx)))) (by omega) ((fs_oth (by decide)).trans ((fs_oth (by decide)).trans fs_get)) ((fs_oth (by decide)).trans fs_get)) hM0 rfl rfl rfl rfl (by decide) (Nat.le_of_ble_eq_true rfl) (by decide) (by decide) ?_
  generalize hr2 : mveri_f c (mo) mg cx ph (r1.2.1, r1.2.2.1, fs (fs (fs (fs S.2.2 (mo) 0 (nI (0))) (mo) 13 (nI (bN c))) (mo) 14 (nI (pN c))) (mo) 5 (nI (0))) = r2
  have hret : mveriP_f c mo mg cx ph S = (r2.1, (r2.2.1, r2.2.2.1, r2.2.2.2)) := by
    subst hr2
    subst hr1
    first | (dsimp only [mveriP_f]; done) | (dsimp only [mveriP_f]; exact rfl) | exact rfl
  exact rn_zret C Rt dX12_verify_20 (by subst hr2; exact mveri_z _ _ _ _ _ _) (pi_of hret) (Nat.zero_le _) (Nat.zero_le _)
def magreeX_f (mo : Nat) (cv : Int32) (w_ : Int32) (S : StT) : Int32 × StT := (let r1 := mnoCX_f (mo) cv S; (nI (0), (r1.2.1, r1.2.2.1, fs S.2.2 (mo) 0 (nI (1)))))
theorem magreeX_F (mo : Nat) (cv : Int32) (w_ : Int32) (S : StT) : (magreeX_f mo cv w_ S).2.2.2 = fs S.2.2 (mo) 0 (nI (1)) := by
  unfold magreeX_f; first | rfl | ((repeat' split) <;> rfl) | (dsimp only; (repeat' split) <;> rfl)
set_option maxRecDepth 100000 in
set_option maxHeartbeats 400000 in
theorem c_magreeX {k : KX} {L : Nat → Option Sh} {S : StT} {n : Nat} {mo : Nat} {cv : Int32} {w_ : Int32} (hM : ModelAt k L mo) (hbad : cv < 0 ∨ ¬ cv ≤ nI 1) :
    Cs k yX12_agree cX12_agree 4 (some .boolean) 2 0 0 [.ref (k_b k + (mo)), .int (cv), .int (w_)] (inst k L S.1 S.2.1 S.2.2) n (Pi k L n (magreeX_f mo cv w_ S)) := by
  refine cs_of (by decide) (Nat.le_of_ble_eq_true rfl) ?_
  intro X hXk C Rt hnm
  subst hXk
  have hM9 := hM
  obtain ⟨hM0, hm1, hm2, hm3, hm4, hm5, hm6, hm7, hm8, hm9, hm10, hm11, hm12, hm13, hm14, hm15, hm16, hm17, hm18, hm19, hm20, hm21, hm22, hm23, hm24, hm25, hm26, hm27⟩ := hM9
  refine rn_lv [(0, .ref (k_b X.1 + (mo))), (1, .int (cv)), (2, .int (w_))] (fun q h => h) ?_
  refine rn_aload_n C dX12_agree_0 rfl ?_
  refine rn_iload_n C dX12_agree_1 rfl ?_
  refine rs_vz C dX12_agree_2 mk_X12_noCurve lv_X12_334 (c_mnoCX hM hbad) hM0 rfl rfl rfl rfl (by decide) (Nat.le_of_ble_eq_true rfl) (by decide) (by decide) ?_
  rw [show (mnoCX_f (mo) cv S).2.2.2 = fs S.2.2 (mo) 0 (nI (1)) from (mnoCX_F (mo) cv S)]
  rw [show (mnoCX_f (mo) cv S).1 = nI (1) from rfl]
  generalize hr1 : mnoCX_f (mo) cv S = r1
  refine rn_if_eq (tgt := 10) C dX12_agree_5 (by decide) (fun hb => absurd hb (show ¬ (nI (1)) = 0 from by decide)) (fun hb => ?_)
  refine rn_iconst (v := nI 0) C dX12_agree_8 rfl ?_
  have hret : magreeX_f mo cv w_ S = (nI (0), (r1.2.1, r1.2.2.1, fs S.2.2 (mo) 0 (nI (1)))) := by
    subst hr1
    first | (dsimp only [magreeX_f]; done) | (dsimp only [magreeX_f]; exact rfl) | exact rfl
  exact rn_zret C Rt dX12_agree_9 (by first | rfl | exact rfl) (pi_of hret) (Nat.zero_le _) (Nat.zero_le _)
def mderiveX_f (mo : Nat) (cv : Int32) (S : StT) : StT := (let r1 := mnoCX_f (mo) cv S; (r1.2.1, r1.2.2.1, fs S.2.2 (mo) 0 (nI (1))))
theorem mderiveX_F (mo : Nat) (cv : Int32) (S : StT) : (mderiveX_f mo cv S).2.2 = fs S.2.2 (mo) 0 (nI (1)) := by
  unfold mderiveX_f; first | rfl | ((repeat' split) <;> rfl) | (dsimp only; (repeat' split) <;> rfl)
set_option maxRecDepth 100000 in
set_option maxHeartbeats 400000 in
theorem c_mderiveX {k : KX} {L : Nat → Option Sh} {S : StT} {n : Nat} {mo : Nat} {cv : Int32} (hM : ModelAt k L mo) (hbad : cv < 0 ∨ ¬ cv ≤ nI 1) :
    Cs k yX12_derive cX12_derive 3 none 2 0 0 [.ref (k_b k + (mo)), .int (cv)] (inst k L S.1 S.2.1 S.2.2) n (Pv k L n (mderiveX_f mo cv S)) := by
  refine cs_of (by decide) (Nat.le_of_ble_eq_true rfl) ?_
  intro X hXk C Rt hnm
  subst hXk
  have hM9 := hM
  obtain ⟨hM0, hm1, hm2, hm3, hm4, hm5, hm6, hm7, hm8, hm9, hm10, hm11, hm12, hm13, hm14, hm15, hm16, hm17, hm18, hm19, hm20, hm21, hm22, hm23, hm24, hm25, hm26, hm27⟩ := hM9
  refine rn_lv [(0, .ref (k_b X.1 + (mo))), (1, .int (cv))] (fun q h => h) ?_
  refine rn_aload_n C dX12_derive_0 rfl ?_
  refine rn_iload_n C dX12_derive_1 rfl ?_
  refine rs_vz C dX12_derive_2 mk_X12_noCurve lv_X12_334 (c_mnoCX hM hbad) hM0 rfl rfl rfl rfl (by decide) (Nat.le_of_ble_eq_true rfl) (by decide) (by decide) ?_
  rw [show (mnoCX_f (mo) cv S).2.2.2 = fs S.2.2 (mo) 0 (nI (1)) from (mnoCX_F (mo) cv S)]
  rw [show (mnoCX_f (mo) cv S).1 = nI (1) from rfl]
  generalize hr1 : mnoCX_f (mo) cv S = r1
  refine rn_if_eq (tgt := 9) C dX12_derive_5 (by decide) (fun hb => absurd hb (show ¬ (nI (1)) = 0 from by decide)) (fun hb => ?_)
  have hret : mderiveX_f mo cv S = (r1.2.1, r1.2.2.1, fs S.2.2 (mo) 0 (nI (1))) := by
    subst hr1
    first | (dsimp only [mderiveX_f]; done) | (dsimp only [mderiveX_f]; exact rfl) | exact rfl
  exact rn_vret C Rt dX12_derive_8 (pv_of hret) (Nat.zero_le _) (Nat.zero_le _)
def msignX_f (mo : Nat) (cv : Int32) (w_ : Int32) (S : StT) : StT := (let r1 := mnoCX_f (mo) cv S; (r1.2.1, r1.2.2.1, fs S.2.2 (mo) 0 (nI (1))))
theorem msignX_F (mo : Nat) (cv : Int32) (w_ : Int32) (S : StT) : (msignX_f mo cv w_ S).2.2 = fs S.2.2 (mo) 0 (nI (1)) := by
  unfold msignX_f; first | rfl | ((repeat' split) <;> rfl) | (dsimp only; (repeat' split) <;> rfl)
set_option maxRecDepth 100000 in
set_option maxHeartbeats 400000 in
theorem c_msignX {k : KX} {L : Nat → Option Sh} {S : StT} {n : Nat} {mo : Nat} {cv : Int32} {w_ : Int32} (hM : ModelAt k L mo) (hbad : cv < 0 ∨ ¬ cv ≤ nI 1) :
    Cs k yX12_sign cX12_sign 3 none 2 0 0 [.ref (k_b k + (mo)), .int (cv), .int (w_)] (inst k L S.1 S.2.1 S.2.2) n (Pv k L n (msignX_f mo cv w_ S)) := by
  refine cs_of (by decide) (Nat.le_of_ble_eq_true rfl) ?_
  intro X hXk C Rt hnm
  subst hXk
  have hM9 := hM
  obtain ⟨hM0, hm1, hm2, hm3, hm4, hm5, hm6, hm7, hm8, hm9, hm10, hm11, hm12, hm13, hm14, hm15, hm16, hm17, hm18, hm19, hm20, hm21, hm22, hm23, hm24, hm25, hm26, hm27⟩ := hM9
  refine rn_lv [(0, .ref (k_b X.1 + (mo))), (1, .int (cv)), (2, .int (w_))] (fun q h => h) ?_
  refine rn_aload_n C dX12_sign_0 rfl ?_
  refine rn_iload_n C dX12_sign_1 rfl ?_
  refine rs_vz C dX12_sign_2 mk_X12_noCurve lv_X12_334 (c_mnoCX hM hbad) hM0 rfl rfl rfl rfl (by decide) (Nat.le_of_ble_eq_true rfl) (by decide) (by decide) ?_
  rw [show (mnoCX_f (mo) cv S).2.2.2 = fs S.2.2 (mo) 0 (nI (1)) from (mnoCX_F (mo) cv S)]
  rw [show (mnoCX_f (mo) cv S).1 = nI (1) from rfl]
  generalize hr1 : mnoCX_f (mo) cv S = r1
  refine rn_if_eq (tgt := 9) C dX12_sign_5 (by decide) (fun hb => absurd hb (show ¬ (nI (1)) = 0 from by decide)) (fun hb => ?_)
  have hret : msignX_f mo cv w_ S = (r1.2.1, r1.2.2.1, fs S.2.2 (mo) 0 (nI (1))) := by
    subst hr1
    first | (dsimp only [msignX_f]; done) | (dsimp only [msignX_f]; exact rfl) | exact rfl
  exact rn_vret C Rt dX12_sign_8 (pv_of hret) (Nat.zero_le _) (Nat.zero_le _)
def mverifyX_f (mo : Nat) (cv : Int32) (w_ : Int32) (S : StT) : Int32 × StT := (let r1 := mnoCX_f (mo) cv S; (nI (0), (r1.2.1, r1.2.2.1, fs S.2.2 (mo) 0 (nI (1)))))
theorem mverifyX_F (mo : Nat) (cv : Int32) (w_ : Int32) (S : StT) : (mverifyX_f mo cv w_ S).2.2.2 = fs S.2.2 (mo) 0 (nI (1)) := by
  unfold mverifyX_f; first | rfl | ((repeat' split) <;> rfl) | (dsimp only; (repeat' split) <;> rfl)
set_option maxRecDepth 100000 in
set_option maxHeartbeats 400000 in
theorem c_mverifyX {k : KX} {L : Nat → Option Sh} {S : StT} {n : Nat} {mo : Nat} {cv : Int32} {w_ : Int32} (hM : ModelAt k L mo) (hbad : cv < 0 ∨ ¬ cv ≤ nI 1) :
    Cs k yX12_verify cX12_verify 3 (some .boolean) 2 0 0 [.ref (k_b k + (mo)), .int (cv), .int (w_)] (inst k L S.1 S.2.1 S.2.2) n (Pi k L n (mverifyX_f mo cv w_ S)) := by
  refine cs_of (by decide) (Nat.le_of_ble_eq_true rfl) ?_
  intro X hXk C Rt hnm
  subst hXk
  have hM9 := hM
  obtain ⟨hM0, hm1, hm2, hm3, hm4, hm5, hm6, hm7, hm8, hm9, hm10, hm11, hm12, hm13, hm14, hm15, hm16, hm17, hm18, hm19, hm20, hm21, hm22, hm23, hm24, hm25, hm26, hm27⟩ := hM9
  refine rn_lv [(0, .ref (k_b X.1 + (mo))), (1, .int (cv)), (2, .int (w_))] (fun q h => h) ?_
  refine rn_aload_n C dX12_verify_0 rfl ?_
  refine rn_iload_n C dX12_verify_1 rfl ?_
  refine rs_vz C dX12_verify_2 mk_X12_noCurve lv_X12_334 (c_mnoCX hM hbad) hM0 rfl rfl rfl rfl (by decide) (Nat.le_of_ble_eq_true rfl) (by decide) (by decide) ?_
  rw [show (mnoCX_f (mo) cv S).2.2.2 = fs S.2.2 (mo) 0 (nI (1)) from (mnoCX_F (mo) cv S)]
  rw [show (mnoCX_f (mo) cv S).1 = nI (1) from rfl]
  generalize hr1 : mnoCX_f (mo) cv S = r1
  refine rn_if_eq (tgt := 10) C dX12_verify_5 (by decide) (fun hb => absurd hb (show ¬ (nI (1)) = 0 from by decide)) (fun hb => ?_)
  refine rn_iconst (v := nI 0) C dX12_verify_8 rfl ?_
  have hret : mverifyX_f mo cv w_ S = (nI (0), (r1.2.1, r1.2.2.1, fs S.2.2 (mo) 0 (nI (1)))) := by
    subst hr1
    first | (dsimp only [mverifyX_f]; done) | (dsimp only [mverifyX_f]; exact rfl) | exact rfl
  exact rn_zret C Rt dX12_verify_9 (by first | rfl | exact rfl) (pi_of hret) (Nat.zero_le _) (Nat.zero_le _)
def mpointX_f (mo : Nat) (cv : Int32) (pl : Int32) (S : StT) : Int32 × StT := (nI (0), (S.1, S.2.1, fs S.2.2 (mo) 0 (nI (1))))
theorem mpointX_F (mo : Nat) (cv : Int32) (pl : Int32) (S : StT) : (mpointX_f mo cv pl S).2.2.2 = fs S.2.2 (mo) 0 (nI (1)) := by
  unfold mpointX_f; first | rfl | ((repeat' split) <;> rfl) | (dsimp only; (repeat' split) <;> rfl)
set_option maxRecDepth 100000 in
set_option maxHeartbeats 400000 in
theorem c_mpointX {k : KX} {L : Nat → Option Sh} {S : StT} {n : Nat} {mo : Nat} {cv : Int32} {pl : Int32} (hM : ModelAt k L mo) (hbad : cv < 0 ∨ nI 1 < cv ∨ (misPl_f (pl) S).1 = 0) :
    Cs k yX12_point cX12_point 3 (some .boolean) 2 0 0 [.ref (k_b k + (mo)), .int (cv), .int (pl)] (inst k L S.1 S.2.1 S.2.2) n (Pi k L n (mpointX_f mo cv pl S)) := by
  refine cs_of (by decide) (Nat.le_of_ble_eq_true rfl) ?_
  intro X hXk C Rt hnm
  subst hXk
  have hM9 := hM
  obtain ⟨hM0, hm1, hm2, hm3, hm4, hm5, hm6, hm7, hm8, hm9, hm10, hm11, hm12, hm13, hm14, hm15, hm16, hm17, hm18, hm19, hm20, hm21, hm22, hm23, hm24, hm25, hm26, hm27⟩ := hM9
  refine rn_lv [(0, .ref (k_b X.1 + (mo))), (1, .int (cv)), (2, .int (pl))] (fun q h => h) ?_
  refine rn_aload_n C dX12_point_0 rfl ?_
  refine rn_iload_n C dX12_point_1 rfl ?_
  refine rn_if_lt (tgt := 17) C dX12_point_2 (by decide) (fun hb1 => ?_) (fun hb1 => ?_)
  · skip
    refine rn_iconst (v := nI 1) C dX12_point_17 rfl ?_
    refine rn_goto (tgt := 22) C dX12_point_18 (by decide) ?_
    refine rs_putF C dX12_point_22 fp_X12_7 hM0 rfl ?_
    refine rn_aload_n C dX12_point_25 rfl ?_
    refine rs_getFe C dX12_point_26 fl_X12_7 hM0 rfl fs_get ?_
    refine rn_if_eq (tgt := 34) C dX12_point_29 (by decide) (fun hb => absurd hb (show ¬ (nI (1)) = 0 from by decide)) (fun hb => ?_)
    refine rn_iconst (v := nI 0) C dX12_point_32 rfl ?_
    have hret : mpointX_f mo cv pl S = (nI (0), (S.1, S.2.1, fs S.2.2 (mo) 0 (nI (1)))) := by
      first | (dsimp only [mpointX_f]; done) | (dsimp only [mpointX_f]; exact rfl) | exact rfl
    exact rn_zret C Rt dX12_point_33 (by first | rfl | exact rfl) (pi_of hret) (Nat.zero_le _) (Nat.zero_le _)
  · skip
    refine rn_iload_n C dX12_point_5 rfl ?_
    refine rn_iconst (v := nI 1) C dX12_point_6 rfl ?_
    refine rn_icmp_gt (tgt := 17) C dX12_point_7 (by decide) (fun hb2 => ?_) (fun hb2 => ?_)
    · skip
      refine rn_iconst (v := nI 1) C dX12_point_17 rfl ?_
      refine rn_goto (tgt := 22) C dX12_point_18 (by decide) ?_
      refine rs_putF C dX12_point_22 fp_X12_7 hM0 rfl ?_
      refine rn_aload_n C dX12_point_25 rfl ?_
      refine rs_getFe C dX12_point_26 fl_X12_7 hM0 rfl fs_get ?_
      refine rn_if_eq (tgt := 34) C dX12_point_29 (by decide) (fun hb => absurd hb (show ¬ (nI (1)) = 0 from by decide)) (fun hb => ?_)
      refine rn_iconst (v := nI 0) C dX12_point_32 rfl ?_
      have hret : mpointX_f mo cv pl S = (nI (0), (S.1, S.2.1, fs S.2.2 (mo) 0 (nI (1)))) := by
        first | (dsimp only [mpointX_f]; done) | (dsimp only [mpointX_f]; exact rfl) | exact rfl
      exact rn_zret C Rt dX12_point_33 (by first | rfl | exact rfl) (pi_of hret) (Nat.zero_le _) (Nat.zero_le _)
    · skip
      refine rn_iload_n C dX12_point_10 rfl ?_
      refine rs_sz C dX12_point_11 mk_X12_isPlace ls_X12_347 (cp_misPl ) rfl rfl (by decide) (Nat.le_of_ble_eq_true rfl) (by decide) (by decide) ?_
      refine rn_if_ne (tgt := 21) C dX12_point_14 (by decide) (fun hb3 => ?_) (fun hb3 => ?_)
      · skip
        exact absurd hbad (by rintro (h | h | h) <;> contradiction)
      · skip
        refine rn_iconst (v := nI 1) C dX12_point_17 rfl ?_
        refine rn_goto (tgt := 22) C dX12_point_18 (by decide) ?_
        refine rs_putF C dX12_point_22 fp_X12_7 hM0 rfl ?_
        refine rn_aload_n C dX12_point_25 rfl ?_
        refine rs_getFe C dX12_point_26 fl_X12_7 hM0 rfl fs_get ?_
        refine rn_if_eq (tgt := 34) C dX12_point_29 (by decide) (fun hb => absurd hb (show ¬ (nI (1)) = 0 from by decide)) (fun hb => ?_)
        refine rn_iconst (v := nI 0) C dX12_point_32 rfl ?_
        have hret : mpointX_f mo cv pl S = (nI (0), (S.1, S.2.1, fs S.2.2 (mo) 0 (nI (1)))) := by
          first | (dsimp only [mpointX_f]; done) | (dsimp only [mpointX_f]; exact rfl) | exact rfl
        exact rn_zret C Rt dX12_point_33 (by first | rfl | exact rfl) (pi_of hret) (Nat.zero_le _) (Nat.zero_le _)
def maddX_f (mo : Nat) (to : Int32) (a : Int32) (b : Int32) (ls : Int32) (S : StT) : StT := (S.1, S.2.1, fs S.2.2 (mo) 0 (nI (1)))
theorem maddX_F (mo : Nat) (to : Int32) (a : Int32) (b : Int32) (ls : Int32) (S : StT) : (maddX_f mo to a b ls S).2.2 = fs S.2.2 (mo) 0 (nI (1)) := by
  unfold maddX_f; first | rfl | ((repeat' split) <;> rfl) | (dsimp only; (repeat' split) <;> rfl)
set_option maxRecDepth 100000 in
set_option maxHeartbeats 400000 in
theorem c_maddX {k : KX} {L : Nat → Option Sh} {S : StT} {n : Nat} {mo : Nat} {to : Int32} {a : Int32} {b : Int32} {ls : Int32} (hM : ModelAt k L mo) (hbad : (misPl_f (to) S).1 = 0 ∨ (misPl_f (a) S).1 = 0 ∨ (misPl_f (b) S).1 = 0) :
    Cs k yX12_add cX12_add 5 none 2 0 0 [.ref (k_b k + (mo)), .int (to), .int (a), .int (b), .int (ls)] (inst k L S.1 S.2.1 S.2.2) n (Pv k L n (maddX_f mo to a b ls S)) := by
  refine cs_of (by decide) (Nat.le_of_ble_eq_true rfl) ?_
  intro X hXk C Rt hnm
  subst hXk
  have hM9 := hM
  obtain ⟨hM0, hm1, hm2, hm3, hm4, hm5, hm6, hm7, hm8, hm9, hm10, hm11, hm12, hm13, hm14, hm15, hm16, hm17, hm18, hm19, hm20, hm21, hm22, hm23, hm24, hm25, hm26, hm27⟩ := hM9
  refine rn_lv [(0, .ref (k_b X.1 + (mo))), (1, .int (to)), (2, .int (a)), (3, .int (b)), (4, .int (ls))] (fun q h => h) ?_
  refine rn_aload_n C dX12_add_0 rfl ?_
  refine rn_iload_n C dX12_add_1 rfl ?_
  refine rs_sz C dX12_add_2 mk_X12_isPlace ls_X12_347 (cp_misPl ) rfl rfl (by decide) (Nat.le_of_ble_eq_true rfl) (by decide) (by decide) ?_
  refine rn_if_eq (tgt := 22) C dX12_add_5 (by decide) (fun hb1 => ?_) (fun hb1 => ?_)
  · skip
    refine rn_iconst (v := nI 1) C dX12_add_22 rfl ?_
    refine rn_goto (tgt := 46) C dX12_add_23 (by decide) ?_
    refine rs_putF C dX12_add_46 fp_X12_7 hM0 rfl ?_
    refine rn_aload_n C dX12_add_49 rfl ?_
    refine rs_getFe C dX12_add_50 fl_X12_7 hM0 rfl fs_get ?_
    refine rn_if_eq (tgt := 57) C dX12_add_53 (by decide) (fun hb => absurd hb (show ¬ (nI (1)) = 0 from by decide)) (fun hb => ?_)
    have hret : maddX_f mo to a b ls S = (S.1, S.2.1, fs S.2.2 (mo) 0 (nI (1))) := by
      first | (dsimp only [maddX_f]; done) | (dsimp only [maddX_f]; exact rfl) | exact rfl
    exact rn_vret C Rt dX12_add_56 (pv_of hret) (Nat.zero_le _) (Nat.zero_le _)
  · skip
    refine rn_iload_n C dX12_add_8 rfl ?_
    refine rs_sz C dX12_add_9 mk_X12_isPlace ls_X12_347 (cp_misPl ) rfl rfl (by decide) (Nat.le_of_ble_eq_true rfl) (by decide) (by decide) ?_
    refine rn_if_eq (tgt := 22) C dX12_add_12 (by decide) (fun hb2 => ?_) (fun hb2 => ?_)
    · skip
      refine rn_iconst (v := nI 1) C dX12_add_22 rfl ?_
      refine rn_goto (tgt := 46) C dX12_add_23 (by decide) ?_
      refine rs_putF C dX12_add_46 fp_X12_7 hM0 rfl ?_
      refine rn_aload_n C dX12_add_49 rfl ?_
      refine rs_getFe C dX12_add_50 fl_X12_7 hM0 rfl fs_get ?_
      refine rn_if_eq (tgt := 57) C dX12_add_53 (by decide) (fun hb => absurd hb (show ¬ (nI (1)) = 0 from by decide)) (fun hb => ?_)
      have hret : maddX_f mo to a b ls S = (S.1, S.2.1, fs S.2.2 (mo) 0 (nI (1))) := by
        first | (dsimp only [maddX_f]; done) | (dsimp only [maddX_f]; exact rfl) | exact rfl
      exact rn_vret C Rt dX12_add_56 (pv_of hret) (Nat.zero_le _) (Nat.zero_le _)
    · skip
      refine rn_iload_n C dX12_add_15 rfl ?_
      refine rs_sz C dX12_add_16 mk_X12_isPlace ls_X12_347 (cp_misPl ) rfl rfl (by decide) (Nat.le_of_ble_eq_true rfl) (by decide) (by decide) ?_
      refine rn_if_ne (tgt := 26) C dX12_add_19 (by decide) (fun hb3 => ?_) (fun hb3 => ?_)
      · skip
        exact absurd hbad (by rintro (h | h | h) <;> contradiction)
      · skip
        refine rn_iconst (v := nI 1) C dX12_add_22 rfl ?_
        refine rn_goto (tgt := 46) C dX12_add_23 (by decide) ?_
        refine rs_putF C dX12_add_46 fp_X12_7 hM0 rfl ?_
        refine rn_aload_n C dX12_add_49 rfl ?_
        refine rs_getFe C dX12_add_50 fl_X12_7 hM0 rfl fs_get ?_
        refine rn_if_eq (tgt := 57) C dX12_add_53 (by decide) (fun hb => absurd hb (show ¬ (nI (1)) = 0 from by decide)) (fun hb => ?_)
        have hret : maddX_f mo to a b ls S = (S.1, S.2.1, fs S.2.2 (mo) 0 (nI (1))) := by
          first | (dsimp only [maddX_f]; done) | (dsimp only [maddX_f]; exact rfl) | exact rfl
        exact rn_vret C Rt dX12_add_56 (pv_of hret) (Nat.zero_le _) (Nat.zero_le _)
def mtimesX_f (mo : Nat) (to : Int32) (a : Int32) (S : StT) : StT := (S.1, S.2.1, fs S.2.2 (mo) 0 (nI (1)))
theorem mtimesX_F (mo : Nat) (to : Int32) (a : Int32) (S : StT) : (mtimesX_f mo to a S).2.2 = fs S.2.2 (mo) 0 (nI (1)) := by
  unfold mtimesX_f; first | rfl | ((repeat' split) <;> rfl) | (dsimp only; (repeat' split) <;> rfl)
set_option maxRecDepth 100000 in
set_option maxHeartbeats 400000 in
theorem c_mtimesX {k : KX} {L : Nat → Option Sh} {S : StT} {n : Nat} {mo : Nat} {to : Int32} {a : Int32} (hM : ModelAt k L mo) (hbad : (misPl_f (to) S).1 = 0 ∨ (misPl_f (a) S).1 = 0) :
    Cs k yX12_times cX12_times 3 none 2 0 0 [.ref (k_b k + (mo)), .int (to), .int (a)] (inst k L S.1 S.2.1 S.2.2) n (Pv k L n (mtimesX_f mo to a S)) := by
  refine cs_of (by decide) (Nat.le_of_ble_eq_true rfl) ?_
  intro X hXk C Rt hnm
  subst hXk
  have hM9 := hM
  obtain ⟨hM0, hm1, hm2, hm3, hm4, hm5, hm6, hm7, hm8, hm9, hm10, hm11, hm12, hm13, hm14, hm15, hm16, hm17, hm18, hm19, hm20, hm21, hm22, hm23, hm24, hm25, hm26, hm27⟩ := hM9
  refine rn_lv [(0, .ref (k_b X.1 + (mo))), (1, .int (to)), (2, .int (a))] (fun q h => h) ?_
  refine rn_aload_n C dX12_times_0 rfl ?_
  refine rn_iload_n C dX12_times_1 rfl ?_
  refine rs_sz C dX12_times_2 mk_X12_isPlace ls_X12_347 (cp_misPl ) rfl rfl (by decide) (Nat.le_of_ble_eq_true rfl) (by decide) (by decide) ?_
  refine rn_if_eq (tgt := 15) C dX12_times_5 (by decide) (fun hb1 => ?_) (fun hb1 => ?_)
  · skip
    refine rn_iconst (v := nI 1) C dX12_times_15 rfl ?_
    refine rn_goto (tgt := 20) C dX12_times_16 (by decide) ?_
    refine rs_putF C dX12_times_20 fp_X12_7 hM0 rfl ?_
    refine rn_aload_n C dX12_times_23 rfl ?_
    refine rs_getFe C dX12_times_24 fl_X12_7 hM0 rfl fs_get ?_
    refine rn_if_eq (tgt := 31) C dX12_times_27 (by decide) (fun hb => absurd hb (show ¬ (nI (1)) = 0 from by decide)) (fun hb => ?_)
    have hret : mtimesX_f mo to a S = (S.1, S.2.1, fs S.2.2 (mo) 0 (nI (1))) := by
      first | (dsimp only [mtimesX_f]; done) | (dsimp only [mtimesX_f]; exact rfl) | exact rfl
    exact rn_vret C Rt dX12_times_30 (pv_of hret) (Nat.zero_le _) (Nat.zero_le _)
  · skip
    refine rn_iload_n C dX12_times_8 rfl ?_
    refine rs_sz C dX12_times_9 mk_X12_isPlace ls_X12_347 (cp_misPl ) rfl rfl (by decide) (Nat.le_of_ble_eq_true rfl) (by decide) (by decide) ?_
    refine rn_if_ne (tgt := 19) C dX12_times_12 (by decide) (fun hb2 => ?_) (fun hb2 => ?_)
    · skip
      exact absurd hbad (by rintro (h | h) <;> contradiction)
    · skip
      refine rn_iconst (v := nI 1) C dX12_times_15 rfl ?_
      refine rn_goto (tgt := 20) C dX12_times_16 (by decide) ?_
      refine rs_putF C dX12_times_20 fp_X12_7 hM0 rfl ?_
      refine rn_aload_n C dX12_times_23 rfl ?_
      refine rs_getFe C dX12_times_24 fl_X12_7 hM0 rfl fs_get ?_
      refine rn_if_eq (tgt := 31) C dX12_times_27 (by decide) (fun hb => absurd hb (show ¬ (nI (1)) = 0 from by decide)) (fun hb => ?_)
      have hret : mtimesX_f mo to a S = (S.1, S.2.1, fs S.2.2 (mo) 0 (nI (1))) := by
        first | (dsimp only [mtimesX_f]; done) | (dsimp only [mtimesX_f]; exact rfl) | exact rfl
      exact rn_vret C Rt dX12_times_30 (pv_of hret) (Nat.zero_le _) (Nat.zero_le _)
def mcodeX_f (mo : Nat) (a : Int32) (S : StT) : StT := (S.1, S.2.1, fs S.2.2 (mo) 0 (nI (1)))
theorem mcodeX_F (mo : Nat) (a : Int32) (S : StT) : (mcodeX_f mo a S).2.2 = fs S.2.2 (mo) 0 (nI (1)) := by
  unfold mcodeX_f; first | rfl | ((repeat' split) <;> rfl) | (dsimp only; (repeat' split) <;> rfl)
set_option maxRecDepth 100000 in
set_option maxHeartbeats 400000 in
theorem c_mcodeX {k : KX} {L : Nat → Option Sh} {S : StT} {n : Nat} {mo : Nat} {a : Int32} (hM : ModelAt k L mo) (hbad : (misPl_f (a) S).1 = 0) :
    Cs k yX12_code cX12_code 3 none 2 0 0 [.ref (k_b k + (mo)), .int (a)] (inst k L S.1 S.2.1 S.2.2) n (Pv k L n (mcodeX_f mo a S)) := by
  refine cs_of (by decide) (Nat.le_of_ble_eq_true rfl) ?_
  intro X hXk C Rt hnm
  subst hXk
  have hM9 := hM
  obtain ⟨hM0, hm1, hm2, hm3, hm4, hm5, hm6, hm7, hm8, hm9, hm10, hm11, hm12, hm13, hm14, hm15, hm16, hm17, hm18, hm19, hm20, hm21, hm22, hm23, hm24, hm25, hm26, hm27⟩ := hM9
  refine rn_lv [(0, .ref (k_b X.1 + (mo))), (1, .int (a))] (fun q h => h) ?_
  refine rn_aload_n C dX12_code_0 rfl ?_
  refine rn_iload_n C dX12_code_1 rfl ?_
  refine rs_sz C dX12_code_2 mk_X12_isPlace ls_X12_347 (cp_misPl ) rfl rfl (by decide) (Nat.le_of_ble_eq_true rfl) (by decide) (by decide) ?_
  refine rn_if_eq (tgt := 12) C dX12_code_5 (by decide) (fun hb1 => ?_) (fun hb1 => ?_)
  · skip
    refine rn_iconst (v := nI 1) C dX12_code_12 rfl ?_
    refine rs_putF C dX12_code_13 fp_X12_7 hM0 rfl ?_
    refine rn_aload_n C dX12_code_16 rfl ?_
    refine rs_getFe C dX12_code_17 fl_X12_7 hM0 rfl fs_get ?_
    refine rn_if_eq (tgt := 24) C dX12_code_20 (by decide) (fun hb => absurd hb (show ¬ (nI (1)) = 0 from by decide)) (fun hb => ?_)
    have hret : mcodeX_f mo a S = (S.1, S.2.1, fs S.2.2 (mo) 0 (nI (1))) := by
      first | (dsimp only [mcodeX_f]; done) | (dsimp only [mcodeX_f]; exact rfl) | exact rfl
    exact rn_vret C Rt dX12_code_23 (pv_of hret) (Nat.zero_le _) (Nat.zero_le _)
  · skip
    exact absurd hbad (by assumption)
def msameX_f (mo : Nat) (a : Int32) (b : Int32) (S : StT) : Int32 × StT := (nI (0), (S.1, S.2.1, fs S.2.2 (mo) 0 (nI (1))))
theorem msameX_F (mo : Nat) (a : Int32) (b : Int32) (S : StT) : (msameX_f mo a b S).2.2.2 = fs S.2.2 (mo) 0 (nI (1)) := by
  unfold msameX_f; first | rfl | ((repeat' split) <;> rfl) | (dsimp only; (repeat' split) <;> rfl)
set_option maxRecDepth 100000 in
set_option maxHeartbeats 400000 in
theorem c_msameX {k : KX} {L : Nat → Option Sh} {S : StT} {n : Nat} {mo : Nat} {a : Int32} {b : Int32} (hM : ModelAt k L mo) (hbad : (misPl_f (a) S).1 = 0 ∨ (misPl_f (b) S).1 = 0) :
    Cs k yX12_same cX12_same 3 (some .boolean) 2 0 0 [.ref (k_b k + (mo)), .int (a), .int (b)] (inst k L S.1 S.2.1 S.2.2) n (Pi k L n (msameX_f mo a b S)) := by
  refine cs_of (by decide) (Nat.le_of_ble_eq_true rfl) ?_
  intro X hXk C Rt hnm
  subst hXk
  have hM9 := hM
  obtain ⟨hM0, hm1, hm2, hm3, hm4, hm5, hm6, hm7, hm8, hm9, hm10, hm11, hm12, hm13, hm14, hm15, hm16, hm17, hm18, hm19, hm20, hm21, hm22, hm23, hm24, hm25, hm26, hm27⟩ := hM9
  refine rn_lv [(0, .ref (k_b X.1 + (mo))), (1, .int (a)), (2, .int (b))] (fun q h => h) ?_
  refine rn_aload_n C dX12_same_0 rfl ?_
  refine rn_iload_n C dX12_same_1 rfl ?_
  refine rs_sz C dX12_same_2 mk_X12_isPlace ls_X12_347 (cp_misPl ) rfl rfl (by decide) (Nat.le_of_ble_eq_true rfl) (by decide) (by decide) ?_
  refine rn_if_eq (tgt := 15) C dX12_same_5 (by decide) (fun hb1 => ?_) (fun hb1 => ?_)
  · skip
    refine rn_iconst (v := nI 1) C dX12_same_15 rfl ?_
    refine rn_goto (tgt := 20) C dX12_same_16 (by decide) ?_
    refine rs_putF C dX12_same_20 fp_X12_7 hM0 rfl ?_
    refine rn_aload_n C dX12_same_23 rfl ?_
    refine rs_getFe C dX12_same_24 fl_X12_7 hM0 rfl fs_get ?_
    refine rn_if_ne (tgt := 45) C dX12_same_27 (by decide) (fun _ => ?_) (fun hb => absurd hb (show ¬ (nI (1)) = 0 from by decide))
    refine rn_iconst (v := nI 0) C dX12_same_45 rfl ?_
    have hret : msameX_f mo a b S = (nI (0), (S.1, S.2.1, fs S.2.2 (mo) 0 (nI (1)))) := by
      first | (dsimp only [msameX_f]; done) | (dsimp only [msameX_f]; exact rfl) | exact rfl
    exact rn_zret C Rt dX12_same_46 (by first | rfl | exact rfl) (pi_of hret) (Nat.zero_le _) (Nat.zero_le _)
  · skip
    refine rn_iload_n C dX12_same_8 rfl ?_
    refine rs_sz C dX12_same_9 mk_X12_isPlace ls_X12_347 (cp_misPl ) rfl rfl (by decide) (Nat.le_of_ble_eq_true rfl) (by decide) (by decide) ?_
    refine rn_if_ne (tgt := 19) C dX12_same_12 (by decide) (fun hb2 => ?_) (fun hb2 => ?_)
    · skip
      exact absurd hbad (by rintro (h | h) <;> contradiction)
    · skip
      refine rn_iconst (v := nI 1) C dX12_same_15 rfl ?_
      refine rn_goto (tgt := 20) C dX12_same_16 (by decide) ?_
      refine rs_putF C dX12_same_20 fp_X12_7 hM0 rfl ?_
      refine rn_aload_n C dX12_same_23 rfl ?_
      refine rs_getFe C dX12_same_24 fl_X12_7 hM0 rfl fs_get ?_
      refine rn_if_ne (tgt := 45) C dX12_same_27 (by decide) (fun _ => ?_) (fun hb => absurd hb (show ¬ (nI (1)) = 0 from by decide))
      refine rn_iconst (v := nI 0) C dX12_same_45 rfl ?_
      have hret : msameX_f mo a b S = (nI (0), (S.1, S.2.1, fs S.2.2 (mo) 0 (nI (1)))) := by
        first | (dsimp only [msameX_f]; done) | (dsimp only [msameX_f]; exact rfl) | exact rfl
      exact rn_zret C Rt dX12_same_46 (by first | rfl | exact rfl) (pi_of hret) (Nat.zero_le _) (Nat.zero_le _)
def morderX_f (mo : Nat) (a : Int32) (w_ : Int32) (S : StT) : Int32 × StT := (nI (0), (S.1, S.2.1, fs S.2.2 (mo) 0 (nI (1))))
theorem morderX_F (mo : Nat) (a : Int32) (w_ : Int32) (S : StT) : (morderX_f mo a w_ S).2.2.2 = fs S.2.2 (mo) 0 (nI (1)) := by
  unfold morderX_f; first | rfl | ((repeat' split) <;> rfl) | (dsimp only; (repeat' split) <;> rfl)
set_option maxRecDepth 100000 in
set_option maxHeartbeats 400000 in
theorem c_morderX {k : KX} {L : Nat → Option Sh} {S : StT} {n : Nat} {mo : Nat} {a : Int32} {w_ : Int32} (hM : ModelAt k L mo) (hbad : (misPl_f (a) S).1 = 0 ∨ w_ < 0 ∨ ¬ w_ ≤ nI 2) :
    Cs k yX12_order cX12_order 4 (some .int) 2 0 0 [.ref (k_b k + (mo)), .int (a), .int (w_)] (inst k L S.1 S.2.1 S.2.2) n (Pi k L n (morderX_f mo a w_ S)) := by
  refine cs_of (by decide) (Nat.le_of_ble_eq_true rfl) ?_
  intro X hXk C Rt hnm
  subst hXk
  have hM9 := hM
  obtain ⟨hM0, hm1, hm2, hm3, hm4, hm5, hm6, hm7, hm8, hm9, hm10, hm11, hm12, hm13, hm14, hm15, hm16, hm17, hm18, hm19, hm20, hm21, hm22, hm23, hm24, hm25, hm26, hm27⟩ := hM9
  refine rn_lv [(0, .ref (k_b X.1 + (mo))), (1, .int (a)), (2, .int (w_))] (fun q h => h) ?_
  refine rn_aload_n C dX12_order_0 rfl ?_
  refine rn_iload_n C dX12_order_1 rfl ?_
  refine rs_sz C dX12_order_2 mk_X12_isPlace ls_X12_347 (cp_misPl ) rfl rfl (by decide) (Nat.le_of_ble_eq_true rfl) (by decide) (by decide) ?_
  refine rn_if_eq (tgt := 17) C dX12_order_5 (by decide) (fun hb1 => ?_) (fun hb1 => ?_)
  · skip
    refine rn_iconst (v := nI 1) C dX12_order_17 rfl ?_
    refine rn_goto (tgt := 22) C dX12_order_18 (by decide) ?_
    refine rs_putF C dX12_order_22 fp_X12_7 hM0 rfl ?_
    refine rn_aload_n C dX12_order_25 rfl ?_
    refine rs_getFe C dX12_order_26 fl_X12_7 hM0 rfl fs_get ?_
    refine rn_if_eq (tgt := 34) C dX12_order_29 (by decide) (fun hb => absurd hb (show ¬ (nI (1)) = 0 from by decide)) (fun hb => ?_)
    refine rn_iconst (v := nI 0) C dX12_order_32 rfl ?_
    have hret : morderX_f mo a w_ S = (nI (0), (S.1, S.2.1, fs S.2.2 (mo) 0 (nI (1)))) := by
      first | (dsimp only [morderX_f]; done) | (dsimp only [morderX_f]; exact rfl) | exact rfl
    exact rn_iret C Rt dX12_order_33 (pi_of hret) (Nat.zero_le _) (Nat.zero_le _)
  · skip
    refine rn_iload_n C dX12_order_8 rfl ?_
    refine rn_if_lt (tgt := 17) C dX12_order_9 (by decide) (fun hb2 => ?_) (fun hb2 => ?_)
    · skip
      refine rn_iconst (v := nI 1) C dX12_order_17 rfl ?_
      refine rn_goto (tgt := 22) C dX12_order_18 (by decide) ?_
      refine rs_putF C dX12_order_22 fp_X12_7 hM0 rfl ?_
      refine rn_aload_n C dX12_order_25 rfl ?_
      refine rs_getFe C dX12_order_26 fl_X12_7 hM0 rfl fs_get ?_
      refine rn_if_eq (tgt := 34) C dX12_order_29 (by decide) (fun hb => absurd hb (show ¬ (nI (1)) = 0 from by decide)) (fun hb => ?_)
      refine rn_iconst (v := nI 0) C dX12_order_32 rfl ?_
      have hret : morderX_f mo a w_ S = (nI (0), (S.1, S.2.1, fs S.2.2 (mo) 0 (nI (1)))) := by
        first | (dsimp only [morderX_f]; done) | (dsimp only [morderX_f]; exact rfl) | exact rfl
      exact rn_iret C Rt dX12_order_33 (pi_of hret) (Nat.zero_le _) (Nat.zero_le _)
    · skip
      refine rn_iload_n C dX12_order_12 rfl ?_
      refine rn_iconst (v := nI 2) C dX12_order_13 rfl ?_
      refine rn_icmp_le (tgt := 21) C dX12_order_14 (by decide) (fun hb3 => ?_) (fun hb3 => ?_)
      · skip
        exact absurd hbad (by rintro (h | h | h) <;> contradiction)
      · skip
        refine rn_iconst (v := nI 1) C dX12_order_17 rfl ?_
        refine rn_goto (tgt := 22) C dX12_order_18 (by decide) ?_
        refine rs_putF C dX12_order_22 fp_X12_7 hM0 rfl ?_
        refine rn_aload_n C dX12_order_25 rfl ?_
        refine rs_getFe C dX12_order_26 fl_X12_7 hM0 rfl fs_get ?_
        refine rn_if_eq (tgt := 34) C dX12_order_29 (by decide) (fun hb => absurd hb (show ¬ (nI (1)) = 0 from by decide)) (fun hb => ?_)
        refine rn_iconst (v := nI 0) C dX12_order_32 rfl ?_
        have hret : morderX_f mo a w_ S = (nI (0), (S.1, S.2.1, fs S.2.2 (mo) 0 (nI (1)))) := by
          first | (dsimp only [morderX_f]; done) | (dsimp only [morderX_f]; exact rfl) | exact rfl
        exact rn_iret C Rt dX12_order_33 (pi_of hret) (Nat.zero_le _) (Nat.zero_le _)
def mpoint_f (c : Bool) (mo : Nat) (pl : Nat) (S : StT) : Int32 × StT := (let S1 := mcho_f c (mo) (S.1, S.2.1, fs S.2.2 (mo) 0 (nI (0))); (let r2 := mdec_f c (mo) (3 * pl) (mo + 2) (0) (S1.1, S1.2.1, fs (fs (fs S.2.2 (mo) 0 (nI (0))) (mo) 13 (nI (bN c))) (mo) 14 (nI (pN c))); (if (r2.1) ≠ 0 then (nI (1), (va_up r2.2.1 (mo + 10) (upd (r2.2.1 (mo + 10)) (pl) (nI (bN c))), r2.2.2.1, fs (fs (fs S.2.2 (mo) 0 (nI (0))) (mo) 13 (nI (bN c))) (mo) 14 (nI (pN c)))) else (nI (0), (r2.2.1, r2.2.2.1, fs (fs (fs S.2.2 (mo) 0 (nI (0))) (mo) 13 (nI (bN c))) (mo) 14 (nI (pN c)))))))
theorem mpoint_F (c : Bool) (mo : Nat) (pl : Nat) (S : StT) : (mpoint_f c mo pl S).2.2.2 = fs (fs (fs S.2.2 (mo) 0 (nI (0))) (mo) 13 (nI (bN c))) (mo) 14 (nI (pN c)) := by
  unfold mpoint_f; first | rfl | ((repeat' split) <;> rfl) | (dsimp only; (repeat' split) <;> rfl)
set_option maxRecDepth 100000 in
set_option maxHeartbeats 400000 in
theorem c_mpoint {k : KX} {L : Nat → Option Sh} {S : StT} {n : Nat} {c : Bool} {mo : Nat} {pl : Nat} (hM : ModelAt k L mo) (hpl : pl < 3) :
    Cs k yX12_point cX12_point 3 (some .boolean) 7 0 0 [.ref (k_b k + (mo)), .int (nI (bN c)), .int (nI (pl))] (inst k L S.1 S.2.1 S.2.2) n (Pi k L n (mpoint_f c mo pl S)) := by
  refine cs_of (by decide) (Nat.le_of_ble_eq_true rfl) ?_
  intro X hXk C Rt hnm
  subst hXk
  have hM9 := hM
  obtain ⟨hM0, hm1, hm2, hm3, hm4, hm5, hm6, hm7, hm8, hm9, hm10, hm11, hm12, hm13, hm14, hm15, hm16, hm17, hm18, hm19, hm20, hm21, hm22, hm23, hm24, hm25, hm26, hm27⟩ := hM9
  obtain ⟨hp1, hp2⟩ := pN_le c
  have hbn := bN_le c
  obtain ⟨hk1, hk2⟩ := cB_le c
  have hfb : 32 ≤ fB c ∧ fB c ≤ 56 := by cases c <;> decide
  obtain ⟨hf1, hf2⟩ := hfb
  refine rn_lv [(0, .ref (k_b X.1 + (mo))), (1, .int (nI (bN c))), (2, .int (nI (pl)))] (fun q h => h) ?_
  refine rn_aload_n C dX12_point_0 rfl ?_
  refine rn_iload_n C dX12_point_1 rfl ?_
  refine rn_if_lt (tgt := 17) C dX12_point_2 (by decide) (fun hb => absurd hb (nI_n0 (by omega))) (fun hb => ?_)
  refine rn_iload_n C dX12_point_5 rfl ?_
  refine rn_iconst (v := nI 1) C dX12_point_6 rfl ?_
  refine rn_icmp_gt (tgt := 17) C dX12_point_7 (by decide) (fun hb => absurd hb (fun h => absurd ((nI_ltI (by omega) (by omega)).mp h) (by omega))) (fun hb => ?_)
  refine rn_iload_n C dX12_point_10 rfl ?_
  refine rs_sz C dX12_point_11 mk_X12_isPlace ls_X12_347 (cv_misPl (p := pl) (by omega)) rfl rfl (by decide) (Nat.le_of_ble_eq_true rfl) (by decide) (by decide) ?_
  refine rn_if_ne (tgt := 21) C dX12_point_14 (by decide) (fun _ => ?_) (fun hb => absurd hb (show ¬ (nI (1)) = 0 from by decide))
  refine rn_iconst (v := nI 0) C dX12_point_21 rfl ?_
  refine rs_putF C dX12_point_22 fp_X12_7 hM0 rfl ?_
  refine rn_aload_n C dX12_point_25 rfl ?_
  refine rs_getFe C dX12_point_26 fl_X12_7 hM0 rfl fs_get ?_
  refine rn_if_eq (tgt := 34) C dX12_point_29 (by decide) (fun hb => ?_) (fun hb => absurd (show (nI (0)) = 0 from by decide) hb)
  refine rn_aload_n C dX12_point_34 rfl ?_
  refine rn_iload_n C dX12_point_35 rfl ?_
  refine rs_vv C dX12_point_36 mk_X12_choose lv_X12_131 (c_mcho (S := (S.1, S.2.1, fs S.2.2 (mo) 0 (nI (0)))) hM) hM0 rfl rfl rfl rfl (by decide) (Nat.le_of_ble_eq_true rfl) (by decide) (by decide) ?_
  rw [show (mcho_f c (mo) (S.1, S.2.1, fs S.2.2 (mo) 0 (nI (0)))).2.2 = fs (fs (fs S.2.2 (mo) 0 (nI (0))) (mo) 13 (nI (bN c))) (mo) 14 (nI (pN c)) from (mcho_F c (mo) (S.1, S.2.1, fs S.2.2 (mo) 0 (nI (0))))]
  generalize hS1 : mcho_f c (mo) (S.1, S.2.1, fs S.2.2 (mo) 0 (nI (0))) = S1
  refine rn_aload_n C dX12_point_39 rfl ?_
  refine rn_iconst (v := nI 3) C dX12_point_40 rfl ?_
  refine rn_iload_n C dX12_point_41 rfl ?_
  refine rn_imul C dX12_point_42 (pk_mul _ _) ?_
  refine rn_aload_n C dX12_point_43 rfl ?_
  refine rs_get C dX12_point_44 fl_X12_17 hM0 rfl ?_
  refine rn_iconst (v := nI 0) C dX12_point_47 rfl ?_
  refine rs_vz C dX12_point_48 mk_X12_decode lv_X12_315 (c_mdec (S := (S1.1, S1.2.1, fs (fs (fs S.2.2 (mo) 0 (nI (0))) (mo) 13 (nI (bN c))) (mo) 14 (nI (pN c)))) hM (by omega) hm2 (by decide) (by omega) ((fs_oth (by decide)).trans fs_get) fs_get) hM0 rfl rfl rfl rfl (by decide) (Nat.le_of_ble_eq_true rfl) (by decide) (by decide) ?_
  rw [show (mdec_f c (mo) (3 * pl) (mo + 2) (0) (S1.1, S1.2.1, fs (fs (fs S.2.2 (mo) 0 (nI (0))) (mo) 13 (nI (bN c))) (mo) 14 (nI (pN c)))).2.2.2 = fs (fs (fs S.2.2 (mo) 0 (nI (0))) (mo) 13 (nI (bN c))) (mo) 14 (nI (pN c)) from (mdec_F c (mo) (3 * pl) (mo + 2) (0) (S1.1, S1.2.1, fs (fs (fs S.2.2 (mo) 0 (nI (0))) (mo) 13 (nI (bN c))) (mo) 14 (nI (pN c))))]
  generalize hr2 : mdec_f c (mo) (3 * pl) (mo + 2) (0) (S1.1, S1.2.1, fs (fs (fs S.2.2 (mo) 0 (nI (0))) (mo) 13 (nI (bN c))) (mo) 14 (nI (pN c))) = r2
  refine rn_if_ne (tgt := 56) C dX12_point_51 (by decide) (fun hb3 => ?_) (fun hb3 => ?_)
  · skip
    refine rn_aload_n C dX12_point_56 rfl ?_
    refine rs_get C dX12_point_57 fl_X12_57 hM0 rfl ?_
    refine rn_iload_n C dX12_point_60 rfl ?_
    refine rn_iload_n C dX12_point_61 rfl ?_
    refine rs_iastore C dX12_point_62 hm10 rfl (by omega) (by decide) ?_
    refine rn_iconst (v := nI 1) C dX12_point_63 rfl ?_
    have hret : mpoint_f c mo pl S = (nI (1), (va_up r2.2.1 (mo + 10) (upd (r2.2.1 (mo + 10)) (pl) (nI (bN c))), r2.2.2.1, fs (fs (fs S.2.2 (mo) 0 (nI (0))) (mo) 13 (nI (bN c))) (mo) 14 (nI (pN c)))) := by
      subst hr2
      subst hS1
      first | (dsimp only [mpoint_f]; done) | (dsimp only [mpoint_f]; exact (if_pos hb3)) | exact (if_pos hb3)
    exact rn_zret C Rt dX12_point_64 (by first | rfl | exact rfl) (pi_of hret) (Nat.zero_le _) (Nat.zero_le _)
  · skip
    refine rn_iconst (v := nI 0) C dX12_point_54 rfl ?_
    have hret : mpoint_f c mo pl S = (nI (0), (r2.2.1, r2.2.2.1, fs (fs (fs S.2.2 (mo) 0 (nI (0))) (mo) 13 (nI (bN c))) (mo) 14 (nI (pN c)))) := by
      subst hr2
      subst hS1
      first | (dsimp only [mpoint_f]; done) | (dsimp only [mpoint_f]; exact (if_neg (fun q => q hb3))) | exact (if_neg (fun q => q hb3))
    exact rn_zret C Rt dX12_point_55 (by first | rfl | exact rfl) (pi_of hret) (Nat.zero_le _) (Nat.zero_le _)
def madd0_f (c : Bool) (mo : Nat) (to : Nat) (a : Nat) (b : Nat) (S : StT) : StT := (let S1 := mcho_f c (mo) (S.1, S.2.1, fs S.2.2 (mo) 0 (nI (0))); (let S2 := mcopyP_f (mo) (54) (3 * b) (S1.1, S1.2.1, fs (fs (fs S.2.2 (mo) 0 (nI (0))) (mo) 13 (nI (bN c))) (mo) 14 (nI (pN c))); (let S3 := msum_f c (mo) (57) (3 * a) (54) (S2.1, S2.2.1, fs (fs (fs S.2.2 (mo) 0 (nI (0))) (mo) 13 (nI (bN c))) (mo) 14 (nI (pN c))); (let S4 := mcopyP_f (mo) (3 * to) (57) (S3.1, S3.2.1, fs (fs (fs S.2.2 (mo) 0 (nI (0))) (mo) 13 (nI (bN c))) (mo) 14 (nI (pN c))); (va_up S4.1 (mo + 10) (upd (S4.1 (mo + 10)) (to) (nI (bN c))), S4.2.1, fs (fs (fs S.2.2 (mo) 0 (nI (0))) (mo) 13 (nI (bN c))) (mo) 14 (nI (pN c)))))))
theorem madd0_F (c : Bool) (mo : Nat) (to : Nat) (a : Nat) (b : Nat) (S : StT) : (madd0_f c mo to a b S).2.2 = fs (fs (fs S.2.2 (mo) 0 (nI (0))) (mo) 13 (nI (bN c))) (mo) 14 (nI (pN c)) := by
  unfold madd0_f; first | rfl | ((repeat' split) <;> rfl) | (dsimp only; (repeat' split) <;> rfl)
set_option maxRecDepth 100000 in
set_option maxHeartbeats 400000 in
theorem c_madd0 {k : KX} {L : Nat → Option Sh} {S : StT} {n : Nat} {c : Bool} {mo : Nat} {to : Nat} {a : Nat} {b : Nat} (hM : ModelAt k L mo) (hto : to < 3) (ha : a < 3) (hb : b < 3) (hca : S.1 (mo + 10) a = nI (bN c)) (hcb : S.1 (mo + 10) b = nI (bN c)) :
    Cs k yX12_add cX12_add 5 none 5 0 0 [.ref (k_b k + (mo)), .int (nI (to)), .int (nI (a)), .int (nI (b)), .int (nI (0))] (inst k L S.1 S.2.1 S.2.2) n (Pv k L n (madd0_f c mo to a b S)) := by
  refine cs_of (by decide) (Nat.le_of_ble_eq_true rfl) ?_
  intro X hXk C Rt hnm
  subst hXk
  have hM9 := hM
  obtain ⟨hM0, hm1, hm2, hm3, hm4, hm5, hm6, hm7, hm8, hm9, hm10, hm11, hm12, hm13, hm14, hm15, hm16, hm17, hm18, hm19, hm20, hm21, hm22, hm23, hm24, hm25, hm26, hm27⟩ := hM9
  obtain ⟨hp1, hp2⟩ := pN_le c
  have hbn := bN_le c
  obtain ⟨hk1, hk2⟩ := cB_le c
  have hfb : 32 ≤ fB c ∧ fB c ≤ 56 := by cases c <;> decide
  obtain ⟨hf1, hf2⟩ := hfb
  refine rn_lv [(0, .ref (k_b X.1 + (mo))), (1, .int (nI (to))), (2, .int (nI (a))), (3, .int (nI (b))), (4, .int (nI (0)))] (fun q h => h) ?_
  refine rn_aload_n C dX12_add_0 rfl ?_
  refine rn_iload_n C dX12_add_1 rfl ?_
  refine rs_sz C dX12_add_2 mk_X12_isPlace ls_X12_347 (cv_misPl (p := to) (by omega)) rfl rfl (by decide) (Nat.le_of_ble_eq_true rfl) (by decide) (by decide) ?_
  refine rn_if_eq (tgt := 22) C dX12_add_5 (by decide) (fun hb => absurd hb (show ¬ (nI (1)) = 0 from by decide)) (fun hb => ?_)
  refine rn_iload_n C dX12_add_8 rfl ?_
  refine rs_sz C dX12_add_9 mk_X12_isPlace ls_X12_347 (cv_misPl (p := a) (by omega)) rfl rfl (by decide) (Nat.le_of_ble_eq_true rfl) (by decide) (by decide) ?_
  refine rn_if_eq (tgt := 22) C dX12_add_12 (by decide) (fun hb => absurd hb (show ¬ (nI (1)) = 0 from by decide)) (fun hb => ?_)
  refine rn_iload_n C dX12_add_15 rfl ?_
  refine rs_sz C dX12_add_16 mk_X12_isPlace ls_X12_347 (cv_misPl (p := b) (by omega)) rfl rfl (by decide) (Nat.le_of_ble_eq_true rfl) (by decide) (by decide) ?_
  refine rn_if_ne (tgt := 26) C dX12_add_19 (by decide) (fun _ => ?_) (fun hb => absurd hb (show ¬ (nI (1)) = 0 from by decide))
  refine rn_aload_n C dX12_add_26 rfl ?_
  refine rs_get C dX12_add_27 fl_X12_57 hM0 rfl ?_
  refine rn_iload_n C dX12_add_30 rfl ?_
  refine rs_iaload C dX12_add_31 hm10 rfl (by omega) (by decide) ?_
  rw [show S.1 (mo + 10) (a) = nI (bN c) from hca]
  refine rn_aload_n C dX12_add_32 rfl ?_
  refine rs_get C dX12_add_33 fl_X12_57 hM0 rfl ?_
  refine rn_iload_n C dX12_add_36 rfl ?_
  refine rs_iaload C dX12_add_37 hm10 rfl (by omega) (by decide) ?_
  rw [show S.1 (mo + 10) (b) = nI (bN c) from hcb]
  refine rn_icmp_eq (tgt := 45) C dX12_add_38 (by decide) (fun hb => ?_) (fun hb => absurd rfl hb)
  refine rn_iconst (v := nI 0) C dX12_add_45 rfl ?_
  refine rs_putF C dX12_add_46 fp_X12_7 hM0 rfl ?_
  refine rn_aload_n C dX12_add_49 rfl ?_
  refine rs_getFe C dX12_add_50 fl_X12_7 hM0 rfl fs_get ?_
  refine rn_if_eq (tgt := 57) C dX12_add_53 (by decide) (fun hb => ?_) (fun hb => absurd (show (nI (0)) = 0 from by decide) hb)
  refine rn_aload_n C dX12_add_57 rfl ?_
  refine rn_aload_n C dX12_add_58 rfl ?_
  refine rs_get C dX12_add_59 fl_X12_57 hM0 rfl ?_
  refine rn_iload_n C dX12_add_62 rfl ?_
  refine rs_iaload C dX12_add_63 hm10 rfl (by omega) (by decide) ?_
  rw [show S.1 (mo + 10) (a) = nI (bN c) from hca]
  refine rs_vv C dX12_add_64 mk_X12_choose lv_X12_131 (c_mcho (S := (S.1, S.2.1, fs S.2.2 (mo) 0 (nI (0)))) hM) hM0 rfl rfl rfl rfl (by decide) (Nat.le_of_ble_eq_true rfl) (by decide) (by decide) ?_
  rw [show (mcho_f c (mo) (S.1, S.2.1, fs S.2.2 (mo) 0 (nI (0)))).2.2 = fs (fs (fs S.2.2 (mo) 0 (nI (0))) (mo) 13 (nI (bN c))) (mo) 14 (nI (pN c)) from (mcho_F c (mo) (S.1, S.2.1, fs S.2.2 (mo) 0 (nI (0))))]
  generalize hS1 : mcho_f c (mo) (S.1, S.2.1, fs S.2.2 (mo) 0 (nI (0))) = S1
  refine rn_aload_n C dX12_add_67 rfl ?_
  refine rn_bipush (v := nI 54) C dX12_add_68 rfl ?_
  refine rn_iconst (v := nI 3) C dX12_add_70 rfl ?_
  refine rn_iload_n C dX12_add_71 rfl ?_
  refine rn_imul C dX12_add_72 (pk_mul _ _) ?_
  refine rs_vv C dX12_add_73 mk_X12_copyPoint lv_X12_221 (c_mcopyP (S := (S1.1, S1.2.1, fs (fs (fs S.2.2 (mo) 0 (nI (0))) (mo) 13 (nI (bN c))) (mo) 14 (nI (pN c)))) hM (by omega) (by omega)) hM0 rfl rfl rfl rfl (by decide) (Nat.le_of_ble_eq_true rfl) (by decide) (by decide) ?_
  rw [show (mcopyP_f (mo) (54) (3 * b) (S1.1, S1.2.1, fs (fs (fs S.2.2 (mo) 0 (nI (0))) (mo) 13 (nI (bN c))) (mo) 14 (nI (pN c)))).2.2 = fs (fs (fs S.2.2 (mo) 0 (nI (0))) (mo) 13 (nI (bN c))) (mo) 14 (nI (pN c)) from (mcopyP_F (mo) (54) (3 * b) (S1.1, S1.2.1, fs (fs (fs S.2.2 (mo) 0 (nI (0))) (mo) 13 (nI (bN c))) (mo) 14 (nI (pN c))))]
  generalize hS2 : mcopyP_f (mo) (54) (3 * b) (S1.1, S1.2.1, fs (fs (fs S.2.2 (mo) 0 (nI (0))) (mo) 13 (nI (bN c))) (mo) 14 (nI (pN c))) = S2
  refine rn_iload C dX12_add_76 rfl ?_
  refine rn_if_eq (tgt := 87) C dX12_add_78 (by decide) (fun hb => ?_) (fun hb => absurd (show (nI (0)) = 0 from by decide) hb)
  refine rn_aload_n C dX12_add_87 rfl ?_
  refine rn_bipush (v := nI 57) C dX12_add_88 rfl ?_
  refine rn_iconst (v := nI 3) C dX12_add_90 rfl ?_
  refine rn_iload_n C dX12_add_91 rfl ?_
  refine rn_imul C dX12_add_92 (pk_mul _ _) ?_
  refine rn_bipush (v := nI 54) C dX12_add_93 rfl ?_
  refine rs_vv C dX12_add_95 mk_X12_sum lv_X12_224 (c_msum (S := (S2.1, S2.2.1, fs (fs (fs S.2.2 (mo) 0 (nI (0))) (mo) 13 (nI (bN c))) (mo) 14 (nI (pN c)))) hM (by omega) (by omega) (by omega) ((fs_oth (by decide)).trans fs_get) fs_get) hM0 rfl rfl rfl rfl (by decide) (Nat.le_of_ble_eq_true rfl) (by decide) (by decide) ?_
  rw [show (msum_f c (mo) (57) (3 * a) (54) (S2.1, S2.2.1, fs (fs (fs S.2.2 (mo) 0 (nI (0))) (mo) 13 (nI (bN c))) (mo) 14 (nI (pN c)))).2.2 = fs (fs (fs S.2.2 (mo) 0 (nI (0))) (mo) 13 (nI (bN c))) (mo) 14 (nI (pN c)) from (msum_F c (mo) (57) (3 * a) (54) (S2.1, S2.2.1, fs (fs (fs S.2.2 (mo) 0 (nI (0))) (mo) 13 (nI (bN c))) (mo) 14 (nI (pN c))))]
  generalize hS3 : msum_f c (mo) (57) (3 * a) (54) (S2.1, S2.2.1, fs (fs (fs S.2.2 (mo) 0 (nI (0))) (mo) 13 (nI (bN c))) (mo) 14 (nI (pN c))) = S3
  refine rn_aload_n C dX12_add_98 rfl ?_
  refine rn_iconst (v := nI 3) C dX12_add_99 rfl ?_
  refine rn_iload_n C dX12_add_100 rfl ?_
  refine rn_imul C dX12_add_101 (pk_mul _ _) ?_
  refine rn_bipush (v := nI 57) C dX12_add_102 rfl ?_
  refine rs_vv C dX12_add_104 mk_X12_copyPoint lv_X12_221 (c_mcopyP (S := (S3.1, S3.2.1, fs (fs (fs S.2.2 (mo) 0 (nI (0))) (mo) 13 (nI (bN c))) (mo) 14 (nI (pN c)))) hM (by omega) (by omega)) hM0 rfl rfl rfl rfl (by decide) (Nat.le_of_ble_eq_true rfl) (by decide) (by decide) ?_
  rw [show (mcopyP_f (mo) (3 * to) (57) (S3.1, S3.2.1, fs (fs (fs S.2.2 (mo) 0 (nI (0))) (mo) 13 (nI (bN c))) (mo) 14 (nI (pN c)))).2.2 = fs (fs (fs S.2.2 (mo) 0 (nI (0))) (mo) 13 (nI (bN c))) (mo) 14 (nI (pN c)) from (mcopyP_F (mo) (3 * to) (57) (S3.1, S3.2.1, fs (fs (fs S.2.2 (mo) 0 (nI (0))) (mo) 13 (nI (bN c))) (mo) 14 (nI (pN c))))]
  generalize hS4 : mcopyP_f (mo) (3 * to) (57) (S3.1, S3.2.1, fs (fs (fs S.2.2 (mo) 0 (nI (0))) (mo) 13 (nI (bN c))) (mo) 14 (nI (pN c))) = S4
  refine rn_aload_n C dX12_add_107 rfl ?_
  refine rs_get C dX12_add_108 fl_X12_57 hM0 rfl ?_
  refine rn_iload_n C dX12_add_111 rfl ?_
  refine rn_aload_n C dX12_add_112 rfl ?_
  refine rs_getFe C dX12_add_113 fl_X12_51 hM0 rfl ((fs_oth (by decide)).trans fs_get) ?_
  refine rs_iastore C dX12_add_116 hm10 rfl (by omega) (by decide) ?_
  have hret : madd0_f c mo to a b S = (va_up S4.1 (mo + 10) (upd (S4.1 (mo + 10)) (to) (nI (bN c))), S4.2.1, fs (fs (fs S.2.2 (mo) 0 (nI (0))) (mo) 13 (nI (bN c))) (mo) 14 (nI (pN c))) := by
    subst hS4
    subst hS3
    subst hS2
    subst hS1
    first | (dsimp only [madd0_f]; done) | (dsimp only [madd0_f]; exact rfl) | exact rfl
  exact rn_vret C Rt dX12_add_117 (pv_of hret) (Nat.zero_le _) (Nat.zero_le _)
def madd1_f (c : Bool) (mo : Nat) (to : Nat) (a : Nat) (b : Nat) (S : StT) : StT := (let S1 := mcho_f c (mo) (S.1, S.2.1, fs S.2.2 (mo) 0 (nI (0))); (let S2 := mcopyP_f (mo) (54) (3 * b) (S1.1, S1.2.1, fs (fs (fs S.2.2 (mo) 0 (nI (0))) (mo) 13 (nI (bN c))) (mo) 14 (nI (pN c))); (let S3 := mneg_f c (mo) (54) (S2.1, S2.2.1, fs (fs (fs S.2.2 (mo) 0 (nI (0))) (mo) 13 (nI (bN c))) (mo) 14 (nI (pN c))); (let S4 := msum_f c (mo) (57) (3 * a) (54) (S3.1, S3.2.1, fs (fs (fs S.2.2 (mo) 0 (nI (0))) (mo) 13 (nI (bN c))) (mo) 14 (nI (pN c))); (let S5 := mcopyP_f (mo) (3 * to) (57) (S4.1, S4.2.1, fs (fs (fs S.2.2 (mo) 0 (nI (0))) (mo) 13 (nI (bN c))) (mo) 14 (nI (pN c))); (va_up S5.1 (mo + 10) (upd (S5.1 (mo + 10)) (to) (nI (bN c))), S5.2.1, fs (fs (fs S.2.2 (mo) 0 (nI (0))) (mo) 13 (nI (bN c))) (mo) 14 (nI (pN c))))))))
theorem madd1_F (c : Bool) (mo : Nat) (to : Nat) (a : Nat) (b : Nat) (S : StT) : (madd1_f c mo to a b S).2.2 = fs (fs (fs S.2.2 (mo) 0 (nI (0))) (mo) 13 (nI (bN c))) (mo) 14 (nI (pN c)) := by
  unfold madd1_f; first | rfl | ((repeat' split) <;> rfl) | (dsimp only; (repeat' split) <;> rfl)
set_option maxRecDepth 100000 in
set_option maxHeartbeats 400000 in
theorem c_madd1 {k : KX} {L : Nat → Option Sh} {S : StT} {n : Nat} {c : Bool} {mo : Nat} {to : Nat} {a : Nat} {b : Nat} (hM : ModelAt k L mo) (hto : to < 3) (ha : a < 3) (hb : b < 3) (hca : S.1 (mo + 10) a = nI (bN c)) (hcb : S.1 (mo + 10) b = nI (bN c)) :
    Cs k yX12_add cX12_add 5 none 5 0 0 [.ref (k_b k + (mo)), .int (nI (to)), .int (nI (a)), .int (nI (b)), .int (nI (1))] (inst k L S.1 S.2.1 S.2.2) n (Pv k L n (madd1_f c mo to a b S)) := by
  refine cs_of (by decide) (Nat.le_of_ble_eq_true rfl) ?_
  intro X hXk C Rt hnm
  subst hXk
  have hM9 := hM
  obtain ⟨hM0, hm1, hm2, hm3, hm4, hm5, hm6, hm7, hm8, hm9, hm10, hm11, hm12, hm13, hm14, hm15, hm16, hm17, hm18, hm19, hm20, hm21, hm22, hm23, hm24, hm25, hm26, hm27⟩ := hM9
  obtain ⟨hp1, hp2⟩ := pN_le c
  have hbn := bN_le c
  obtain ⟨hk1, hk2⟩ := cB_le c
  have hfb : 32 ≤ fB c ∧ fB c ≤ 56 := by cases c <;> decide
  obtain ⟨hf1, hf2⟩ := hfb
  refine rn_lv [(0, .ref (k_b X.1 + (mo))), (1, .int (nI (to))), (2, .int (nI (a))), (3, .int (nI (b))), (4, .int (nI (1)))] (fun q h => h) ?_
  refine rn_aload_n C dX12_add_0 rfl ?_
  refine rn_iload_n C dX12_add_1 rfl ?_
  refine rs_sz C dX12_add_2 mk_X12_isPlace ls_X12_347 (cv_misPl (p := to) (by omega)) rfl rfl (by decide) (Nat.le_of_ble_eq_true rfl) (by decide) (by decide) ?_
  refine rn_if_eq (tgt := 22) C dX12_add_5 (by decide) (fun hb => absurd hb (show ¬ (nI (1)) = 0 from by decide)) (fun hb => ?_)
  refine rn_iload_n C dX12_add_8 rfl ?_
  refine rs_sz C dX12_add_9 mk_X12_isPlace ls_X12_347 (cv_misPl (p := a) (by omega)) rfl rfl (by decide) (Nat.le_of_ble_eq_true rfl) (by decide) (by decide) ?_
  refine rn_if_eq (tgt := 22) C dX12_add_12 (by decide) (fun hb => absurd hb (show ¬ (nI (1)) = 0 from by decide)) (fun hb => ?_)
  refine rn_iload_n C dX12_add_15 rfl ?_
  refine rs_sz C dX12_add_16 mk_X12_isPlace ls_X12_347 (cv_misPl (p := b) (by omega)) rfl rfl (by decide) (Nat.le_of_ble_eq_true rfl) (by decide) (by decide) ?_
  refine rn_if_ne (tgt := 26) C dX12_add_19 (by decide) (fun _ => ?_) (fun hb => absurd hb (show ¬ (nI (1)) = 0 from by decide))
  refine rn_aload_n C dX12_add_26 rfl ?_
  refine rs_get C dX12_add_27 fl_X12_57 hM0 rfl ?_
  refine rn_iload_n C dX12_add_30 rfl ?_
  refine rs_iaload C dX12_add_31 hm10 rfl (by omega) (by decide) ?_
  rw [show S.1 (mo + 10) (a) = nI (bN c) from hca]
  refine rn_aload_n C dX12_add_32 rfl ?_
  refine rs_get C dX12_add_33 fl_X12_57 hM0 rfl ?_
  refine rn_iload_n C dX12_add_36 rfl ?_
  refine rs_iaload C dX12_add_37 hm10 rfl (by omega) (by decide) ?_
  rw [show S.1 (mo + 10) (b) = nI (bN c) from hcb]
  refine rn_icmp_eq (tgt := 45) C dX12_add_38 (by decide) (fun hb => ?_) (fun hb => absurd rfl hb)
  refine rn_iconst (v := nI 0) C dX12_add_45 rfl ?_
  refine rs_putF C dX12_add_46 fp_X12_7 hM0 rfl ?_
  refine rn_aload_n C dX12_add_49 rfl ?_
  refine rs_getFe C dX12_add_50 fl_X12_7 hM0 rfl fs_get ?_
  refine rn_if_eq (tgt := 57) C dX12_add_53 (by decide) (fun hb => ?_) (fun hb => absurd (show (nI (0)) = 0 from by decide) hb)
  refine rn_aload_n C dX12_add_57 rfl ?_
  refine rn_aload_n C dX12_add_58 rfl ?_
  refine rs_get C dX12_add_59 fl_X12_57 hM0 rfl ?_
  refine rn_iload_n C dX12_add_62 rfl ?_
  refine rs_iaload C dX12_add_63 hm10 rfl (by omega) (by decide) ?_
  rw [show S.1 (mo + 10) (a) = nI (bN c) from hca]
  refine rs_vv C dX12_add_64 mk_X12_choose lv_X12_131 (c_mcho (S := (S.1, S.2.1, fs S.2.2 (mo) 0 (nI (0)))) hM) hM0 rfl rfl rfl rfl (by decide) (Nat.le_of_ble_eq_true rfl) (by decide) (by decide) ?_
  rw [show (mcho_f c (mo) (S.1, S.2.1, fs S.2.2 (mo) 0 (nI (0)))).2.2 = fs (fs (fs S.2.2 (mo) 0 (nI (0))) (mo) 13 (nI (bN c))) (mo) 14 (nI (pN c)) from (mcho_F c (mo) (S.1, S.2.1, fs S.2.2 (mo) 0 (nI (0))))]
  generalize hS1 : mcho_f c (mo) (S.1, S.2.1, fs S.2.2 (mo) 0 (nI (0))) = S1
  refine rn_aload_n C dX12_add_67 rfl ?_
  refine rn_bipush (v := nI 54) C dX12_add_68 rfl ?_
  refine rn_iconst (v := nI 3) C dX12_add_70 rfl ?_
  refine rn_iload_n C dX12_add_71 rfl ?_
  refine rn_imul C dX12_add_72 (pk_mul _ _) ?_
  refine rs_vv C dX12_add_73 mk_X12_copyPoint lv_X12_221 (c_mcopyP (S := (S1.1, S1.2.1, fs (fs (fs S.2.2 (mo) 0 (nI (0))) (mo) 13 (nI (bN c))) (mo) 14 (nI (pN c)))) hM (by omega) (by omega)) hM0 rfl rfl rfl rfl (by decide) (Nat.le_of_ble_eq_true rfl) (by decide) (by decide) ?_
  rw [show (mcopyP_f (mo) (54) (3 * b) (S1.1, S1.2.1, fs (fs (fs S.2.2 (mo) 0 (nI (0))) (mo) 13 (nI (bN c))) (mo) 14 (nI (pN c)))).2.2 = fs (fs (fs S.2.2 (mo) 0 (nI (0))) (mo) 13 (nI (bN c))) (mo) 14 (nI (pN c)) from (mcopyP_F (mo) (54) (3 * b) (S1.1, S1.2.1, fs (fs (fs S.2.2 (mo) 0 (nI (0))) (mo) 13 (nI (bN c))) (mo) 14 (nI (pN c))))]
  generalize hS2 : mcopyP_f (mo) (54) (3 * b) (S1.1, S1.2.1, fs (fs (fs S.2.2 (mo) 0 (nI (0))) (mo) 13 (nI (bN c))) (mo) 14 (nI (pN c))) = S2
  refine rn_iload C dX12_add_76 rfl ?_
  refine rn_if_eq (tgt := 87) C dX12_add_78 (by decide) (fun hb => absurd hb (show ¬ (nI (1)) = 0 from by decide)) (fun hb => ?_)
  refine rn_aload_n C dX12_add_81 rfl ?_
  refine rn_bipush (v := nI 54) C dX12_add_82 rfl ?_
  refine rs_vv C dX12_add_84 mk_X12_negate lv_X12_350 (c_mneg (S := (S2.1, S2.2.1, fs (fs (fs S.2.2 (mo) 0 (nI (0))) (mo) 13 (nI (bN c))) (mo) 14 (nI (pN c)))) hM (by omega) ((fs_oth (by decide)).trans fs_get) fs_get) hM0 rfl rfl rfl rfl (by decide) (Nat.le_of_ble_eq_true rfl) (by decide) (by decide) ?_
  rw [show (mneg_f c (mo) (54) (S2.1, S2.2.1, fs (fs (fs S.2.2 (mo) 0 (nI (0))) (mo) 13 (nI (bN c))) (mo) 14 (nI (pN c)))).2.2 = fs (fs (fs S.2.2 (mo) 0 (nI (0))) (mo) 13 (nI (bN c))) (mo) 14 (nI (pN c)) from (mneg_F c (mo) (54) (S2.1, S2.2.1, fs (fs (fs S.2.2 (mo) 0 (nI (0))) (mo) 13 (nI (bN c))) (mo) 14 (nI (pN c))))]
  generalize hS3 : mneg_f c (mo) (54) (S2.1, S2.2.1, fs (fs (fs S.2.2 (mo) 0 (nI (0))) (mo) 13 (nI (bN c))) (mo) 14 (nI (pN c))) = S3
  refine rn_aload_n C dX12_add_87 rfl ?_
  refine rn_bipush (v := nI 57) C dX12_add_88 rfl ?_
  refine rn_iconst (v := nI 3) C dX12_add_90 rfl ?_
  refine rn_iload_n C dX12_add_91 rfl ?_
  refine rn_imul C dX12_add_92 (pk_mul _ _) ?_
  refine rn_bipush (v := nI 54) C dX12_add_93 rfl ?_
  refine rs_vv C dX12_add_95 mk_X12_sum lv_X12_224 (c_msum (S := (S3.1, S3.2.1, fs (fs (fs S.2.2 (mo) 0 (nI (0))) (mo) 13 (nI (bN c))) (mo) 14 (nI (pN c)))) hM (by omega) (by omega) (by omega) ((fs_oth (by decide)).trans fs_get) fs_get) hM0 rfl rfl rfl rfl (by decide) (Nat.le_of_ble_eq_true rfl) (by decide) (by decide) ?_
  rw [show (msum_f c (mo) (57) (3 * a) (54) (S3.1, S3.2.1, fs (fs (fs S.2.2 (mo) 0 (nI (0))) (mo) 13 (nI (bN c))) (mo) 14 (nI (pN c)))).2.2 = fs (fs (fs S.2.2 (mo) 0 (nI (0))) (mo) 13 (nI (bN c))) (mo) 14 (nI (pN c)) from (msum_F c (mo) (57) (3 * a) (54) (S3.1, S3.2.1, fs (fs (fs S.2.2 (mo) 0 (nI (0))) (mo) 13 (nI (bN c))) (mo) 14 (nI (pN c))))]
  generalize hS4 : msum_f c (mo) (57) (3 * a) (54) (S3.1, S3.2.1, fs (fs (fs S.2.2 (mo) 0 (nI (0))) (mo) 13 (nI (bN c))) (mo) 14 (nI (pN c))) = S4
  refine rn_aload_n C dX12_add_98 rfl ?_
  refine rn_iconst (v := nI 3) C dX12_add_99 rfl ?_
  refine rn_iload_n C dX12_add_100 rfl ?_
  refine rn_imul C dX12_add_101 (pk_mul _ _) ?_
  refine rn_bipush (v := nI 57) C dX12_add_102 rfl ?_
  refine rs_vv C dX12_add_104 mk_X12_copyPoint lv_X12_221 (c_mcopyP (S := (S4.1, S4.2.1, fs (fs (fs S.2.2 (mo) 0 (nI (0))) (mo) 13 (nI (bN c))) (mo) 14 (nI (pN c)))) hM (by omega) (by omega)) hM0 rfl rfl rfl rfl (by decide) (Nat.le_of_ble_eq_true rfl) (by decide) (by decide) ?_
  rw [show (mcopyP_f (mo) (3 * to) (57) (S4.1, S4.2.1, fs (fs (fs S.2.2 (mo) 0 (nI (0))) (mo) 13 (nI (bN c))) (mo) 14 (nI (pN c)))).2.2 = fs (fs (fs S.2.2 (mo) 0 (nI (0))) (mo) 13 (nI (bN c))) (mo) 14 (nI (pN c)) from (mcopyP_F (mo) (3 * to) (57) (S4.1, S4.2.1, fs (fs (fs S.2.2 (mo) 0 (nI (0))) (mo) 13 (nI (bN c))) (mo) 14 (nI (pN c))))]
  generalize hS5 : mcopyP_f (mo) (3 * to) (57) (S4.1, S4.2.1, fs (fs (fs S.2.2 (mo) 0 (nI (0))) (mo) 13 (nI (bN c))) (mo) 14 (nI (pN c))) = S5
  refine rn_aload_n C dX12_add_107 rfl ?_
  refine rs_get C dX12_add_108 fl_X12_57 hM0 rfl ?_
  refine rn_iload_n C dX12_add_111 rfl ?_
  refine rn_aload_n C dX12_add_112 rfl ?_
  refine rs_getFe C dX12_add_113 fl_X12_51 hM0 rfl ((fs_oth (by decide)).trans fs_get) ?_
  refine rs_iastore C dX12_add_116 hm10 rfl (by omega) (by decide) ?_
  have hret : madd1_f c mo to a b S = (va_up S5.1 (mo + 10) (upd (S5.1 (mo + 10)) (to) (nI (bN c))), S5.2.1, fs (fs (fs S.2.2 (mo) 0 (nI (0))) (mo) 13 (nI (bN c))) (mo) 14 (nI (pN c))) := by
    subst hS5
    subst hS4
    subst hS3
    subst hS2
    subst hS1
    first | (dsimp only [madd1_f]; done) | (dsimp only [madd1_f]; exact rfl) | exact rfl
  exact rn_vret C Rt dX12_add_117 (pv_of hret) (Nat.zero_le _) (Nat.zero_le _)
def maddY_f (mo : Nat) (to : Nat) (a : Nat) (b : Nat) (ls : Int32) (S : StT) : StT := (S.1, S.2.1, fs S.2.2 (mo) 0 (nI (2)))
theorem maddY_F (mo : Nat) (to : Nat) (a : Nat) (b : Nat) (ls : Int32) (S : StT) : (maddY_f mo to a b ls S).2.2 = fs S.2.2 (mo) 0 (nI (2)) := by
  unfold maddY_f; first | rfl | ((repeat' split) <;> rfl) | (dsimp only; (repeat' split) <;> rfl)
set_option maxRecDepth 100000 in
set_option maxHeartbeats 400000 in
theorem c_maddY {k : KX} {L : Nat → Option Sh} {S : StT} {n : Nat} {mo : Nat} {to : Nat} {a : Nat} {b : Nat} {ls : Int32} (hM : ModelAt k L mo) (hto : to < 3) (ha : a < 3) (hb : b < 3) (hne : ¬ S.1 (mo + 10) a = S.1 (mo + 10) b) :
    Cs k yX12_add cX12_add 5 none 5 0 0 [.ref (k_b k + (mo)), .int (nI (to)), .int (nI (a)), .int (nI (b)), .int (ls)] (inst k L S.1 S.2.1 S.2.2) n (Pv k L n (maddY_f mo to a b ls S)) := by
  refine cs_of (by decide) (Nat.le_of_ble_eq_true rfl) ?_
  intro X hXk C Rt hnm
  subst hXk
  have hM9 := hM
  obtain ⟨hM0, hm1, hm2, hm3, hm4, hm5, hm6, hm7, hm8, hm9, hm10, hm11, hm12, hm13, hm14, hm15, hm16, hm17, hm18, hm19, hm20, hm21, hm22, hm23, hm24, hm25, hm26, hm27⟩ := hM9
  refine rn_lv [(0, .ref (k_b X.1 + (mo))), (1, .int (nI (to))), (2, .int (nI (a))), (3, .int (nI (b))), (4, .int (ls))] (fun q h => h) ?_
  refine rn_aload_n C dX12_add_0 rfl ?_
  refine rn_iload_n C dX12_add_1 rfl ?_
  refine rs_sz C dX12_add_2 mk_X12_isPlace ls_X12_347 (cv_misPl (p := to) (by omega)) rfl rfl (by decide) (Nat.le_of_ble_eq_true rfl) (by decide) (by decide) ?_
  refine rn_if_eq (tgt := 22) C dX12_add_5 (by decide) (fun hb => absurd hb (show ¬ (nI (1)) = 0 from by decide)) (fun hb => ?_)
  refine rn_iload_n C dX12_add_8 rfl ?_
  refine rs_sz C dX12_add_9 mk_X12_isPlace ls_X12_347 (cv_misPl (p := a) (by omega)) rfl rfl (by decide) (Nat.le_of_ble_eq_true rfl) (by decide) (by decide) ?_
  refine rn_if_eq (tgt := 22) C dX12_add_12 (by decide) (fun hb => absurd hb (show ¬ (nI (1)) = 0 from by decide)) (fun hb => ?_)
  refine rn_iload_n C dX12_add_15 rfl ?_
  refine rs_sz C dX12_add_16 mk_X12_isPlace ls_X12_347 (cv_misPl (p := b) (by omega)) rfl rfl (by decide) (Nat.le_of_ble_eq_true rfl) (by decide) (by decide) ?_
  refine rn_if_ne (tgt := 26) C dX12_add_19 (by decide) (fun _ => ?_) (fun hb => absurd hb (show ¬ (nI (1)) = 0 from by decide))
  refine rn_aload_n C dX12_add_26 rfl ?_
  refine rs_get C dX12_add_27 fl_X12_57 hM0 rfl ?_
  refine rn_iload_n C dX12_add_30 rfl ?_
  refine rs_iaload C dX12_add_31 hm10 rfl (by omega) (by decide) ?_
  refine rn_aload_n C dX12_add_32 rfl ?_
  refine rs_get C dX12_add_33 fl_X12_57 hM0 rfl ?_
  refine rn_iload_n C dX12_add_36 rfl ?_
  refine rs_iaload C dX12_add_37 hm10 rfl (by omega) (by decide) ?_
  refine rn_icmp_eq (tgt := 45) C dX12_add_38 (by decide) (fun hb => absurd hb hne) (fun hb => ?_)
  refine rn_iconst (v := nI 2) C dX12_add_41 rfl ?_
  refine rn_goto (tgt := 46) C dX12_add_42 (by decide) ?_
  refine rs_putF C dX12_add_46 fp_X12_7 hM0 rfl ?_
  refine rn_aload_n C dX12_add_49 rfl ?_
  refine rs_getFe C dX12_add_50 fl_X12_7 hM0 rfl fs_get ?_
  refine rn_if_eq (tgt := 57) C dX12_add_53 (by decide) (fun hb => absurd hb (show ¬ (nI (2)) = 0 from by decide)) (fun hb => ?_)
  have hret : maddY_f mo to a b ls S = (S.1, S.2.1, fs S.2.2 (mo) 0 (nI (2))) := by
    first | (dsimp only [maddY_f]; done) | (dsimp only [maddY_f]; exact rfl) | exact rfl
  exact rn_vret C Rt dX12_add_56 (pv_of hret) (Nat.zero_le _) (Nat.zero_le _)
def mtimes_f (c : Bool) (mo : Nat) (to : Nat) (a : Nat) (S : StT) : StT := (let S1 := mcho_f c (mo) (S.1, S.2.1, fs S.2.2 (mo) 0 (nI (0))); (let S2 := mmany_f c (mo) (3 * to) (3 * a) (mo + 1) (57) (cB c) (S1.1, S1.2.1, fs (fs (fs S.2.2 (mo) 0 (nI (0))) (mo) 13 (nI (bN c))) (mo) 14 (nI (pN c))); (va_up S2.1 (mo + 10) (upd (S2.1 (mo + 10)) (to) (nI (bN c))), S2.2.1, fs (fs (fs S.2.2 (mo) 0 (nI (0))) (mo) 13 (nI (bN c))) (mo) 14 (nI (pN c)))))
theorem mtimes_F (c : Bool) (mo : Nat) (to : Nat) (a : Nat) (S : StT) : (mtimes_f c mo to a S).2.2 = fs (fs (fs S.2.2 (mo) 0 (nI (0))) (mo) 13 (nI (bN c))) (mo) 14 (nI (pN c)) := by
  unfold mtimes_f; first | rfl | ((repeat' split) <;> rfl) | (dsimp only; (repeat' split) <;> rfl)
set_option maxRecDepth 100000 in
set_option maxHeartbeats 400000 in
theorem c_mtimes {k : KX} {L : Nat → Option Sh} {S : StT} {n : Nat} {c : Bool} {mo : Nat} {to : Nat} {a : Nat} (hM : ModelAt k L mo) (hto : to < 3) (ha : a < 3) (hca : S.1 (mo + 10) a = nI (bN c)) :
    Cs k yX12_times cX12_times 3 none 5 0 0 [.ref (k_b k + (mo)), .int (nI (to)), .int (nI (a))] (inst k L S.1 S.2.1 S.2.2) n (Pv k L n (mtimes_f c mo to a S)) := by
  refine cs_of (by decide) (Nat.le_of_ble_eq_true rfl) ?_
  intro X hXk C Rt hnm
  subst hXk
  have hM9 := hM
  obtain ⟨hM0, hm1, hm2, hm3, hm4, hm5, hm6, hm7, hm8, hm9, hm10, hm11, hm12, hm13, hm14, hm15, hm16, hm17, hm18, hm19, hm20, hm21, hm22, hm23, hm24, hm25, hm26, hm27⟩ := hM9
  obtain ⟨hp1, hp2⟩ := pN_le c
  have hbn := bN_le c
  obtain ⟨hk1, hk2⟩ := cB_le c
  have hfb : 32 ≤ fB c ∧ fB c ≤ 56 := by cases c <;> decide
  obtain ⟨hf1, hf2⟩ := hfb
  refine rn_lv [(0, .ref (k_b X.1 + (mo))), (1, .int (nI (to))), (2, .int (nI (a)))] (fun q h => h) ?_
  refine rn_aload_n C dX12_times_0 rfl ?_
  refine rn_iload_n C dX12_times_1 rfl ?_
  refine rs_sz C dX12_times_2 mk_X12_isPlace ls_X12_347 (cv_misPl (p := to) (by omega)) rfl rfl (by decide) (Nat.le_of_ble_eq_true rfl) (by decide) (by decide) ?_
  refine rn_if_eq (tgt := 15) C dX12_times_5 (by decide) (fun hb => absurd hb (show ¬ (nI (1)) = 0 from by decide)) (fun hb => ?_)
  refine rn_iload_n C dX12_times_8 rfl ?_
  refine rs_sz C dX12_times_9 mk_X12_isPlace ls_X12_347 (cv_misPl (p := a) (by omega)) rfl rfl (by decide) (Nat.le_of_ble_eq_true rfl) (by decide) (by decide) ?_
  refine rn_if_ne (tgt := 19) C dX12_times_12 (by decide) (fun _ => ?_) (fun hb => absurd hb (show ¬ (nI (1)) = 0 from by decide))
  refine rn_iconst (v := nI 0) C dX12_times_19 rfl ?_
  refine rs_putF C dX12_times_20 fp_X12_7 hM0 rfl ?_
  refine rn_aload_n C dX12_times_23 rfl ?_
  refine rs_getFe C dX12_times_24 fl_X12_7 hM0 rfl fs_get ?_
  refine rn_if_eq (tgt := 31) C dX12_times_27 (by decide) (fun hb => ?_) (fun hb => absurd (show (nI (0)) = 0 from by decide) hb)
  refine rn_aload_n C dX12_times_31 rfl ?_
  refine rn_aload_n C dX12_times_32 rfl ?_
  refine rs_get C dX12_times_33 fl_X12_57 hM0 rfl ?_
  refine rn_iload_n C dX12_times_36 rfl ?_
  refine rs_iaload C dX12_times_37 hm10 rfl (by omega) (by decide) ?_
  rw [show S.1 (mo + 10) (a) = nI (bN c) from hca]
  refine rs_vv C dX12_times_38 mk_X12_choose lv_X12_131 (c_mcho (S := (S.1, S.2.1, fs S.2.2 (mo) 0 (nI (0)))) hM) hM0 rfl rfl rfl rfl (by decide) (Nat.le_of_ble_eq_true rfl) (by decide) (by decide) ?_
  rw [show (mcho_f c (mo) (S.1, S.2.1, fs S.2.2 (mo) 0 (nI (0)))).2.2 = fs (fs (fs S.2.2 (mo) 0 (nI (0))) (mo) 13 (nI (bN c))) (mo) 14 (nI (pN c)) from (mcho_F c (mo) (S.1, S.2.1, fs S.2.2 (mo) 0 (nI (0))))]
  generalize hS1 : mcho_f c (mo) (S.1, S.2.1, fs S.2.2 (mo) 0 (nI (0))) = S1
  refine rn_aload_n C dX12_times_41 rfl ?_
  refine rn_iconst (v := nI 3) C dX12_times_42 rfl ?_
  refine rn_iload_n C dX12_times_43 rfl ?_
  refine rn_imul C dX12_times_44 (pk_mul _ _) ?_
  refine rn_iconst (v := nI 3) C dX12_times_45 rfl ?_
  refine rn_iload_n C dX12_times_46 rfl ?_
  refine rn_imul C dX12_times_47 (pk_mul _ _) ?_
  refine rn_aload_n C dX12_times_48 rfl ?_
  refine rs_get C dX12_times_49 fl_X12_13 hM0 rfl ?_
  refine rn_aload_n C dX12_times_52 rfl ?_
  refine rs_vi C dX12_times_53 mk_X12_keyBytes lv_X12_231 (cv_mkeyB (S := (S1.1, S1.2.1, fs (fs (fs S.2.2 (mo) 0 (nI (0))) (mo) 13 (nI (bN c))) (mo) 14 (nI (pN c)))) hM  ((fs_oth (by decide)).trans fs_get) fs_get) hM0 rfl rfl rfl rfl (by decide) (Nat.le_of_ble_eq_true rfl) (by decide) (by decide) ?_
  refine rs_vv C dX12_times_56 mk_X12_many lv_X12_292 (c_mmany (S := (S1.1, S1.2.1, fs (fs (fs S.2.2 (mo) 0 (nI (0))) (mo) 13 (nI (bN c))) (mo) 14 (nI (pN c)))) hM (by omega) (by omega) hm1 (by decide) (by omega) (by omega) (by omega) ((fs_oth (by decide)).trans fs_get) fs_get) hM0 rfl rfl rfl rfl (by decide) (Nat.le_of_ble_eq_true rfl) (by decide) (by decide) ?_
  rw [show (mmany_f c (mo) (3 * to) (3 * a) (mo + 1) (57) (cB c) (S1.1, S1.2.1, fs (fs (fs S.2.2 (mo) 0 (nI (0))) (mo) 13 (nI (bN c))) (mo) 14 (nI (pN c)))).2.2 = fs (fs (fs S.2.2 (mo) 0 (nI (0))) (mo) 13 (nI (bN c))) (mo) 14 (nI (pN c)) from (mmany_F c (mo) (3 * to) (3 * a) (mo + 1) (57) (cB c) (S1.1, S1.2.1, fs (fs (fs S.2.2 (mo) 0 (nI (0))) (mo) 13 (nI (bN c))) (mo) 14 (nI (pN c))))]
  generalize hS2 : mmany_f c (mo) (3 * to) (3 * a) (mo + 1) (57) (cB c) (S1.1, S1.2.1, fs (fs (fs S.2.2 (mo) 0 (nI (0))) (mo) 13 (nI (bN c))) (mo) 14 (nI (pN c))) = S2
  refine rn_aload_n C dX12_times_59 rfl ?_
  refine rs_get C dX12_times_60 fl_X12_57 hM0 rfl ?_
  refine rn_iload_n C dX12_times_63 rfl ?_
  refine rn_aload_n C dX12_times_64 rfl ?_
  refine rs_getFe C dX12_times_65 fl_X12_51 hM0 rfl ((fs_oth (by decide)).trans fs_get) ?_
  refine rs_iastore C dX12_times_68 hm10 rfl (by omega) (by decide) ?_
  have hret : mtimes_f c mo to a S = (va_up S2.1 (mo + 10) (upd (S2.1 (mo + 10)) (to) (nI (bN c))), S2.2.1, fs (fs (fs S.2.2 (mo) 0 (nI (0))) (mo) 13 (nI (bN c))) (mo) 14 (nI (pN c))) := by
    subst hS2
    subst hS1
    first | (dsimp only [mtimes_f]; done) | (dsimp only [mtimes_f]; exact rfl) | exact rfl
  exact rn_vret C Rt dX12_times_69 (pv_of hret) (Nat.zero_le _) (Nat.zero_le _)
def mcode_l51 (mo : Nat) (S : StT)  : Nat → (Nat → Nat → Int32)
  | 0 => S.1
  | i51 + 1 => let y51_0 := (mcode_l51 mo S i51); va_up y51_0 (mo + 4) (upd (y51_0 (mo + 4)) (i51) (y51_0 (mo + 27) (i51)))
def mcode_f (c : Bool) (mo : Nat) (a : Nat) (S : StT) : StT := (let S1 := mcho_f c (mo) (S.1, S.2.1, fs S.2.2 (mo) 0 (nI (0))); (let S2 := menc_f c (mo) (3 * a) (S1.1, S1.2.1, fs (fs (fs S.2.2 (mo) 0 (nI (0))) (mo) 13 (nI (bN c))) (mo) 14 (nI (pN c))); ((mcode_l51 mo (S2.1, S2.2.1, S.2.2) (cB c)), S2.2.1, fs (fs (fs (fs S.2.2 (mo) 0 (nI (0))) (mo) 13 (nI (bN c))) (mo) 14 (nI (pN c))) (mo) 5 (nI (cB c)))))
theorem mcode_F (c : Bool) (mo : Nat) (a : Nat) (S : StT) : (mcode_f c mo a S).2.2 = fs (fs (fs (fs S.2.2 (mo) 0 (nI (0))) (mo) 13 (nI (bN c))) (mo) 14 (nI (pN c))) (mo) 5 (nI (cB c)) := by
  unfold mcode_f; first | rfl | ((repeat' split) <;> rfl) | (dsimp only; (repeat' split) <;> rfl)
set_option maxRecDepth 100000 in
set_option maxHeartbeats 400000 in
theorem c_mcode {k : KX} {L : Nat → Option Sh} {S : StT} {n : Nat} {c : Bool} {mo : Nat} {a : Nat} (hM : ModelAt k L mo) (ha : a < 3) (hca : S.1 (mo + 10) a = nI (bN c)) :
    Cs k yX12_code cX12_code 3 none 6 0 0 [.ref (k_b k + (mo)), .int (nI (a))] (inst k L S.1 S.2.1 S.2.2) n (Pv k L n (mcode_f c mo a S)) := by
  refine cs_of (by decide) (Nat.le_of_ble_eq_true rfl) ?_
  intro X hXk C Rt hnm
  subst hXk
  have hM9 := hM
  obtain ⟨hM0, hm1, hm2, hm3, hm4, hm5, hm6, hm7, hm8, hm9, hm10, hm11, hm12, hm13, hm14, hm15, hm16, hm17, hm18, hm19, hm20, hm21, hm22, hm23, hm24, hm25, hm26, hm27⟩ := hM9
  obtain ⟨hp1, hp2⟩ := pN_le c
  have hbn := bN_le c
  obtain ⟨hk1, hk2⟩ := cB_le c
  have hfb : 32 ≤ fB c ∧ fB c ≤ 56 := by cases c <;> decide
  obtain ⟨hf1, hf2⟩ := hfb
  refine rn_lv [(0, .ref (k_b X.1 + (mo))), (1, .int (nI (a)))] (fun q h => h) ?_
  refine rn_aload_n C dX12_code_0 rfl ?_
  refine rn_iload_n C dX12_code_1 rfl ?_
  refine rs_sz C dX12_code_2 mk_X12_isPlace ls_X12_347 (cv_misPl (p := a) (by omega)) rfl rfl (by decide) (Nat.le_of_ble_eq_true rfl) (by decide) (by decide) ?_
  refine rn_if_eq (tgt := 12) C dX12_code_5 (by decide) (fun hb => absurd hb (show ¬ (nI (1)) = 0 from by decide)) (fun hb => ?_)
  refine rn_iconst (v := nI 0) C dX12_code_8 rfl ?_
  refine rn_goto (tgt := 13) C dX12_code_9 (by decide) ?_
  refine rs_putF C dX12_code_13 fp_X12_7 hM0 rfl ?_
  refine rn_aload_n C dX12_code_16 rfl ?_
  refine rs_getFe C dX12_code_17 fl_X12_7 hM0 rfl fs_get ?_
  refine rn_if_eq (tgt := 24) C dX12_code_20 (by decide) (fun hb => ?_) (fun hb => absurd (show (nI (0)) = 0 from by decide) hb)
  refine rn_aload_n C dX12_code_24 rfl ?_
  refine rn_aload_n C dX12_code_25 rfl ?_
  refine rs_get C dX12_code_26 fl_X12_57 hM0 rfl ?_
  refine rn_iload_n C dX12_code_29 rfl ?_
  refine rs_iaload C dX12_code_30 hm10 rfl (by omega) (by decide) ?_
  rw [show S.1 (mo + 10) (a) = nI (bN c) from hca]
  refine rs_vv C dX12_code_31 mk_X12_choose lv_X12_131 (c_mcho (S := (S.1, S.2.1, fs S.2.2 (mo) 0 (nI (0)))) hM) hM0 rfl rfl rfl rfl (by decide) (Nat.le_of_ble_eq_true rfl) (by decide) (by decide) ?_
  rw [show (mcho_f c (mo) (S.1, S.2.1, fs S.2.2 (mo) 0 (nI (0)))).2.2 = fs (fs (fs S.2.2 (mo) 0 (nI (0))) (mo) 13 (nI (bN c))) (mo) 14 (nI (pN c)) from (mcho_F c (mo) (S.1, S.2.1, fs S.2.2 (mo) 0 (nI (0))))]
  generalize hS1 : mcho_f c (mo) (S.1, S.2.1, fs S.2.2 (mo) 0 (nI (0))) = S1
  refine rn_aload_n C dX12_code_34 rfl ?_
  refine rn_iconst (v := nI 3) C dX12_code_35 rfl ?_
  refine rn_iload_n C dX12_code_36 rfl ?_
  refine rn_imul C dX12_code_37 (pk_mul _ _) ?_
  refine rs_vv C dX12_code_38 mk_X12_encode lv_X12_296 (c_menc (S := (S1.1, S1.2.1, fs (fs (fs S.2.2 (mo) 0 (nI (0))) (mo) 13 (nI (bN c))) (mo) 14 (nI (pN c)))) hM (by omega) ((fs_oth (by decide)).trans fs_get) fs_get) hM0 rfl rfl rfl rfl (by decide) (Nat.le_of_ble_eq_true rfl) (by decide) (by decide) ?_
  rw [show (menc_f c (mo) (3 * a) (S1.1, S1.2.1, fs (fs (fs S.2.2 (mo) 0 (nI (0))) (mo) 13 (nI (bN c))) (mo) 14 (nI (pN c)))).2.2 = fs (fs (fs S.2.2 (mo) 0 (nI (0))) (mo) 13 (nI (bN c))) (mo) 14 (nI (pN c)) from (menc_F c (mo) (3 * a) (S1.1, S1.2.1, fs (fs (fs S.2.2 (mo) 0 (nI (0))) (mo) 13 (nI (bN c))) (mo) 14 (nI (pN c))))]
  generalize hS2 : menc_f c (mo) (3 * a) (S1.1, S1.2.1, fs (fs (fs S.2.2 (mo) 0 (nI (0))) (mo) 13 (nI (bN c))) (mo) 14 (nI (pN c))) = S2
  refine rn_aload_n C dX12_code_41 rfl ?_
  refine rn_aload_n C dX12_code_42 rfl ?_
  refine rs_vi C dX12_code_43 mk_X12_keyBytes lv_X12_231 (cv_mkeyB (S := (S2.1, S2.2.1, fs (fs (fs S.2.2 (mo) 0 (nI (0))) (mo) 13 (nI (bN c))) (mo) 14 (nI (pN c)))) hM  ((fs_oth (by decide)).trans fs_get) fs_get) hM0 rfl rfl rfl rfl (by decide) (Nat.le_of_ble_eq_true rfl) (by decide) (by decide) ?_
  refine rs_putF C dX12_code_46 fp_X12_26 hM0 rfl ?_
  refine rn_iconst (v := nI 0) C dX12_code_49 rfl ?_
  refine rn_istore_n (lv' := [(0, _), (1, _), (2, _)]) C dX12_code_50 (by decide) rfl ?_
  have lp51 : ∀ i51, i51 ≤ cB c → Rn X 51 [(0, .ref (k_b X.1 + (mo))), (1, .int (nI (a))), (2, .int (nI (i51)))] [] (inst X.1 L (mcode_l51 mo (S2.1, S2.2.1, S.2.2) i51) S2.2.1 (fs (fs (fs (fs S.2.2 (mo) 0 (nI (0))) (mo) 13 (nI (bN c))) (mo) 14 (nI (pN c))) (mo) 5 (nI (cB c)))) n 0 0 := by
    refine upto _ _ ?_ (fun i51 hi51 ih51 => ?_)
    · skip
      refine rn_iload_n C dX12_code_51 rfl ?_
      refine rn_aload_n C dX12_code_52 rfl ?_
      refine rs_getFe C dX12_code_53 fl_X12_26 hM0 rfl fs_get ?_
      refine rs_ge (tgt := 77) C dX12_code_56 (by decide) rfl rfl (by omega) (by omega) (fun _ => ?_) (fun q => absurd q (by omega))
      have hret : mcode_f c mo a S = ((mcode_l51 mo (S2.1, S2.2.1, S.2.2) (cB c)), S2.2.1, fs (fs (fs (fs S.2.2 (mo) 0 (nI (0))) (mo) 13 (nI (bN c))) (mo) 14 (nI (pN c))) (mo) 5 (nI (cB c))) := by
        subst hS2
        subst hS1
        first | (dsimp only [mcode_f]; done) | (dsimp only [mcode_f]; exact rfl) | exact rfl
      exact rn_vret C Rt dX12_code_77 (pv_of hret) (Nat.zero_le _) (Nat.zero_le _)
    · skip
      refine rn_iload_n C dX12_code_51 rfl ?_
      refine rn_aload_n C dX12_code_52 rfl ?_
      refine rs_getFe C dX12_code_53 fl_X12_26 hM0 rfl fs_get ?_
      refine rs_ge (tgt := 77) C dX12_code_56 (by decide) rfl rfl (by omega) (by omega) (fun q => absurd q (by omega)) (fun _ => ?_)
      refine rn_aload_n C dX12_code_59 rfl ?_
      refine rs_get C dX12_code_60 fl_X12_23 hM0 rfl ?_
      refine rn_iload_n C dX12_code_63 rfl ?_
      refine rn_aload_n C dX12_code_64 rfl ?_
      refine rs_get C dX12_code_65 fl_X12_111 hM0 rfl ?_
      refine rn_iload_n C dX12_code_68 rfl ?_
      refine rs_iaload C dX12_code_69 hm27 rfl (by omega) (by decide) ?_
      refine rs_iastore C dX12_code_70 hm4 rfl (by omega) (by decide) ?_
      refine rn_iinc (lv' := [(0, _), (1, _), (2, _)]) C dX12_code_71 rfl (nI_inc _) (by decide) rfl ?_
      refine rn_goto (tgt := 51) C dX12_code_74 (by decide) ?_
      have he51 : mcode_l51 mo (S2.1, S2.2.1, S.2.2) (i51 + 1) = va_up (mcode_l51 mo (S2.1, S2.2.1, S.2.2) i51) (mo + 4) (upd ((mcode_l51 mo (S2.1, S2.2.1, S.2.2) i51) (mo + 4)) (i51) ((mcode_l51 mo (S2.1, S2.2.1, S.2.2) i51) (mo + 27) (i51))) := by
        first | (dsimp only [mcode_l51]; done) | (dsimp only [mcode_l51]; exact rfl) | exact rfl
      rw [he51] at ih51
      exact rn_ks [0, 1, 2] ih51 rfl
  exact lp51 0 (Nat.zero_le _)
def msame_f (c : Bool) (mo : Nat) (a : Nat) (b : Nat) (S : StT) : Int32 × StT := (let S1 := mcho_f c (mo) (S.1, S.2.1, fs S.2.2 (mo) 0 (nI (0))); (let r2 := malike_f c (mo) (3 * a) (3 * b) (S1.1, S1.2.1, fs (fs (fs S.2.2 (mo) 0 (nI (0))) (mo) 13 (nI (bN c))) (mo) 14 (nI (pN c))); (r2.1, (r2.2.1, r2.2.2.1, fs (fs (fs S.2.2 (mo) 0 (nI (0))) (mo) 13 (nI (bN c))) (mo) 14 (nI (pN c))))))
theorem msame_F (c : Bool) (mo : Nat) (a : Nat) (b : Nat) (S : StT) : (msame_f c mo a b S).2.2.2 = fs (fs (fs S.2.2 (mo) 0 (nI (0))) (mo) 13 (nI (bN c))) (mo) 14 (nI (pN c)) := by
  unfold msame_f; first | rfl | ((repeat' split) <;> rfl) | (dsimp only; (repeat' split) <;> rfl)
set_option maxRecDepth 100000 in
set_option maxHeartbeats 400000 in
theorem c_msame {k : KX} {L : Nat → Option Sh} {S : StT} {n : Nat} {c : Bool} {mo : Nat} {a : Nat} {b : Nat} (hM : ModelAt k L mo) (ha : a < 3) (hb : b < 3) (hca : S.1 (mo + 10) a = nI (bN c)) (hcb : S.1 (mo + 10) b = nI (bN c)) :
    Cs k yX12_same cX12_same 3 (some .boolean) 4 0 0 [.ref (k_b k + (mo)), .int (nI (a)), .int (nI (b))] (inst k L S.1 S.2.1 S.2.2) n (Pi k L n (msame_f c mo a b S)) := by
  refine cs_of (by decide) (Nat.le_of_ble_eq_true rfl) ?_
  intro X hXk C Rt hnm
  subst hXk
  have hM9 := hM
  obtain ⟨hM0, hm1, hm2, hm3, hm4, hm5, hm6, hm7, hm8, hm9, hm10, hm11, hm12, hm13, hm14, hm15, hm16, hm17, hm18, hm19, hm20, hm21, hm22, hm23, hm24, hm25, hm26, hm27⟩ := hM9
  obtain ⟨hp1, hp2⟩ := pN_le c
  have hbn := bN_le c
  obtain ⟨hk1, hk2⟩ := cB_le c
  have hfb : 32 ≤ fB c ∧ fB c ≤ 56 := by cases c <;> decide
  obtain ⟨hf1, hf2⟩ := hfb
  refine rn_lv [(0, .ref (k_b X.1 + (mo))), (1, .int (nI (a))), (2, .int (nI (b)))] (fun q h => h) ?_
  refine rn_aload_n C dX12_same_0 rfl ?_
  refine rn_iload_n C dX12_same_1 rfl ?_
  refine rs_sz C dX12_same_2 mk_X12_isPlace ls_X12_347 (cv_misPl (p := a) (by omega)) rfl rfl (by decide) (Nat.le_of_ble_eq_true rfl) (by decide) (by decide) ?_
  refine rn_if_eq (tgt := 15) C dX12_same_5 (by decide) (fun hb => absurd hb (show ¬ (nI (1)) = 0 from by decide)) (fun hb => ?_)
  refine rn_iload_n C dX12_same_8 rfl ?_
  refine rs_sz C dX12_same_9 mk_X12_isPlace ls_X12_347 (cv_misPl (p := b) (by omega)) rfl rfl (by decide) (Nat.le_of_ble_eq_true rfl) (by decide) (by decide) ?_
  refine rn_if_ne (tgt := 19) C dX12_same_12 (by decide) (fun _ => ?_) (fun hb => absurd hb (show ¬ (nI (1)) = 0 from by decide))
  refine rn_iconst (v := nI 0) C dX12_same_19 rfl ?_
  refine rs_putF C dX12_same_20 fp_X12_7 hM0 rfl ?_
  refine rn_aload_n C dX12_same_23 rfl ?_
  refine rs_getFe C dX12_same_24 fl_X12_7 hM0 rfl fs_get ?_
  refine rn_if_ne (tgt := 45) C dX12_same_27 (by decide) (fun hb => absurd (show (nI (0)) = 0 from by decide) hb) (fun _ => ?_)
  refine rn_aload_n C dX12_same_30 rfl ?_
  refine rs_get C dX12_same_31 fl_X12_57 hM0 rfl ?_
  refine rn_iload_n C dX12_same_34 rfl ?_
  refine rs_iaload C dX12_same_35 hm10 rfl (by omega) (by decide) ?_
  rw [show S.1 (mo + 10) (a) = nI (bN c) from hca]
  refine rn_aload_n C dX12_same_36 rfl ?_
  refine rs_get C dX12_same_37 fl_X12_57 hM0 rfl ?_
  refine rn_iload_n C dX12_same_40 rfl ?_
  refine rs_iaload C dX12_same_41 hm10 rfl (by omega) (by decide) ?_
  rw [show S.1 (mo + 10) (b) = nI (bN c) from hcb]
  refine rn_icmp_eq (tgt := 47) C dX12_same_42 (by decide) (fun hb => ?_) (fun hb => absurd rfl hb)
  refine rn_aload_n C dX12_same_47 rfl ?_
  refine rn_aload_n C dX12_same_48 rfl ?_
  refine rs_get C dX12_same_49 fl_X12_57 hM0 rfl ?_
  refine rn_iload_n C dX12_same_52 rfl ?_
  refine rs_iaload C dX12_same_53 hm10 rfl (by omega) (by decide) ?_
  rw [show S.1 (mo + 10) (a) = nI (bN c) from hca]
  refine rs_vv C dX12_same_54 mk_X12_choose lv_X12_131 (c_mcho (S := (S.1, S.2.1, fs S.2.2 (mo) 0 (nI (0)))) hM) hM0 rfl rfl rfl rfl (by decide) (Nat.le_of_ble_eq_true rfl) (by decide) (by decide) ?_
  rw [show (mcho_f c (mo) (S.1, S.2.1, fs S.2.2 (mo) 0 (nI (0)))).2.2 = fs (fs (fs S.2.2 (mo) 0 (nI (0))) (mo) 13 (nI (bN c))) (mo) 14 (nI (pN c)) from (mcho_F c (mo) (S.1, S.2.1, fs S.2.2 (mo) 0 (nI (0))))]
  generalize hS1 : mcho_f c (mo) (S.1, S.2.1, fs S.2.2 (mo) 0 (nI (0))) = S1
  refine rn_aload_n C dX12_same_57 rfl ?_
  refine rn_iconst (v := nI 3) C dX12_same_58 rfl ?_
  refine rn_iload_n C dX12_same_59 rfl ?_
  refine rn_imul C dX12_same_60 (pk_mul _ _) ?_
  refine rn_iconst (v := nI 3) C dX12_same_61 rfl ?_
  refine rn_iload_n C dX12_same_62 rfl ?_
  refine rn_imul C dX12_same_63 (pk_mul _ _) ?_
  refine rs_vz C dX12_same_64 mk_X12_alike lv_X12_319 (c_malike (S := (S1.1, S1.2.1, fs (fs (fs S.2.2 (mo) 0 (nI (0))) (mo) 13 (nI (bN c))) (mo) 14 (nI (pN c)))) hM (by omega) (by omega) ((fs_oth (by decide)).trans fs_get) fs_get) hM0 rfl rfl rfl rfl (by decide) (Nat.le_of_ble_eq_true rfl) (by decide) (by decide) ?_
  rw [show (malike_f c (mo) (3 * a) (3 * b) (S1.1, S1.2.1, fs (fs (fs S.2.2 (mo) 0 (nI (0))) (mo) 13 (nI (bN c))) (mo) 14 (nI (pN c)))).2.2.2 = fs (fs (fs S.2.2 (mo) 0 (nI (0))) (mo) 13 (nI (bN c))) (mo) 14 (nI (pN c)) from (malike_F c (mo) (3 * a) (3 * b) (S1.1, S1.2.1, fs (fs (fs S.2.2 (mo) 0 (nI (0))) (mo) 13 (nI (bN c))) (mo) 14 (nI (pN c))))]
  generalize hr2 : malike_f c (mo) (3 * a) (3 * b) (S1.1, S1.2.1, fs (fs (fs S.2.2 (mo) 0 (nI (0))) (mo) 13 (nI (bN c))) (mo) 14 (nI (pN c))) = r2
  have hret : msame_f c mo a b S = (r2.1, (r2.2.1, r2.2.2.1, fs (fs (fs S.2.2 (mo) 0 (nI (0))) (mo) 13 (nI (bN c))) (mo) 14 (nI (pN c)))) := by
    subst hr2
    subst hS1
    first | (dsimp only [msame_f]; done) | (dsimp only [msame_f]; exact rfl) | exact rfl
  exact rn_zret C Rt dX12_same_67 (by subst hr2; exact malike_z _ _ _ _ _) (pi_of hret) (Nat.zero_le _) (Nat.zero_le _)
def msameY_f (mo : Nat) (a : Nat) (b : Nat) (S : StT) : Int32 × StT := (nI (0), (S.1, S.2.1, fs S.2.2 (mo) 0 (nI (0))))
theorem msameY_F (mo : Nat) (a : Nat) (b : Nat) (S : StT) : (msameY_f mo a b S).2.2.2 = fs S.2.2 (mo) 0 (nI (0)) := by
  unfold msameY_f; first | rfl | ((repeat' split) <;> rfl) | (dsimp only; (repeat' split) <;> rfl)
set_option maxRecDepth 100000 in
set_option maxHeartbeats 400000 in
theorem c_msameY {k : KX} {L : Nat → Option Sh} {S : StT} {n : Nat} {mo : Nat} {a : Nat} {b : Nat} (hM : ModelAt k L mo) (ha : a < 3) (hb : b < 3) (hne : ¬ S.1 (mo + 10) a = S.1 (mo + 10) b) :
    Cs k yX12_same cX12_same 3 (some .boolean) 4 0 0 [.ref (k_b k + (mo)), .int (nI (a)), .int (nI (b))] (inst k L S.1 S.2.1 S.2.2) n (Pi k L n (msameY_f mo a b S)) := by
  refine cs_of (by decide) (Nat.le_of_ble_eq_true rfl) ?_
  intro X hXk C Rt hnm
  subst hXk
  have hM9 := hM
  obtain ⟨hM0, hm1, hm2, hm3, hm4, hm5, hm6, hm7, hm8, hm9, hm10, hm11, hm12, hm13, hm14, hm15, hm16, hm17, hm18, hm19, hm20, hm21, hm22, hm23, hm24, hm25, hm26, hm27⟩ := hM9
  refine rn_lv [(0, .ref (k_b X.1 + (mo))), (1, .int (nI (a))), (2, .int (nI (b)))] (fun q h => h) ?_
  refine rn_aload_n C dX12_same_0 rfl ?_
  refine rn_iload_n C dX12_same_1 rfl ?_
  refine rs_sz C dX12_same_2 mk_X12_isPlace ls_X12_347 (cv_misPl (p := a) (by omega)) rfl rfl (by decide) (Nat.le_of_ble_eq_true rfl) (by decide) (by decide) ?_
  refine rn_if_eq (tgt := 15) C dX12_same_5 (by decide) (fun hb => absurd hb (show ¬ (nI (1)) = 0 from by decide)) (fun hb => ?_)
  refine rn_iload_n C dX12_same_8 rfl ?_
  refine rs_sz C dX12_same_9 mk_X12_isPlace ls_X12_347 (cv_misPl (p := b) (by omega)) rfl rfl (by decide) (Nat.le_of_ble_eq_true rfl) (by decide) (by decide) ?_
  refine rn_if_ne (tgt := 19) C dX12_same_12 (by decide) (fun _ => ?_) (fun hb => absurd hb (show ¬ (nI (1)) = 0 from by decide))
  refine rn_iconst (v := nI 0) C dX12_same_19 rfl ?_
  refine rs_putF C dX12_same_20 fp_X12_7 hM0 rfl ?_
  refine rn_aload_n C dX12_same_23 rfl ?_
  refine rs_getFe C dX12_same_24 fl_X12_7 hM0 rfl fs_get ?_
  refine rn_if_ne (tgt := 45) C dX12_same_27 (by decide) (fun hb => absurd (show (nI (0)) = 0 from by decide) hb) (fun _ => ?_)
  refine rn_aload_n C dX12_same_30 rfl ?_
  refine rs_get C dX12_same_31 fl_X12_57 hM0 rfl ?_
  refine rn_iload_n C dX12_same_34 rfl ?_
  refine rs_iaload C dX12_same_35 hm10 rfl (by omega) (by decide) ?_
  refine rn_aload_n C dX12_same_36 rfl ?_
  refine rs_get C dX12_same_37 fl_X12_57 hM0 rfl ?_
  refine rn_iload_n C dX12_same_40 rfl ?_
  refine rs_iaload C dX12_same_41 hm10 rfl (by omega) (by decide) ?_
  refine rn_icmp_eq (tgt := 47) C dX12_same_42 (by decide) (fun hb => absurd hb hne) (fun hb => ?_)
  refine rn_iconst (v := nI 0) C dX12_same_45 rfl ?_
  have hret : msameY_f mo a b S = (nI (0), (S.1, S.2.1, fs S.2.2 (mo) 0 (nI (0)))) := by
    first | (dsimp only [msameY_f]; done) | (dsimp only [msameY_f]; exact rfl) | exact rfl
  exact rn_zret C Rt dX12_same_46 (by first | rfl | exact rfl) (pi_of hret) (Nat.zero_le _) (Nat.zero_le _)
def morder0_f (c : Bool) (mo : Nat) (a : Nat) (S : StT) : Int32 × StT := (let S1 := mcho_f c (mo) (S.1, S.2.1, fs S.2.2 (mo) 0 (nI (0))); (let r2 := (misN_f (mo) (3 * a) (S1.1, S1.2.1, fs (fs (fs S.2.2 (mo) 0 (nI (0))) (mo) 13 (nI (bN c))) (mo) 14 (nI (pN c)))).1; (nI ((if (r2) = 0 then 0 else 1)), (S1.1, S1.2.1, fs (fs (fs S.2.2 (mo) 0 (nI (0))) (mo) 13 (nI (bN c))) (mo) 14 (nI (pN c))))))
theorem morder0_F (c : Bool) (mo : Nat) (a : Nat) (S : StT) : (morder0_f c mo a S).2.2.2 = fs (fs (fs S.2.2 (mo) 0 (nI (0))) (mo) 13 (nI (bN c))) (mo) 14 (nI (pN c)) := by
  unfold morder0_f; first | rfl | ((repeat' split) <;> rfl) | (dsimp only; (repeat' split) <;> rfl)
set_option maxRecDepth 100000 in
set_option maxHeartbeats 400000 in
theorem c_morder0 {k : KX} {L : Nat → Option Sh} {S : StT} {n : Nat} {c : Bool} {mo : Nat} {a : Nat} (hM : ModelAt k L mo) (ha : a < 3) (hca : S.1 (mo + 10) a = nI (bN c)) :
    Cs k yX12_order cX12_order 4 (some .int) 4 0 0 [.ref (k_b k + (mo)), .int (nI (a)), .int (nI (0))] (inst k L S.1 S.2.1 S.2.2) n (Pi k L n (morder0_f c mo a S)) := by
  refine cs_of (by decide) (Nat.le_of_ble_eq_true rfl) ?_
  intro X hXk C Rt hnm
  subst hXk
  have hM9 := hM
  obtain ⟨hM0, hm1, hm2, hm3, hm4, hm5, hm6, hm7, hm8, hm9, hm10, hm11, hm12, hm13, hm14, hm15, hm16, hm17, hm18, hm19, hm20, hm21, hm22, hm23, hm24, hm25, hm26, hm27⟩ := hM9
  obtain ⟨hp1, hp2⟩ := pN_le c
  have hbn := bN_le c
  obtain ⟨hk1, hk2⟩ := cB_le c
  have hfb : 32 ≤ fB c ∧ fB c ≤ 56 := by cases c <;> decide
  obtain ⟨hf1, hf2⟩ := hfb
  refine rn_lv [(0, .ref (k_b X.1 + (mo))), (1, .int (nI (a))), (2, .int (nI (0)))] (fun q h => h) ?_
  refine rn_aload_n C dX12_order_0 rfl ?_
  refine rn_iload_n C dX12_order_1 rfl ?_
  refine rs_sz C dX12_order_2 mk_X12_isPlace ls_X12_347 (cv_misPl (p := a) (by omega)) rfl rfl (by decide) (Nat.le_of_ble_eq_true rfl) (by decide) (by decide) ?_
  refine rn_if_eq (tgt := 17) C dX12_order_5 (by decide) (fun hb => absurd hb (show ¬ (nI (1)) = 0 from by decide)) (fun hb => ?_)
  refine rn_iload_n C dX12_order_8 rfl ?_
  refine rn_if_lt (tgt := 17) C dX12_order_9 (by decide) (fun hb => absurd hb (show ¬ (nI (0)) < 0 from by decide)) (fun hb => ?_)
  refine rn_iload_n C dX12_order_12 rfl ?_
  refine rn_iconst (v := nI 2) C dX12_order_13 rfl ?_
  refine rn_icmp_le (tgt := 21) C dX12_order_14 (by decide) (fun hb => ?_) (fun hb => absurd (show (nI (0)) ≤ (nI (2)) from by decide) hb)
  refine rn_iconst (v := nI 0) C dX12_order_21 rfl ?_
  refine rs_putF C dX12_order_22 fp_X12_7 hM0 rfl ?_
  refine rn_aload_n C dX12_order_25 rfl ?_
  refine rs_getFe C dX12_order_26 fl_X12_7 hM0 rfl fs_get ?_
  refine rn_if_eq (tgt := 34) C dX12_order_29 (by decide) (fun hb => ?_) (fun hb => absurd (show (nI (0)) = 0 from by decide) hb)
  refine rn_aload_n C dX12_order_34 rfl ?_
  refine rn_aload_n C dX12_order_35 rfl ?_
  refine rs_get C dX12_order_36 fl_X12_57 hM0 rfl ?_
  refine rn_iload_n C dX12_order_39 rfl ?_
  refine rs_iaload C dX12_order_40 hm10 rfl (by omega) (by decide) ?_
  rw [show S.1 (mo + 10) (a) = nI (bN c) from hca]
  refine rs_vv C dX12_order_41 mk_X12_choose lv_X12_131 (c_mcho (S := (S.1, S.2.1, fs S.2.2 (mo) 0 (nI (0)))) hM) hM0 rfl rfl rfl rfl (by decide) (Nat.le_of_ble_eq_true rfl) (by decide) (by decide) ?_
  rw [show (mcho_f c (mo) (S.1, S.2.1, fs S.2.2 (mo) 0 (nI (0)))).2.2 = fs (fs (fs S.2.2 (mo) 0 (nI (0))) (mo) 13 (nI (bN c))) (mo) 14 (nI (pN c)) from (mcho_F c (mo) (S.1, S.2.1, fs S.2.2 (mo) 0 (nI (0))))]
  generalize hS1 : mcho_f c (mo) (S.1, S.2.1, fs S.2.2 (mo) 0 (nI (0))) = S1
  refine rn_iload_n C dX12_order_44 rfl ?_
  refine rn_iconst (v := nI 2) C dX12_order_45 rfl ?_
  refine rn_icmp_ne (tgt := 54) C dX12_order_46 (by decide) (fun _ => ?_) (fun hb => absurd hb (show ¬ (nI (0)) = (nI (2)) from by decide))
  refine rn_iload_n C dX12_order_54 rfl ?_
  refine rn_if_ne (tgt := 74) C dX12_order_55 (by decide) (fun hb => absurd (show (nI (0)) = 0 from by decide) hb) (fun _ => ?_)
  refine rn_aload_n C dX12_order_58 rfl ?_
  refine rn_iconst (v := nI 3) C dX12_order_59 rfl ?_
  refine rn_iload_n C dX12_order_60 rfl ?_
  refine rn_imul C dX12_order_61 (pk_mul _ _) ?_
  refine rs_vz C dX12_order_62 mk_X12_isNeutral lv_X12_353 (cp_misN (S := (S1.1, S1.2.1, fs (fs (fs S.2.2 (mo) 0 (nI (0))) (mo) 13 (nI (bN c))) (mo) 14 (nI (pN c)))) hM (by omega)) hM0 rfl rfl rfl rfl (by decide) (Nat.le_of_ble_eq_true rfl) (by decide) (by decide) ?_
  have K65_3 : Rn X 73 [(0, .ref (k_b X.1 + (mo))), (1, .int (nI (a))), (2, .int (nI (0)))] [.int (nI ((if ((misN_f (mo) (3 * a) (S1.1, S1.2.1, fs (fs (fs S.2.2 (mo) 0 (nI (0))) (mo) 13 (nI (bN c))) (mo) 14 (nI (pN c)))).1) = 0 then 0 else 1)))] (inst X.1 L S1.1 S1.2.1 (fs (fs (fs S.2.2 (mo) 0 (nI (0))) (mo) 13 (nI (bN c))) (mo) 14 (nI (pN c)))) n 0 0 := by
    have hret : morder0_f c mo a S = (nI ((if ((misN_f (mo) (3 * a) (S1.1, S1.2.1, fs (fs (fs S.2.2 (mo) 0 (nI (0))) (mo) 13 (nI (bN c))) (mo) 14 (nI (pN c)))).1) = 0 then 0 else 1)), (S1.1, S1.2.1, fs (fs (fs S.2.2 (mo) 0 (nI (0))) (mo) 13 (nI (bN c))) (mo) 14 (nI (pN c)))) := by
      subst hS1
      first | (dsimp only [morder0_f]; done) | (dsimp only [morder0_f]; exact rfl) | exact rfl
    exact rn_iret C Rt dX12_order_73 (pi_of hret) (Nat.zero_le _) (Nat.zero_le _)
  refine rn_if_eq (tgt := 72) C dX12_order_65 (by decide) (fun hb3 => ?_) (fun hb3 => ?_)
  · skip
    refine rn_iconst (v := nI 0) C dX12_order_72 rfl ?_
    rw [if_pos hb3] at K65_3
    exact K65_3
  · skip
    refine rn_iconst (v := nI 1) C dX12_order_68 rfl ?_
    refine rn_goto (tgt := 73) C dX12_order_69 (by decide) ?_
    rw [if_neg hb3] at K65_3
    exact K65_3
def morder1_f (c : Bool) (mo : Nat) (a : Nat) (S : StT) : Int32 × StT := (let S1 := mcho_f c (mo) (S.1, S.2.1, fs S.2.2 (mo) 0 (nI (0))); (let S2 := mcopyP_f (mo) (54) (3 * a) (S1.1, S1.2.1, fs (fs (fs S.2.2 (mo) 0 (nI (0))) (mo) 13 (nI (bN c))) (mo) 14 (nI (pN c))); (let r3 := (misN_f (mo) (54) (S2.1, S2.2.1, fs (fs (fs S.2.2 (mo) 0 (nI (0))) (mo) 13 (nI (bN c))) (mo) 14 (nI (pN c)))).1; (if (r3) = 0 then (let S5 := msum_f c (mo) (54) (54) (54) (S2.1, S2.2.1, fs (fs (fs S.2.2 (mo) 0 (nI (0))) (mo) 13 (nI (bN c))) (mo) 14 (nI (pN c))); (let r6 := (misN_f (mo) (54) (S5.1, S5.2.1, fs (fs (fs S.2.2 (mo) 0 (nI (0))) (mo) 13 (nI (bN c))) (mo) 14 (nI (pN c)))).1; (if (r6) = 0 then (let S8 := msum_f c (mo) (54) (54) (54) (S5.1, S5.2.1, fs (fs (fs S.2.2 (mo) 0 (nI (0))) (mo) 13 (nI (bN c))) (mo) 14 (nI (pN c))); (let r9 := (misN_f (mo) (54) (S8.1, S8.2.1, fs (fs (fs S.2.2 (mo) 0 (nI (0))) (mo) 13 (nI (bN c))) (mo) 14 (nI (pN c)))).1; (if (r9) = 0 then (let S11 := msum_f c (mo) (54) (54) (54) (S8.1, S8.2.1, fs (fs (fs S.2.2 (mo) 0 (nI (0))) (mo) 13 (nI (bN c))) (mo) 14 (nI (pN c))); (let r12 := (misN_f (mo) (54) (S11.1, S11.2.1, fs (fs (fs S.2.2 (mo) 0 (nI (0))) (mo) 13 (nI (bN c))) (mo) 14 (nI (pN c)))).1; (if (r12) = 0 then (let S14 := msum_f c (mo) (54) (54) (54) (S11.1, S11.2.1, fs (fs (fs S.2.2 (mo) 0 (nI (0))) (mo) 13 (nI (bN c))) (mo) 14 (nI (pN c))); (nI (0), (S14.1, S14.2.1, fs (fs (fs S.2.2 (mo) 0 (nI (0))) (mo) 13 (nI (bN c))) (mo) 14 (nI (pN c))))) else (nI (2 * (2 * (2 * 1))), (S11.1, S11.2.1, fs (fs (fs S.2.2 (mo) 0 (nI (0))) (mo) 13 (nI (bN c))) (mo) 14 (nI (pN c))))))) else (nI (2 * (2 * 1)), (S8.1, S8.2.1, fs (fs (fs S.2.2 (mo) 0 (nI (0))) (mo) 13 (nI (bN c))) (mo) 14 (nI (pN c))))))) else (nI (2 * 1), (S5.1, S5.2.1, fs (fs (fs S.2.2 (mo) 0 (nI (0))) (mo) 13 (nI (bN c))) (mo) 14 (nI (pN c))))))) else (nI (1), (S2.1, S2.2.1, fs (fs (fs S.2.2 (mo) 0 (nI (0))) (mo) 13 (nI (bN c))) (mo) 14 (nI (pN c))))))))
theorem morder1_F (c : Bool) (mo : Nat) (a : Nat) (S : StT) : (morder1_f c mo a S).2.2.2 = fs (fs (fs S.2.2 (mo) 0 (nI (0))) (mo) 13 (nI (bN c))) (mo) 14 (nI (pN c)) := by
  exact (ft_let (v := mcho_f c (mo) (S.1, S.2.1, fs S.2.2 (mo) 0 (nI (0)))) (f := fun S1 => (let S2 := mcopyP_f (mo) (54) (3 * a) (S1.1, S1.2.1, fs (fs (fs S.2.2 (mo) 0 (nI (0))) (mo) 13 (nI (bN c))) (mo) 14 (nI (pN c))); (let r3 := (misN_f (mo) (54) (S2.1, S2.2.1, fs (fs (fs S.2.2 (mo) 0 (nI (0))) (mo) 13 (nI (bN c))) (mo) 14 (nI (pN c)))).1; (if (r3) = 0 then (let S5 := msum_f c (mo) (54) (54) (54) (S2.1, S2.2.1, fs (fs (fs S.2.2 (mo) 0 (nI (0))) (mo) 13 (nI (bN c))) (mo) 14 (nI (pN c))); (let r6 := (misN_f (mo) (54) (S5.1, S5.2.1, fs (fs (fs S.2.2 (mo) 0 (nI (0))) (mo) 13 (nI (bN c))) (mo) 14 (nI (pN c)))).1; (if (r6) = 0 then (let S8 := msum_f c (mo) (54) (54) (54) (S5.1, S5.2.1, fs (fs (fs S.2.2 (mo) 0 (nI (0))) (mo) 13 (nI (bN c))) (mo) 14 (nI (pN c))); (let r9 := (misN_f (mo) (54) (S8.1, S8.2.1, fs (fs (fs S.2.2 (mo) 0 (nI (0))) (mo) 13 (nI (bN c))) (mo) 14 (nI (pN c)))).1; (if (r9) = 0 then (let S11 := msum_f c (mo) (54) (54) (54) (S8.1, S8.2.1, fs (fs (fs S.2.2 (mo) 0 (nI (0))) (mo) 13 (nI (bN c))) (mo) 14 (nI (pN c))); (let r12 := (misN_f (mo) (54) (S11.1, S11.2.1, fs (fs (fs S.2.2 (mo) 0 (nI (0))) (mo) 13 (nI (bN c))) (mo) 14 (nI (pN c)))).1; (if (r12) = 0 then (let S14 := msum_f c (mo) (54) (54) (54) (S11.1, S11.2.1, fs (fs (fs S.2.2 (mo) 0 (nI (0))) (mo) 13 (nI (bN c))) (mo) 14 (nI (pN c))); (nI (0), (S14.1, S14.2.1, fs (fs (fs S.2.2 (mo) 0 (nI (0))) (mo) 13 (nI (bN c))) (mo) 14 (nI (pN c))))) else (nI (2 * (2 * (2 * 1))), (S11.1, S11.2.1, fs (fs (fs S.2.2 (mo) 0 (nI (0))) (mo) 13 (nI (bN c))) (mo) 14 (nI (pN c))))))) else (nI (2 * (2 * 1)), (S8.1, S8.2.1, fs (fs (fs S.2.2 (mo) 0 (nI (0))) (mo) 13 (nI (bN c))) (mo) 14 (nI (pN c))))))) else (nI (2 * 1), (S5.1, S5.2.1, fs (fs (fs S.2.2 (mo) 0 (nI (0))) (mo) 13 (nI (bN c))) (mo) 14 (nI (pN c))))))) else (nI (1), (S2.1, S2.2.1, fs (fs (fs S.2.2 (mo) 0 (nI (0))) (mo) 13 (nI (bN c))) (mo) 14 (nI (pN c)))))))) (fun S1 e_S1 => (ft_let (v := mcopyP_f (mo) (54) (3 * a) (S1.1, S1.2.1, fs (fs (fs S.2.2 (mo) 0 (nI (0))) (mo) 13 (nI (bN c))) (mo) 14 (nI (pN c)))) (f := fun S2 => (let r3 := (misN_f (mo) (54) (S2.1, S2.2.1, fs (fs (fs S.2.2 (mo) 0 (nI (0))) (mo) 13 (nI (bN c))) (mo) 14 (nI (pN c)))).1; (if (r3) = 0 then (let S5 := msum_f c (mo) (54) (54) (54) (S2.1, S2.2.1, fs (fs (fs S.2.2 (mo) 0 (nI (0))) (mo) 13 (nI (bN c))) (mo) 14 (nI (pN c))); (let r6 := (misN_f (mo) (54) (S5.1, S5.2.1, fs (fs (fs S.2.2 (mo) 0 (nI (0))) (mo) 13 (nI (bN c))) (mo) 14 (nI (pN c)))).1; (if (r6) = 0 then (let S8 := msum_f c (mo) (54) (54) (54) (S5.1, S5.2.1, fs (fs (fs S.2.2 (mo) 0 (nI (0))) (mo) 13 (nI (bN c))) (mo) 14 (nI (pN c))); (let r9 := (misN_f (mo) (54) (S8.1, S8.2.1, fs (fs (fs S.2.2 (mo) 0 (nI (0))) (mo) 13 (nI (bN c))) (mo) 14 (nI (pN c)))).1; (if (r9) = 0 then (let S11 := msum_f c (mo) (54) (54) (54) (S8.1, S8.2.1, fs (fs (fs S.2.2 (mo) 0 (nI (0))) (mo) 13 (nI (bN c))) (mo) 14 (nI (pN c))); (let r12 := (misN_f (mo) (54) (S11.1, S11.2.1, fs (fs (fs S.2.2 (mo) 0 (nI (0))) (mo) 13 (nI (bN c))) (mo) 14 (nI (pN c)))).1; (if (r12) = 0 then (let S14 := msum_f c (mo) (54) (54) (54) (S11.1, S11.2.1, fs (fs (fs S.2.2 (mo) 0 (nI (0))) (mo) 13 (nI (bN c))) (mo) 14 (nI (pN c))); (nI (0), (S14.1, S14.2.1, fs (fs (fs S.2.2 (mo) 0 (nI (0))) (mo) 13 (nI (bN c))) (mo) 14 (nI (pN c))))) else (nI (2 * (2 * (2 * 1))), (S11.1, S11.2.1, fs (fs (fs S.2.2 (mo) 0 (nI (0))) (mo) 13 (nI (bN c))) (mo) 14 (nI (pN c))))))) else (nI (2 * (2 * 1)), (S8.1, S8.2.1, fs (fs (fs S.2.2 (mo) 0 (nI (0))) (mo) 13 (nI (bN c))) (mo) 14 (nI (pN c))))))) else (nI (2 * 1), (S5.1, S5.2.1, fs (fs (fs S.2.2 (mo) 0 (nI (0))) (mo) 13 (nI (bN c))) (mo) 14 (nI (pN c))))))) else (nI (1), (S2.1, S2.2.1, fs (fs (fs S.2.2 (mo) 0 (nI (0))) (mo) 13 (nI (bN c))) (mo) 14 (nI (pN c))))))) (fun S2 e_S2 => (ft_let (v := (misN_f (mo) (54) (S2.1, S2.2.1, fs (fs (fs S.2.2 (mo) 0 (nI (0))) (mo) 13 (nI (bN c))) (mo) 14 (nI (pN c)))).1) (f := fun r3 => (if (r3) = 0 then (let S5 := msum_f c (mo) (54) (54) (54) (S2.1, S2.2.1, fs (fs (fs S.2.2 (mo) 0 (nI (0))) (mo) 13 (nI (bN c))) (mo) 14 (nI (pN c))); (let r6 := (misN_f (mo) (54) (S5.1, S5.2.1, fs (fs (fs S.2.2 (mo) 0 (nI (0))) (mo) 13 (nI (bN c))) (mo) 14 (nI (pN c)))).1; (if (r6) = 0 then (let S8 := msum_f c (mo) (54) (54) (54) (S5.1, S5.2.1, fs (fs (fs S.2.2 (mo) 0 (nI (0))) (mo) 13 (nI (bN c))) (mo) 14 (nI (pN c))); (let r9 := (misN_f (mo) (54) (S8.1, S8.2.1, fs (fs (fs S.2.2 (mo) 0 (nI (0))) (mo) 13 (nI (bN c))) (mo) 14 (nI (pN c)))).1; (if (r9) = 0 then (let S11 := msum_f c (mo) (54) (54) (54) (S8.1, S8.2.1, fs (fs (fs S.2.2 (mo) 0 (nI (0))) (mo) 13 (nI (bN c))) (mo) 14 (nI (pN c))); (let r12 := (misN_f (mo) (54) (S11.1, S11.2.1, fs (fs (fs S.2.2 (mo) 0 (nI (0))) (mo) 13 (nI (bN c))) (mo) 14 (nI (pN c)))).1; (if (r12) = 0 then (let S14 := msum_f c (mo) (54) (54) (54) (S11.1, S11.2.1, fs (fs (fs S.2.2 (mo) 0 (nI (0))) (mo) 13 (nI (bN c))) (mo) 14 (nI (pN c))); (nI (0), (S14.1, S14.2.1, fs (fs (fs S.2.2 (mo) 0 (nI (0))) (mo) 13 (nI (bN c))) (mo) 14 (nI (pN c))))) else (nI (2 * (2 * (2 * 1))), (S11.1, S11.2.1, fs (fs (fs S.2.2 (mo) 0 (nI (0))) (mo) 13 (nI (bN c))) (mo) 14 (nI (pN c))))))) else (nI (2 * (2 * 1)), (S8.1, S8.2.1, fs (fs (fs S.2.2 (mo) 0 (nI (0))) (mo) 13 (nI (bN c))) (mo) 14 (nI (pN c))))))) else (nI (2 * 1), (S5.1, S5.2.1, fs (fs (fs S.2.2 (mo) 0 (nI (0))) (mo) 13 (nI (bN c))) (mo) 14 (nI (pN c))))))) else (nI (1), (S2.1, S2.2.1, fs (fs (fs S.2.2 (mo) 0 (nI (0))) (mo) 13 (nI (bN c))) (mo) 14 (nI (pN c)))))) (fun r3 e_r3 => (ft_ite (ft_let (v := msum_f c (mo) (54) (54) (54) (S2.1, S2.2.1, fs (fs (fs S.2.2 (mo) 0 (nI (0))) (mo) 13 (nI (bN c))) (mo) 14 (nI (pN c)))) (f := fun S5 => (let r6 := (misN_f (mo) (54) (S5.1, S5.2.1, fs (fs (fs S.2.2 (mo) 0 (nI (0))) (mo) 13 (nI (bN c))) (mo) 14 (nI (pN c)))).1; (if (r6) = 0 then (let S8 := msum_f c (mo) (54) (54) (54) (S5.1, S5.2.1, fs (fs (fs S.2.2 (mo) 0 (nI (0))) (mo) 13 (nI (bN c))) (mo) 14 (nI (pN c))); (let r9 := (misN_f (mo) (54) (S8.1, S8.2.1, fs (fs (fs S.2.2 (mo) 0 (nI (0))) (mo) 13 (nI (bN c))) (mo) 14 (nI (pN c)))).1; (if (r9) = 0 then (let S11 := msum_f c (mo) (54) (54) (54) (S8.1, S8.2.1, fs (fs (fs S.2.2 (mo) 0 (nI (0))) (mo) 13 (nI (bN c))) (mo) 14 (nI (pN c))); (let r12 := (misN_f (mo) (54) (S11.1, S11.2.1, fs (fs (fs S.2.2 (mo) 0 (nI (0))) (mo) 13 (nI (bN c))) (mo) 14 (nI (pN c)))).1; (if (r12) = 0 then (let S14 := msum_f c (mo) (54) (54) (54) (S11.1, S11.2.1, fs (fs (fs S.2.2 (mo) 0 (nI (0))) (mo) 13 (nI (bN c))) (mo) 14 (nI (pN c))); (nI (0), (S14.1, S14.2.1, fs (fs (fs S.2.2 (mo) 0 (nI (0))) (mo) 13 (nI (bN c))) (mo) 14 (nI (pN c))))) else (nI (2 * (2 * (2 * 1))), (S11.1, S11.2.1, fs (fs (fs S.2.2 (mo) 0 (nI (0))) (mo) 13 (nI (bN c))) (mo) 14 (nI (pN c))))))) else (nI (2 * (2 * 1)), (S8.1, S8.2.1, fs (fs (fs S.2.2 (mo) 0 (nI (0))) (mo) 13 (nI (bN c))) (mo) 14 (nI (pN c))))))) else (nI (2 * 1), (S5.1, S5.2.1, fs (fs (fs S.2.2 (mo) 0 (nI (0))) (mo) 13 (nI (bN c))) (mo) 14 (nI (pN c))))))) (fun S5 e_S5 => (ft_let (v := (misN_f (mo) (54) (S5.1, S5.2.1, fs (fs (fs S.2.2 (mo) 0 (nI (0))) (mo) 13 (nI (bN c))) (mo) 14 (nI (pN c)))).1) (f := fun r6 => (if (r6) = 0 then (let S8 := msum_f c (mo) (54) (54) (54) (S5.1, S5.2.1, fs (fs (fs S.2.2 (mo) 0 (nI (0))) (mo) 13 (nI (bN c))) (mo) 14 (nI (pN c))); (let r9 := (misN_f (mo) (54) (S8.1, S8.2.1, fs (fs (fs S.2.2 (mo) 0 (nI (0))) (mo) 13 (nI (bN c))) (mo) 14 (nI (pN c)))).1; (if (r9) = 0 then (let S11 := msum_f c (mo) (54) (54) (54) (S8.1, S8.2.1, fs (fs (fs S.2.2 (mo) 0 (nI (0))) (mo) 13 (nI (bN c))) (mo) 14 (nI (pN c))); (let r12 := (misN_f (mo) (54) (S11.1, S11.2.1, fs (fs (fs S.2.2 (mo) 0 (nI (0))) (mo) 13 (nI (bN c))) (mo) 14 (nI (pN c)))).1; (if (r12) = 0 then (let S14 := msum_f c (mo) (54) (54) (54) (S11.1, S11.2.1, fs (fs (fs S.2.2 (mo) 0 (nI (0))) (mo) 13 (nI (bN c))) (mo) 14 (nI (pN c))); (nI (0), (S14.1, S14.2.1, fs (fs (fs S.2.2 (mo) 0 (nI (0))) (mo) 13 (nI (bN c))) (mo) 14 (nI (pN c))))) else (nI (2 * (2 * (2 * 1))), (S11.1, S11.2.1, fs (fs (fs S.2.2 (mo) 0 (nI (0))) (mo) 13 (nI (bN c))) (mo) 14 (nI (pN c))))))) else (nI (2 * (2 * 1)), (S8.1, S8.2.1, fs (fs (fs S.2.2 (mo) 0 (nI (0))) (mo) 13 (nI (bN c))) (mo) 14 (nI (pN c))))))) else (nI (2 * 1), (S5.1, S5.2.1, fs (fs (fs S.2.2 (mo) 0 (nI (0))) (mo) 13 (nI (bN c))) (mo) 14 (nI (pN c)))))) (fun r6 e_r6 => (ft_ite (ft_let (v := msum_f c (mo) (54) (54) (54) (S5.1, S5.2.1, fs (fs (fs S.2.2 (mo) 0 (nI (0))) (mo) 13 (nI (bN c))) (mo) 14 (nI (pN c)))) (f := fun S8 => (let r9 := (misN_f (mo) (54) (S8.1, S8.2.1, fs (fs (fs S.2.2 (mo) 0 (nI (0))) (mo) 13 (nI (bN c))) (mo) 14 (nI (pN c)))).1; (if (r9) = 0 then (let S11 := msum_f c (mo) (54) (54) (54) (S8.1, S8.2.1, fs (fs (fs S.2.2 (mo) 0 (nI (0))) (mo) 13 (nI (bN c))) (mo) 14 (nI (pN c))); (let r12 := (misN_f (mo) (54) (S11.1, S11.2.1, fs (fs (fs S.2.2 (mo) 0 (nI (0))) (mo) 13 (nI (bN c))) (mo) 14 (nI (pN c)))).1; (if (r12) = 0 then (let S14 := msum_f c (mo) (54) (54) (54) (S11.1, S11.2.1, fs (fs (fs S.2.2 (mo) 0 (nI (0))) (mo) 13 (nI (bN c))) (mo) 14 (nI (pN c))); (nI (0), (S14.1, S14.2.1, fs (fs (fs S.2.2 (mo) 0 (nI (0))) (mo) 13 (nI (bN c))) (mo) 14 (nI (pN c))))) else (nI (2 * (2 * (2 * 1))), (S11.1, S11.2.1, fs (fs (fs S.2.2 (mo) 0 (nI (0))) (mo) 13 (nI (bN c))) (mo) 14 (nI (pN c))))))) else (nI (2 * (2 * 1)), (S8.1, S8.2.1, fs (fs (fs S.2.2 (mo) 0 (nI (0))) (mo) 13 (nI (bN c))) (mo) 14 (nI (pN c))))))) (fun S8 e_S8 => (ft_let (v := (misN_f (mo) (54) (S8.1, S8.2.1, fs (fs (fs S.2.2 (mo) 0 (nI (0))) (mo) 13 (nI (bN c))) (mo) 14 (nI (pN c)))).1) (f := fun r9 => (if (r9) = 0 then (let S11 := msum_f c (mo) (54) (54) (54) (S8.1, S8.2.1, fs (fs (fs S.2.2 (mo) 0 (nI (0))) (mo) 13 (nI (bN c))) (mo) 14 (nI (pN c))); (let r12 := (misN_f (mo) (54) (S11.1, S11.2.1, fs (fs (fs S.2.2 (mo) 0 (nI (0))) (mo) 13 (nI (bN c))) (mo) 14 (nI (pN c)))).1; (if (r12) = 0 then (let S14 := msum_f c (mo) (54) (54) (54) (S11.1, S11.2.1, fs (fs (fs S.2.2 (mo) 0 (nI (0))) (mo) 13 (nI (bN c))) (mo) 14 (nI (pN c))); (nI (0), (S14.1, S14.2.1, fs (fs (fs S.2.2 (mo) 0 (nI (0))) (mo) 13 (nI (bN c))) (mo) 14 (nI (pN c))))) else (nI (2 * (2 * (2 * 1))), (S11.1, S11.2.1, fs (fs (fs S.2.2 (mo) 0 (nI (0))) (mo) 13 (nI (bN c))) (mo) 14 (nI (pN c))))))) else (nI (2 * (2 * 1)), (S8.1, S8.2.1, fs (fs (fs S.2.2 (mo) 0 (nI (0))) (mo) 13 (nI (bN c))) (mo) 14 (nI (pN c)))))) (fun r9 e_r9 => (ft_ite (ft_let (v := msum_f c (mo) (54) (54) (54) (S8.1, S8.2.1, fs (fs (fs S.2.2 (mo) 0 (nI (0))) (mo) 13 (nI (bN c))) (mo) 14 (nI (pN c)))) (f := fun S11 => (let r12 := (misN_f (mo) (54) (S11.1, S11.2.1, fs (fs (fs S.2.2 (mo) 0 (nI (0))) (mo) 13 (nI (bN c))) (mo) 14 (nI (pN c)))).1; (if (r12) = 0 then (let S14 := msum_f c (mo) (54) (54) (54) (S11.1, S11.2.1, fs (fs (fs S.2.2 (mo) 0 (nI (0))) (mo) 13 (nI (bN c))) (mo) 14 (nI (pN c))); (nI (0), (S14.1, S14.2.1, fs (fs (fs S.2.2 (mo) 0 (nI (0))) (mo) 13 (nI (bN c))) (mo) 14 (nI (pN c))))) else (nI (2 * (2 * (2 * 1))), (S11.1, S11.2.1, fs (fs (fs S.2.2 (mo) 0 (nI (0))) (mo) 13 (nI (bN c))) (mo) 14 (nI (pN c))))))) (fun S11 e_S11 => (ft_let (v := (misN_f (mo) (54) (S11.1, S11.2.1, fs (fs (fs S.2.2 (mo) 0 (nI (0))) (mo) 13 (nI (bN c))) (mo) 14 (nI (pN c)))).1) (f := fun r12 => (if (r12) = 0 then (let S14 := msum_f c (mo) (54) (54) (54) (S11.1, S11.2.1, fs (fs (fs S.2.2 (mo) 0 (nI (0))) (mo) 13 (nI (bN c))) (mo) 14 (nI (pN c))); (nI (0), (S14.1, S14.2.1, fs (fs (fs S.2.2 (mo) 0 (nI (0))) (mo) 13 (nI (bN c))) (mo) 14 (nI (pN c))))) else (nI (2 * (2 * (2 * 1))), (S11.1, S11.2.1, fs (fs (fs S.2.2 (mo) 0 (nI (0))) (mo) 13 (nI (bN c))) (mo) 14 (nI (pN c)))))) (fun r12 e_r12 => (ft_ite (ft_let (v := msum_f c (mo) (54) (54) (54) (S11.1, S11.2.1, fs (fs (fs S.2.2 (mo) 0 (nI (0))) (mo) 13 (nI (bN c))) (mo) 14 (nI (pN c)))) (f := fun S14 => (nI (0), (S14.1, S14.2.1, fs (fs (fs S.2.2 (mo) 0 (nI (0))) (mo) 13 (nI (bN c))) (mo) 14 (nI (pN c))))) (fun S14 e_S14 => rfl)) rfl))))) rfl))))) rfl))))) rfl)))))))
set_option maxRecDepth 100000 in
set_option maxHeartbeats 400000 in
theorem c_morder1 {k : KX} {L : Nat → Option Sh} {S : StT} {n : Nat} {c : Bool} {mo : Nat} {a : Nat} (hM : ModelAt k L mo) (ha : a < 3) (hca : S.1 (mo + 10) a = nI (bN c)) :
    Cs k yX12_order cX12_order 4 (some .int) 4 0 0 [.ref (k_b k + (mo)), .int (nI (a)), .int (nI (1))] (inst k L S.1 S.2.1 S.2.2) n (Pi k L n (morder1_f c mo a S)) := by
  refine cs_of (by decide) (Nat.le_of_ble_eq_true rfl) ?_
  intro X hXk C Rt hnm
  subst hXk
  have hM9 := hM
  obtain ⟨hM0, hm1, hm2, hm3, hm4, hm5, hm6, hm7, hm8, hm9, hm10, hm11, hm12, hm13, hm14, hm15, hm16, hm17, hm18, hm19, hm20, hm21, hm22, hm23, hm24, hm25, hm26, hm27⟩ := hM9
  obtain ⟨hp1, hp2⟩ := pN_le c
  have hbn := bN_le c
  obtain ⟨hk1, hk2⟩ := cB_le c
  have hfb : 32 ≤ fB c ∧ fB c ≤ 56 := by cases c <;> decide
  obtain ⟨hf1, hf2⟩ := hfb
  refine rn_lv [(0, .ref (k_b X.1 + (mo))), (1, .int (nI (a))), (2, .int (nI (1)))] (fun q h => h) ?_
  refine rn_aload_n C dX12_order_0 rfl ?_
  refine rn_iload_n C dX12_order_1 rfl ?_
  refine rs_sz C dX12_order_2 mk_X12_isPlace ls_X12_347 (cv_misPl (p := a) (by omega)) rfl rfl (by decide) (Nat.le_of_ble_eq_true rfl) (by decide) (by decide) ?_
  refine rn_if_eq (tgt := 17) C dX12_order_5 (by decide) (fun hb => absurd hb (show ¬ (nI (1)) = 0 from by decide)) (fun hb => ?_)
  refine rn_iload_n C dX12_order_8 rfl ?_
  refine rn_if_lt (tgt := 17) C dX12_order_9 (by decide) (fun hb => absurd hb (show ¬ (nI (1)) < 0 from by decide)) (fun hb => ?_)
  refine rn_iload_n C dX12_order_12 rfl ?_
  refine rn_iconst (v := nI 2) C dX12_order_13 rfl ?_
  refine rn_icmp_le (tgt := 21) C dX12_order_14 (by decide) (fun hb => ?_) (fun hb => absurd (show (nI (1)) ≤ (nI (2)) from by decide) hb)
  refine rn_iconst (v := nI 0) C dX12_order_21 rfl ?_
  refine rs_putF C dX12_order_22 fp_X12_7 hM0 rfl ?_
  refine rn_aload_n C dX12_order_25 rfl ?_
  refine rs_getFe C dX12_order_26 fl_X12_7 hM0 rfl fs_get ?_
  refine rn_if_eq (tgt := 34) C dX12_order_29 (by decide) (fun hb => ?_) (fun hb => absurd (show (nI (0)) = 0 from by decide) hb)
  refine rn_aload_n C dX12_order_34 rfl ?_
  refine rn_aload_n C dX12_order_35 rfl ?_
  refine rs_get C dX12_order_36 fl_X12_57 hM0 rfl ?_
  refine rn_iload_n C dX12_order_39 rfl ?_
  refine rs_iaload C dX12_order_40 hm10 rfl (by omega) (by decide) ?_
  rw [show S.1 (mo + 10) (a) = nI (bN c) from hca]
  refine rs_vv C dX12_order_41 mk_X12_choose lv_X12_131 (c_mcho (S := (S.1, S.2.1, fs S.2.2 (mo) 0 (nI (0)))) hM) hM0 rfl rfl rfl rfl (by decide) (Nat.le_of_ble_eq_true rfl) (by decide) (by decide) ?_
  rw [show (mcho_f c (mo) (S.1, S.2.1, fs S.2.2 (mo) 0 (nI (0)))).2.2 = fs (fs (fs S.2.2 (mo) 0 (nI (0))) (mo) 13 (nI (bN c))) (mo) 14 (nI (pN c)) from (mcho_F c (mo) (S.1, S.2.1, fs S.2.2 (mo) 0 (nI (0))))]
  generalize hS1 : mcho_f c (mo) (S.1, S.2.1, fs S.2.2 (mo) 0 (nI (0))) = S1
  refine rn_iload_n C dX12_order_44 rfl ?_
  refine rn_iconst (v := nI 2) C dX12_order_45 rfl ?_
  refine rn_icmp_ne (tgt := 54) C dX12_order_46 (by decide) (fun _ => ?_) (fun hb => absurd hb (show ¬ (nI (1)) = (nI (2)) from by decide))
  refine rn_iload_n C dX12_order_54 rfl ?_
  refine rn_if_ne (tgt := 74) C dX12_order_55 (by decide) (fun _ => ?_) (fun hb => absurd hb (show ¬ (nI (1)) = 0 from by decide))
  refine rn_aload_n C dX12_order_74 rfl ?_
  refine rn_bipush (v := nI 54) C dX12_order_75 rfl ?_
  refine rn_iconst (v := nI 3) C dX12_order_77 rfl ?_
  refine rn_iload_n C dX12_order_78 rfl ?_
  refine rn_imul C dX12_order_79 (pk_mul _ _) ?_
  refine rs_vv C dX12_order_80 mk_X12_copyPoint lv_X12_221 (c_mcopyP (S := (S1.1, S1.2.1, fs (fs (fs S.2.2 (mo) 0 (nI (0))) (mo) 13 (nI (bN c))) (mo) 14 (nI (pN c)))) hM (by omega) (by omega)) hM0 rfl rfl rfl rfl (by decide) (Nat.le_of_ble_eq_true rfl) (by decide) (by decide) ?_
  rw [show (mcopyP_f (mo) (54) (3 * a) (S1.1, S1.2.1, fs (fs (fs S.2.2 (mo) 0 (nI (0))) (mo) 13 (nI (bN c))) (mo) 14 (nI (pN c)))).2.2 = fs (fs (fs S.2.2 (mo) 0 (nI (0))) (mo) 13 (nI (bN c))) (mo) 14 (nI (pN c)) from (mcopyP_F (mo) (54) (3 * a) (S1.1, S1.2.1, fs (fs (fs S.2.2 (mo) 0 (nI (0))) (mo) 13 (nI (bN c))) (mo) 14 (nI (pN c))))]
  generalize hS2 : mcopyP_f (mo) (54) (3 * a) (S1.1, S1.2.1, fs (fs (fs S.2.2 (mo) 0 (nI (0))) (mo) 13 (nI (bN c))) (mo) 14 (nI (pN c))) = S2
  refine rn_iconst (v := nI 1) C dX12_order_83 rfl ?_
  refine rn_istore_n (lv' := [(0, _), (1, _), (2, _), (3, _)]) C dX12_order_84 (by decide) rfl ?_
  refine rn_iload_n C dX12_order_85 rfl ?_
  refine rn_bipush (v := nI 9) C dX12_order_86 rfl ?_
  refine rn_icmp_ge (tgt := 119) C dX12_order_88 (by decide) (fun hb => absurd hb (show ¬ (nI (9)) ≤ (nI (1)) from by decide)) (fun hb => ?_)
  refine rn_aload_n C dX12_order_91 rfl ?_
  refine rn_bipush (v := nI 54) C dX12_order_92 rfl ?_
  refine rs_vz C dX12_order_94 mk_X12_isNeutral lv_X12_353 (cp_misN (S := (S2.1, S2.2.1, fs (fs (fs S.2.2 (mo) 0 (nI (0))) (mo) 13 (nI (bN c))) (mo) 14 (nI (pN c)))) hM (by omega)) hM0 rfl rfl rfl rfl (by decide) (Nat.le_of_ble_eq_true rfl) (by decide) (by decide) ?_
  refine rn_if_eq (tgt := 102) C dX12_order_97 (by decide) (fun hb4 => ?_) (fun hb4 => ?_)
  · skip
    refine rn_aload_n C dX12_order_102 rfl ?_
    refine rn_bipush (v := nI 54) C dX12_order_103 rfl ?_
    refine rn_bipush (v := nI 54) C dX12_order_105 rfl ?_
    refine rn_bipush (v := nI 54) C dX12_order_107 rfl ?_
    refine rs_vv C dX12_order_109 mk_X12_sum lv_X12_224 (c_msum (S := (S2.1, S2.2.1, fs (fs (fs S.2.2 (mo) 0 (nI (0))) (mo) 13 (nI (bN c))) (mo) 14 (nI (pN c)))) hM (by omega) (by omega) (by omega) ((fs_oth (by decide)).trans fs_get) fs_get) hM0 rfl rfl rfl rfl (by decide) (Nat.le_of_ble_eq_true rfl) (by decide) (by decide) ?_
    rw [show (msum_f c (mo) (54) (54) (54) (S2.1, S2.2.1, fs (fs (fs S.2.2 (mo) 0 (nI (0))) (mo) 13 (nI (bN c))) (mo) 14 (nI (pN c)))).2.2 = fs (fs (fs S.2.2 (mo) 0 (nI (0))) (mo) 13 (nI (bN c))) (mo) 14 (nI (pN c)) from (msum_F c (mo) (54) (54) (54) (S2.1, S2.2.1, fs (fs (fs S.2.2 (mo) 0 (nI (0))) (mo) 13 (nI (bN c))) (mo) 14 (nI (pN c))))]
    generalize hS5 : msum_f c (mo) (54) (54) (54) (S2.1, S2.2.1, fs (fs (fs S.2.2 (mo) 0 (nI (0))) (mo) 13 (nI (bN c))) (mo) 14 (nI (pN c))) = S5
    refine rn_iconst (v := nI 2) C dX12_order_112 rfl ?_
    refine rn_iload_n C dX12_order_113 rfl ?_
    refine rn_imul C dX12_order_114 (pk_mul _ _) ?_
    refine rn_istore_n (lv' := [(0, _), (1, _), (2, _), (3, _)]) C dX12_order_115 (by decide) rfl ?_
    refine rn_goto (tgt := 85) C dX12_order_116 (by decide) ?_
    refine rn_iload_n C dX12_order_85 rfl ?_
    refine rn_bipush (v := nI 9) C dX12_order_86 rfl ?_
    refine rn_icmp_ge (tgt := 119) C dX12_order_88 (by decide) (fun hb => absurd hb (show ¬ (nI (9)) ≤ (nI (2 * 1)) from by decide)) (fun hb => ?_)
    refine rn_aload_n C dX12_order_91 rfl ?_
    refine rn_bipush (v := nI 54) C dX12_order_92 rfl ?_
    refine rs_vz C dX12_order_94 mk_X12_isNeutral lv_X12_353 (cp_misN (S := (S5.1, S5.2.1, fs (fs (fs S.2.2 (mo) 0 (nI (0))) (mo) 13 (nI (bN c))) (mo) 14 (nI (pN c)))) hM (by omega)) hM0 rfl rfl rfl rfl (by decide) (Nat.le_of_ble_eq_true rfl) (by decide) (by decide) ?_
    refine rn_if_eq (tgt := 102) C dX12_order_97 (by decide) (fun hb7 => ?_) (fun hb7 => ?_)
    · skip
      refine rn_aload_n C dX12_order_102 rfl ?_
      refine rn_bipush (v := nI 54) C dX12_order_103 rfl ?_
      refine rn_bipush (v := nI 54) C dX12_order_105 rfl ?_
      refine rn_bipush (v := nI 54) C dX12_order_107 rfl ?_
      refine rs_vv C dX12_order_109 mk_X12_sum lv_X12_224 (c_msum (S := (S5.1, S5.2.1, fs (fs (fs S.2.2 (mo) 0 (nI (0))) (mo) 13 (nI (bN c))) (mo) 14 (nI (pN c)))) hM (by omega) (by omega) (by omega) ((fs_oth (by decide)).trans fs_get) fs_get) hM0 rfl rfl rfl rfl (by decide) (Nat.le_of_ble_eq_true rfl) (by decide) (by decide) ?_
      rw [show (msum_f c (mo) (54) (54) (54) (S5.1, S5.2.1, fs (fs (fs S.2.2 (mo) 0 (nI (0))) (mo) 13 (nI (bN c))) (mo) 14 (nI (pN c)))).2.2 = fs (fs (fs S.2.2 (mo) 0 (nI (0))) (mo) 13 (nI (bN c))) (mo) 14 (nI (pN c)) from (msum_F c (mo) (54) (54) (54) (S5.1, S5.2.1, fs (fs (fs S.2.2 (mo) 0 (nI (0))) (mo) 13 (nI (bN c))) (mo) 14 (nI (pN c))))]
      generalize hS8 : msum_f c (mo) (54) (54) (54) (S5.1, S5.2.1, fs (fs (fs S.2.2 (mo) 0 (nI (0))) (mo) 13 (nI (bN c))) (mo) 14 (nI (pN c))) = S8
      refine rn_iconst (v := nI 2) C dX12_order_112 rfl ?_
      refine rn_iload_n C dX12_order_113 rfl ?_
      refine rn_imul C dX12_order_114 (pk_mul _ _) ?_
      refine rn_istore_n (lv' := [(0, _), (1, _), (2, _), (3, _)]) C dX12_order_115 (by decide) rfl ?_
      refine rn_goto (tgt := 85) C dX12_order_116 (by decide) ?_
      refine rn_iload_n C dX12_order_85 rfl ?_
      refine rn_bipush (v := nI 9) C dX12_order_86 rfl ?_
      refine rn_icmp_ge (tgt := 119) C dX12_order_88 (by decide) (fun hb => absurd hb (show ¬ (nI (9)) ≤ (nI (2 * (2 * 1))) from by decide)) (fun hb => ?_)
      refine rn_aload_n C dX12_order_91 rfl ?_
      refine rn_bipush (v := nI 54) C dX12_order_92 rfl ?_
      refine rs_vz C dX12_order_94 mk_X12_isNeutral lv_X12_353 (cp_misN (S := (S8.1, S8.2.1, fs (fs (fs S.2.2 (mo) 0 (nI (0))) (mo) 13 (nI (bN c))) (mo) 14 (nI (pN c)))) hM (by omega)) hM0 rfl rfl rfl rfl (by decide) (Nat.le_of_ble_eq_true rfl) (by decide) (by decide) ?_
      refine rn_if_eq (tgt := 102) C dX12_order_97 (by decide) (fun hb10 => ?_) (fun hb10 => ?_)
      · skip
        refine rn_aload_n C dX12_order_102 rfl ?_
        refine rn_bipush (v := nI 54) C dX12_order_103 rfl ?_
        refine rn_bipush (v := nI 54) C dX12_order_105 rfl ?_
        refine rn_bipush (v := nI 54) C dX12_order_107 rfl ?_
        refine rs_vv C dX12_order_109 mk_X12_sum lv_X12_224 (c_msum (S := (S8.1, S8.2.1, fs (fs (fs S.2.2 (mo) 0 (nI (0))) (mo) 13 (nI (bN c))) (mo) 14 (nI (pN c)))) hM (by omega) (by omega) (by omega) ((fs_oth (by decide)).trans fs_get) fs_get) hM0 rfl rfl rfl rfl (by decide) (Nat.le_of_ble_eq_true rfl) (by decide) (by decide) ?_
        rw [show (msum_f c (mo) (54) (54) (54) (S8.1, S8.2.1, fs (fs (fs S.2.2 (mo) 0 (nI (0))) (mo) 13 (nI (bN c))) (mo) 14 (nI (pN c)))).2.2 = fs (fs (fs S.2.2 (mo) 0 (nI (0))) (mo) 13 (nI (bN c))) (mo) 14 (nI (pN c)) from (msum_F c (mo) (54) (54) (54) (S8.1, S8.2.1, fs (fs (fs S.2.2 (mo) 0 (nI (0))) (mo) 13 (nI (bN c))) (mo) 14 (nI (pN c))))]
        generalize hS11 : msum_f c (mo) (54) (54) (54) (S8.1, S8.2.1, fs (fs (fs S.2.2 (mo) 0 (nI (0))) (mo) 13 (nI (bN c))) (mo) 14 (nI (pN c))) = S11
        refine rn_iconst (v := nI 2) C dX12_order_112 rfl ?_
        refine rn_iload_n C dX12_order_113 rfl ?_
        refine rn_imul C dX12_order_114 (pk_mul _ _) ?_
        refine rn_istore_n (lv' := [(0, _), (1, _), (2, _), (3, _)]) C dX12_order_115 (by decide) rfl ?_
        refine rn_goto (tgt := 85) C dX12_order_116 (by decide) ?_
        refine rn_iload_n C dX12_order_85 rfl ?_
        refine rn_bipush (v := nI 9) C dX12_order_86 rfl ?_
        refine rn_icmp_ge (tgt := 119) C dX12_order_88 (by decide) (fun hb => absurd hb (show ¬ (nI (9)) ≤ (nI (2 * (2 * (2 * 1)))) from by decide)) (fun hb => ?_)
        refine rn_aload_n C dX12_order_91 rfl ?_
        refine rn_bipush (v := nI 54) C dX12_order_92 rfl ?_
        refine rs_vz C dX12_order_94 mk_X12_isNeutral lv_X12_353 (cp_misN (S := (S11.1, S11.2.1, fs (fs (fs S.2.2 (mo) 0 (nI (0))) (mo) 13 (nI (bN c))) (mo) 14 (nI (pN c)))) hM (by omega)) hM0 rfl rfl rfl rfl (by decide) (Nat.le_of_ble_eq_true rfl) (by decide) (by decide) ?_
        refine rn_if_eq (tgt := 102) C dX12_order_97 (by decide) (fun hb13 => ?_) (fun hb13 => ?_)
        · skip
          refine rn_aload_n C dX12_order_102 rfl ?_
          refine rn_bipush (v := nI 54) C dX12_order_103 rfl ?_
          refine rn_bipush (v := nI 54) C dX12_order_105 rfl ?_
          refine rn_bipush (v := nI 54) C dX12_order_107 rfl ?_
          refine rs_vv C dX12_order_109 mk_X12_sum lv_X12_224 (c_msum (S := (S11.1, S11.2.1, fs (fs (fs S.2.2 (mo) 0 (nI (0))) (mo) 13 (nI (bN c))) (mo) 14 (nI (pN c)))) hM (by omega) (by omega) (by omega) ((fs_oth (by decide)).trans fs_get) fs_get) hM0 rfl rfl rfl rfl (by decide) (Nat.le_of_ble_eq_true rfl) (by decide) (by decide) ?_
          rw [show (msum_f c (mo) (54) (54) (54) (S11.1, S11.2.1, fs (fs (fs S.2.2 (mo) 0 (nI (0))) (mo) 13 (nI (bN c))) (mo) 14 (nI (pN c)))).2.2 = fs (fs (fs S.2.2 (mo) 0 (nI (0))) (mo) 13 (nI (bN c))) (mo) 14 (nI (pN c)) from (msum_F c (mo) (54) (54) (54) (S11.1, S11.2.1, fs (fs (fs S.2.2 (mo) 0 (nI (0))) (mo) 13 (nI (bN c))) (mo) 14 (nI (pN c))))]
          generalize hS14 : msum_f c (mo) (54) (54) (54) (S11.1, S11.2.1, fs (fs (fs S.2.2 (mo) 0 (nI (0))) (mo) 13 (nI (bN c))) (mo) 14 (nI (pN c))) = S14
          refine rn_iconst (v := nI 2) C dX12_order_112 rfl ?_
          refine rn_iload_n C dX12_order_113 rfl ?_
          refine rn_imul C dX12_order_114 (pk_mul _ _) ?_
          refine rn_istore_n (lv' := [(0, _), (1, _), (2, _), (3, _)]) C dX12_order_115 (by decide) rfl ?_
          refine rn_goto (tgt := 85) C dX12_order_116 (by decide) ?_
          refine rn_iload_n C dX12_order_85 rfl ?_
          refine rn_bipush (v := nI 9) C dX12_order_86 rfl ?_
          refine rn_icmp_ge (tgt := 119) C dX12_order_88 (by decide) (fun hb => ?_) (fun hb => absurd (show (nI (9)) ≤ (nI (2 * (2 * (2 * (2 * 1))))) from by decide) hb)
          refine rn_iconst (v := nI 0) C dX12_order_119 rfl ?_
          have hret : morder1_f c mo a S = (nI (0), (S14.1, S14.2.1, fs (fs (fs S.2.2 (mo) 0 (nI (0))) (mo) 13 (nI (bN c))) (mo) 14 (nI (pN c)))) := by
            subst hS14
            subst hS11
            subst hS8
            subst hS5
            subst hS2
            subst hS1
            first | (dsimp only [morder1_f]; done) | (dsimp only [morder1_f]; exact ((((if_pos hb4).trans (if_pos hb7)).trans (if_pos hb10)).trans (if_pos hb13))) | exact ((((if_pos hb4).trans (if_pos hb7)).trans (if_pos hb10)).trans (if_pos hb13))
          exact rn_iret C Rt dX12_order_120 (pi_of hret) (Nat.zero_le _) (Nat.zero_le _)
        · skip
          refine rn_iload_n C dX12_order_100 rfl ?_
          have hret : morder1_f c mo a S = (nI (2 * (2 * (2 * 1))), (S11.1, S11.2.1, fs (fs (fs S.2.2 (mo) 0 (nI (0))) (mo) 13 (nI (bN c))) (mo) 14 (nI (pN c)))) := by
            subst hS11
            subst hS8
            subst hS5
            subst hS2
            subst hS1
            first | (dsimp only [morder1_f]; done) | (dsimp only [morder1_f]; exact ((((if_pos hb4).trans (if_pos hb7)).trans (if_pos hb10)).trans (if_neg hb13))) | exact ((((if_pos hb4).trans (if_pos hb7)).trans (if_pos hb10)).trans (if_neg hb13))
          exact rn_iret C Rt dX12_order_101 (pi_of hret) (Nat.zero_le _) (Nat.zero_le _)
      · skip
        refine rn_iload_n C dX12_order_100 rfl ?_
        have hret : morder1_f c mo a S = (nI (2 * (2 * 1)), (S8.1, S8.2.1, fs (fs (fs S.2.2 (mo) 0 (nI (0))) (mo) 13 (nI (bN c))) (mo) 14 (nI (pN c)))) := by
          subst hS8
          subst hS5
          subst hS2
          subst hS1
          first | (dsimp only [morder1_f]; done) | (dsimp only [morder1_f]; exact (((if_pos hb4).trans (if_pos hb7)).trans (if_neg hb10))) | exact (((if_pos hb4).trans (if_pos hb7)).trans (if_neg hb10))
        exact rn_iret C Rt dX12_order_101 (pi_of hret) (Nat.zero_le _) (Nat.zero_le _)
    · skip
      refine rn_iload_n C dX12_order_100 rfl ?_
      have hret : morder1_f c mo a S = (nI (2 * 1), (S5.1, S5.2.1, fs (fs (fs S.2.2 (mo) 0 (nI (0))) (mo) 13 (nI (bN c))) (mo) 14 (nI (pN c)))) := by
        subst hS5
        subst hS2
        subst hS1
        first | (dsimp only [morder1_f]; done) | (dsimp only [morder1_f]; exact ((if_pos hb4).trans (if_neg hb7))) | exact ((if_pos hb4).trans (if_neg hb7))
      exact rn_iret C Rt dX12_order_101 (pi_of hret) (Nat.zero_le _) (Nat.zero_le _)
  · skip
    refine rn_iload_n C dX12_order_100 rfl ?_
    have hret : morder1_f c mo a S = (nI (1), (S2.1, S2.2.1, fs (fs (fs S.2.2 (mo) 0 (nI (0))) (mo) 13 (nI (bN c))) (mo) 14 (nI (pN c)))) := by
      subst hS2
      subst hS1
      first | (dsimp only [morder1_f]; done) | (dsimp only [morder1_f]; exact (if_neg hb4)) | exact (if_neg hb4)
    exact rn_iret C Rt dX12_order_101 (pi_of hret) (Nat.zero_le _) (Nat.zero_le _)
def morder2_f (c : Bool) (mo : Nat) (a : Nat) (S : StT) : Int32 × StT := (let S1 := mcho_f c (mo) (S.1, S.2.1, fs S.2.2 (mo) 0 (nI (0))); (nI (bN c), (S1.1, S1.2.1, fs (fs (fs S.2.2 (mo) 0 (nI (0))) (mo) 13 (nI (bN c))) (mo) 14 (nI (pN c)))))
theorem morder2_F (c : Bool) (mo : Nat) (a : Nat) (S : StT) : (morder2_f c mo a S).2.2.2 = fs (fs (fs S.2.2 (mo) 0 (nI (0))) (mo) 13 (nI (bN c))) (mo) 14 (nI (pN c)) := by
  unfold morder2_f; first | rfl | ((repeat' split) <;> rfl) | (dsimp only; (repeat' split) <;> rfl)
set_option maxRecDepth 100000 in
set_option maxHeartbeats 400000 in
theorem c_morder2 {k : KX} {L : Nat → Option Sh} {S : StT} {n : Nat} {c : Bool} {mo : Nat} {a : Nat} (hM : ModelAt k L mo) (ha : a < 3) (hca : S.1 (mo + 10) a = nI (bN c)) :
    Cs k yX12_order cX12_order 4 (some .int) 4 0 0 [.ref (k_b k + (mo)), .int (nI (a)), .int (nI (2))] (inst k L S.1 S.2.1 S.2.2) n (Pi k L n (morder2_f c mo a S)) := by
  refine cs_of (by decide) (Nat.le_of_ble_eq_true rfl) ?_
  intro X hXk C Rt hnm
  subst hXk
  have hM9 := hM
  obtain ⟨hM0, hm1, hm2, hm3, hm4, hm5, hm6, hm7, hm8, hm9, hm10, hm11, hm12, hm13, hm14, hm15, hm16, hm17, hm18, hm19, hm20, hm21, hm22, hm23, hm24, hm25, hm26, hm27⟩ := hM9
  obtain ⟨hp1, hp2⟩ := pN_le c
  have hbn := bN_le c
  obtain ⟨hk1, hk2⟩ := cB_le c
  have hfb : 32 ≤ fB c ∧ fB c ≤ 56 := by cases c <;> decide
  obtain ⟨hf1, hf2⟩ := hfb
  refine rn_lv [(0, .ref (k_b X.1 + (mo))), (1, .int (nI (a))), (2, .int (nI (2)))] (fun q h => h) ?_
  refine rn_aload_n C dX12_order_0 rfl ?_
  refine rn_iload_n C dX12_order_1 rfl ?_
  refine rs_sz C dX12_order_2 mk_X12_isPlace ls_X12_347 (cv_misPl (p := a) (by omega)) rfl rfl (by decide) (Nat.le_of_ble_eq_true rfl) (by decide) (by decide) ?_
  refine rn_if_eq (tgt := 17) C dX12_order_5 (by decide) (fun hb => absurd hb (show ¬ (nI (1)) = 0 from by decide)) (fun hb => ?_)
  refine rn_iload_n C dX12_order_8 rfl ?_
  refine rn_if_lt (tgt := 17) C dX12_order_9 (by decide) (fun hb => absurd hb (show ¬ (nI (2)) < 0 from by decide)) (fun hb => ?_)
  refine rn_iload_n C dX12_order_12 rfl ?_
  refine rn_iconst (v := nI 2) C dX12_order_13 rfl ?_
  refine rn_icmp_le (tgt := 21) C dX12_order_14 (by decide) (fun hb => ?_) (fun hb => absurd (show (nI (2)) ≤ (nI (2)) from by decide) hb)
  refine rn_iconst (v := nI 0) C dX12_order_21 rfl ?_
  refine rs_putF C dX12_order_22 fp_X12_7 hM0 rfl ?_
  refine rn_aload_n C dX12_order_25 rfl ?_
  refine rs_getFe C dX12_order_26 fl_X12_7 hM0 rfl fs_get ?_
  refine rn_if_eq (tgt := 34) C dX12_order_29 (by decide) (fun hb => ?_) (fun hb => absurd (show (nI (0)) = 0 from by decide) hb)
  refine rn_aload_n C dX12_order_34 rfl ?_
  refine rn_aload_n C dX12_order_35 rfl ?_
  refine rs_get C dX12_order_36 fl_X12_57 hM0 rfl ?_
  refine rn_iload_n C dX12_order_39 rfl ?_
  refine rs_iaload C dX12_order_40 hm10 rfl (by omega) (by decide) ?_
  rw [show S.1 (mo + 10) (a) = nI (bN c) from hca]
  refine rs_vv C dX12_order_41 mk_X12_choose lv_X12_131 (c_mcho (S := (S.1, S.2.1, fs S.2.2 (mo) 0 (nI (0)))) hM) hM0 rfl rfl rfl rfl (by decide) (Nat.le_of_ble_eq_true rfl) (by decide) (by decide) ?_
  rw [show (mcho_f c (mo) (S.1, S.2.1, fs S.2.2 (mo) 0 (nI (0)))).2.2 = fs (fs (fs S.2.2 (mo) 0 (nI (0))) (mo) 13 (nI (bN c))) (mo) 14 (nI (pN c)) from (mcho_F c (mo) (S.1, S.2.1, fs S.2.2 (mo) 0 (nI (0))))]
  generalize hS1 : mcho_f c (mo) (S.1, S.2.1, fs S.2.2 (mo) 0 (nI (0))) = S1
  refine rn_iload_n C dX12_order_44 rfl ?_
  refine rn_iconst (v := nI 2) C dX12_order_45 rfl ?_
  refine rn_icmp_ne (tgt := 54) C dX12_order_46 (by decide) (fun hb => absurd (show (nI (2)) = (nI (2)) from by decide) hb) (fun _ => ?_)
  refine rn_aload_n C dX12_order_49 rfl ?_
  refine rs_getFe C dX12_order_50 fl_X12_51 hM0 rfl ((fs_oth (by decide)).trans fs_get) ?_
  have hret : morder2_f c mo a S = (nI (bN c), (S1.1, S1.2.1, fs (fs (fs S.2.2 (mo) 0 (nI (0))) (mo) 13 (nI (bN c))) (mo) 14 (nI (pN c)))) := by
    subst hS1
    first | (dsimp only [morder2_f]; done) | (dsimp only [morder2_f]; exact rfl) | exact rfl
  exact rn_iret C Rt dX12_order_53 (pi_of hret) (Nat.zero_le _) (Nat.zero_le _)
