/-! CurveSuite$Limbs and what stands on it, by program (dc.py, spec_cls1.py) -/
theorem lm_lo {b i : Nat} (h : 8 * i % b + 8 < b) : 8 * (i + 1) % b = 8 * i % b + 8 ∧ 8 * (i + 1) / b = 8 * i / b := by
  have e : 8 * (i + 1) = (8 * i % b + 8) + b * (8 * i / b) := by
    have := Nat.mod_add_div (8 * i) b
    omega
  rw [e]
  refine ⟨?_, ?_⟩
  · rw [Nat.add_mul_mod_self_left]
    exact Nat.mod_eq_of_lt h
  · rw [Nat.add_mul_div_left _ _ (by omega), Nat.div_eq_of_lt h, Nat.zero_add]
theorem lm_hi {b i : Nat} (hb : 8 ≤ b) (h : b ≤ 8 * i % b + 8) : 8 * (i + 1) % b = 8 * i % b + 8 - b ∧ 8 * (i + 1) / b = 8 * i / b + 1 := by
  have hm := Nat.mod_lt (8 * i) (show b > 0 by omega)
  have e : 8 * (i + 1) = (8 * i % b + 8 - b) + b * (8 * i / b + 1) := by
    have := Nat.mod_add_div (8 * i) b
    have h2 : b * (8 * i / b + 1) = b * (8 * i / b) + b := by rw [Nat.mul_add, Nat.mul_one]
    omega
  rw [e]
  refine ⟨?_, ?_⟩
  · rw [Nat.add_mul_mod_self_left]
    exact Nat.mod_eq_of_lt (by omega)
  · rw [Nat.add_mul_div_left _ _ (by omega), Nat.div_eq_of_lt (by omega), Nat.zero_add]
theorem rn_lve {X : CX} {pc n ce sl : Nat} {lv lv' : List (Nat × Value)} {st : List Value} {P : PT} (h : lv = lv') (k : Rn X pc lv' st P n ce sl) : Rn X pc lv st P n ce sl := h ▸ k
def rgN (c : Bool) : Nat := if c then 222 else 250
def rhN (c : Bool) : Nat := if c then 223 else 2
theorem rg_le (c : Bool) (i : Nat) : rgN c / 2 ^ (7 - i) ≤ 250 := Nat.le_trans (Nat.div_le_self _ _) (by cases c <;> decide)
theorem rg_0 : ∀ (c : Bool) (i : Nat), i < 7 → ((nI (rgN c)) >>> ((nI (7 - 1 - i)) &&& 31)) &&& (nI 1) ≠ nI 1 → rgN c / 2 ^ (7 - i) * 2 = rgN c / 2 ^ (7 - (i + 1)) := by decide
theorem rg_1 : ∀ (c : Bool) (i : Nat), i < 7 → ((nI (rgN c)) >>> ((nI (7 - 1 - i)) &&& 31)) &&& (nI 1) = nI 1 → rgN c / 2 ^ (7 - i) * 2 + 1 = rgN c / 2 ^ (7 - (i + 1)) := by decide
def lfrom_l21 (to : Nat) (bits : Nat) (by_ : Nat) (S : StT)  : Nat → (Nat → Nat → Int64)
  | 0 => S.2.1
  | i21 + 1 => let y21_0 := (lfrom_l21 to bits by_ S i21); (if (nI (16)) ≤ (nI (8 * i21 / bits)) then (if (nI (8 * i21 % bits + 8)) < (nI (bits)) then y21_0 else (if (nI (16)) ≤ (nI (8 * i21 / bits + 1)) then y21_0 else (let J5 := va_up y21_0 (to) (vp_updL (y21_0 (to)) (8 * i21 / bits + 1) ((((S.1 (by_) (i21)).toInt64) <<< ((nI (8 * i21 % bits)).toInt64 &&& 63)) >>> ((nI (bits)).toInt64 &&& 63))); J5))) else (let J6 := va_up y21_0 (to) (vp_updL (y21_0 (to)) (8 * i21 / bits) ((y21_0 (to) (8 * i21 / bits)) ||| ((((S.1 (by_) (i21)).toInt64) <<< ((nI (8 * i21 % bits)).toInt64 &&& 63)) &&& ((1 <<< ((nI (bits)).toInt64 &&& 63)) - 1)))); (if (nI (8 * i21 % bits + 8)) < (nI (bits)) then J6 else (if (nI (16)) ≤ (nI (8 * i21 / bits + 1)) then J6 else (let J9 := va_up J6 (to) (vp_updL (J6 (to)) (8 * i21 / bits + 1) ((((S.1 (by_) (i21)).toInt64) <<< ((nI (8 * i21 % bits)).toInt64 &&& 63)) >>> ((nI (bits)).toInt64 &&& 63))); J9)))))
def lfrom_f (to : Nat) (bits : Nat) (by_ : Nat) (nn : Nat) (S : StT) : StT := (let S1 := fill_f (to) (16) (0) S; (S.1, (lfrom_l21 to bits by_ (S.1, S1.2.1, S.2.2) nn), S.2.2))
theorem lfrom_F (to : Nat) (bits : Nat) (by_ : Nat) (nn : Nat) (S : StT) : (lfrom_f to bits by_ nn S).2.2 = S.2.2 := by
  unfold lfrom_f; first | rfl | ((repeat' split) <;> rfl) | (dsimp only; (repeat' split) <;> rfl)
theorem lfrom_I (to : Nat) (bits : Nat) (by_ : Nat) (nn : Nat) (S : StT) : (lfrom_f to bits by_ nn S).1 = S.1 := by
  unfold lfrom_f; first | rfl | ((repeat' split) <;> rfl)
set_option maxRecDepth 100000 in
set_option maxHeartbeats 400000 in
theorem c_lfrom {k : KX} {L : Nat → Option Sh} {S : StT} {n : Nat} {to : Nat} {bits : Nat} {by_ : Nat} {m : Nat} {nn : Nat} (hto : L to = some (sJ 16)) (hb1 : 28 ≤ bits) (hb2 : bits ≤ 29) (hby_ : L by_ = some (sI m)) (hm : m < 2 ^ 31) (hnn : nn ≤ m) (hn2 : nn ≤ 64) :
    Cs k yX4_fromBytes cX4_fromBytes 11 none 1 0 0 [.ref (k_b k + (to)), .int (nI (bits)), .ref (k_b k + (by_)), .int (nI (nn))] (inst k L S.1 S.2.1 S.2.2) n (Pv k L n (lfrom_f to bits by_ nn S)) := by
  refine cs_of (by decide) (Nat.le_of_ble_eq_true rfl) ?_
  intro X hXk C Rt hnm
  subst hXk
  refine rn_lv [(0, .ref (k_b X.1 + (to))), (1, .int (nI (bits))), (2, .ref (k_b X.1 + (by_))), (3, .int (nI (nn)))] (fun q h => h) ?_
  refine rn_lconst (v := 1) C dX4_fromBytes_0 rfl ?_
  refine rn_iload_n C dX4_fromBytes_1 rfl ?_
  refine rn_lshl C dX4_fromBytes_2 rfl ?_
  refine rn_lconst (v := 1) C dX4_fromBytes_3 rfl ?_
  refine rn_lsub C dX4_fromBytes_4 rfl ?_
  refine rn_lstore (lv' := [(0, _), (1, _), (2, _), (3, _), (4, _)]) C dX4_fromBytes_5 (by decide) rfl ?_
  refine rn_aload_n C dX4_fromBytes_7 rfl ?_
  refine rn_lconst (v := 0) C dX4_fromBytes_8 rfl ?_
  refine rs_sv C dX4_fromBytes_9 mk_J7_fill_d0a16 ls_X4_27 (c_fill hto (by decide)) rfl rfl (by decide) (Nat.le_of_ble_eq_true rfl) (by decide) (by decide) ?_
  rw [show (fill_f (to) (16) (0) S).2.2 = S.2.2 from (fill_F (to) (16) (0) S)]
  rw [show (fill_f (to) (16) (0) S).1 = S.1 from fill_I (to) (16) (0) S]
  generalize hS1 : fill_f (to) (16) (0) S = S1
  refine rn_iconst (v := nI 0) C dX4_fromBytes_12 rfl ?_
  refine rn_istore (lv' := [(0, _), (1, _), (2, _), (3, _), (4, _), (6, _)]) C dX4_fromBytes_13 (by decide) rfl ?_
  refine rn_iconst (v := nI 0) C dX4_fromBytes_15 rfl ?_
  refine rn_istore (lv' := [(0, _), (1, _), (2, _), (3, _), (4, _), (6, _), (7, _)]) C dX4_fromBytes_16 (by decide) rfl ?_
  refine rn_iconst (v := nI 0) C dX4_fromBytes_18 rfl ?_
  refine rn_istore (lv' := [(0, _), (1, _), (2, _), (3, _), (4, _), (6, _), (7, _), (8, _)]) C dX4_fromBytes_19 (by decide) rfl ?_
  have lp21 : ∀ i21, i21 ≤ nn → Rn X 21 [(0, .ref (k_b X.1 + (to))), (1, .int (nI (bits))), (2, .ref (k_b X.1 + (by_))), (3, .int (nI (nn))), (4, .long ((1 <<< ((nI (bits)).toInt64 &&& 63)) - 1)), (6, .int (nI (8 * i21 / bits))), (7, .int (nI (8 * i21 % bits))), (8, .int (nI (i21)))] [] (inst X.1 L S.1 (lfrom_l21 to bits by_ (S.1, S1.2.1, S.2.2) i21) S.2.2) n 0 0 := by
    refine upto _ _ ?_ (fun i21 hi21 ih21 => ?_)
    · skip
      refine rn_iload C dX4_fromBytes_21 rfl ?_
      refine rn_iload_n C dX4_fromBytes_23 rfl ?_
      refine rs_ge (tgt := 95) C dX4_fromBytes_24 (by decide) rfl rfl (by omega) (by omega) (fun _ => ?_) (fun q => absurd q (by omega))
      have hret : lfrom_f to bits by_ nn S = (S.1, (lfrom_l21 to bits by_ (S.1, S1.2.1, S.2.2) nn), S.2.2) := by
        subst hS1
        first | (dsimp only [lfrom_f]; done) | (dsimp only [lfrom_f]; exact rfl) | exact rfl
      exact rn_vret C Rt dX4_fromBytes_95 (pv_of hret) (Nat.zero_le _) (Nat.zero_le _)
    · skip
      have hsl : 8 * i21 % bits < bits := Nat.mod_lt _ (by omega)
      have hdl : 8 * i21 / bits ≤ 8 * i21 := Nat.div_le_self _ _
      refine rn_iload C dX4_fromBytes_21 rfl ?_
      refine rn_iload_n C dX4_fromBytes_23 rfl ?_
      refine rs_ge (tgt := 95) C dX4_fromBytes_24 (by decide) rfl rfl (by omega) (by omega) (fun q => absurd q (by omega)) (fun _ => ?_)
      refine rn_aload_n C dX4_fromBytes_27 rfl ?_
      refine rn_iload C dX4_fromBytes_28 rfl ?_
      refine rs_iaload C dX4_fromBytes_30 hby_ rfl (by omega) hm ?_
      refine rn_i2l C dX4_fromBytes_31 rfl ?_
      refine rn_iload C dX4_fromBytes_32 rfl ?_
      refine rn_lshl C dX4_fromBytes_34 rfl ?_
      refine rn_lstore (lv' := [(0, _), (1, _), (2, _), (3, _), (4, _), (6, _), (7, _), (8, _), (9, _)]) C dX4_fromBytes_35 (by decide) rfl ?_
      refine rn_iload C dX4_fromBytes_37 rfl ?_
      refine rn_bipush (v := nI 16) C dX4_fromBytes_39 rfl ?_
      refine rn_icmp_ge (tgt := 56) C dX4_fromBytes_41 (by decide) (fun hb2 => ?_) (fun hb2 => ?_)
      · skip
        refine rn_iinc (lv' := [(0, _), (1, _), (2, _), (3, _), (4, _), (6, _), (7, _), (8, _), (9, _)]) C dX4_fromBytes_56 rfl (nI_incs _ 8) (by decide) rfl ?_
        refine rn_iload C dX4_fromBytes_59 rfl ?_
        refine rn_iload_n C dX4_fromBytes_61 rfl ?_
        refine rn_icmp_lt (tgt := 89) C dX4_fromBytes_62 (by decide) (fun hb3 => ?_) (fun hb3 => ?_)
        · skip
          obtain ⟨hlo1, hlo2⟩ := lm_lo (i := i21) ((nI_ltI (by omega) (by omega)).mp hb3)
          refine rn_iinc (lv' := [(0, _), (1, _), (2, _), (3, _), (4, _), (6, _), (7, _), (8, _), (9, _)]) C dX4_fromBytes_89 rfl (nI_inc _) (by decide) rfl ?_
          refine rn_goto (tgt := 21) C dX4_fromBytes_92 (by decide) ?_
          have he21 : lfrom_l21 to bits by_ (S.1, S1.2.1, S.2.2) (i21 + 1) = (lfrom_l21 to bits by_ (S.1, S1.2.1, S.2.2) i21) := by
            first | (dsimp only [lfrom_l21]; done) | (dsimp only [lfrom_l21]; exact ((if_pos hb2).trans (if_pos hb3))) | exact ((if_pos hb2).trans (if_pos hb3))
          rw [he21] at ih21
          refine rn_lve (lv' := [(0, .ref (k_b X.1 + (to))), (1, .int (nI (bits))), (2, .ref (k_b X.1 + (by_))), (3, .int (nI (nn))), (4, .long ((1 <<< ((nI (bits)).toInt64 &&& 63)) - 1)), (6, .int (nI (8 * (i21 + 1) / bits))), (7, .int (nI (8 * (i21 + 1) % bits))), (8, .int (nI (i21 + 1))), (9, .long ((((S.1, S1.2.1, S.2.2).1 (by_) (i21)).toInt64) <<< ((nI (8 * i21 % bits)).toInt64 &&& 63)))]) (by rw [show nI (8 * (i21 + 1) / bits) = nI (8 * i21 / bits) from (Eq.symm (nI_is (by omega))), show nI (8 * (i21 + 1) % bits) = nI (8 * i21 % bits + 8) from (Eq.symm (nI_is (by omega)))]) ?_
          exact rn_ks [0, 1, 2, 3, 4, 6, 7, 8] ih21 rfl
        · skip
          have hge : bits ≤ 8 * i21 % bits + 8 := Nat.not_lt.mp (fun q => hb3 ((nI_ltI (by omega) (by omega)).mpr q))
          obtain ⟨hhi1, hhi2⟩ := lm_hi (by omega) hge
          refine rn_iload C dX4_fromBytes_65 rfl ?_
          refine rn_iload_n C dX4_fromBytes_67 rfl ?_
          refine rn_isub C dX4_fromBytes_68 (pk_sub (by omega)) ?_
          refine rn_istore (lv' := [(0, _), (1, _), (2, _), (3, _), (4, _), (6, _), (7, _), (8, _), (9, _)]) C dX4_fromBytes_69 (by decide) rfl ?_
          refine rn_iinc (lv' := [(0, _), (1, _), (2, _), (3, _), (4, _), (6, _), (7, _), (8, _), (9, _)]) C dX4_fromBytes_71 rfl (nI_inc _) (by decide) rfl ?_
          refine rn_iload C dX4_fromBytes_74 rfl ?_
          refine rn_bipush (v := nI 16) C dX4_fromBytes_76 rfl ?_
          refine rn_icmp_ge (tgt := 89) C dX4_fromBytes_78 (by decide) (fun hb4 => ?_) (fun hb4 => ?_)
          · skip
            refine rn_iinc (lv' := [(0, _), (1, _), (2, _), (3, _), (4, _), (6, _), (7, _), (8, _), (9, _)]) C dX4_fromBytes_89 rfl (nI_inc _) (by decide) rfl ?_
            refine rn_goto (tgt := 21) C dX4_fromBytes_92 (by decide) ?_
            have he21 : lfrom_l21 to bits by_ (S.1, S1.2.1, S.2.2) (i21 + 1) = (lfrom_l21 to bits by_ (S.1, S1.2.1, S.2.2) i21) := by
              first | (dsimp only [lfrom_l21]; done) | (dsimp only [lfrom_l21]; exact (((if_pos hb2).trans (if_neg hb3)).trans (if_pos hb4))) | exact (((if_pos hb2).trans (if_neg hb3)).trans (if_pos hb4))
            rw [he21] at ih21
            refine rn_lve (lv' := [(0, .ref (k_b X.1 + (to))), (1, .int (nI (bits))), (2, .ref (k_b X.1 + (by_))), (3, .int (nI (nn))), (4, .long ((1 <<< ((nI (bits)).toInt64 &&& 63)) - 1)), (6, .int (nI (8 * (i21 + 1) / bits))), (7, .int (nI (8 * (i21 + 1) % bits))), (8, .int (nI (i21 + 1))), (9, .long ((((S.1, S1.2.1, S.2.2).1 (by_) (i21)).toInt64) <<< ((nI (8 * i21 % bits)).toInt64 &&& 63)))]) (by rw [show nI (8 * (i21 + 1) / bits) = nI (8 * i21 / bits + 1) from (Eq.symm (nI_is (by omega))), show nI (8 * (i21 + 1) % bits) = nI (8 * i21 % bits + 8 - bits) from (Eq.symm (nI_is (by omega)))]) ?_
            exact rn_ks [0, 1, 2, 3, 4, 6, 7, 8] ih21 rfl
          · skip
            have h16 : 8 * i21 / bits + 1 < 16 := Nat.not_le.mp (fun q => hb4 ((nI_leI (by omega) (by omega)).mpr q))
            refine rn_aload_n C dX4_fromBytes_81 rfl ?_
            refine rn_iload C dX4_fromBytes_82 rfl ?_
            refine rn_lload C dX4_fromBytes_84 rfl ?_
            refine rn_iload_n C dX4_fromBytes_86 rfl ?_
            refine rn_lshr C dX4_fromBytes_87 rfl ?_
            refine rs_lastore C dX4_fromBytes_88 hto rfl (by omega) (by decide) ?_
            refine rn_iinc (lv' := [(0, _), (1, _), (2, _), (3, _), (4, _), (6, _), (7, _), (8, _), (9, _)]) C dX4_fromBytes_89 rfl (nI_inc _) (by decide) rfl ?_
            refine rn_goto (tgt := 21) C dX4_fromBytes_92 (by decide) ?_
            have he21 : lfrom_l21 to bits by_ (S.1, S1.2.1, S.2.2) (i21 + 1) = (va_up (lfrom_l21 to bits by_ (S.1, S1.2.1, S.2.2) i21) (to) (vp_updL ((lfrom_l21 to bits by_ (S.1, S1.2.1, S.2.2) i21) (to)) (8 * i21 / bits + 1) (((((S.1, S1.2.1, S.2.2).1 (by_) (i21)).toInt64) <<< ((nI (8 * i21 % bits)).toInt64 &&& 63)) >>> ((nI (bits)).toInt64 &&& 63)))) := by
              first | (dsimp only [lfrom_l21]; done) | (dsimp only [lfrom_l21]; exact (((if_pos hb2).trans (if_neg hb3)).trans (if_neg hb4))) | exact (((if_pos hb2).trans (if_neg hb3)).trans (if_neg hb4))
            rw [he21] at ih21
            refine rn_lve (lv' := [(0, .ref (k_b X.1 + (to))), (1, .int (nI (bits))), (2, .ref (k_b X.1 + (by_))), (3, .int (nI (nn))), (4, .long ((1 <<< ((nI (bits)).toInt64 &&& 63)) - 1)), (6, .int (nI (8 * (i21 + 1) / bits))), (7, .int (nI (8 * (i21 + 1) % bits))), (8, .int (nI (i21 + 1))), (9, .long ((((S.1, S1.2.1, S.2.2).1 (by_) (i21)).toInt64) <<< ((nI (8 * i21 % bits)).toInt64 &&& 63)))]) (by rw [show nI (8 * (i21 + 1) / bits) = nI (8 * i21 / bits + 1) from (Eq.symm (nI_is (by omega))), show nI (8 * (i21 + 1) % bits) = nI (8 * i21 % bits + 8 - bits) from (Eq.symm (nI_is (by omega)))]) ?_
            exact rn_ks [0, 1, 2, 3, 4, 6, 7, 8] ih21 rfl
      · skip
        have h16 : 8 * i21 / bits < 16 := Nat.not_le.mp (fun q => hb2 ((nI_leI (by omega) (by omega)).mpr q))
        refine rn_aload_n C dX4_fromBytes_44 rfl ?_
        refine rn_iload C dX4_fromBytes_45 rfl ?_
        refine rn_dup2 C dX4_fromBytes_47 rfl rfl ?_
        refine rs_laload C dX4_fromBytes_48 hto rfl (by omega) (by decide) ?_
        refine rn_lload C dX4_fromBytes_49 rfl ?_
        refine rn_lload C dX4_fromBytes_51 rfl ?_
        refine rn_land C dX4_fromBytes_53 rfl ?_
        refine rn_lor C dX4_fromBytes_54 rfl ?_
        refine rs_lastore C dX4_fromBytes_55 hto rfl (by omega) (by decide) ?_
        refine rn_iinc (lv' := [(0, _), (1, _), (2, _), (3, _), (4, _), (6, _), (7, _), (8, _), (9, _)]) C dX4_fromBytes_56 rfl (nI_incs _ 8) (by decide) rfl ?_
        refine rn_iload C dX4_fromBytes_59 rfl ?_
        refine rn_iload_n C dX4_fromBytes_61 rfl ?_
        refine rn_icmp_lt (tgt := 89) C dX4_fromBytes_62 (by decide) (fun hb7 => ?_) (fun hb7 => ?_)
        · skip
          obtain ⟨hlo1, hlo2⟩ := lm_lo (i := i21) ((nI_ltI (by omega) (by omega)).mp hb7)
          refine rn_iinc (lv' := [(0, _), (1, _), (2, _), (3, _), (4, _), (6, _), (7, _), (8, _), (9, _)]) C dX4_fromBytes_89 rfl (nI_inc _) (by decide) rfl ?_
          refine rn_goto (tgt := 21) C dX4_fromBytes_92 (by decide) ?_
          have he21 : lfrom_l21 to bits by_ (S.1, S1.2.1, S.2.2) (i21 + 1) = (va_up (lfrom_l21 to bits by_ (S.1, S1.2.1, S.2.2) i21) (to) (vp_updL ((lfrom_l21 to bits by_ (S.1, S1.2.1, S.2.2) i21) (to)) (8 * i21 / bits) (((lfrom_l21 to bits by_ (S.1, S1.2.1, S.2.2) i21) (to) (8 * i21 / bits)) ||| (((((S.1, S1.2.1, S.2.2).1 (by_) (i21)).toInt64) <<< ((nI (8 * i21 % bits)).toInt64 &&& 63)) &&& ((1 <<< ((nI (bits)).toInt64 &&& 63)) - 1))))) := by
            first | (dsimp only [lfrom_l21]; done) | (dsimp only [lfrom_l21]; exact ((if_neg hb2).trans (if_pos hb7))) | exact ((if_neg hb2).trans (if_pos hb7))
          rw [he21] at ih21
          refine rn_lve (lv' := [(0, .ref (k_b X.1 + (to))), (1, .int (nI (bits))), (2, .ref (k_b X.1 + (by_))), (3, .int (nI (nn))), (4, .long ((1 <<< ((nI (bits)).toInt64 &&& 63)) - 1)), (6, .int (nI (8 * (i21 + 1) / bits))), (7, .int (nI (8 * (i21 + 1) % bits))), (8, .int (nI (i21 + 1))), (9, .long ((((S.1, S1.2.1, S.2.2).1 (by_) (i21)).toInt64) <<< ((nI (8 * i21 % bits)).toInt64 &&& 63)))]) (by rw [show nI (8 * (i21 + 1) / bits) = nI (8 * i21 / bits) from (Eq.symm (nI_is (by omega))), show nI (8 * (i21 + 1) % bits) = nI (8 * i21 % bits + 8) from (Eq.symm (nI_is (by omega)))]) ?_
          exact rn_ks [0, 1, 2, 3, 4, 6, 7, 8] ih21 rfl
        · skip
          have hge : bits ≤ 8 * i21 % bits + 8 := Nat.not_lt.mp (fun q => hb7 ((nI_ltI (by omega) (by omega)).mpr q))
          obtain ⟨hhi1, hhi2⟩ := lm_hi (by omega) hge
          refine rn_iload C dX4_fromBytes_65 rfl ?_
          refine rn_iload_n C dX4_fromBytes_67 rfl ?_
          refine rn_isub C dX4_fromBytes_68 (pk_sub (by omega)) ?_
          refine rn_istore (lv' := [(0, _), (1, _), (2, _), (3, _), (4, _), (6, _), (7, _), (8, _), (9, _)]) C dX4_fromBytes_69 (by decide) rfl ?_
          refine rn_iinc (lv' := [(0, _), (1, _), (2, _), (3, _), (4, _), (6, _), (7, _), (8, _), (9, _)]) C dX4_fromBytes_71 rfl (nI_inc _) (by decide) rfl ?_
          refine rn_iload C dX4_fromBytes_74 rfl ?_
          refine rn_bipush (v := nI 16) C dX4_fromBytes_76 rfl ?_
          refine rn_icmp_ge (tgt := 89) C dX4_fromBytes_78 (by decide) (fun hb8 => ?_) (fun hb8 => ?_)
          · skip
            refine rn_iinc (lv' := [(0, _), (1, _), (2, _), (3, _), (4, _), (6, _), (7, _), (8, _), (9, _)]) C dX4_fromBytes_89 rfl (nI_inc _) (by decide) rfl ?_
            refine rn_goto (tgt := 21) C dX4_fromBytes_92 (by decide) ?_
            have he21 : lfrom_l21 to bits by_ (S.1, S1.2.1, S.2.2) (i21 + 1) = (va_up (lfrom_l21 to bits by_ (S.1, S1.2.1, S.2.2) i21) (to) (vp_updL ((lfrom_l21 to bits by_ (S.1, S1.2.1, S.2.2) i21) (to)) (8 * i21 / bits) (((lfrom_l21 to bits by_ (S.1, S1.2.1, S.2.2) i21) (to) (8 * i21 / bits)) ||| (((((S.1, S1.2.1, S.2.2).1 (by_) (i21)).toInt64) <<< ((nI (8 * i21 % bits)).toInt64 &&& 63)) &&& ((1 <<< ((nI (bits)).toInt64 &&& 63)) - 1))))) := by
              first | (dsimp only [lfrom_l21]; done) | (dsimp only [lfrom_l21]; exact (((if_neg hb2).trans (if_neg hb7)).trans (if_pos hb8))) | exact (((if_neg hb2).trans (if_neg hb7)).trans (if_pos hb8))
            rw [he21] at ih21
            refine rn_lve (lv' := [(0, .ref (k_b X.1 + (to))), (1, .int (nI (bits))), (2, .ref (k_b X.1 + (by_))), (3, .int (nI (nn))), (4, .long ((1 <<< ((nI (bits)).toInt64 &&& 63)) - 1)), (6, .int (nI (8 * (i21 + 1) / bits))), (7, .int (nI (8 * (i21 + 1) % bits))), (8, .int (nI (i21 + 1))), (9, .long ((((S.1, S1.2.1, S.2.2).1 (by_) (i21)).toInt64) <<< ((nI (8 * i21 % bits)).toInt64 &&& 63)))]) (by rw [show nI (8 * (i21 + 1) / bits) = nI (8 * i21 / bits + 1) from (Eq.symm (nI_is (by omega))), show nI (8 * (i21 + 1) % bits) = nI (8 * i21 % bits + 8 - bits) from (Eq.symm (nI_is (by omega)))]) ?_
            exact rn_ks [0, 1, 2, 3, 4, 6, 7, 8] ih21 rfl
          · skip
            have h16 : 8 * i21 / bits + 1 < 16 := Nat.not_le.mp (fun q => hb8 ((nI_leI (by omega) (by omega)).mpr q))
            refine rn_aload_n C dX4_fromBytes_81 rfl ?_
            refine rn_iload C dX4_fromBytes_82 rfl ?_
            refine rn_lload C dX4_fromBytes_84 rfl ?_
            refine rn_iload_n C dX4_fromBytes_86 rfl ?_
            refine rn_lshr C dX4_fromBytes_87 rfl ?_
            refine rs_lastore C dX4_fromBytes_88 hto rfl (by omega) (by decide) ?_
            refine rn_iinc (lv' := [(0, _), (1, _), (2, _), (3, _), (4, _), (6, _), (7, _), (8, _), (9, _)]) C dX4_fromBytes_89 rfl (nI_inc _) (by decide) rfl ?_
            refine rn_goto (tgt := 21) C dX4_fromBytes_92 (by decide) ?_
            have he21 : lfrom_l21 to bits by_ (S.1, S1.2.1, S.2.2) (i21 + 1) = (va_up (va_up (lfrom_l21 to bits by_ (S.1, S1.2.1, S.2.2) i21) (to) (vp_updL ((lfrom_l21 to bits by_ (S.1, S1.2.1, S.2.2) i21) (to)) (8 * i21 / bits) (((lfrom_l21 to bits by_ (S.1, S1.2.1, S.2.2) i21) (to) (8 * i21 / bits)) ||| (((((S.1, S1.2.1, S.2.2).1 (by_) (i21)).toInt64) <<< ((nI (8 * i21 % bits)).toInt64 &&& 63)) &&& ((1 <<< ((nI (bits)).toInt64 &&& 63)) - 1))))) (to) (vp_updL ((va_up (lfrom_l21 to bits by_ (S.1, S1.2.1, S.2.2) i21) (to) (vp_updL ((lfrom_l21 to bits by_ (S.1, S1.2.1, S.2.2) i21) (to)) (8 * i21 / bits) (((lfrom_l21 to bits by_ (S.1, S1.2.1, S.2.2) i21) (to) (8 * i21 / bits)) ||| (((((S.1, S1.2.1, S.2.2).1 (by_) (i21)).toInt64) <<< ((nI (8 * i21 % bits)).toInt64 &&& 63)) &&& ((1 <<< ((nI (bits)).toInt64 &&& 63)) - 1))))) (to)) (8 * i21 / bits + 1) (((((S.1, S1.2.1, S.2.2).1 (by_) (i21)).toInt64) <<< ((nI (8 * i21 % bits)).toInt64 &&& 63)) >>> ((nI (bits)).toInt64 &&& 63)))) := by
              first | (dsimp only [lfrom_l21]; done) | (dsimp only [lfrom_l21]; exact (((if_neg hb2).trans (if_neg hb7)).trans (if_neg hb8))) | exact (((if_neg hb2).trans (if_neg hb7)).trans (if_neg hb8))
            rw [he21] at ih21
            refine rn_lve (lv' := [(0, .ref (k_b X.1 + (to))), (1, .int (nI (bits))), (2, .ref (k_b X.1 + (by_))), (3, .int (nI (nn))), (4, .long ((1 <<< ((nI (bits)).toInt64 &&& 63)) - 1)), (6, .int (nI (8 * (i21 + 1) / bits))), (7, .int (nI (8 * (i21 + 1) % bits))), (8, .int (nI (i21 + 1))), (9, .long ((((S.1, S1.2.1, S.2.2).1 (by_) (i21)).toInt64) <<< ((nI (8 * i21 % bits)).toInt64 &&& 63)))]) (by rw [show nI (8 * (i21 + 1) / bits) = nI (8 * i21 / bits + 1) from (Eq.symm (nI_is (by omega))), show nI (8 * (i21 + 1) % bits) = nI (8 * i21 % bits + 8 - bits) from (Eq.symm (nI_is (by omega)))]) ?_
            exact rn_ks [0, 1, 2, 3, 4, 6, 7, 8] ih21 rfl
  refine rn_lve (lv' := [(0, .ref (k_b X.1 + (to))), (1, .int (nI (bits))), (2, .ref (k_b X.1 + (by_))), (3, .int (nI (nn))), (4, .long ((1 <<< ((nI (bits)).toInt64 &&& 63)) - 1)), (6, .int (nI (8 * 0 / bits))), (7, .int (nI (8 * 0 % bits))), (8, .int (nI (0)))]) (by rw [show nI (8 * 0 / bits) = nI (0) from (Eq.symm (nI_is (by simp))), show nI (8 * 0 % bits) = nI (0) from (Eq.symm (nI_is (by simp)))]) ?_
  exact lp21 0 (Nat.zero_le _)
def lto_l9 (to : Nat) (fr : Nat) (lm : Nat) (bits : Nat) (S : StT)  : Nat → (Nat → Nat → Int32)
  | 0 => S.1
  | i9 + 1 => let y9_0 := (lto_l9 to fr lm bits S i9); (let v2 := (if (nI (16)) ≤ (nI (8 * i9 / bits)) then 0 else (S.2.1 (lm) (8 * i9 / bits)) >>> ((nI (8 * i9 % bits)).toInt64 &&& 63)); (if (nI (8 * i9 % bits + 8)) < (nI (bits)) then va_up y9_0 (to) (upd (y9_0 (to)) (fr + i9) (((v2).toInt32) &&& (nI (255)))) else (if (nI (16)) ≤ (nI (8 * i9 / bits + 1)) then va_up y9_0 (to) (upd (y9_0 (to)) (fr + i9) (((v2).toInt32) &&& (nI (255)))) else (let v5 := v2 ||| ((S.2.1 (lm) (8 * i9 / bits + 1)) <<< ((nI (8 - (8 * i9 % bits + 8 - bits))).toInt64 &&& 63)); va_up y9_0 (to) (upd (y9_0 (to)) (fr + i9) (((v5).toInt32) &&& (nI (255))))))))
def lto_f (to : Nat) (fr : Nat) (nn : Nat) (lm : Nat) (bits : Nat) (S : StT) : StT := ((lto_l9 to fr lm bits S nn), S.2.1, S.2.2)
theorem lto_F (to : Nat) (fr : Nat) (nn : Nat) (lm : Nat) (bits : Nat) (S : StT) : (lto_f to fr nn lm bits S).2.2 = S.2.2 := by
  unfold lto_f; first | rfl | ((repeat' split) <;> rfl) | (dsimp only; (repeat' split) <;> rfl)
set_option maxRecDepth 100000 in
set_option maxHeartbeats 400000 in
theorem c_lto {k : KX} {L : Nat → Option Sh} {S : StT} {n : Nat} {to : Nat} {m : Nat} {fr : Nat} {nn : Nat} {lm : Nat} {bits : Nat} (hto : L to = some (sI m)) (hm : m < 2 ^ 31) (hfr : fr + nn ≤ m) (hn2 : nn ≤ 64) (hlm : L lm = some (sJ 16)) (hb1 : 28 ≤ bits) (hb2 : bits ≤ 29) :
    Cs k yX4_toBytes cX4_toBytes 10 none 0 0 0 [.ref (k_b k + (to)), .int (nI (fr)), .int (nI (nn)), .ref (k_b k + (lm)), .int (nI (bits))] (inst k L S.1 S.2.1 S.2.2) n (Pv k L n (lto_f to fr nn lm bits S)) := by
  refine cs_of (by decide) (Nat.le_of_ble_eq_true rfl) ?_
  intro X hXk C Rt hnm
  subst hXk
  refine rn_lv [(0, .ref (k_b X.1 + (to))), (1, .int (nI (fr))), (2, .int (nI (nn))), (3, .ref (k_b X.1 + (lm))), (4, .int (nI (bits)))] (fun q h => h) ?_
  refine rn_iconst (v := nI 0) C dX4_toBytes_0 rfl ?_
  refine rn_istore (lv' := [(0, _), (1, _), (2, _), (3, _), (4, _), (5, _)]) C dX4_toBytes_1 (by decide) rfl ?_
  refine rn_iconst (v := nI 0) C dX4_toBytes_3 rfl ?_
  refine rn_istore (lv' := [(0, _), (1, _), (2, _), (3, _), (4, _), (5, _), (6, _)]) C dX4_toBytes_4 (by decide) rfl ?_
  refine rn_iconst (v := nI 0) C dX4_toBytes_6 rfl ?_
  refine rn_istore (lv' := [(0, _), (1, _), (2, _), (3, _), (4, _), (5, _), (6, _), (7, _)]) C dX4_toBytes_7 (by decide) rfl ?_
  have lp9 : ∀ i9, i9 ≤ nn → Rn X 9 [(0, .ref (k_b X.1 + (to))), (1, .int (nI (fr))), (2, .int (nI (nn))), (3, .ref (k_b X.1 + (lm))), (4, .int (nI (bits))), (5, .int (nI (8 * i9 / bits))), (6, .int (nI (8 * i9 % bits))), (7, .int (nI (i9)))] [] (inst X.1 L (lto_l9 to fr lm bits S i9) S.2.1 S.2.2) n 0 0 := by
    refine upto _ _ ?_ (fun i9 hi9 ih9 => ?_)
    · skip
      refine rn_iload C dX4_toBytes_9 rfl ?_
      refine rn_iload_n C dX4_toBytes_11 rfl ?_
      refine rs_ge (tgt := 96) C dX4_toBytes_12 (by decide) rfl rfl (by omega) (by omega) (fun _ => ?_) (fun q => absurd q (by omega))
      have hret : lto_f to fr nn lm bits S = ((lto_l9 to fr lm bits S nn), S.2.1, S.2.2) := by
        first | (dsimp only [lto_f]; done) | (dsimp only [lto_f]; exact rfl) | exact rfl
      exact rn_vret C Rt dX4_toBytes_96 (pv_of hret) (Nat.zero_le _) (Nat.zero_le _)
    · skip
      have hsl : 8 * i9 % bits < bits := Nat.mod_lt _ (by omega)
      have hdl : 8 * i9 / bits ≤ 8 * i9 := Nat.div_le_self _ _
      refine rn_iload C dX4_toBytes_9 rfl ?_
      refine rn_iload_n C dX4_toBytes_11 rfl ?_
      refine rs_ge (tgt := 96) C dX4_toBytes_12 (by decide) rfl rfl (by omega) (by omega) (fun q => absurd q (by omega)) (fun _ => ?_)
      refine rn_iload C dX4_toBytes_15 rfl ?_
      refine rn_bipush (v := nI 16) C dX4_toBytes_17 rfl ?_
      have K19_1 : Rn X 33 [(0, .ref (k_b X.1 + (to))), (1, .int (nI (fr))), (2, .int (nI (nn))), (3, .ref (k_b X.1 + (lm))), (4, .int (nI (bits))), (5, .int (nI (8 * i9 / bits))), (6, .int (nI (8 * i9 % bits))), (7, .int (nI (i9)))] [.long ((if (nI (16)) ≤ (nI (8 * i9 / bits)) then 0 else (S.2.1 (lm) (8 * i9 / bits)) >>> ((nI (8 * i9 % bits)).toInt64 &&& 63)))] (inst X.1 L (lto_l9 to fr lm bits S i9) S.2.1 S.2.2) n 0 0 := by
        refine rn_lstore (lv' := [(0, _), (1, _), (2, _), (3, _), (4, _), (5, _), (6, _), (7, _), (8, _)]) C dX4_toBytes_33 (by decide) rfl ?_
        refine rn_iinc (lv' := [(0, _), (1, _), (2, _), (3, _), (4, _), (5, _), (6, _), (7, _), (8, _)]) C dX4_toBytes_35 rfl (nI_incs _ 8) (by decide) rfl ?_
        refine rn_iload C dX4_toBytes_38 rfl ?_
        refine rn_iload C dX4_toBytes_40 rfl ?_
        refine rn_icmp_lt (tgt := 77) C dX4_toBytes_42 (by decide) (fun hb3 => ?_) (fun hb3 => ?_)
        · skip
          obtain ⟨hlo1, hlo2⟩ := lm_lo (i := i9) ((nI_ltI (by omega) (by omega)).mp hb3)
          refine rn_aload_n C dX4_toBytes_77 rfl ?_
          refine rn_iload_n C dX4_toBytes_78 rfl ?_
          refine rn_iload C dX4_toBytes_79 rfl ?_
          refine rn_iadd C dX4_toBytes_81 (nI_add _ _) ?_
          refine rn_lload C dX4_toBytes_82 rfl ?_
          refine rn_l2i C dX4_toBytes_84 rfl ?_
          refine rn_sipush (v := nI 255) C dX4_toBytes_85 rfl ?_
          refine rn_iand C dX4_toBytes_88 rfl ?_
          refine rs_iastore C dX4_toBytes_89 hto rfl (by omega) hm ?_
          refine rn_iinc (lv' := [(0, _), (1, _), (2, _), (3, _), (4, _), (5, _), (6, _), (7, _), (8, _)]) C dX4_toBytes_90 rfl (nI_inc _) (by decide) rfl ?_
          refine rn_goto (tgt := 9) C dX4_toBytes_93 (by decide) ?_
          have he9 : lto_l9 to fr lm bits S (i9 + 1) = va_up (lto_l9 to fr lm bits S i9) (to) (upd ((lto_l9 to fr lm bits S i9) (to)) (fr + i9) ((((if (nI (16)) ≤ (nI (8 * i9 / bits)) then 0 else (S.2.1 (lm) (8 * i9 / bits)) >>> ((nI (8 * i9 % bits)).toInt64 &&& 63))).toInt32) &&& (nI (255)))) := by
            first | (dsimp only [lto_l9]; done) | (dsimp only [lto_l9]; exact (if_pos hb3)) | exact (if_pos hb3)
          rw [he9] at ih9
          refine rn_lve (lv' := [(0, .ref (k_b X.1 + (to))), (1, .int (nI (fr))), (2, .int (nI (nn))), (3, .ref (k_b X.1 + (lm))), (4, .int (nI (bits))), (5, .int (nI (8 * (i9 + 1) / bits))), (6, .int (nI (8 * (i9 + 1) % bits))), (7, .int (nI (i9 + 1))), (8, .long ((if (nI (16)) ≤ (nI (8 * i9 / bits)) then 0 else (S.2.1 (lm) (8 * i9 / bits)) >>> ((nI (8 * i9 % bits)).toInt64 &&& 63))))]) (by rw [show nI (8 * (i9 + 1) / bits) = nI (8 * i9 / bits) from (Eq.symm (nI_is (by omega))), show nI (8 * (i9 + 1) % bits) = nI (8 * i9 % bits + 8) from (Eq.symm (nI_is (by omega)))]) ?_
          exact rn_ks [0, 1, 2, 3, 4, 5, 6, 7] ih9 rfl
        · skip
          have hge : bits ≤ 8 * i9 % bits + 8 := Nat.not_lt.mp (fun q => hb3 ((nI_ltI (by omega) (by omega)).mpr q))
          obtain ⟨hhi1, hhi2⟩ := lm_hi (by omega) hge
          refine rn_iload C dX4_toBytes_45 rfl ?_
          refine rn_iload C dX4_toBytes_47 rfl ?_
          refine rn_isub C dX4_toBytes_49 (pk_sub (by omega)) ?_
          refine rn_istore (lv' := [(0, _), (1, _), (2, _), (3, _), (4, _), (5, _), (6, _), (7, _), (8, _)]) C dX4_toBytes_50 (by decide) rfl ?_
          refine rn_iinc (lv' := [(0, _), (1, _), (2, _), (3, _), (4, _), (5, _), (6, _), (7, _), (8, _)]) C dX4_toBytes_52 rfl (nI_inc _) (by decide) rfl ?_
          refine rn_iload C dX4_toBytes_55 rfl ?_
          refine rn_bipush (v := nI 16) C dX4_toBytes_57 rfl ?_
          refine rn_icmp_ge (tgt := 77) C dX4_toBytes_59 (by decide) (fun hb4 => ?_) (fun hb4 => ?_)
          · skip
            refine rn_aload_n C dX4_toBytes_77 rfl ?_
            refine rn_iload_n C dX4_toBytes_78 rfl ?_
            refine rn_iload C dX4_toBytes_79 rfl ?_
            refine rn_iadd C dX4_toBytes_81 (nI_add _ _) ?_
            refine rn_lload C dX4_toBytes_82 rfl ?_
            refine rn_l2i C dX4_toBytes_84 rfl ?_
            refine rn_sipush (v := nI 255) C dX4_toBytes_85 rfl ?_
            refine rn_iand C dX4_toBytes_88 rfl ?_
            refine rs_iastore C dX4_toBytes_89 hto rfl (by omega) hm ?_
            refine rn_iinc (lv' := [(0, _), (1, _), (2, _), (3, _), (4, _), (5, _), (6, _), (7, _), (8, _)]) C dX4_toBytes_90 rfl (nI_inc _) (by decide) rfl ?_
            refine rn_goto (tgt := 9) C dX4_toBytes_93 (by decide) ?_
            have he9 : lto_l9 to fr lm bits S (i9 + 1) = va_up (lto_l9 to fr lm bits S i9) (to) (upd ((lto_l9 to fr lm bits S i9) (to)) (fr + i9) ((((if (nI (16)) ≤ (nI (8 * i9 / bits)) then 0 else (S.2.1 (lm) (8 * i9 / bits)) >>> ((nI (8 * i9 % bits)).toInt64 &&& 63))).toInt32) &&& (nI (255)))) := by
              first | (dsimp only [lto_l9]; done) | (dsimp only [lto_l9]; exact ((if_neg hb3).trans (if_pos hb4))) | exact ((if_neg hb3).trans (if_pos hb4))
            rw [he9] at ih9
            refine rn_lve (lv' := [(0, .ref (k_b X.1 + (to))), (1, .int (nI (fr))), (2, .int (nI (nn))), (3, .ref (k_b X.1 + (lm))), (4, .int (nI (bits))), (5, .int (nI (8 * (i9 + 1) / bits))), (6, .int (nI (8 * (i9 + 1) % bits))), (7, .int (nI (i9 + 1))), (8, .long ((if (nI (16)) ≤ (nI (8 * i9 / bits)) then 0 else (S.2.1 (lm) (8 * i9 / bits)) >>> ((nI (8 * i9 % bits)).toInt64 &&& 63))))]) (by rw [show nI (8 * (i9 + 1) / bits) = nI (8 * i9 / bits + 1) from (Eq.symm (nI_is (by omega))), show nI (8 * (i9 + 1) % bits) = nI (8 * i9 % bits + 8 - bits) from (Eq.symm (nI_is (by omega)))]) ?_
            exact rn_ks [0, 1, 2, 3, 4, 5, 6, 7] ih9 rfl
          · skip
            have h16 : 8 * i9 / bits + 1 < 16 := Nat.not_le.mp (fun q => hb4 ((nI_leI (by omega) (by omega)).mpr q))
            refine rn_lload C dX4_toBytes_62 rfl ?_
            refine rn_aload_n C dX4_toBytes_64 rfl ?_
            refine rn_iload C dX4_toBytes_65 rfl ?_
            refine rs_laload C dX4_toBytes_67 hlm rfl (by omega) (by decide) ?_
            refine rn_bipush (v := nI 8) C dX4_toBytes_68 rfl ?_
            refine rn_iload C dX4_toBytes_70 rfl ?_
            refine rn_isub C dX4_toBytes_72 (pk_sub (by omega)) ?_
            refine rn_lshl C dX4_toBytes_73 rfl ?_
            refine rn_lor C dX4_toBytes_74 rfl ?_
            refine rn_lstore (lv' := [(0, _), (1, _), (2, _), (3, _), (4, _), (5, _), (6, _), (7, _), (8, _)]) C dX4_toBytes_75 (by decide) rfl ?_
            refine rn_aload_n C dX4_toBytes_77 rfl ?_
            refine rn_iload_n C dX4_toBytes_78 rfl ?_
            refine rn_iload C dX4_toBytes_79 rfl ?_
            refine rn_iadd C dX4_toBytes_81 (nI_add _ _) ?_
            refine rn_lload C dX4_toBytes_82 rfl ?_
            refine rn_l2i C dX4_toBytes_84 rfl ?_
            refine rn_sipush (v := nI 255) C dX4_toBytes_85 rfl ?_
            refine rn_iand C dX4_toBytes_88 rfl ?_
            refine rs_iastore C dX4_toBytes_89 hto rfl (by omega) hm ?_
            refine rn_iinc (lv' := [(0, _), (1, _), (2, _), (3, _), (4, _), (5, _), (6, _), (7, _), (8, _)]) C dX4_toBytes_90 rfl (nI_inc _) (by decide) rfl ?_
            refine rn_goto (tgt := 9) C dX4_toBytes_93 (by decide) ?_
            have he9 : lto_l9 to fr lm bits S (i9 + 1) = va_up (lto_l9 to fr lm bits S i9) (to) (upd ((lto_l9 to fr lm bits S i9) (to)) (fr + i9) (((((if (nI (16)) ≤ (nI (8 * i9 / bits)) then 0 else (S.2.1 (lm) (8 * i9 / bits)) >>> ((nI (8 * i9 % bits)).toInt64 &&& 63)) ||| ((S.2.1 (lm) (8 * i9 / bits + 1)) <<< ((nI (8 - (8 * i9 % bits + 8 - bits))).toInt64 &&& 63)))).toInt32) &&& (nI (255)))) := by
              first | (dsimp only [lto_l9]; done) | (dsimp only [lto_l9]; exact ((if_neg hb3).trans (if_neg hb4))) | exact ((if_neg hb3).trans (if_neg hb4))
            rw [he9] at ih9
            refine rn_lve (lv' := [(0, .ref (k_b X.1 + (to))), (1, .int (nI (fr))), (2, .int (nI (nn))), (3, .ref (k_b X.1 + (lm))), (4, .int (nI (bits))), (5, .int (nI (8 * (i9 + 1) / bits))), (6, .int (nI (8 * (i9 + 1) % bits))), (7, .int (nI (i9 + 1))), (8, .long (((if (nI (16)) ≤ (nI (8 * i9 / bits)) then 0 else (S.2.1 (lm) (8 * i9 / bits)) >>> ((nI (8 * i9 % bits)).toInt64 &&& 63)) ||| ((S.2.1 (lm) (8 * i9 / bits + 1)) <<< ((nI (8 - (8 * i9 % bits + 8 - bits))).toInt64 &&& 63)))))]) (by rw [show nI (8 * (i9 + 1) / bits) = nI (8 * i9 / bits + 1) from (Eq.symm (nI_is (by omega))), show nI (8 * (i9 + 1) % bits) = nI (8 * i9 % bits + 8 - bits) from (Eq.symm (nI_is (by omega)))]) ?_
            exact rn_ks [0, 1, 2, 3, 4, 5, 6, 7] ih9 rfl
      refine rn_icmp_ge (tgt := 32) C dX4_toBytes_19 (by decide) (fun hb1 => ?_) (fun hb1 => ?_)
      · skip
        refine rn_lconst (v := 0) C dX4_toBytes_32 rfl ?_
        rw [if_pos hb1] at K19_1
        exact K19_1
      · skip
        have h16 : 8 * i9 / bits < 16 := Nat.not_le.mp (fun q => hb1 ((nI_leI (by omega) (by omega)).mpr q))
        refine rn_aload_n C dX4_toBytes_22 rfl ?_
        refine rn_iload C dX4_toBytes_23 rfl ?_
        refine rs_laload C dX4_toBytes_25 hlm rfl (by omega) (by decide) ?_
        refine rn_iload C dX4_toBytes_26 rfl ?_
        refine rn_lshr C dX4_toBytes_28 rfl ?_
        refine rn_goto (tgt := 33) C dX4_toBytes_29 (by decide) ?_
        rw [if_neg hb1] at K19_1
        exact K19_1
  refine rn_lve (lv' := [(0, .ref (k_b X.1 + (to))), (1, .int (nI (fr))), (2, .int (nI (nn))), (3, .ref (k_b X.1 + (lm))), (4, .int (nI (bits))), (5, .int (nI (8 * 0 / bits))), (6, .int (nI (8 * 0 % bits))), (7, .int (nI (0)))]) (by rw [show nI (8 * 0 / bits) = nI (0) from (Eq.symm (nI_is (by simp))), show nI (8 * 0 % bits) = nI (0) from (Eq.symm (nI_is (by simp)))]) ?_
  exact lp9 0 (Nat.zero_le _)
def fread_f (c : Bool) (to : Nat) (fr : Nat) (S : StT) : StT := (let S1 := lfrom_f (to) (fb c) (fr) (fB c) S; (let J2 := va_up S1.2.1 (to) (vp_updL (S1.2.1 (to)) (fL c - 1) ((S1.2.1 (to) (fL c - 1)) &&& (fN c))); (S.1, J2, S.2.2)))
theorem fread_F (c : Bool) (to : Nat) (fr : Nat) (S : StT) : (fread_f c to fr S).2.2 = S.2.2 := by
  unfold fread_f; first | rfl | ((repeat' split) <;> rfl) | (dsimp only; (repeat' split) <;> rfl)
theorem fread_I (c : Bool) (to : Nat) (fr : Nat) (S : StT) : (fread_f c to fr S).1 = S.1 := by
  unfold fread_f; first | rfl | ((repeat' split) <;> rfl)
set_option maxRecDepth 100000 in
set_option maxHeartbeats 400000 in
theorem c_fread {k : KX} {L : Nat → Option Sh} {S : StT} {n : Nat} {c : Bool} {o : Nat} {to : Nat} {fr : Nat} {m : Nat} (hF : FieldAt k L o c) (hto : L to = some (sJ 16)) (hfr : L fr = some (sI m)) (hm : m < 2 ^ 31) (hm2 : 57 ≤ m) :
    Cs k yX3_read cX3_read 3 none 2 0 0 [.ref (k_b k + (o)), .ref (k_b k + (to)), .ref (k_b k + (fr))] (inst k L S.1 S.2.1 S.2.2) n (Pv k L n (fread_f c to fr S)) := by
  refine cs_of (by decide) (Nat.le_of_ble_eq_true rfl) ?_
  intro X hXk C Rt hnm
  subst hXk
  have hF9 := hF
  obtain ⟨hF0, hf1, hf2, hf3, hf4, hf5, hf6, hf7, hf8, hf9⟩ := hF9
  obtain ⟨hl1, hl2⟩ := fL_le c
  have hfb : 28 ≤ fb c ∧ fb c ≤ 29 := by cases c <;> decide
  obtain ⟨hfb1, hfb2⟩ := hfb
  have hfB : 32 ≤ fB c ∧ fB c ≤ 56 := by cases c <;> decide
  obtain ⟨hfB1, hfB2⟩ := hfB
  refine rn_lv [(0, .ref (k_b X.1 + (o))), (1, .ref (k_b X.1 + (to))), (2, .ref (k_b X.1 + (fr)))] (fun q h => h) ?_
  refine rn_aload_n C dX3_read_0 rfl ?_
  refine rn_aload_n C dX3_read_1 rfl ?_
  refine rs_get C dX3_read_2 fl_X3_50 hF0 rfl ?_
  refine rn_aload_n C dX3_read_5 rfl ?_
  refine rn_aload_n C dX3_read_6 rfl ?_
  refine rs_get C dX3_read_7 fl_X3_43 hF0 rfl ?_
  refine rs_sv C dX3_read_10 mk_X4_fromBytes ls_X3_69 (c_lfrom hto (by omega) (by omega) hfr hm (by omega) (by omega)) rfl rfl (by decide) (Nat.le_of_ble_eq_true rfl) (by decide) (by decide) ?_
  rw [show (lfrom_f (to) (fb c) (fr) (fB c) S).2.2 = S.2.2 from (lfrom_F (to) (fb c) (fr) (fB c) S)]
  rw [show (lfrom_f (to) (fb c) (fr) (fB c) S).1 = S.1 from lfrom_I (to) (fb c) (fr) (fB c) S]
  generalize hS1 : lfrom_f (to) (fb c) (fr) (fB c) S = S1
  refine rn_aload_n C dX3_read_13 rfl ?_
  refine rn_aload_n C dX3_read_14 rfl ?_
  refine rs_get C dX3_read_15 fl_X3_47 hF0 rfl ?_
  refine rn_iconst (v := nI 1) C dX3_read_18 rfl ?_
  refine rn_isub C dX3_read_19 (pk_sub (by omega)) ?_
  refine rn_dup2 C dX3_read_20 rfl rfl ?_
  refine rs_laload C dX3_read_21 hto rfl (by omega) (by decide) ?_
  refine rn_aload_n C dX3_read_22 rfl ?_
  refine rs_get C dX3_read_23 fl_X3_60 hF0 rfl ?_
  refine rn_land C dX3_read_26 rfl ?_
  refine rs_lastore C dX3_read_27 hto rfl (by omega) (by decide) ?_
  have hret : fread_f c to fr S = (S.1, (va_up S1.2.1 (to) (vp_updL (S1.2.1 (to)) (fL c - 1) ((S1.2.1 (to) (fL c - 1)) &&& (fN c)))), S.2.2) := by
    subst hS1
    first | (dsimp only [fread_f]; done) | (dsimp only [fread_f]; exact rfl) | exact rfl
  exact rn_vret C Rt dX3_read_28 (pv_of hret) (Nat.zero_le _) (Nat.zero_le _)
def fwrite_f (c : Bool) (o : Nat) (to : Nat) (a : Nat) (S : StT) : StT := (let S1 := freeze_f c (o) (a) S; (let S2 := lto_f (to) (0) (fB c) (o + 4) (fb c) (S.1, S1.2.1, S.2.2); (S2.1, S2.2.1, S.2.2)))
theorem fwrite_F (c : Bool) (o : Nat) (to : Nat) (a : Nat) (S : StT) : (fwrite_f c o to a S).2.2 = S.2.2 := by
  unfold fwrite_f; first | rfl | ((repeat' split) <;> rfl) | (dsimp only; (repeat' split) <;> rfl)
set_option maxRecDepth 100000 in
set_option maxHeartbeats 400000 in
theorem c_fwrite {k : KX} {L : Nat → Option Sh} {S : StT} {n : Nat} {c : Bool} {o : Nat} {to : Nat} {m : Nat} {a : Nat} (hF : FieldAt k L o c) (hto : L to = some (sI m)) (hm : m < 2 ^ 31) (hm2 : 57 ≤ m) (ha : L a = some (sJ 16)) :
    Cs k yX3_write cX3_write 3 none 3 0 0 [.ref (k_b k + (o)), .ref (k_b k + (to)), .ref (k_b k + (a))] (inst k L S.1 S.2.1 S.2.2) n (Pv k L n (fwrite_f c o to a S)) := by
  refine cs_of (by decide) (Nat.le_of_ble_eq_true rfl) ?_
  intro X hXk C Rt hnm
  subst hXk
  have hF9 := hF
  obtain ⟨hF0, hf1, hf2, hf3, hf4, hf5, hf6, hf7, hf8, hf9⟩ := hF9
  obtain ⟨hl1, hl2⟩ := fL_le c
  have hfb : 28 ≤ fb c ∧ fb c ≤ 29 := by cases c <;> decide
  obtain ⟨hfb1, hfb2⟩ := hfb
  have hfB : 32 ≤ fB c ∧ fB c ≤ 56 := by cases c <;> decide
  obtain ⟨hfB1, hfB2⟩ := hfB
  refine rn_lv [(0, .ref (k_b X.1 + (o))), (1, .ref (k_b X.1 + (to))), (2, .ref (k_b X.1 + (a)))] (fun q h => h) ?_
  refine rn_aload_n C dX3_write_0 rfl ?_
  refine rn_aload_n C dX3_write_1 rfl ?_
  refine rs_vv C dX3_write_2 mk_X3_freeze lv_X3_73 (c_freeze hF ha) hF0 rfl rfl rfl rfl (by decide) (Nat.le_of_ble_eq_true rfl) (by decide) (by decide) ?_
  rw [show (freeze_f c (o) (a) S).2.2 = S.2.2 from (freeze_F c (o) (a) S)]
  rw [show (freeze_f c (o) (a) S).1 = S.1 from freeze_I c (o) (a) S]
  generalize hS1 : freeze_f c (o) (a) S = S1
  refine rn_aload_n C dX3_write_5 rfl ?_
  refine rn_iconst (v := nI 0) C dX3_write_6 rfl ?_
  refine rn_aload_n C dX3_write_7 rfl ?_
  refine rs_get C dX3_write_8 fl_X3_43 hF0 rfl ?_
  refine rn_aload_n C dX3_write_11 rfl ?_
  refine rs_get C dX3_write_12 fl_X3_21 hF0 rfl ?_
  refine rn_aload_n C dX3_write_15 rfl ?_
  refine rs_get C dX3_write_16 fl_X3_50 hF0 rfl ?_
  refine rs_sv C dX3_write_19 mk_X4_toBytes ls_X3_77 (c_lto (S := (S.1, S1.2.1, S.2.2)) hto hm (by omega) (by omega) hf4 (by omega) (by omega)) rfl rfl (by decide) (Nat.le_of_ble_eq_true rfl) (by decide) (by decide) ?_
  rw [show (lto_f (to) (0) (fB c) (o + 4) (fb c) (S.1, S1.2.1, S.2.2)).2.2 = S.2.2 from (lto_F (to) (0) (fB c) (o + 4) (fb c) (S.1, S1.2.1, S.2.2))]
  generalize hS2 : lto_f (to) (0) (fB c) (o + 4) (fb c) (S.1, S1.2.1, S.2.2) = S2
  have hret : fwrite_f c o to a S = (S2.1, S2.2.1, S.2.2) := by
    subst hS2
    subst hS1
    first | (dsimp only [fwrite_f]; done) | (dsimp only [fwrite_f]; exact rfl) | exact rfl
  exact rn_vret C Rt dX3_write_22 (pv_of hret) (Nat.zero_le _) (Nat.zero_le _)
def froot_l216 (c : Bool) (o : Nat) (S : StT)  : Nat → (Nat → Nat → Int64)
  | 0 => S.2.1
  | i216 + 1 => let y216_0 := (froot_l216 c o S i216); (let S11 := sqr_f c (o) (o + 6) (o + 6) (S.1, y216_0, S.2.2); S11.2.1)
def froot_l53 (c : Bool) (o : Nat) (S : StT)  : Nat → (Nat → Nat → Int64)
  | 0 => S.2.1
  | i53 + 1 => let y53_0 := (froot_l53 c o S i53); (let S17 := sqr_f c (o) (o + 6) (o + 6) (S.1, y53_0, S.2.2); S17.2.1)
def froot_l33 (c : Bool) (o : Nat) (a : Nat) (S : StT)  : Nat → (Nat → Nat → Int64)
  | 0 => S.2.1
  | i33 + 1 => let y33_0 := (froot_l33 c o a S i33); (let S12 := fcopy_f c (o + 7) (o + 6) (S.1, y33_0, S.2.2); (let S13 := mul_f c (o) (o + 6) (o + 6) (o + 7) (S.1, (froot_l53 c o (S.1, S12.2.1, S.2.2) (rgN c / 2 ^ (7 - i33))), S.2.2); (if (((nI (rgN c)) >>> ((nI (7 - 1 - i33)) &&& 31)) &&& (nI (1))) ≠ (nI (1)) then S13.2.1 else (let S15 := sqr_f c (o) (o + 6) (o + 6) (S.1, S13.2.1, S.2.2); (let S16 := mul_f c (o) (o + 6) (o + 6) (a) (S.1, S15.2.1, S.2.2); S16.2.1)))))
def froot_f (c : Bool) (o : Nat) (to : Nat) (a : Nat) (S : StT) : StT := (let S2 := fcopy_f c (o + 6) (a) S; (let S3 := fcopy_f c (o + 7) (a) (S.1, (froot_l33 c o a (S.1, S2.2.1, S.2.2) 7), S.2.2); (let S8 := (if (bI c) = 0 then (S.1, S3.2.1, S.2.2) else (let S5 := fcopy_f c (o + 7) (o + 6) (S.1, S3.2.1, S.2.2); (let S6 := sqr_f c (o) (o + 6) (o + 6) (S.1, S5.2.1, S.2.2); (let S7 := mul_f c (o) (o + 6) (o + 6) (a) (S.1, S6.2.1, S.2.2); (S.1, S7.2.1, S.2.2))))); (let S10 := mul_f c (o) (to) (o + 6) (o + 7) (S8.1, (froot_l216 c o (S8.1, S8.2.1, S.2.2) (rhN c)), S.2.2); (S8.1, S10.2.1, S.2.2)))))
theorem froot_F (c : Bool) (o : Nat) (to : Nat) (a : Nat) (S : StT) : (froot_f c o to a S).2.2 = S.2.2 := by
  unfold froot_f; first | rfl | ((repeat' split) <;> rfl) | (dsimp only; (repeat' split) <;> rfl)
theorem froot_I (c : Bool) (o : Nat) (to : Nat) (a : Nat) (S : StT) : (froot_f c o to a S).1 = S.1 := by
  unfold froot_f; first | rfl | ((repeat' split) <;> rfl)
set_option maxRecDepth 100000 in
set_option maxHeartbeats 400000 in
theorem c_froot {k : KX} {L : Nat → Option Sh} {S : StT} {n : Nat} {c : Bool} {o : Nat} {to : Nat} {a : Nat} (hF : FieldAt k L o c) (hto : L to = some (sJ 16)) (ha : L a = some (sJ 16)) :
    Cs k yX3_rootPower cX3_rootPower 7 none 2 0 0 [.ref (k_b k + (o)), .ref (k_b k + (to)), .ref (k_b k + (a))] (inst k L S.1 S.2.1 S.2.2) n (Pv k L n (froot_f c o to a S)) := by
  refine cs_of (by decide) (Nat.le_of_ble_eq_true rfl) ?_
  intro X hXk C Rt hnm
  subst hXk
  have hF9 := hF
  obtain ⟨hF0, hf1, hf2, hf3, hf4, hf5, hf6, hf7, hf8, hf9⟩ := hF9
  obtain ⟨hl1, hl2⟩ := fL_le c
  have hfb : 28 ≤ fb c ∧ fb c ≤ 29 := by cases c <;> decide
  obtain ⟨hfb1, hfb2⟩ := hfb
  have hfB : 32 ≤ fB c ∧ fB c ≤ 56 := by cases c <;> decide
  obtain ⟨hfB1, hfB2⟩ := hfB
  have hrh : rhN c ≤ 223 := by cases c <;> decide
  refine rn_lv [(0, .ref (k_b X.1 + (o))), (1, .ref (k_b X.1 + (to))), (2, .ref (k_b X.1 + (a)))] (fun q h => h) ?_
  refine rn_aload_n C dX3_rootPower_0 rfl ?_
  refine rs_get C dX3_rootPower_1 fl_X3_39 hF0 rfl ?_
  have K4_1 : Rn X 16 [(0, .ref (k_b X.1 + (o))), (1, .ref (k_b X.1 + (to))), (2, .ref (k_b X.1 + (a)))] [.int (nI ((if (bI c) = 0 then 250 else 222)))] (inst X.1 L S.1 S.2.1 S.2.2) n 0 0 := by
    rw [show nI ((if (bI c) = 0 then 250 else 222)) = nI (rgN c) from (by cases c <;> rfl)]
    refine rn_istore_n (lv' := [(0, _), (1, _), (2, _), (3, _)]) C dX3_rootPower_16 (by decide) rfl ?_
    refine rn_iconst (v := nI 1) C dX3_rootPower_17 rfl ?_
    refine rn_istore (lv' := [(0, _), (1, _), (2, _), (3, _), (4, _)]) C dX3_rootPower_18 (by decide) rfl ?_
    refine rn_aload_n C dX3_rootPower_20 rfl ?_
    refine rn_aload_n C dX3_rootPower_21 rfl ?_
    refine rs_get C dX3_rootPower_22 fl_X3_27 hF0 rfl ?_
    refine rn_aload_n C dX3_rootPower_25 rfl ?_
    refine rs_vv C dX3_rootPower_26 mk_X3_copy lv_X3_112 (c_fcopy hF hf6 ha) hF0 rfl rfl rfl rfl (by decide) (Nat.le_of_ble_eq_true rfl) (by decide) (by decide) ?_
    rw [show (fcopy_f c (o + 6) (a) S).2.2 = S.2.2 from (fcopy_F c (o + 6) (a) S)]
    rw [show (fcopy_f c (o + 6) (a) S).1 = S.1 from fcopy_I c (o + 6) (a) S]
    generalize hS2 : fcopy_f c (o + 6) (a) S = S2
    refine rn_bipush (v := nI 6) C dX3_rootPower_29 rfl ?_
    refine rn_istore (lv' := [(0, _), (1, _), (2, _), (3, _), (4, _), (5, _)]) C dX3_rootPower_31 (by decide) rfl ?_
    have lp33 : ∀ i33, i33 ≤ 7 → Rn X 33 [(0, .ref (k_b X.1 + (o))), (1, .ref (k_b X.1 + (to))), (2, .ref (k_b X.1 + (a))), (3, .int (nI (rgN c))), (4, .int (nI (rgN c / 2 ^ (7 - i33)))), (5, .int (dn (7 - i33)))] [] (inst X.1 L S.1 (froot_l33 c o a (S.1, S2.2.1, S.2.2) i33) S.2.2) n 0 0 := by
      refine upto _ _ ?_ (fun i33 hi33 ih33 => ?_)
      · skip
        rw [dn_end]
        refine rn_iload C dX3_rootPower_33 rfl ?_
        refine rn_if_lt (tgt := 144) C dX3_rootPower_35 (by decide) (fun _ => ?_) (fun q => absurd (by decide) q)
        refine rn_aload_n C dX3_rootPower_144 rfl ?_
        refine rn_aload_n C dX3_rootPower_145 rfl ?_
        refine rs_get C dX3_rootPower_146 fl_X3_30 hF0 rfl ?_
        refine rn_aload_n C dX3_rootPower_149 rfl ?_
        refine rs_vv C dX3_rootPower_150 mk_X3_copy lv_X3_112 (c_fcopy (S := (S.1, (froot_l33 c o a (S.1, S2.2.1, S.2.2) 7), S.2.2)) hF hf7 ha) hF0 rfl rfl rfl rfl (by decide) (Nat.le_of_ble_eq_true rfl) (by decide) (by decide) ?_
        rw [show (fcopy_f c (o + 7) (a) (S.1, (froot_l33 c o a (S.1, S2.2.1, S.2.2) 7), S.2.2)).2.2 = S.2.2 from (fcopy_F c (o + 7) (a) (S.1, (froot_l33 c o a (S.1, S2.2.1, S.2.2) 7), S.2.2))]
        rw [show (fcopy_f c (o + 7) (a) (S.1, (froot_l33 c o a (S.1, S2.2.1, S.2.2) 7), S.2.2)).1 = S.1 from fcopy_I c (o + 7) (a) (S.1, (froot_l33 c o a (S.1, S2.2.1, S.2.2) 7), S.2.2)]
        generalize hS3 : fcopy_f c (o + 7) (a) (S.1, (froot_l33 c o a (S.1, S2.2.1, S.2.2) 7), S.2.2) = S3
        refine rn_aload_n C dX3_rootPower_153 rfl ?_
        refine rs_get C dX3_rootPower_154 fl_X3_39 hF0 rfl ?_
        have K157_8 : Rn X 197 [(0, .ref (k_b X.1 + (o))), (1, .ref (k_b X.1 + (to))), (2, .ref (k_b X.1 + (a))), (3, .int (nI (rgN c))), (4, .int (nI (rgN c / 2 ^ (7 - 7)))), (5, .int ((-1)))] [] (inst X.1 L (if (bI c) = 0 then (S.1, S3.2.1, S.2.2) else (let S5 := fcopy_f c (o + 7) (o + 6) (S.1, S3.2.1, S.2.2); (let S6 := sqr_f c (o) (o + 6) (o + 6) (S.1, S5.2.1, S.2.2); (let S7 := mul_f c (o) (o + 6) (o + 6) (a) (S.1, S6.2.1, S.2.2); (S.1, S7.2.1, S.2.2))))).1 (if (bI c) = 0 then (S.1, S3.2.1, S.2.2) else (let S5 := fcopy_f c (o + 7) (o + 6) (S.1, S3.2.1, S.2.2); (let S6 := sqr_f c (o) (o + 6) (o + 6) (S.1, S5.2.1, S.2.2); (let S7 := mul_f c (o) (o + 6) (o + 6) (a) (S.1, S6.2.1, S.2.2); (S.1, S7.2.1, S.2.2))))).2.1 (S.2.2)) n 0 0 := by
          generalize hS8 : (if (bI c) = 0 then (S.1, S3.2.1, S.2.2) else (let S5 := fcopy_f c (o + 7) (o + 6) (S.1, S3.2.1, S.2.2); (let S6 := sqr_f c (o) (o + 6) (o + 6) (S.1, S5.2.1, S.2.2); (let S7 := mul_f c (o) (o + 6) (o + 6) (a) (S.1, S6.2.1, S.2.2); (S.1, S7.2.1, S.2.2))))) = S8
          refine rn_aload_n C dX3_rootPower_197 rfl ?_
          refine rs_get C dX3_rootPower_198 fl_X3_39 hF0 rfl ?_
          have K201_9 : Rn X 211 [(0, .ref (k_b X.1 + (o))), (1, .ref (k_b X.1 + (to))), (2, .ref (k_b X.1 + (a))), (3, .int (nI (rgN c))), (4, .int (nI (rgN c / 2 ^ (7 - 7)))), (5, .int ((-1)))] [.int (nI ((if (bI c) = 0 then 2 else 223)))] (inst X.1 L S8.1 S8.2.1 S.2.2) n 0 0 := by
            rw [show nI ((if (bI c) = 0 then 2 else 223)) = nI (rhN c) from (by cases c <;> rfl)]
            refine rn_istore (lv' := [(0, _), (1, _), (2, _), (3, _), (4, _), (5, _)]) C dX3_rootPower_211 (by decide) rfl ?_
            refine rn_iconst (v := nI 0) C dX3_rootPower_213 rfl ?_
            refine rn_istore (lv' := [(0, _), (1, _), (2, _), (3, _), (4, _), (5, _), (6, _)]) C dX3_rootPower_214 (by decide) rfl ?_
            have lp216 : ∀ i216, i216 ≤ rhN c → Rn X 216 [(0, .ref (k_b X.1 + (o))), (1, .ref (k_b X.1 + (to))), (2, .ref (k_b X.1 + (a))), (3, .int (nI (rgN c))), (4, .int (nI (rgN c / 2 ^ (7 - 7)))), (5, .int (nI (rhN c))), (6, .int (nI (i216)))] [] (inst X.1 L S8.1 (froot_l216 c o (S8.1, S8.2.1, S.2.2) i216) S.2.2) n 0 0 := by
              refine upto _ _ ?_ (fun i216 hi216 ih216 => ?_)
              · skip
                refine rn_iload C dX3_rootPower_216 rfl ?_
                refine rn_iload C dX3_rootPower_218 rfl ?_
                refine rs_ge (tgt := 241) C dX3_rootPower_220 (by decide) rfl rfl (by omega) (by omega) (fun _ => ?_) (fun q => absurd q (by omega))
                refine rn_aload_n C dX3_rootPower_241 rfl ?_
                refine rn_aload_n C dX3_rootPower_242 rfl ?_
                refine rn_aload_n C dX3_rootPower_243 rfl ?_
                refine rs_get C dX3_rootPower_244 fl_X3_27 hF0 rfl ?_
                refine rn_aload_n C dX3_rootPower_247 rfl ?_
                refine rs_get C dX3_rootPower_248 fl_X3_30 hF0 rfl ?_
                refine rs_vv C dX3_rootPower_251 mk_X3_multiply lv_X3_108 (c_mul (S := (S8.1, (froot_l216 c o (S8.1, S8.2.1, S.2.2) (rhN c)), S.2.2)) hF hto hf6 hf7) hF0 rfl rfl rfl rfl (by decide) (Nat.le_of_ble_eq_true rfl) (by decide) (by decide) ?_
                rw [show (mul_f c (o) (to) (o + 6) (o + 7) (S8.1, (froot_l216 c o (S8.1, S8.2.1, S.2.2) (rhN c)), S.2.2)).2.2 = S.2.2 from (mul_F c (o) (to) (o + 6) (o + 7) (S8.1, (froot_l216 c o (S8.1, S8.2.1, S.2.2) (rhN c)), S.2.2))]
                rw [show (mul_f c (o) (to) (o + 6) (o + 7) (S8.1, (froot_l216 c o (S8.1, S8.2.1, S.2.2) (rhN c)), S.2.2)).1 = S8.1 from mul_I c (o) (to) (o + 6) (o + 7) (S8.1, (froot_l216 c o (S8.1, S8.2.1, S.2.2) (rhN c)), S.2.2)]
                generalize hS10 : mul_f c (o) (to) (o + 6) (o + 7) (S8.1, (froot_l216 c o (S8.1, S8.2.1, S.2.2) (rhN c)), S.2.2) = S10
                have hret : froot_f c o to a S = (S8.1, S10.2.1, S.2.2) := by
                  subst hS10
                  subst hS8
                  subst hS3
                  subst hS2
                  first | (dsimp only [froot_f]; done) | (dsimp only [froot_f]; exact rfl) | exact rfl
                exact rn_vret C Rt dX3_rootPower_254 (pv_of hret) (Nat.zero_le _) (Nat.zero_le _)
              · skip
                refine rn_iload C dX3_rootPower_216 rfl ?_
                refine rn_iload C dX3_rootPower_218 rfl ?_
                refine rs_ge (tgt := 241) C dX3_rootPower_220 (by decide) rfl rfl (by omega) (by omega) (fun q => absurd q (by omega)) (fun _ => ?_)
                refine rn_aload_n C dX3_rootPower_223 rfl ?_
                refine rn_aload_n C dX3_rootPower_224 rfl ?_
                refine rs_get C dX3_rootPower_225 fl_X3_27 hF0 rfl ?_
                refine rn_aload_n C dX3_rootPower_228 rfl ?_
                refine rs_get C dX3_rootPower_229 fl_X3_27 hF0 rfl ?_
                refine rs_vv C dX3_rootPower_232 mk_X3_square lv_X3_105 (c_sqr (S := ((S8.1, S8.2.1, S.2.2).1, (froot_l216 c o (S8.1, S8.2.1, S.2.2) i216), S.2.2)) hF hf6 hf6) hF0 rfl rfl rfl rfl (by decide) (Nat.le_of_ble_eq_true rfl) (by decide) (by decide) ?_
                rw [show (sqr_f c (o) (o + 6) (o + 6) ((S8.1, S8.2.1, S.2.2).1, (froot_l216 c o (S8.1, S8.2.1, S.2.2) i216), S.2.2)).2.2 = S.2.2 from (sqr_F c (o) (o + 6) (o + 6) ((S8.1, S8.2.1, S.2.2).1, (froot_l216 c o (S8.1, S8.2.1, S.2.2) i216), S.2.2))]
                rw [show (sqr_f c (o) (o + 6) (o + 6) ((S8.1, S8.2.1, S.2.2).1, (froot_l216 c o (S8.1, S8.2.1, S.2.2) i216), S.2.2)).1 = (S8.1, S8.2.1, S.2.2).1 from sqr_I c (o) (o + 6) (o + 6) ((S8.1, S8.2.1, S.2.2).1, (froot_l216 c o (S8.1, S8.2.1, S.2.2) i216), S.2.2)]
                generalize hS11 : sqr_f c (o) (o + 6) (o + 6) ((S8.1, S8.2.1, S.2.2).1, (froot_l216 c o (S8.1, S8.2.1, S.2.2) i216), S.2.2) = S11
                refine rn_iinc (lv' := [(0, _), (1, _), (2, _), (3, _), (4, _), (5, _), (6, _)]) C dX3_rootPower_235 rfl (nI_inc _) (by decide) rfl ?_
                refine rn_goto (tgt := 216) C dX3_rootPower_238 (by decide) ?_
                have he216 : froot_l216 c o (S8.1, S8.2.1, S.2.2) (i216 + 1) = S11.2.1 := by
                  subst hS11
                  first | (dsimp only [froot_l216]; done) | (dsimp only [froot_l216]; exact rfl) | exact rfl
                rw [he216] at ih216
                exact rn_ks [0, 1, 2, 3, 4, 5, 6] ih216 rfl
            exact lp216 0 (Nat.zero_le _)
          refine rn_if_eq (tgt := 210) C dX3_rootPower_201 (by decide) (fun hb9 => ?_) (fun hb9 => ?_)
          · skip
            refine rn_iconst (v := nI 2) C dX3_rootPower_210 rfl ?_
            rw [if_pos hb9] at K201_9
            exact K201_9
          · skip
            refine rn_sipush (v := nI 223) C dX3_rootPower_204 rfl ?_
            refine rn_goto (tgt := 211) C dX3_rootPower_207 (by decide) ?_
            rw [if_neg hb9] at K201_9
            exact K201_9
        refine rn_if_eq (tgt := 197) C dX3_rootPower_157 (by decide) (fun hb4 => ?_) (fun hb4 => ?_)
        · skip
          rw [if_pos hb4] at K157_8
          exact rn_ks [0, 1, 2, 3, 4, 5] K157_8 rfl
        · skip
          refine rn_aload_n C dX3_rootPower_160 rfl ?_
          refine rn_aload_n C dX3_rootPower_161 rfl ?_
          refine rs_get C dX3_rootPower_162 fl_X3_30 hF0 rfl ?_
          refine rn_aload_n C dX3_rootPower_165 rfl ?_
          refine rs_get C dX3_rootPower_166 fl_X3_27 hF0 rfl ?_
          refine rs_vv C dX3_rootPower_169 mk_X3_copy lv_X3_112 (c_fcopy (S := (S.1, S3.2.1, S.2.2)) hF hf7 hf6) hF0 rfl rfl rfl rfl (by decide) (Nat.le_of_ble_eq_true rfl) (by decide) (by decide) ?_
          rw [show (fcopy_f c (o + 7) (o + 6) (S.1, S3.2.1, S.2.2)).2.2 = S.2.2 from (fcopy_F c (o + 7) (o + 6) (S.1, S3.2.1, S.2.2))]
          rw [show (fcopy_f c (o + 7) (o + 6) (S.1, S3.2.1, S.2.2)).1 = S.1 from fcopy_I c (o + 7) (o + 6) (S.1, S3.2.1, S.2.2)]
          generalize hS5 : fcopy_f c (o + 7) (o + 6) (S.1, S3.2.1, S.2.2) = S5
          refine rn_aload_n C dX3_rootPower_172 rfl ?_
          refine rn_aload_n C dX3_rootPower_173 rfl ?_
          refine rs_get C dX3_rootPower_174 fl_X3_27 hF0 rfl ?_
          refine rn_aload_n C dX3_rootPower_177 rfl ?_
          refine rs_get C dX3_rootPower_178 fl_X3_27 hF0 rfl ?_
          refine rs_vv C dX3_rootPower_181 mk_X3_square lv_X3_105 (c_sqr (S := (S.1, S5.2.1, S.2.2)) hF hf6 hf6) hF0 rfl rfl rfl rfl (by decide) (Nat.le_of_ble_eq_true rfl) (by decide) (by decide) ?_
          rw [show (sqr_f c (o) (o + 6) (o + 6) (S.1, S5.2.1, S.2.2)).2.2 = S.2.2 from (sqr_F c (o) (o + 6) (o + 6) (S.1, S5.2.1, S.2.2))]
          rw [show (sqr_f c (o) (o + 6) (o + 6) (S.1, S5.2.1, S.2.2)).1 = S.1 from sqr_I c (o) (o + 6) (o + 6) (S.1, S5.2.1, S.2.2)]
          generalize hS6 : sqr_f c (o) (o + 6) (o + 6) (S.1, S5.2.1, S.2.2) = S6
          refine rn_aload_n C dX3_rootPower_184 rfl ?_
          refine rn_aload_n C dX3_rootPower_185 rfl ?_
          refine rs_get C dX3_rootPower_186 fl_X3_27 hF0 rfl ?_
          refine rn_aload_n C dX3_rootPower_189 rfl ?_
          refine rs_get C dX3_rootPower_190 fl_X3_27 hF0 rfl ?_
          refine rn_aload_n C dX3_rootPower_193 rfl ?_
          refine rs_vv C dX3_rootPower_194 mk_X3_multiply lv_X3_108 (c_mul (S := (S.1, S6.2.1, S.2.2)) hF hf6 hf6 ha) hF0 rfl rfl rfl rfl (by decide) (Nat.le_of_ble_eq_true rfl) (by decide) (by decide) ?_
          rw [show (mul_f c (o) (o + 6) (o + 6) (a) (S.1, S6.2.1, S.2.2)).2.2 = S.2.2 from (mul_F c (o) (o + 6) (o + 6) (a) (S.1, S6.2.1, S.2.2))]
          rw [show (mul_f c (o) (o + 6) (o + 6) (a) (S.1, S6.2.1, S.2.2)).1 = S.1 from mul_I c (o) (o + 6) (o + 6) (a) (S.1, S6.2.1, S.2.2)]
          generalize hS7 : mul_f c (o) (o + 6) (o + 6) (a) (S.1, S6.2.1, S.2.2) = S7
          subst hS7
          subst hS6
          subst hS5
          rw [if_neg hb4] at K157_8
          exact rn_ks [0, 1, 2, 3, 4, 5] K157_8 rfl
      · skip
        have hro := rg_le c i33
        rw [dn_at hi33]
        refine rn_iload C dX3_rootPower_33 rfl ?_
        refine rs_lt0 (tgt := 144) C dX3_rootPower_35 (by decide) rfl (by omega) ?_
        refine rn_aload_n C dX3_rootPower_38 rfl ?_
        refine rn_aload_n C dX3_rootPower_39 rfl ?_
        refine rs_get C dX3_rootPower_40 fl_X3_30 hF0 rfl ?_
        refine rn_aload_n C dX3_rootPower_43 rfl ?_
        refine rs_get C dX3_rootPower_44 fl_X3_27 hF0 rfl ?_
        refine rs_vv C dX3_rootPower_47 mk_X3_copy lv_X3_112 (c_fcopy (S := ((S.1, S2.2.1, S.2.2).1, (froot_l33 c o a (S.1, S2.2.1, S.2.2) i33), S.2.2)) hF hf7 hf6) hF0 rfl rfl rfl rfl (by decide) (Nat.le_of_ble_eq_true rfl) (by decide) (by decide) ?_
        rw [show (fcopy_f c (o + 7) (o + 6) ((S.1, S2.2.1, S.2.2).1, (froot_l33 c o a (S.1, S2.2.1, S.2.2) i33), S.2.2)).2.2 = S.2.2 from (fcopy_F c (o + 7) (o + 6) ((S.1, S2.2.1, S.2.2).1, (froot_l33 c o a (S.1, S2.2.1, S.2.2) i33), S.2.2))]
        rw [show (fcopy_f c (o + 7) (o + 6) ((S.1, S2.2.1, S.2.2).1, (froot_l33 c o a (S.1, S2.2.1, S.2.2) i33), S.2.2)).1 = (S.1, S2.2.1, S.2.2).1 from fcopy_I c (o + 7) (o + 6) ((S.1, S2.2.1, S.2.2).1, (froot_l33 c o a (S.1, S2.2.1, S.2.2) i33), S.2.2)]
        generalize hS12 : fcopy_f c (o + 7) (o + 6) ((S.1, S2.2.1, S.2.2).1, (froot_l33 c o a (S.1, S2.2.1, S.2.2) i33), S.2.2) = S12
        refine rn_iconst (v := nI 0) C dX3_rootPower_50 rfl ?_
        refine rn_istore (lv' := [(0, _), (1, _), (2, _), (3, _), (4, _), (5, _), (6, _)]) C dX3_rootPower_51 (by decide) rfl ?_
        have lp53 : ∀ i53, i53 ≤ rgN c / 2 ^ (7 - i33) → Rn X 53 [(0, .ref (k_b X.1 + (o))), (1, .ref (k_b X.1 + (to))), (2, .ref (k_b X.1 + (a))), (3, .int (nI (rgN c))), (4, .int (nI (rgN c / 2 ^ (7 - i33)))), (5, .int (nI (7 - 1 - i33))), (6, .int (nI (i53)))] [] (inst X.1 L (S.1, S2.2.1, S.2.2).1 (froot_l53 c o ((S.1, S2.2.1, S.2.2).1, S12.2.1, S.2.2) i53) S.2.2) n 0 0 := by
          refine upto _ _ ?_ (fun i53 hi53 ih53 => ?_)
          · skip
            refine rn_iload C dX3_rootPower_53 rfl ?_
            refine rn_iload C dX3_rootPower_55 rfl ?_
            refine rs_ge (tgt := 78) C dX3_rootPower_57 (by decide) rfl rfl (by omega) (by omega) (fun _ => ?_) (fun q => absurd q (by omega))
            refine rn_aload_n C dX3_rootPower_78 rfl ?_
            refine rn_aload_n C dX3_rootPower_79 rfl ?_
            refine rs_get C dX3_rootPower_80 fl_X3_27 hF0 rfl ?_
            refine rn_aload_n C dX3_rootPower_83 rfl ?_
            refine rs_get C dX3_rootPower_84 fl_X3_27 hF0 rfl ?_
            refine rn_aload_n C dX3_rootPower_87 rfl ?_
            refine rs_get C dX3_rootPower_88 fl_X3_30 hF0 rfl ?_
            refine rs_vv C dX3_rootPower_91 mk_X3_multiply lv_X3_108 (c_mul (S := ((S.1, S2.2.1, S.2.2).1, (froot_l53 c o ((S.1, S2.2.1, S.2.2).1, S12.2.1, S.2.2) (rgN c / 2 ^ (7 - i33))), S.2.2)) hF hf6 hf6 hf7) hF0 rfl rfl rfl rfl (by decide) (Nat.le_of_ble_eq_true rfl) (by decide) (by decide) ?_
            rw [show (mul_f c (o) (o + 6) (o + 6) (o + 7) ((S.1, S2.2.1, S.2.2).1, (froot_l53 c o ((S.1, S2.2.1, S.2.2).1, S12.2.1, S.2.2) (rgN c / 2 ^ (7 - i33))), S.2.2)).2.2 = S.2.2 from (mul_F c (o) (o + 6) (o + 6) (o + 7) ((S.1, S2.2.1, S.2.2).1, (froot_l53 c o ((S.1, S2.2.1, S.2.2).1, S12.2.1, S.2.2) (rgN c / 2 ^ (7 - i33))), S.2.2))]
            rw [show (mul_f c (o) (o + 6) (o + 6) (o + 7) ((S.1, S2.2.1, S.2.2).1, (froot_l53 c o ((S.1, S2.2.1, S.2.2).1, S12.2.1, S.2.2) (rgN c / 2 ^ (7 - i33))), S.2.2)).1 = (S.1, S2.2.1, S.2.2).1 from mul_I c (o) (o + 6) (o + 6) (o + 7) ((S.1, S2.2.1, S.2.2).1, (froot_l53 c o ((S.1, S2.2.1, S.2.2).1, S12.2.1, S.2.2) (rgN c / 2 ^ (7 - i33))), S.2.2)]
            generalize hS13 : mul_f c (o) (o + 6) (o + 6) (o + 7) ((S.1, S2.2.1, S.2.2).1, (froot_l53 c o ((S.1, S2.2.1, S.2.2).1, S12.2.1, S.2.2) (rgN c / 2 ^ (7 - i33))), S.2.2) = S13
            refine rn_iload C dX3_rootPower_94 rfl ?_
            refine rn_iconst (v := nI 2) C dX3_rootPower_96 rfl ?_
            refine rn_imul C dX3_rootPower_97 (pk_mul _ _) ?_
            refine rn_istore (lv' := [(0, _), (1, _), (2, _), (3, _), (4, _), (5, _), (6, _)]) C dX3_rootPower_98 (by decide) rfl ?_
            refine rn_iload_n C dX3_rootPower_100 rfl ?_
            refine rn_iload C dX3_rootPower_101 rfl ?_
            refine rn_ishr C dX3_rootPower_103 rfl ?_
            refine rn_iconst (v := nI 1) C dX3_rootPower_104 rfl ?_
            refine rn_iand C dX3_rootPower_105 rfl ?_
            refine rn_iconst (v := nI 1) C dX3_rootPower_106 rfl ?_
            refine rn_icmp_ne (tgt := 138) C dX3_rootPower_107 (by decide) (fun hb14 => ?_) (fun hb14 => ?_)
            · skip
              have hbk := rg_0 c i33 hi33 hb14
              refine rn_iinc (lv' := [(0, _), (1, _), (2, _), (3, _), (4, _), (5, _), (6, _)]) C dX3_rootPower_138 rfl (dn_dec hi33) (by decide) rfl ?_
              refine rn_goto (tgt := 33) C dX3_rootPower_141 (by decide) ?_
              have he33 : froot_l33 c o a (S.1, S2.2.1, S.2.2) (i33 + 1) = S13.2.1 := by
                subst hS13
                subst hS12
                first | (dsimp only [froot_l33]; done) | (dsimp only [froot_l33]; exact (if_pos hb14)) | exact (if_pos hb14)
              rw [he33] at ih33
              refine rn_lve (lv' := [(0, .ref (k_b X.1 + (o))), (1, .ref (k_b X.1 + (to))), (2, .ref (k_b X.1 + (a))), (3, .int (nI (rgN c))), (4, .int (nI (rgN c / 2 ^ (7 - (i33 + 1))))), (5, .int (dn (7 - (i33 + 1)))), (6, .int (nI ((rgN c / 2 ^ (7 - i33)))))]) (by rw [show nI (rgN c / 2 ^ (7 - (i33 + 1))) = nI ((rgN c / 2 ^ (7 - i33)) * 2) from (Eq.symm (nI_is hbk))]) ?_
              exact rn_ks [0, 1, 2, 3, 4, 5] ih33 rfl
            · skip
              have hbk := rg_1 c i33 hi33 hb14
              refine rn_aload_n C dX3_rootPower_110 rfl ?_
              refine rn_aload_n C dX3_rootPower_111 rfl ?_
              refine rs_get C dX3_rootPower_112 fl_X3_27 hF0 rfl ?_
              refine rn_aload_n C dX3_rootPower_115 rfl ?_
              refine rs_get C dX3_rootPower_116 fl_X3_27 hF0 rfl ?_
              refine rs_vv C dX3_rootPower_119 mk_X3_square lv_X3_105 (c_sqr (S := ((S.1, S2.2.1, S.2.2).1, S13.2.1, S.2.2)) hF hf6 hf6) hF0 rfl rfl rfl rfl (by decide) (Nat.le_of_ble_eq_true rfl) (by decide) (by decide) ?_
              rw [show (sqr_f c (o) (o + 6) (o + 6) ((S.1, S2.2.1, S.2.2).1, S13.2.1, S.2.2)).2.2 = S.2.2 from (sqr_F c (o) (o + 6) (o + 6) ((S.1, S2.2.1, S.2.2).1, S13.2.1, S.2.2))]
              rw [show (sqr_f c (o) (o + 6) (o + 6) ((S.1, S2.2.1, S.2.2).1, S13.2.1, S.2.2)).1 = (S.1, S2.2.1, S.2.2).1 from sqr_I c (o) (o + 6) (o + 6) ((S.1, S2.2.1, S.2.2).1, S13.2.1, S.2.2)]
              generalize hS15 : sqr_f c (o) (o + 6) (o + 6) ((S.1, S2.2.1, S.2.2).1, S13.2.1, S.2.2) = S15
              refine rn_aload_n C dX3_rootPower_122 rfl ?_
              refine rn_aload_n C dX3_rootPower_123 rfl ?_
              refine rs_get C dX3_rootPower_124 fl_X3_27 hF0 rfl ?_
              refine rn_aload_n C dX3_rootPower_127 rfl ?_
              refine rs_get C dX3_rootPower_128 fl_X3_27 hF0 rfl ?_
              refine rn_aload_n C dX3_rootPower_131 rfl ?_
              refine rs_vv C dX3_rootPower_132 mk_X3_multiply lv_X3_108 (c_mul (S := ((S.1, S2.2.1, S.2.2).1, S15.2.1, S.2.2)) hF hf6 hf6 ha) hF0 rfl rfl rfl rfl (by decide) (Nat.le_of_ble_eq_true rfl) (by decide) (by decide) ?_
              rw [show (mul_f c (o) (o + 6) (o + 6) (a) ((S.1, S2.2.1, S.2.2).1, S15.2.1, S.2.2)).2.2 = S.2.2 from (mul_F c (o) (o + 6) (o + 6) (a) ((S.1, S2.2.1, S.2.2).1, S15.2.1, S.2.2))]
              rw [show (mul_f c (o) (o + 6) (o + 6) (a) ((S.1, S2.2.1, S.2.2).1, S15.2.1, S.2.2)).1 = (S.1, S2.2.1, S.2.2).1 from mul_I c (o) (o + 6) (o + 6) (a) ((S.1, S2.2.1, S.2.2).1, S15.2.1, S.2.2)]
              generalize hS16 : mul_f c (o) (o + 6) (o + 6) (a) ((S.1, S2.2.1, S.2.2).1, S15.2.1, S.2.2) = S16
              refine rn_iinc (lv' := [(0, _), (1, _), (2, _), (3, _), (4, _), (5, _), (6, _)]) C dX3_rootPower_135 rfl (nI_inc _) (by decide) rfl ?_
              refine rn_iinc (lv' := [(0, _), (1, _), (2, _), (3, _), (4, _), (5, _), (6, _)]) C dX3_rootPower_138 rfl (dn_dec hi33) (by decide) rfl ?_
              refine rn_goto (tgt := 33) C dX3_rootPower_141 (by decide) ?_
              have he33 : froot_l33 c o a (S.1, S2.2.1, S.2.2) (i33 + 1) = S16.2.1 := by
                subst hS16
                subst hS15
                subst hS13
                subst hS12
                first | (dsimp only [froot_l33]; done) | (dsimp only [froot_l33]; exact (if_neg (fun q => q hb14))) | exact (if_neg (fun q => q hb14))
              rw [he33] at ih33
              refine rn_lve (lv' := [(0, .ref (k_b X.1 + (o))), (1, .ref (k_b X.1 + (to))), (2, .ref (k_b X.1 + (a))), (3, .int (nI (rgN c))), (4, .int (nI (rgN c / 2 ^ (7 - (i33 + 1))))), (5, .int (dn (7 - (i33 + 1)))), (6, .int (nI ((rgN c / 2 ^ (7 - i33)))))]) (by rw [show nI (rgN c / 2 ^ (7 - (i33 + 1))) = nI ((rgN c / 2 ^ (7 - i33)) * 2 + 1) from (Eq.symm (nI_is hbk))]) ?_
              exact rn_ks [0, 1, 2, 3, 4, 5] ih33 rfl
          · skip
            refine rn_iload C dX3_rootPower_53 rfl ?_
            refine rn_iload C dX3_rootPower_55 rfl ?_
            refine rs_ge (tgt := 78) C dX3_rootPower_57 (by decide) rfl rfl (by omega) (by omega) (fun q => absurd q (by omega)) (fun _ => ?_)
            refine rn_aload_n C dX3_rootPower_60 rfl ?_
            refine rn_aload_n C dX3_rootPower_61 rfl ?_
            refine rs_get C dX3_rootPower_62 fl_X3_27 hF0 rfl ?_
            refine rn_aload_n C dX3_rootPower_65 rfl ?_
            refine rs_get C dX3_rootPower_66 fl_X3_27 hF0 rfl ?_
            refine rs_vv C dX3_rootPower_69 mk_X3_square lv_X3_105 (c_sqr (S := (((S.1, S2.2.1, S.2.2).1, S12.2.1, S.2.2).1, (froot_l53 c o ((S.1, S2.2.1, S.2.2).1, S12.2.1, S.2.2) i53), S.2.2)) hF hf6 hf6) hF0 rfl rfl rfl rfl (by decide) (Nat.le_of_ble_eq_true rfl) (by decide) (by decide) ?_
            rw [show (sqr_f c (o) (o + 6) (o + 6) (((S.1, S2.2.1, S.2.2).1, S12.2.1, S.2.2).1, (froot_l53 c o ((S.1, S2.2.1, S.2.2).1, S12.2.1, S.2.2) i53), S.2.2)).2.2 = S.2.2 from (sqr_F c (o) (o + 6) (o + 6) (((S.1, S2.2.1, S.2.2).1, S12.2.1, S.2.2).1, (froot_l53 c o ((S.1, S2.2.1, S.2.2).1, S12.2.1, S.2.2) i53), S.2.2))]
            rw [show (sqr_f c (o) (o + 6) (o + 6) (((S.1, S2.2.1, S.2.2).1, S12.2.1, S.2.2).1, (froot_l53 c o ((S.1, S2.2.1, S.2.2).1, S12.2.1, S.2.2) i53), S.2.2)).1 = ((S.1, S2.2.1, S.2.2).1, S12.2.1, S.2.2).1 from sqr_I c (o) (o + 6) (o + 6) (((S.1, S2.2.1, S.2.2).1, S12.2.1, S.2.2).1, (froot_l53 c o ((S.1, S2.2.1, S.2.2).1, S12.2.1, S.2.2) i53), S.2.2)]
            generalize hS17 : sqr_f c (o) (o + 6) (o + 6) (((S.1, S2.2.1, S.2.2).1, S12.2.1, S.2.2).1, (froot_l53 c o ((S.1, S2.2.1, S.2.2).1, S12.2.1, S.2.2) i53), S.2.2) = S17
            refine rn_iinc (lv' := [(0, _), (1, _), (2, _), (3, _), (4, _), (5, _), (6, _)]) C dX3_rootPower_72 rfl (nI_inc _) (by decide) rfl ?_
            refine rn_goto (tgt := 53) C dX3_rootPower_75 (by decide) ?_
            have he53 : froot_l53 c o ((S.1, S2.2.1, S.2.2).1, S12.2.1, S.2.2) (i53 + 1) = S17.2.1 := by
              subst hS17
              first | (dsimp only [froot_l53]; done) | (dsimp only [froot_l53]; exact rfl) | exact rfl
            rw [he53] at ih53
            exact rn_ks [0, 1, 2, 3, 4, 5, 6] ih53 rfl
        exact lp53 0 (Nat.zero_le _)
    refine rn_lve (lv' := [(0, .ref (k_b X.1 + (o))), (1, .ref (k_b X.1 + (to))), (2, .ref (k_b X.1 + (a))), (3, .int (nI (rgN c))), (4, .int (nI (rgN c / 2 ^ (7 - 0)))), (5, .int (nI (6)))]) (by rw [show nI (rgN c / 2 ^ (7 - 0)) = nI (1) from (Eq.symm (nI_is (by cases c <;> rfl)))]) ?_
    exact lp33 0 (Nat.zero_le _)
  refine rn_if_eq (tgt := 13) C dX3_rootPower_4 (by decide) (fun hb1 => ?_) (fun hb1 => ?_)
  · skip
    refine rn_sipush (v := nI 250) C dX3_rootPower_13 rfl ?_
    rw [if_pos hb1] at K4_1
    exact K4_1
  · skip
    refine rn_sipush (v := nI 222) C dX3_rootPower_7 rfl ?_
    refine rn_goto (tgt := 16) C dX3_rootPower_10 (by decide) ?_
    rw [if_neg hb1] at K4_1
    exact K4_1
def finv_f (c : Bool) (o : Nat) (to : Nat) (a : Nat) (S : StT) : StT := (let S1 := froot_f c (o) (o + 8) (a) S; (let S2 := sqr_f c (o) (o + 8) (o + 8) (S.1, S1.2.1, S.2.2); (let S3 := sqr_f c (o) (o + 8) (o + 8) (S.1, S2.2.1, S.2.2); (let S4 := mul_f c (o) (o + 8) (o + 8) (a) (S.1, S3.2.1, S.2.2); (let S8 := (if (bI c) ≠ 0 then (S.1, S4.2.1, S.2.2) else (let S6 := sqr_f c (o) (o + 8) (o + 8) (S.1, S4.2.1, S.2.2); (let S7 := mul_f c (o) (o + 8) (o + 8) (a) (S.1, S6.2.1, S.2.2); (S.1, S7.2.1, S.2.2)))); (let S9 := fcopy_f c (to) (o + 8) (S8.1, S8.2.1, S.2.2); (S8.1, S9.2.1, S.2.2)))))))
theorem finv_F (c : Bool) (o : Nat) (to : Nat) (a : Nat) (S : StT) : (finv_f c o to a S).2.2 = S.2.2 := by
  unfold finv_f; first | rfl | ((repeat' split) <;> rfl) | (dsimp only; (repeat' split) <;> rfl)
theorem finv_I (c : Bool) (o : Nat) (to : Nat) (a : Nat) (S : StT) : (finv_f c o to a S).1 = S.1 := by
  unfold finv_f; first | rfl | ((repeat' split) <;> rfl)
set_option maxRecDepth 100000 in
set_option maxHeartbeats 400000 in
theorem c_finv {k : KX} {L : Nat → Option Sh} {S : StT} {n : Nat} {c : Bool} {o : Nat} {to : Nat} {a : Nat} (hF : FieldAt k L o c) (hto : L to = some (sJ 16)) (ha : L a = some (sJ 16)) :
    Cs k yX3_invert cX3_invert 3 none 3 0 0 [.ref (k_b k + (o)), .ref (k_b k + (to)), .ref (k_b k + (a))] (inst k L S.1 S.2.1 S.2.2) n (Pv k L n (finv_f c o to a S)) := by
  refine cs_of (by decide) (Nat.le_of_ble_eq_true rfl) ?_
  intro X hXk C Rt hnm
  subst hXk
  have hF9 := hF
  obtain ⟨hF0, hf1, hf2, hf3, hf4, hf5, hf6, hf7, hf8, hf9⟩ := hF9
  obtain ⟨hl1, hl2⟩ := fL_le c
  have hfb : 28 ≤ fb c ∧ fb c ≤ 29 := by cases c <;> decide
  obtain ⟨hfb1, hfb2⟩ := hfb
  have hfB : 32 ≤ fB c ∧ fB c ≤ 56 := by cases c <;> decide
  obtain ⟨hfB1, hfB2⟩ := hfB
  refine rn_lv [(0, .ref (k_b X.1 + (o))), (1, .ref (k_b X.1 + (to))), (2, .ref (k_b X.1 + (a)))] (fun q h => h) ?_
  refine rn_aload_n C dX3_invert_0 rfl ?_
  refine rn_aload_n C dX3_invert_1 rfl ?_
  refine rs_get C dX3_invert_2 fl_X3_33 hF0 rfl ?_
  refine rn_aload_n C dX3_invert_5 rfl ?_
  refine rs_vv C dX3_invert_6 mk_X3_rootPower lv_X3_102 (c_froot hF hf8 ha) hF0 rfl rfl rfl rfl (by decide) (Nat.le_of_ble_eq_true rfl) (by decide) (by decide) ?_
  rw [show (froot_f c (o) (o + 8) (a) S).2.2 = S.2.2 from (froot_F c (o) (o + 8) (a) S)]
  rw [show (froot_f c (o) (o + 8) (a) S).1 = S.1 from froot_I c (o) (o + 8) (a) S]
  generalize hS1 : froot_f c (o) (o + 8) (a) S = S1
  refine rn_aload_n C dX3_invert_9 rfl ?_
  refine rn_aload_n C dX3_invert_10 rfl ?_
  refine rs_get C dX3_invert_11 fl_X3_33 hF0 rfl ?_
  refine rn_aload_n C dX3_invert_14 rfl ?_
  refine rs_get C dX3_invert_15 fl_X3_33 hF0 rfl ?_
  refine rs_vv C dX3_invert_18 mk_X3_square lv_X3_105 (c_sqr (S := (S.1, S1.2.1, S.2.2)) hF hf8 hf8) hF0 rfl rfl rfl rfl (by decide) (Nat.le_of_ble_eq_true rfl) (by decide) (by decide) ?_
  rw [show (sqr_f c (o) (o + 8) (o + 8) (S.1, S1.2.1, S.2.2)).2.2 = S.2.2 from (sqr_F c (o) (o + 8) (o + 8) (S.1, S1.2.1, S.2.2))]
  rw [show (sqr_f c (o) (o + 8) (o + 8) (S.1, S1.2.1, S.2.2)).1 = S.1 from sqr_I c (o) (o + 8) (o + 8) (S.1, S1.2.1, S.2.2)]
  generalize hS2 : sqr_f c (o) (o + 8) (o + 8) (S.1, S1.2.1, S.2.2) = S2
  refine rn_aload_n C dX3_invert_21 rfl ?_
  refine rn_aload_n C dX3_invert_22 rfl ?_
  refine rs_get C dX3_invert_23 fl_X3_33 hF0 rfl ?_
  refine rn_aload_n C dX3_invert_26 rfl ?_
  refine rs_get C dX3_invert_27 fl_X3_33 hF0 rfl ?_
  refine rs_vv C dX3_invert_30 mk_X3_square lv_X3_105 (c_sqr (S := (S.1, S2.2.1, S.2.2)) hF hf8 hf8) hF0 rfl rfl rfl rfl (by decide) (Nat.le_of_ble_eq_true rfl) (by decide) (by decide) ?_
  rw [show (sqr_f c (o) (o + 8) (o + 8) (S.1, S2.2.1, S.2.2)).2.2 = S.2.2 from (sqr_F c (o) (o + 8) (o + 8) (S.1, S2.2.1, S.2.2))]
  rw [show (sqr_f c (o) (o + 8) (o + 8) (S.1, S2.2.1, S.2.2)).1 = S.1 from sqr_I c (o) (o + 8) (o + 8) (S.1, S2.2.1, S.2.2)]
  generalize hS3 : sqr_f c (o) (o + 8) (o + 8) (S.1, S2.2.1, S.2.2) = S3
  refine rn_aload_n C dX3_invert_33 rfl ?_
  refine rn_aload_n C dX3_invert_34 rfl ?_
  refine rs_get C dX3_invert_35 fl_X3_33 hF0 rfl ?_
  refine rn_aload_n C dX3_invert_38 rfl ?_
  refine rs_get C dX3_invert_39 fl_X3_33 hF0 rfl ?_
  refine rn_aload_n C dX3_invert_42 rfl ?_
  refine rs_vv C dX3_invert_43 mk_X3_multiply lv_X3_108 (c_mul (S := (S.1, S3.2.1, S.2.2)) hF hf8 hf8 ha) hF0 rfl rfl rfl rfl (by decide) (Nat.le_of_ble_eq_true rfl) (by decide) (by decide) ?_
  rw [show (mul_f c (o) (o + 8) (o + 8) (a) (S.1, S3.2.1, S.2.2)).2.2 = S.2.2 from (mul_F c (o) (o + 8) (o + 8) (a) (S.1, S3.2.1, S.2.2))]
  rw [show (mul_f c (o) (o + 8) (o + 8) (a) (S.1, S3.2.1, S.2.2)).1 = S.1 from mul_I c (o) (o + 8) (o + 8) (a) (S.1, S3.2.1, S.2.2)]
  generalize hS4 : mul_f c (o) (o + 8) (o + 8) (a) (S.1, S3.2.1, S.2.2) = S4
  refine rn_aload_n C dX3_invert_46 rfl ?_
  refine rs_get C dX3_invert_47 fl_X3_39 hF0 rfl ?_
  have K50_8 : Rn X 78 [(0, .ref (k_b X.1 + (o))), (1, .ref (k_b X.1 + (to))), (2, .ref (k_b X.1 + (a)))] [] (inst X.1 L (if (bI c) ≠ 0 then (S.1, S4.2.1, S.2.2) else (let S6 := sqr_f c (o) (o + 8) (o + 8) (S.1, S4.2.1, S.2.2); (let S7 := mul_f c (o) (o + 8) (o + 8) (a) (S.1, S6.2.1, S.2.2); (S.1, S7.2.1, S.2.2)))).1 (if (bI c) ≠ 0 then (S.1, S4.2.1, S.2.2) else (let S6 := sqr_f c (o) (o + 8) (o + 8) (S.1, S4.2.1, S.2.2); (let S7 := mul_f c (o) (o + 8) (o + 8) (a) (S.1, S6.2.1, S.2.2); (S.1, S7.2.1, S.2.2)))).2.1 (S.2.2)) n 0 0 := by
    generalize hS8 : (if (bI c) ≠ 0 then (S.1, S4.2.1, S.2.2) else (let S6 := sqr_f c (o) (o + 8) (o + 8) (S.1, S4.2.1, S.2.2); (let S7 := mul_f c (o) (o + 8) (o + 8) (a) (S.1, S6.2.1, S.2.2); (S.1, S7.2.1, S.2.2)))) = S8
    refine rn_aload_n C dX3_invert_78 rfl ?_
    refine rn_aload_n C dX3_invert_79 rfl ?_
    refine rn_aload_n C dX3_invert_80 rfl ?_
    refine rs_get C dX3_invert_81 fl_X3_33 hF0 rfl ?_
    refine rs_vv C dX3_invert_84 mk_X3_copy lv_X3_112 (c_fcopy (S := (S8.1, S8.2.1, S.2.2)) hF hto hf8) hF0 rfl rfl rfl rfl (by decide) (Nat.le_of_ble_eq_true rfl) (by decide) (by decide) ?_
    rw [show (fcopy_f c (to) (o + 8) (S8.1, S8.2.1, S.2.2)).2.2 = S.2.2 from (fcopy_F c (to) (o + 8) (S8.1, S8.2.1, S.2.2))]
    rw [show (fcopy_f c (to) (o + 8) (S8.1, S8.2.1, S.2.2)).1 = S8.1 from fcopy_I c (to) (o + 8) (S8.1, S8.2.1, S.2.2)]
    generalize hS9 : fcopy_f c (to) (o + 8) (S8.1, S8.2.1, S.2.2) = S9
    have hret : finv_f c o to a S = (S8.1, S9.2.1, S.2.2) := by
      subst hS9
      subst hS8
      subst hS4
      subst hS3
      subst hS2
      subst hS1
      first | (dsimp only [finv_f]; done) | (dsimp only [finv_f]; exact rfl) | exact rfl
    exact rn_vret C Rt dX3_invert_87 (pv_of hret) (Nat.zero_le _) (Nat.zero_le _)
  refine rn_if_ne (tgt := 78) C dX3_invert_50 (by decide) (fun hb5 => ?_) (fun hb5 => ?_)
  · skip
    rw [if_pos hb5] at K50_8
    exact rn_ks [0, 1, 2] K50_8 rfl
  · skip
    refine rn_aload_n C dX3_invert_53 rfl ?_
    refine rn_aload_n C dX3_invert_54 rfl ?_
    refine rs_get C dX3_invert_55 fl_X3_33 hF0 rfl ?_
    refine rn_aload_n C dX3_invert_58 rfl ?_
    refine rs_get C dX3_invert_59 fl_X3_33 hF0 rfl ?_
    refine rs_vv C dX3_invert_62 mk_X3_square lv_X3_105 (c_sqr (S := (S.1, S4.2.1, S.2.2)) hF hf8 hf8) hF0 rfl rfl rfl rfl (by decide) (Nat.le_of_ble_eq_true rfl) (by decide) (by decide) ?_
    rw [show (sqr_f c (o) (o + 8) (o + 8) (S.1, S4.2.1, S.2.2)).2.2 = S.2.2 from (sqr_F c (o) (o + 8) (o + 8) (S.1, S4.2.1, S.2.2))]
    rw [show (sqr_f c (o) (o + 8) (o + 8) (S.1, S4.2.1, S.2.2)).1 = S.1 from sqr_I c (o) (o + 8) (o + 8) (S.1, S4.2.1, S.2.2)]
    generalize hS6 : sqr_f c (o) (o + 8) (o + 8) (S.1, S4.2.1, S.2.2) = S6
    refine rn_aload_n C dX3_invert_65 rfl ?_
    refine rn_aload_n C dX3_invert_66 rfl ?_
    refine rs_get C dX3_invert_67 fl_X3_33 hF0 rfl ?_
    refine rn_aload_n C dX3_invert_70 rfl ?_
    refine rs_get C dX3_invert_71 fl_X3_33 hF0 rfl ?_
    refine rn_aload_n C dX3_invert_74 rfl ?_
    refine rs_vv C dX3_invert_75 mk_X3_multiply lv_X3_108 (c_mul (S := (S.1, S6.2.1, S.2.2)) hF hf8 hf8 ha) hF0 rfl rfl rfl rfl (by decide) (Nat.le_of_ble_eq_true rfl) (by decide) (by decide) ?_
    rw [show (mul_f c (o) (o + 8) (o + 8) (a) (S.1, S6.2.1, S.2.2)).2.2 = S.2.2 from (mul_F c (o) (o + 8) (o + 8) (a) (S.1, S6.2.1, S.2.2))]
    rw [show (mul_f c (o) (o + 8) (o + 8) (a) (S.1, S6.2.1, S.2.2)).1 = S.1 from mul_I c (o) (o + 8) (o + 8) (a) (S.1, S6.2.1, S.2.2)]
    generalize hS7 : mul_f c (o) (o + 8) (o + 8) (a) (S.1, S6.2.1, S.2.2) = S7
    subst hS7
    subst hS6
    rw [if_neg (fun q => q hb5)] at K50_8
    exact rn_ks [0, 1, 2] K50_8 rfl
