/-! MAKERS: numbers out of hexadecimal texts -/
/-- a letter's value -/
def dg (v : Nat) : Nat := if v ≤ 57 then v - 48 else v - 97 + 10
def hxOk (v : Nat) : Prop := (48 ≤ v ∧ v ≤ 57) ∨ (97 ≤ v ∧ v ≤ 102)
theorem dg_lt {v : Nat} (h : hxOk v) : dg v < 16 := by
  unfold dg
  unfold hxOk at h
  split <;> omega
theorem c_dig {k : KX} {P : PT} {n v : Nat} (h : hxOk v) : Cs k yX4_digit cX4_digit 1 (some .int) 0 0 0 [.int (nI v)] P n (Pw (some (.int (nI (dg v)))) P n) := by
  refine cs_of (by decide) (Nat.le_of_ble_eq_true rfl) ?_
  intro X hXk C Rt hnm
  subst hXk
  have h' := h
  unfold hxOk at h'
  refine rn_lv [(0, .int (nI v))] (fun q h => h) ?_
  refine rn_iload_n C dX4_digit_0 rfl ?_
  refine rn_bipush (v := nI 57) C dX4_digit_1 rfl ?_
  refine rn_icmp_gt (tgt := 13) C dX4_digit_3 (by decide) (fun hb => ?_) (fun hb => ?_)
  · have hb' : 57 < v := (nI_ltI (by omega) (by omega)).mp hb
    have e : dg v = v - 97 + 10 := if_neg (by omega)
    refine rn_iload_n C dX4_digit_13 rfl ?_
    refine rn_bipush (v := nI 97) C dX4_digit_14 rfl ?_
    refine rn_isub C dX4_digit_16 (pk_sub (by omega)) ?_
    refine rn_bipush (v := nI 10) C dX4_digit_17 rfl ?_
    refine rn_iadd C dX4_digit_19 (nI_add _ _) ?_
    exact rn_iret C Rt dX4_digit_20 ⟨by rw [e], rfl, rfl⟩ (Nat.zero_le _) (Nat.zero_le _)
  · have hb' : ¬ 57 < v := fun q => hb ((nI_ltI (by omega) (by omega)).mpr q)
    have e : dg v = v - 48 := if_pos (by omega)
    refine rn_iload_n C dX4_digit_6 rfl ?_
    refine rn_bipush (v := nI 48) C dX4_digit_7 rfl ?_
    refine rn_isub C dX4_digit_9 (pk_sub (by omega)) ?_
    refine rn_goto (tgt := 20) C dX4_digit_10 (by decide) ?_
    exact rn_iret C Rt dX4_digit_20 ⟨by rw [e], rfl, rfl⟩ (Nat.zero_le _) (Nat.zero_le _)
/-- a text of 2 nB hexadecimal letters -/
def StrH (k : KX) (a nB : Nat) (f : Nat → Nat) : Prop := (∀ U, k_F k U → StrS k a (2 * nB) f U) ∧ (∃ v : Nat, ∀ U, k_F k U → va_OF RJ0 "value" "[B" (.ref v) a (fun q => k_b k ≤ q) U (k_H k) ∧ va_T .byte v (2 * nB) (fun j => .int (nI (f j))) (fun q => k_b k ≤ q) U (k_H k)) ∧ (∀ j, f j < 128) ∧ (∀ q, q < 2 * nB → hxOk (f q)) ∧ nB ≤ 56
/-- its byte q, the lowest first -/
def hxB (nB : Nat) (f : Nat → Nat) (q : Nat) : Nat := 16 * dg (f (2 * (nB - 1 - q))) + dg (f (2 * (nB - 1 - q) + 1))
def hxP (nB : Nat) (f : Nat → Nat) (i : Nat) : Nat → Int32 := fun q => if q < i then nI (hxB nB f q) else 0
def mkHx (j nB bits : Nat) (f : Nat → Nat) (S : StT) : StT := lfrom_f (j + 1) bits j nB (va_up S.1 j (hxP nB f nB), S.2.1, S.2.2)
theorem hxP_up (nB : Nat) (f : Nat → Nat) (i : Nat) : upd (hxP nB f i) i (nI (hxB nB f i)) = hxP nB f (i + 1) := by
  funext q
  by_cases h : q = i
  · subst h
    rw [pk_us]
    exact (if_pos (Nat.lt_succ_self _)).symm
  · rw [pk_un h]
    unfold hxP
    by_cases h2 : q < i
    · rw [if_pos h2, if_pos (by omega)]
    · rw [if_neg h2, if_neg (by omega)]
def PhR (k : KX) (L : Nat → Option Sh) (a n : Nat) (R : StT) : Outcome → PT → Nat → Prop := fun o P' n' => o = .returned (some (.ref a)) ∧ P' = inst k L R.1 R.2.1 R.2.2 ∧ n' = n
set_option maxHeartbeats 4000000 in
theorem c_hex {k : KX} {L : Nat → Option Sh} {S : StT} {j a nB bits : Nat} {f : Nat → Nat} (hz : Zr j S) (hK : StrH k a nB f) (h1 : 28 ≤ bits) (h2 : bits ≤ 29) :
    Cs k yX4_fromHex cX4_fromHex 6 (some (.array .long)) 4 2 (nB + 16) [.ref a, .int (nI bits)] (inst k (lay L j []) S.1 S.2.1 S.2.2) (j + 0) (PhR k (lay L j [sI nB, sJ 16]) (k_b k + (j + 1)) (j + 2) (mkHx j nB bits f S)) := by
  refine cs_of (by decide) (Nat.le_of_ble_eq_true rfl) ?_
  intro X hXk C Rt hnm
  subst hXk
  obtain ⟨hst, hv, hf, hx, hN⟩ := hK
  obtain ⟨t1, -⟩ := hst _ C.2.2.2.2.2.2.1.2.1
  refine rn_lv [(0, .ref a), (1, .int (nI bits))] (fun q h => h) ?_
  refine rn_aload_n C dX4_fromHex_0 rfl ?_
  refine rn_callVO (na := 0) (As := []) C dX4_fromHex_1 mk_J0_length_8abf5 lv_X4_7 (c_len (by omega) hst) t1 rfl rfl (by decide) (Nat.le_of_ble_eq_true rfl) (by omega) (by omega) ?_
  rintro w P' n' ⟨e1, e2, e3⟩
  cases e1
  subst e2; replace e3 := e3.symm; subst e3
  refine rn_iconst (v := nI 2) C dX4_fromHex_4 rfl ?_
  refine rn_idivn C dX4_fromHex_5 (by omega) (by omega) (by omega) ?_
  rw [show 2 * nB / 2 = nB from by omega]
  refine rn_istore_n (lv' := [(0, _), (1, _), (2, _)]) C dX4_fromHex_6 (by decide) rfl ?_
  refine rn_iload_n C dX4_fromHex_7 rfl ?_
  refine ls_newI (m := 0) (l' := [sI nB]) C dX4_fromHex_8 rfl rfl (hz _ (by omega)).1 rfl (by omega) (by omega) (by omega) ?_
  refine rn_astore_n (lv' := [(0, _), (1, _), (2, _), (3, _)]) C dX4_fromHex_10 (by decide) rfl ?_
  refine rn_iconst (v := nI 0) C dX4_fromHex_11 rfl ?_
  refine rn_istore (lv' := [(0, _), (1, _), (2, _), (3, _), (4, _)]) C dX4_fromHex_12 (by decide) rfl ?_
  have lp : ∀ i, i ≤ nB → Rn X 14 [(0, .ref a), (1, .int (nI bits)), (2, .int (nI nB)), (3, .ref (k_b X.1 + (j + 0))), (4, .int (nI i))] [] (inst X.1 (lay L j [sI nB]) (va_up S.1 (j + 0) (hxP nB f i)) S.2.1 S.2.2) (j + 1) (0 + 0 + 1) (0 + 0 + nB) := by
    refine upto _ _ ?_ (fun i hi ih => ?_)
    · refine rn_iload C dX4_fromHex_14 rfl ?_
      refine rn_iload_n C dX4_fromHex_16 rfl ?_
      refine rs_ge (tgt := 64) C dX4_fromHex_17 (by decide) rfl rfl (by omega) (by omega) (fun _ => ?_) (fun q => absurd q (by omega))
      refine rn_bipush (v := nI 16) C dX4_fromHex_64 rfl ?_
      refine ls_newJ (m := 1) (l' := [sI nB, sJ 16]) C dX4_fromHex_66 rfl rfl (hz _ (by omega)).2.1 rfl (by decide) (by omega) (by omega) ?_
      refine rn_astore (lv' := [(0, _), (1, _), (2, _), (3, _), (4, _)]) C dX4_fromHex_68 (by decide) rfl ?_
      refine rn_aload C dX4_fromHex_70 rfl ?_
      refine rn_iload_n C dX4_fromHex_72 rfl ?_
      refine rn_aload_n C dX4_fromHex_73 rfl ?_
      refine rn_iload_n C dX4_fromHex_74 rfl ?_
      refine rs_sv C dX4_fromHex_75 mk_X4_fromBytes ls_X4_23 (c_lfrom (S := (va_up S.1 (j + 0) (hxP nB f nB), S.2.1, S.2.2)) (to := j + 1) (bits := bits) (by_ := j + 0) (m := nB) (nn := nB) ((lay_at _ _ 1 _).trans rfl) h1 h2 ((lay_at _ _ 0 _).trans rfl) (by omega) (Nat.le_refl _) (by omega)) rfl rfl (by decide) (Nat.le_of_ble_eq_true rfl) (by omega) (by omega) ?_
      refine rn_aload C dX4_fromHex_78 rfl ?_
      exact rn_aret C Rt (Or.inr ⟨_, rfl⟩) dX4_fromHex_80 ⟨rfl, rfl, rfl⟩ (by omega) (by omega)
    · have hq1 : 2 * (nB - 1 - i) < 2 * nB := by omega
      have hq2 : 2 * (nB - 1 - i) + 1 < 2 * nB := by omega
      refine rn_iload C dX4_fromHex_14 rfl ?_
      refine rn_iload_n C dX4_fromHex_16 rfl ?_
      refine rs_ge (tgt := 64) C dX4_fromHex_17 (by decide) rfl rfl (by omega) (by omega) (fun q => absurd q (by omega)) (fun _ => ?_)
      refine rn_iconst (v := nI 2) C dX4_fromHex_20 rfl ?_
      refine rn_iload_n C dX4_fromHex_21 rfl ?_
      refine rn_iconst (v := nI 1) C dX4_fromHex_22 rfl ?_
      refine rn_isub C dX4_fromHex_23 (pk_sub (by omega)) ?_
      refine rn_iload C dX4_fromHex_24 rfl ?_
      refine rn_isub C dX4_fromHex_26 (pk_sub (by omega)) ?_
      refine rn_imul C dX4_fromHex_27 (pk_mul _ _) ?_
      refine rn_istore (lv' := [(0, _), (1, _), (2, _), (3, _), (4, _), (5, _)]) C dX4_fromHex_28 (by decide) rfl ?_
      refine rn_aload_n C dX4_fromHex_30 rfl ?_
      refine rn_iload C dX4_fromHex_31 rfl ?_
      refine rn_bipush (v := nI 16) C dX4_fromHex_33 rfl ?_
      refine rn_aload_n C dX4_fromHex_35 rfl ?_
      refine rn_iload C dX4_fromHex_36 rfl ?_
      refine rn_callVO (na := 1) (As := [.int (nI (2 * (nB - 1 - i)))]) C dX4_fromHex_38 mk_J0_charAt_5068e lv_X4_13 (c_chr (by omega) hq1 hf hst hv) t1 rfl rfl (by decide) (Nat.le_of_ble_eq_true rfl) (by omega) (by omega) ?_
      rintro w P' n' ⟨e1, e2, e3⟩
      cases e1
      subst e2; replace e3 := e3.symm; subst e3
      refine rn_callS (na := 1) (As := [.int (nI (f (2 * (nB - 1 - i))))]) C dX4_fromHex_41 mk_X4_digit ls_X4_17 (c_dig (hx _ hq1)) rfl rfl (by decide) (Nat.le_of_ble_eq_true rfl) (by omega) (by omega) ?_
      rintro w P' n' ⟨e1, e2, e3⟩
      cases e1
      subst e2; replace e3 := e3.symm; subst e3
      refine rn_imul C dX4_fromHex_44 (pk_mul _ _) ?_
      refine rn_aload_n C dX4_fromHex_45 rfl ?_
      refine rn_iload C dX4_fromHex_46 rfl ?_
      refine rn_iconst (v := nI 1) C dX4_fromHex_48 rfl ?_
      refine rn_iadd C dX4_fromHex_49 (nI_add _ _) ?_
      refine rn_callVO (na := 1) (As := [.int (nI (2 * (nB - 1 - i) + 1))]) C dX4_fromHex_50 mk_J0_charAt_5068e lv_X4_13 (c_chr (by omega) hq2 hf hst hv) t1 rfl rfl (by decide) (Nat.le_of_ble_eq_true rfl) (by omega) (by omega) ?_
      rintro w P' n' ⟨e1, e2, e3⟩
      cases e1
      subst e2; replace e3 := e3.symm; subst e3
      refine rn_callS (na := 1) (As := [.int (nI (f (2 * (nB - 1 - i) + 1)))]) C dX4_fromHex_53 mk_X4_digit ls_X4_17 (c_dig (hx _ hq2)) rfl rfl (by decide) (Nat.le_of_ble_eq_true rfl) (by omega) (by omega) ?_
      rintro w P' n' ⟨e1, e2, e3⟩
      cases e1
      subst e2; replace e3 := e3.symm; subst e3
      refine rn_iadd C dX4_fromHex_56 (nI_add _ _) ?_
      refine rs_iastore C dX4_fromHex_57 ((lay_at _ _ 0 _).trans rfl) rfl hi (by omega) ?_
      rw [vu_s, vu_vu, show upd (hxP nB f i) i (nI (16 * dg (f (2 * (nB - 1 - i))) + dg (f (2 * (nB - 1 - i) + 1)))) = hxP nB f (i + 1) from hxP_up nB f i]
      refine rn_iinc (lv' := [(0, _), (1, _), (2, _), (3, _), (4, _), (5, _)]) C dX4_fromHex_58 rfl (nI_inc _) (by decide) rfl ?_
      refine rn_goto (tgt := 14) C dX4_fromHex_61 (by decide) ?_
      exact rn_ks [0, 1, 2, 3, 4] ih rfl
  have e0 : va_up S.1 (j + 0) (hxP nB f 0) = S.1 := by
    have : hxP nB f 0 = S.1 (j + 0) := by rw [(hz (j + 0) (by omega)).1]; funext q; exact if_neg (Nat.not_lt_zero _)
    rw [this]
    exact vu_self _ _
  have l0 := lp 0 (Nat.zero_le _)
  rw [e0] at l0
  exact l0
/-- Field.constant -/
theorem c_const {k : KX} {L : Nat → Option Sh} {S : StT} {j fo a nB : Nat} {f : Nat → Nat} {c : Bool} (hz : Zr j S) (hfo : L fo = some (fSh k fo c)) (hlt : fo < j) (hK : StrH k a nB f) :
    Cs k yX3_constant cX3_constant 2 (some (.array .long)) 5 2 (nB + 16) [.ref (k_b k + fo), .ref a] (inst k (lay L j []) S.1 S.2.1 S.2.2) (j + 0) (PhR k (lay L j [sI nB, sJ 16]) (k_b k + (j + 1)) (j + 2) (mkHx j nB (fb c) f S)) := by
  refine cs_of (by decide) (Nat.le_of_ble_eq_true rfl) ?_
  intro X hXk C Rt hnm
  subst hXk
  refine rn_lv [(0, .ref (k_b X.1 + fo)), (1, .ref a)] (fun q h => h) ?_
  refine rn_aload_n C dX3_constant_0 rfl ?_
  refine rn_aload_n C dX3_constant_1 rfl ?_
  refine rs_get C dX3_constant_2 fl_X3_50 ((lay_lt hlt).trans hfo) rfl ?_
  refine rn_callS (na := 2) (As := [.ref a, .int (nI (fb c))]) C dX3_constant_5 mk_X4_fromHex ls_X3_65 (c_hex (L := L) (S := S) (j := j) hz hK (by cases c <;> decide) (by cases c <;> decide)) rfl rfl (by decide) (Nat.le_of_ble_eq_true rfl) (by omega) (by omega) ?_
  rintro w P' n' ⟨e1, e2, e3⟩
  cases e1
  subst e2; replace e3 := e3.symm; subst e3
  exact rn_aret C Rt (Or.inr ⟨_, rfl⟩) dX3_constant_8 ⟨rfl, rfl, rfl⟩ (by omega) (by omega)
