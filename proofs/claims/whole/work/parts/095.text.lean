/-! STRINGS that are constants: length, charAt -/
section LST2
variable {X : CX} {cc : ByteArray} {nL : Nat} {own : String} {h mc ms pc : Nat} {lv : List (Nat × Value)} {rest : List Value} {P : PT} {n ce sl : Nat}
theorem rn_getO {o nm d : String} {a idx : Nat} {v : Value} (C : OkX X cc nL own h mc ms) (hd : decode cc pc = .ok (.getfield idx, 3)) (hw : Cond.fieldLink own idx o nm d ∈ gw) (hF : va_OF o nm d v a (fun q => k_b X.1 ≤ q) (x_s X) (k_H X.1)) (k : Rn X (pc + 3) lv (v :: rest) P n ce sl) : Rn X pc lv (.ref a :: rest) P n ce sl := by
  intro H ls locs hH hl ho
  obtain ⟨cf, kf, fi, f, cell, h1, h2, h3, h4, h5, h6⟩ := hF
  exact W.getf C.1 C.2.1 C.2.2.2.2.1 (C.2.2.2.2.2.1 _ hw) h1 h2 (by rw [hH.2.1 a (Nat.not_le.mp h6)]; exact h3) h4 (v := v) h5 rfl rfl hd (k H ls locs hH hl ho)
theorem rn_stb {t N q : Nat} {g : Nat → Int32} {i : Int32} (C : OkX X cc nL own h mc ms) (hd : decode cc pc = .ok (.baload, 1)) (hT : va_T .byte t N (fun j => .int (g j)) (fun q => k_b X.1 ≤ q) (x_s X) (k_H X.1)) (hi : i = nI q) (hq : q < N) (hN : N < 2 ^ 31) (k : Rn X (pc + 1) lv (.int (g q) :: rest) P n ce sl) : Rn X pc lv (.int i :: .ref t :: rest) P n ce sl := by
  intro H ls locs hH hl ho
  obtain ⟨cell, h1, h2, h3, h4, h5, h6, h7⟩ := hT
  have e : i.toNatClampNeg = q := by rw [hi]; exact nI_clamp (by omega)
  have hin : ¬ (i < 0 ∨ cell.slots.size ≤ i.toNatClampNeg) := by
    rw [e]
    intro z
    rcases z with z | z
    · exact absurd z (by rw [hi]; exact nI_pos (by omega))
    · omega
  exact W.bald (v := .int (g q)) C.1 C.2.1 (by rw [hH.2.1 t (Nat.not_le.mp h7)]; exact h1) h2 h3 hin (by rw [e, h6 _ hq]) rfl rfl hd (k H ls locs hH hl ho)
/-- a virtual call on an object that lies below -/
theorem rn_callVO {st0 As : List Value} {y : MethodName} {bytes : ByteArray} {maxL na idx h' mc' ms' a : Nat} {ret : Option FieldType} {Post : Outcome → PT → Nat → Prop} (C : OkX X cc nL own h mc ms) (hd : decode cc pc = .ok (.invokevirtual idx, 3))
    (M : Mk y bytes maxL ret na) (L : Lv own idx y) (hM : Cs X.1 y bytes maxL ret h' mc' ms' (.ref a :: As) P n Post) (hO : va_O y.cls a (fun q => k_b X.1 ≤ q) (x_s X) (k_H X.1)) (hst : st0 = As.reverse ++ .ref a :: rest) (hna : As.length = na) (hh : h' < h) (hcat : (rest.map fun v => v.category).sum ≤ 8) (hc : ce + mc' ≤ mc) (hs : sl + ms' ≤ ms)
    (k : ∀ (v : Option Value) (P' : PT) (n' : Nat), Post (.returned v) P' n' → Rn X (pc + 3) lv (v.toList ++ rest) P' n' (ce + mc') (sl + ms')) : Rn X pc lv st0 P n ce sl := by
  refine rn_run (y := y) (ret := ret) (h' := h') (free := fun _ => True) (As := (Value.ref a :: As).toArray) (fun H ls locs hH hl => ?_) k
  have hts := C.2.2.2.2.2.1
  have hR : x_R X = rmv h mc ms := C.2.2.2.2.2.2.2.2.1
  obtain ⟨cell, g1, g2, g3, g4⟩ := hO
  refine va_runV (Ts := gw) (own := own) (C := y.cls) (g := F0 (x_m X) pc ls st0) ⟨C.1, C.2.1, rfl, C.2.2.2.2.1, hts⟩ hM ⟨call_b hts hR M L.1 hh, hts _ L.2.1, hts _ L.2.2⟩ ⟨wd_blind, ⟨cell, by rw [hH.2.1 a (Nat.not_le.mp g4)]; exact g1, g2, g3⟩, fun U hU hW => ⟨rfl, ok_wd C hH hU hW⟩⟩ rfl hna (by show ls.size = _; rw [hl.1, C.2.2.1, C.2.2.2.1]) hst (lv_room (rest := st0) hcat) hd (by rw [hR]; exact ⟨hc, hs⟩)
end LST2
/-- at a lies a String of N letters f, and what its methods read -/
def StrS (k : KX) (a N : Nat) (f : Nat → Nat) (U : State) : Prop := va_O RJ0 a (fun q => k_b k ≤ q) U (k_H k) ∧ va_OF RJ0 "coder" "B" (.int (nI 0)) a (fun q => k_b k ≤ q) U (k_H k) ∧ (∃ v : Nat, va_OF RJ0 "value" "[B" (.ref v) a (fun q => k_b k ≤ q) U (k_H k) ∧ va_T .byte v N (fun j => .int (nI (f j))) (fun q => k_b k ≤ q) U (k_H k)) ∧ va_Z RJ0 "COMPACT_STRINGS" "Z" (.int (nI 1)) (fun q => k_b k ≤ q) U (k_H k) ∧ ∃ w : Value, (w = .null ∨ ∃ a9 : Nat, w = .ref a9) ∧ va_Z RJ3 "SIOOBE_FORMATTER" "Ljava/util/function/BiFunction;" w (fun q => k_b k ≤ q) U (k_H k)
theorem gx_38 : Cond.fieldLink RJ0 38 RJ0 "COMPACT_STRINGS" "Z" ∈ gw := wt 191 (by decide +kernel) (by decide +kernel)
theorem gx_1053 : Cond.fieldLink RJ0 1053 RJ3 "SIOOBE_FORMATTER" "Ljava/util/function/BiFunction;" ∈ gw := wt 207 (by decide +kernel) (by decide +kernel)
theorem gx_9 : Cond.fieldLink RJ0 9 RJ0 "value" "[B" ∈ gw := wt 1509 (by decide +kernel) (by decide +kernel)
theorem gx_15 : Cond.fieldLink RJ0 15 RJ0 "coder" "B" ∈ gw := wt 1510 (by decide +kernel) (by decide +kernel)
/-- the answer alone: nothing else changes -/
def Pw (v : Option Value) (P : PT) (n : Nat) : Outcome → PT → Nat → Prop := fun o P' n' => o = .returned v ∧ P' = P ∧ n' = n
theorem c_coder {k : KX} {P : PT} {n a N : Nat} {f : Nat → Nat} (hst : ∀ U, k_F k U → StrS k a N f U) : Cs k yJ0_coder_7d493 cJ0_coder_7d493 1 (some .byte) 0 0 0 [.ref a] P n (Pw (some (.int (nI 0))) P n) := by
  refine cs_of (by decide) (Nat.le_of_ble_eq_true rfl) ?_
  intro X hXk C Rt hnm
  subst hXk
  obtain ⟨t1, t2, -, t4, -⟩ := hst _ C.2.2.2.2.2.2.1.2.1
  refine rn_lv [(0, .ref a)] (fun q h => h) ?_
  refine rn_gets C dJ0_coder_7d493_0 gx_38 t4 ?_
  refine rn_if_eq (tgt := 13) C dJ0_coder_7d493_3 (by decide) (fun q => absurd q (by decide)) (fun _ => ?_)
  refine rn_aload_n C dJ0_coder_7d493_6 rfl ?_
  refine rn_getO C dJ0_coder_7d493_7 gx_15 t2 ?_
  refine rn_goto (tgt := 14) C dJ0_coder_7d493_10 (by decide) ?_
  exact rn_zret C Rt dJ0_coder_7d493_14 (by decide) ⟨rfl, rfl, rfl⟩ (Nat.zero_le _) (Nat.zero_le _)
theorem c_lat {k : KX} {P : PT} {n a N : Nat} {f : Nat → Nat} (hst : ∀ U, k_F k U → StrS k a N f U) : Cs k yJ0_isLatin1_aae02 cJ0_isLatin1_aae02 1 (some .boolean) 0 0 0 [.ref a] P n (Pw (some (.int (nI 1))) P n) := by
  refine cs_of (by decide) (Nat.le_of_ble_eq_true rfl) ?_
  intro X hXk C Rt hnm
  subst hXk
  obtain ⟨t1, t2, -, t4, -⟩ := hst _ C.2.2.2.2.2.2.1.2.1
  refine rn_lv [(0, .ref a)] (fun q h => h) ?_
  refine rn_gets C dJ0_isLatin1_aae02_0 gx_38 t4 ?_
  refine rn_if_eq (tgt := 17) C dJ0_isLatin1_aae02_3 (by decide) (fun q => absurd q (by decide)) (fun _ => ?_)
  refine rn_aload_n C dJ0_isLatin1_aae02_6 rfl ?_
  refine rn_getO C dJ0_isLatin1_aae02_7 gx_15 t2 ?_
  refine rn_if_ne (tgt := 17) C dJ0_isLatin1_aae02_10 (by decide) (fun q => absurd rfl q) (fun _ => ?_)
  refine rn_iconst (v := nI 1) C dJ0_isLatin1_aae02_13 rfl ?_
  refine rn_goto (tgt := 18) C dJ0_isLatin1_aae02_14 (by decide) ?_
  exact rn_zret C Rt dJ0_isLatin1_aae02_18 nz1 ⟨rfl, rfl, rfl⟩ (Nat.zero_le _) (Nat.zero_le _)
theorem c_len {k : KX} {P : PT} {n a N : Nat} {f : Nat → Nat} (hN : N < 2 ^ 31) (hst : ∀ U, k_F k U → StrS k a N f U) : Cs k yJ0_length_8abf5 cJ0_length_8abf5 1 (some .int) 1 0 0 [.ref a] P n (Pw (some (.int (nI N))) P n) := by
  refine cs_of (by decide) (Nat.le_of_ble_eq_true rfl) ?_
  intro X hXk C Rt hnm
  subst hXk
  obtain ⟨t1, t2, ⟨v, t3, t5⟩, t4, -⟩ := hst _ C.2.2.2.2.2.2.1.2.1
  refine rn_lv [(0, .ref a)] (fun q h => h) ?_
  refine rn_aload_n C dJ0_length_8abf5_0 rfl ?_
  refine rn_getO C dJ0_length_8abf5_1 gx_9 t3 ?_
  refine rn_stlen C dJ0_length_8abf5_4 t5 ?_
  refine rn_aload_n C dJ0_length_8abf5_5 rfl ?_
  refine rn_callVO (na := 0) (As := []) C dJ0_length_8abf5_6 mk_J0_coder_7d493 lv_J0_335 (c_coder hst) t1 rfl rfl (by decide) (Nat.le_of_ble_eq_true rfl) (by decide) (by decide) ?_
  rintro w P' n' ⟨e1, e2, e3⟩
  cases e1
  subst e2; subst e3
  refine rn_ishr (v := nI N) C dJ0_length_8abf5_9 ?_ ?_
  · have := pk_shrN hN (nI 0) 0 (by decide)
    rw [Nat.pow_zero, Nat.div_one] at this
    exact this
  exact rn_iret C Rt dJ0_length_8abf5_10 ⟨rfl, rfl, rfl⟩ (Nat.zero_le _) (Nat.zero_le _)
theorem c_pci {k : KX} {P : PT} {n q N : Nat} {w : Value} (hw : w = .null ∨ ∃ a9 : Nat, w = .ref a9) (hN : N < 2 ^ 31) (hq : q < N) : Cs k yJ3_checkIndex_8e157 cJ3_checkIndex_8e157 3 (some .int) 0 0 0 [.int (nI q), .int (nI N), w] P n (Pw (some (.int (nI q))) P n) := by
  refine cs_of (by decide) (by rcases hw with e | ⟨a9, e⟩ <;> subst e <;> exact Nat.le_of_ble_eq_true rfl) ?_
  intro X hXk C Rt hnm
  subst hXk
  refine rn_lv [(0, .int (nI q)), (1, .int (nI N))] (fun q h => List.mem_append_left (bs := [(2, w)]) h) ?_
  refine rn_iload_n C dJ3_checkIndex_8e157_0 rfl ?_
  refine rn_if_lt (tgt := 9) C dJ3_checkIndex_8e157_1 (by decide) (fun z => absurd z (nI_n0 (by omega))) (fun _ => ?_)
  refine rn_iload_n C dJ3_checkIndex_8e157_4 rfl ?_
  refine rn_iload_n C dJ3_checkIndex_8e157_5 rfl ?_
  refine rn_icmp_lt (tgt := 16) C dJ3_checkIndex_8e157_6 (by decide) (fun _ => ?_) (fun z => absurd ((nI_ltI (by omega) hN).mpr hq) z)
  refine rn_iload_n C dJ3_checkIndex_8e157_16 rfl ?_
  exact rn_iret C Rt dJ3_checkIndex_8e157_17 ⟨rfl, rfl, rfl⟩ (Nat.zero_le _) (Nat.zero_le _)
theorem c_sci {k : KX} {P : PT} {n a q N : Nat} {f : Nat → Nat} (hN : N < 2 ^ 31) (hq : q < N) (hst : ∀ U, k_F k U → StrS k a N f U) : Cs k yJ0_checkIndex_df160 cJ0_checkIndex_df160 2 none 1 0 0 [.int (nI q), .int (nI N)] P n (Pw none P n) := by
  refine cs_of (by decide) (Nat.le_of_ble_eq_true rfl) ?_
  intro X hXk C Rt hnm
  subst hXk
  obtain ⟨-, -, -, -, w, hw, tw⟩ := hst _ C.2.2.2.2.2.2.1.2.1
  refine rn_lv [(0, .int (nI q)), (1, .int (nI N))] (fun q h => h) ?_
  refine rn_iload_n C dJ0_checkIndex_df160_0 rfl ?_
  refine rn_iload_n C dJ0_checkIndex_df160_1 rfl ?_
  refine rn_gets C dJ0_checkIndex_df160_2 gx_1053 tw ?_
  refine rn_callS (na := 3) (As := [.int (nI q), .int (nI N), w]) C dJ0_checkIndex_df160_5 mk_J3_checkIndex_8e157 ls_J0_1059 (c_pci hw hN hq) rfl rfl (by decide) (Nat.le_of_ble_eq_true rfl) (by decide) (by decide) ?_
  rintro v P' n' ⟨e1, e2, e3⟩
  cases e1
  subst e2; subst e3
  refine rn_pop C dJ0_checkIndex_df160_8 rfl ?_
  exact rn_vret C Rt dJ0_checkIndex_df160_9 ⟨rfl, rfl, rfl⟩ (Nat.zero_le _) (Nat.zero_le _)
theorem i2c_n {a : Nat} (h : a < 65536) : ((nI a).toUInt32 % 65536).toInt32 = nI a := by
  refine Int32.toBitVec_inj.mp (BitVec.eq_of_toNat_eq ?_)
  show ((nI a).toBitVec % 65536#32).toNat = _
  rw [BitVec.toNat_umod, pk_tn (by omega)]
  exact Nat.mod_eq_of_lt h
theorem nar_c {a : Nat} (h : a < 256) : narrow .char (.int (nI a)) = .int (nI a) := by
  have := i2c_n (a := a) (by omega)
  show Value.int _ = _
  first
    | (rw [this])
    | (congr 1)
theorem c_lch {k : KX} {P : PT} {n a q N v : Nat} {f : Nat → Nat} (hN : N < 2 ^ 31) (hq : q < N) (hf : ∀ j, f j < 128) (hst : ∀ U, k_F k U → StrS k a N f U) (hv : ∀ U, k_F k U → va_T .byte v N (fun j => .int (nI (f j))) (fun q => k_b k ≤ q) U (k_H k)) : Cs k yJ1_charAt_3b067 cJ1_charAt_3b067 2 (some .char) 2 0 0 [.ref v, .int (nI q)] P n (Pw (some (.int (nI (f q)))) P n) := by
  refine cs_of (by decide) (Nat.le_of_ble_eq_true rfl) ?_
  intro X hXk C Rt hnm
  subst hXk
  have t5 := hv _ C.2.2.2.2.2.2.1.2.1
  have hfq := hf q
  refine rn_lv [(0, .ref v), (1, .int (nI q))] (fun q h => h) ?_
  refine rn_iload_n C dJ1_charAt_3b067_0 rfl ?_
  refine rn_aload_n C dJ1_charAt_3b067_1 rfl ?_
  refine rn_stlen C dJ1_charAt_3b067_2 t5 ?_
  refine rn_callS (na := 2) (As := [.int (nI q), .int (nI N)]) C dJ1_charAt_3b067_3 mk_J0_checkIndex_df160 ls_J1_9 (c_sci hN hq hst) rfl rfl (by decide) (Nat.le_of_ble_eq_true rfl) (by decide) (by decide) ?_
  rintro w P' n' ⟨e1, e2, e3⟩
  cases e1
  subst e2; subst e3
  refine rn_aload_n C dJ1_charAt_3b067_6 rfl ?_
  refine rn_iload_n C dJ1_charAt_3b067_7 rfl ?_
  refine rn_stb C dJ1_charAt_3b067_8 t5 rfl hq hN ?_
  refine rn_sipush (v := nI 255) C dJ1_charAt_3b067_9 rfl ?_
  refine rn_iand (v := nI (f q)) C dJ1_charAt_3b067_12 ?_ ?_
  · have e : nI (f q) &&& nI 255 = nI (f q % 2 ^ 8) := pk_andN (by omega) 8 (by decide)
    rw [e, Nat.mod_eq_of_lt (by omega)]
  refine rn_i2c (v := nI (f q)) C dJ1_charAt_3b067_13 (i2c_n (by omega)) ?_
  exact rn_zret C Rt dJ1_charAt_3b067_14 (nar_c (by omega)) ⟨rfl, rfl, rfl⟩ (Nat.zero_le _) (Nat.zero_le _)
theorem c_chr {k : KX} {P : PT} {n a q N : Nat} {f : Nat → Nat} (hN : N < 2 ^ 31) (hq : q < N) (hf : ∀ j, f j < 128) (hst : ∀ U, k_F k U → StrS k a N f U) (hv : ∃ v : Nat, ∀ U, k_F k U → va_OF RJ0 "value" "[B" (.ref v) a (fun q => k_b k ≤ q) U (k_H k) ∧ va_T .byte v N (fun j => .int (nI (f j))) (fun q => k_b k ≤ q) U (k_H k)) : Cs k yJ0_charAt_5068e cJ0_charAt_5068e 2 (some .char) 3 0 0 [.ref a, .int (nI q)] P n (Pw (some (.int (nI (f q)))) P n) := by
  refine cs_of (by decide) (Nat.le_of_ble_eq_true rfl) ?_
  intro X hXk C Rt hnm
  subst hXk
  obtain ⟨v, hv⟩ := hv
  obtain ⟨t1, -, -, -, -⟩ := hst _ C.2.2.2.2.2.2.1.2.1
  have t3 := (hv _ C.2.2.2.2.2.2.1.2.1).1
  have hfq := hf q
  refine rn_lv [(0, .ref a), (1, .int (nI q))] (fun q h => h) ?_
  refine rn_aload_n C dJ0_charAt_5068e_0 rfl ?_
  refine rn_callVO (na := 0) (As := []) C dJ0_charAt_5068e_1 mk_J0_isLatin1_aae02 lv_J0_492 (c_lat hst) t1 rfl rfl (by decide) (Nat.le_of_ble_eq_true rfl) (by decide) (by decide) ?_
  rintro w P' n' ⟨e1, e2, e3⟩
  cases e1
  subst e2; subst e3
  refine rn_if_eq (tgt := 16) C dJ0_charAt_5068e_4 (by decide) (fun q => absurd q (by decide)) (fun _ => ?_)
  refine rn_aload_n C dJ0_charAt_5068e_7 rfl ?_
  refine rn_getO C dJ0_charAt_5068e_8 gx_9 t3 ?_
  refine rn_iload_n C dJ0_charAt_5068e_11 rfl ?_
  refine rn_callS (na := 2) (As := [.ref v, .int (nI q)]) C dJ0_charAt_5068e_12 mk_J1_charAt_3b067 ls_J0_495 (c_lch hN hq hf hst (fun U hU => (hv U hU).2)) rfl rfl (by decide) (Nat.le_of_ble_eq_true rfl) (by decide) (by decide) ?_
  rintro w P' n' ⟨e1, e2, e3⟩
  cases e1
  subst e2; subst e3
  exact rn_zret C Rt dJ0_charAt_5068e_15 (nar_c (by omega)) ⟨rfl, rfl, rfl⟩ (Nat.zero_le _) (Nat.zero_le _)
