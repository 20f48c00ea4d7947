/-! Row.appendText; a digest through its interface; the layout of CurveSuite$Signer -/
/-- what is known of a constant String: its letters' row is one and the same in all tables -/
def StrK (k : KX) (a N : Nat) (f : Nat → Nat) : Prop := (∀ U, k_F k U → StrS k a N f U) ∧ (∃ v : Nat, ∀ U, k_F k U → va_OF RJ0 "value" "[B" (.ref v) a (fun q => k_b k ≤ q) U (k_H k) ∧ va_T .byte v N (fun j => .int (nI (f j))) (fun q => k_b k ≤ q) U (k_H k)) ∧ (∀ j, f j < 128) ∧ N ≤ 64
def rtext_l (ro q : Nat) (f : Nat → Nat) (S : StT) : Nat → Nat → Nat → Int32
  | 0 => S.1
  | i + 1 => va_up (rtext_l ro q f S i) (ro + 1) (upd (rtext_l ro q f S i (ro + 1)) (q + i) (nI (f i)))
def rtext_f (ro q N : Nat) (f : Nat → Nat) (S : StT) : StT := (rtext_l ro q f S N, S.2.1, fs S.2.2 ro 1 (nI (q + N)))
theorem rtext_F (ro q N : Nat) (f : Nat → Nat) (S : StT) : (rtext_f ro q N f S).2.2 = fs S.2.2 ro 1 (nI (q + N)) := rfl
theorem c_rtext {k : KX} {L : Nat → Option Sh} {S : StT} {n ro m q a N : Nat} {f : Nat → Nat} (hR : RowAt k L ro m) (hm : m < 2 ^ 31) (hq : S.2.2 ro 1 = nI q) (hqm : q + N ≤ m) (hK : StrK k a N f) :
    Cs k yX6_appendText cX6_appendText 3 none 4 0 0 [.ref (k_b k + ro), .ref a] (inst k L S.1 S.2.1 S.2.2) n (Pv k L n (rtext_f ro q N f S)) := by
  refine cs_of (by decide) (Nat.le_of_ble_eq_true rfl) ?_
  intro X hXk C Rt hnm
  subst hXk
  obtain ⟨hst, hv, hf, hN⟩ := hK
  obtain ⟨t1, -⟩ := hst _ C.2.2.2.2.2.2.1.2.1
  have hR9 := hR
  obtain ⟨hR0, hR1⟩ := hR9
  refine rn_lv [(0, .ref (k_b X.1 + ro)), (1, .ref a)] (fun q h => h) ?_
  refine rn_iconst (v := nI 0) C dX6_appendText_0 rfl ?_
  refine rn_istore_n (lv' := [(0, _), (1, _), (2, _)]) C dX6_appendText_1 (by decide) rfl ?_
  have lp2 : ∀ i, i ≤ N → Rn X 2 [(0, .ref (k_b X.1 + ro)), (1, .ref a), (2, .int (nI i))] [] (inst X.1 L (rtext_l ro q f S i) S.2.1 (fs S.2.2 ro 1 (nI (q + i)))) n 0 0 := by
    refine upto _ _ ?_ (fun i hi ih => ?_)
    · refine rn_iload_n C dX6_appendText_2 rfl ?_
      refine rn_aload_n C dX6_appendText_3 rfl ?_
      refine rn_callVO (na := 0) (As := []) C dX6_appendText_4 mk_J0_length_8abf5 lv_X6_21 (c_len (by omega) hst) t1 rfl rfl (by decide) (Nat.le_of_ble_eq_true rfl) (by decide) (by decide) ?_
      rintro w P' n' ⟨e1, e2, e3⟩
      cases e1
      subst e2; subst e3
      refine rs_ge (tgt := 25) C dX6_appendText_7 (by decide) rfl rfl (by omega) (by omega) (fun _ => ?_) (fun q => absurd q (by omega))
      exact rn_vret C Rt dX6_appendText_25 (pv_of rfl) (Nat.zero_le _) (Nat.zero_le _)
    · refine rn_iload_n C dX6_appendText_2 rfl ?_
      refine rn_aload_n C dX6_appendText_3 rfl ?_
      refine rn_callVO (na := 0) (As := []) C dX6_appendText_4 mk_J0_length_8abf5 lv_X6_21 (c_len (by omega) hst) t1 rfl rfl (by decide) (Nat.le_of_ble_eq_true rfl) (by decide) (by decide) ?_
      rintro w P' n' ⟨e1, e2, e3⟩
      cases e1
      subst e2; subst e3
      refine rs_ge (tgt := 25) C dX6_appendText_7 (by decide) rfl rfl (by omega) (by omega) (fun q => absurd q (by omega)) (fun _ => ?_)
      refine rn_aload_n C dX6_appendText_10 rfl ?_
      refine rn_aload_n C dX6_appendText_11 rfl ?_
      refine rn_iload_n C dX6_appendText_12 rfl ?_
      refine rn_callVO (na := 1) (As := [.int (nI i)]) C dX6_appendText_13 mk_J0_charAt_5068e lv_X6_27 (c_chr (by omega) hi hf hst hv) t1 rfl rfl (by decide) (Nat.le_of_ble_eq_true rfl) (by decide) (by decide) ?_
      rintro w P' n' ⟨e1, e2, e3⟩
      cases e1
      subst e2; subst e3
      refine rs_vv C dX6_appendText_16 mk_X6_append lv_X6_17 (c_rapp (S := (rtext_l ro q f S i, S.2.1, fs S.2.2 ro 1 (nI (q + i)))) hR hm fs_get (by omega)) hR0 rfl rfl rfl rfl (by decide) (Nat.le_of_ble_eq_true rfl) (by decide) (by decide) ?_
      refine rn_iinc (lv' := [(0, _), (1, _), (2, _)]) C dX6_appendText_19 rfl (nI_inc _) (by decide) rfl ?_
      refine rn_goto (tgt := 2) C dX6_appendText_22 (by decide) ?_
      show Rn X 2 _ _ (inst X.1 L (va_up (rtext_l ro q f S i) (ro + 1) (upd (rtext_l ro q f S i (ro + 1)) (q + i) (nI (f i)))) S.2.1 (fs (fs S.2.2 ro 1 (nI (q + i))) ro 1 (nI (q + i + 1)))) _ 0 0
      rw [show fs (fs S.2.2 ro 1 (nI (q + i))) ro 1 (nI (q + i + 1)) = fs S.2.2 ro 1 (nI (q + i + 1)) from fs_fs]
      exact rn_ks [0, 1, 2] ih rfl
  rw [show inst X.1 L S.1 S.2.1 (S.2.2) = inst X.1 L S.1 S.2.1 (fs S.2.2 ro 1 (nI (q + 0))) from in_self hq]
  exact lp2 0 (Nat.zero_le _)
def xDg : MethodName := ⟨RX2, "digest", "([ILCurveSuite$Row;I)V"⟩
def HashAt (k : KX) (L : Nat → Option Sh) (hs : Nat) (c : Bool) : Prop := (c = true → ShakeAt k L hs) ∧ (c = false → ShaAt k L hs)
/-- what the tables say of the two hashes -/
def HsS (k : KX) (U : State) : Prop := (ShakeS k U ∧ ShaS k U) ∧ (va_Fw RX8 xDg yX8_digest U ∧ va_Fw RX9 xDg yX9_digest U) ∧ ((∃ cC, ClassAt U RX8 cC) ∧ ∃ cC, ClassAt U RX9 cC)
def dig_f (c : Bool) (hs to ro q nn : Nat) (S : StT) : StT := if c then sdig_f hs to ro q nn S else hdig_f hs to ro q nn S
theorem dig_F (c : Bool) (hs to ro q nn : Nat) (S : StT) : (dig_f c hs to ro q nn S).2.2 = S.2.2 := by
  cases c
  · exact hdig_F _ _ _ _ _ _
  · exact sdig_F _ _ _ _ _ _
theorem dg_w8 : Cond.selects RX8 xDg yX8_digest ∈ gw ∧ Cond.instanceMethod yX8_digest ∈ gw ∧ Cond.initialized yX8_digest.cls ∈ gw := ⟨wt 668 (by decide +kernel) (by decide +kernel), wt 670 (by decide +kernel) (by decide +kernel), wt 4 (by decide +kernel) (by decide +kernel)⟩
theorem dg_w9 : Cond.selects RX9 xDg yX9_digest ∈ gw ∧ Cond.instanceMethod yX9_digest ∈ gw ∧ Cond.initialized yX9_digest.cls ∈ gw := ⟨wt 706 (by decide +kernel) (by decide +kernel), wt 708 (by decide +kernel) (by decide +kernel), wt 5 (by decide +kernel) (by decide +kernel)⟩
theorem dg_l10 : Cond.methodLink RX10 116 xDg ∈ gw := wt 865 (by decide +kernel) (by decide +kernel)
theorem dg_l11 : Cond.methodLink RX11 133 xDg ∈ gw := wt 664 (by decide +kernel) (by decide +kernel)
theorem rs_dig {X : CX} {cc : ByteArray} {nL : Nat} {own : String} {h mc ms pc : Nat} {lv : List (Nat × Value)} {rest : List Value} {L : Nat → Option Sh} {S : StT} {n ce sl : Nat} {c : Bool} {hs to mt ro m q nn idx cnt : Nat} (C : OkX X cc nL own h mc ms) (hd : decode cc pc = .ok (.invokeinterface idx cnt, 5)) (Ll : Cond.methodLink own idx xDg ∈ gw) (hS : ∀ U, k_F X.1 U → HsS X.1 U) (hH : HashAt X.1 L hs c) (hto : L to = some (sI mt)) (hmt : mt < 2 ^ 31) (hnt : nn ≤ mt) (hR : RowAt X.1 L ro m) (hm : m < 2 ^ 31) (hq : S.2.2 ro 1 = nI q) (hqm : q ≤ m) (hq9 : q ≤ 600) (hn : nn ≤ if c then 136 else 64) (hh : 3 < h) (hcat : (rest.map fun v => v.category).sum ≤ 8) (hc : ce ≤ mc) (hs' : sl ≤ ms)
    (k : Rn X (pc + 5) lv rest (inst X.1 L (dig_f c hs to ro q nn S).1 (dig_f c hs to ro q nn S).2.1 (dig_f c hs to ro q nn S).2.2) n ce sl) : Rn X pc lv (.int (nI nn) :: .ref (k_b X.1 + ro) :: .ref (k_b X.1 + to) :: .ref (k_b X.1 + hs) :: rest) (inst X.1 L S.1 S.2.1 S.2.2) n ce sl := by
  obtain ⟨-, ⟨f8, f9⟩, ⟨c8, a8⟩, ⟨c9, a9⟩⟩ := hS _ C.2.2.2.2.2.2.1.2.1
  cases c with
  | false =>
    have hA := hH.2 rfl
    refine rn_callF (na := 3) (As := [.ref (k_b X.1 + to), .ref (k_b X.1 + ro), .int (nI nn)]) (x := xDg) C hd mk_X8_digest ⟨⟨Ll, dg_w8⟩, by decide +kernel, by decide +kernel, by decide +kernel⟩ f8 a8 (c_hdig (S := S) hA (fun U hU => (hS U hU).1.2) hto hmt hnt hR hm hq hqm hq9 hn) (inst_at hA.1) rfl rfl rfl rfl hh hcat hc hs' (fun v P' n' hp => ?_)
    obtain ⟨e1, e2, e3⟩ := hp
    cases e1; subst e2; subst e3
    exact k
  | true =>
    have hA := hH.1 rfl
    refine rn_callF (na := 3) (As := [.ref (k_b X.1 + to), .ref (k_b X.1 + ro), .int (nI nn)]) (x := xDg) C hd mk_X9_digest ⟨⟨Ll, dg_w9⟩, by decide +kernel, by decide +kernel, by decide +kernel⟩ f9 a9 (c_sdig (S := S) hA (fun U hU => (hS U hU).1.1) hto hmt hnt hR hm hq hqm hn) (inst_at hA.1) rfl rfl rfl rfl hh hcat hc hs' (fun v P' n' hp => ?_)
    obtain ⟨e1, e2, e3⟩ := hp
    cases e1; subst e2; subst e3
    exact k
/-- CurveSuite$Signer at so, its curve at co (field fo), its hash at hs -/
def sgSh (k : KX) (so co hs : Nat) (c : Bool) : Sh := sO 8 [some (.int (bI c)), some (.int (nI (cB c))), rf k co, rf k (so + 27), rf k hs, rf k (so + 1), rf k (so + 3), rf k (so + 5), rf k (so + 7), rf k (so + 8), rf k (so + 9), rf k (so + 10), rf k (so + 11), rf k (so + 12), rf k (so + 13), rf k (so + 14), rf k (so + 15), rf k (so + 19), rf k (so + 23)]
def SignAt (k : KX) (L : Nat → Option Sh) (so co fo hs : Nat) (c : Bool) : Prop := L so = some (sgSh k so co hs c) ∧ CurveAt k L co fo c ∧ ScAt k L (so + 27) c ∧ HashAt k L hs c ∧ RowAt k L (so + 1) 512 ∧ RowAt k L (so + 3) 256 ∧ RowAt k L (so + 5) 512 ∧ L (so + 7) = some (sI 114) ∧ L (so + 8) = some (sI 114) ∧ L (so + 9) = some (sI 57) ∧ L (so + 10) = some (sI 57) ∧ L (so + 11) = some (sI 57) ∧ L (so + 12) = some (sJ 16) ∧ L (so + 13) = some (sJ 16) ∧ L (so + 14) = some (sJ 16) ∧ PtAt k L (so + 15) ∧ PtAt k L (so + 19) ∧ PtAt k L (so + 23) ∧ (∀ j, j < 34 → so + j ≠ co + 6)
