/-! THE LAW: its loop, and its start (start.py) -/
theorem mdL_len (k : KX) : (mdL k 335).length = 28 := rfl
theorem Zr_su {S : StT} (hz : Zr 0 S) : Zr 335 (mkSu 0 S) := by
  unfold mkSu
  refine Zr_pt (j := 0 + 331) (Zr_pt (j := 0 + 327) (Zr_pt (j := 0 + 323) (Zr_sg1 (j := 0 + 290) ?_)))
  refine Zr_le (Zr_cv1 (j := 0 + 186) (Zr_fd1 (j := 0 + 176) (Zr_sg0 (j := 0 + 143) ?_))) (by omega)
  refine Zr_le (Zr_cv0 (j := 0 + 39) (Zr_fd0 (j := 0 + 29) ?_)) (by omega)
  refine Zr_ct (by omega) (Zr_ct (by omega) (Zr_ct (by omega) ?_))
  exact Zr_le (Zr_pt (j := 0 + 11) (Zr_le hz (by omega))) (by omega)
def Z0 : StT := (fun _ _ => 0, fun _ _ => 0, fun _ _ => 0)
theorem Zr_0 (j : Nat) : Zr j Z0 := fun _ _ => ⟨rfl, rfl, rfl⟩
/-- the layout there -/
def LF (k : KX) : Nat → Option Sh := lay (fun _ => none) 0 (suL k 0 ++ mdL k 335 ++ [sJ 1])
theorem LF_su (k : KX) (i : Nat) (hi : i < 335) : LF k i = (suL k 0)[i]? := by
  unfold LF lay
  rw [if_neg (by omega), Nat.sub_zero, List.append_assoc, List.getElem?_append_left (by rw [suL_len]; exact hi)]
theorem LF_md (k : KX) : ModelAt k (LF k) 335 := by
  have e : LF k = lay (lay (lay (fun _ => none) 0 (suL k 0)) 335 (mdL k 335)) 363 [sJ 1] := by
    unfold LF
    rw [show (335 : Nat) = 0 + 335 from rfl, lay_lay _ 0 335 (suL k 0) _ (suL_len k), show (363 : Nat) = 0 + 363 from rfl, lay_lay _ 0 363 _ _ (by rw [List.length_append, suL_len, mdL_len])]
  rw [e]
  have h := mdL_at k (lay (fun _ => none) 0 (suL k 0)) 335
  have t : ∀ i, i < 363 → lay (lay (lay (fun _ => none) 0 (suL k 0)) 335 (mdL k 335)) 363 [sJ 1] i = lay (lay (fun _ => none) 0 (suL k 0)) 335 (mdL k 335) i := fun i hi => lay_lt hi
  obtain ⟨t0, t1, t2, t3, t4, t5, t6, t7, t8, t9, t10, t11, t12, t13, t14, t15, t16, t17, t18, t19, t20, t21, t22, t23, t24, t25, t26, t27⟩ := h
  exact ⟨(t _ (by decide)).trans t0, (t _ (by decide)).trans t1, (t _ (by decide)).trans t2, (t _ (by decide)).trans t3, (t _ (by decide)).trans t4, (t _ (by decide)).trans t5, (t _ (by decide)).trans t6, (t _ (by decide)).trans t7, (t _ (by decide)).trans t8, (t _ (by decide)).trans t9, (t _ (by decide)).trans t10, (t _ (by decide)).trans t11, (t _ (by decide)).trans t12, (t _ (by decide)).trans t13, (t _ (by decide)).trans t14, (t _ (by decide)).trans t15, (t _ (by decide)).trans t16, (t _ (by decide)).trans t17, (t _ (by decide)).trans t18, (t _ (by decide)).trans t19, (t _ (by decide)).trans t20, (t _ (by decide)).trans t21, (t _ (by decide)).trans t22, (t _ (by decide)).trans t23, (t _ (by decide)).trans t24, (t _ (by decide)).trans t25, (t _ (by decide)).trans t26, (t _ (by decide)).trans t27⟩
theorem LF_out (k : KX) : LF k 363 = some (sJ 1) := by
  unfold LF lay
  rw [if_neg (by omega), Nat.sub_zero, List.getElem?_append_right (by rw [List.length_append, suL_len, mdL_len]; omega), List.length_append, suL_len, mdL_len]
  rfl
section LWS
variable {X : CX} {b N s4 s2 : Nat} {xs : Nat → Int32} {B : (c : Bool) → Pt c}
theorem lw_loop {L : Nat → Option Sh} (hA : LwH X L b N xs s4 s2) (hend : ∀ (lv : List (Nat × Value)) (P : PT) (n ce sl : Nat), ce ≤ 601024 → sl ≤ 7293033 → Rn X 1275 lv [.int 1] P n ce sl) {c0 s0 : Nat} (hc : c0 + 512 ≤ 601024) (hs : s0 + 3072 ≤ 7293033) :
    ∀ m, m ≤ N / 6 → ∀ (S : StT) (A : AS) (n : Nat), Inv 0 335 B S A → Rn X 23 [(0, .ref b), (1, .ref (k_b X.1 + 0)), (2, .ref (k_b X.1 + 335)), (3, .ref (k_b X.1 + 363)), (4, .int (nI (6 * m)))] [] (inst X.1 L S.1 S.2.1 S.2.2) n (c0 + m) (s0 + 6 * m) := by
  have C := hA.1
  have hT := hA.2.1
  have hN := hA.2.2.1
  refine upto _ _ (fun S A n hI => ?_) (fun m hm ih S A n hI => ?_)
  · refine rn_iload C dL_law_23 rfl ?_
    refine rn_aload_n C dL_law_25 rfl ?_
    refine rn_stlen C dL_law_26 hT ?_
    refine rn_bipush (v := nI 6) C dL_law_27 rfl ?_
    refine rn_isub C dL_law_29 rfl ?_
    refine rn_icmp_gt (tgt := 1274) C dL_law_30 (by decide) (fun _ => ?_) (fun h => absurd ((sub6 hN (by omega)).mpr (by omega)) h)
    refine rn_iconst (v := 1) C dL_law_1274 rfl ?_
    exact hend _ _ _ _ _ (by omega) (by omega)
  · refine rn_iload C dL_law_23 rfl ?_
    refine rn_aload_n C dL_law_25 rfl ?_
    refine rn_stlen C dL_law_26 hT ?_
    refine rn_bipush (v := nI 6) C dL_law_27 rfl ?_
    refine rn_isub C dL_law_29 rfl ?_
    refine rn_icmp_gt (tgt := 1274) C dL_law_30 (by decide) (fun h => absurd ((sub6 hN (by omega)).mp h) (by omega)) (fun _ => ?_)
    refine lw_one hA (by omega) hI (by omega) (by omega) (fun S' A' n' hI' => ?_)
    refine rn_iinc (lv' := [(0, .ref b), (1, .ref (k_b X.1 + 0)), (2, .ref (k_b X.1 + 335)), (3, .ref (k_b X.1 + 363)), (4, .int (nI (6 * (m + 1))))]) C dL_law_1268 rfl (v := nI (6 * (m + 1))) ?_ (by decide) rfl ?_
    · rw [show Int32.ofInt 6 = nI 6 from by decide]
      exact nI_add _ _
    · refine rn_goto (tgt := 23) C dL_law_1271 (by decide) ?_
      exact ih S' A' n' hI'
set_option maxRecDepth 100000 in
set_option maxHeartbeats 1000000 in
theorem lw_begin (C : OkX X cL_law 7 RL 9 601024 7293033) (hE : NsE (x_s X)) (hT : va_T .int b N (fun j => .int (xs j)) (fun q => k_b X.1 ≤ q) (x_s X) (k_H X.1)) (hN : N ≤ 3072) (hex : ∀ U, k_F X.1 U → ExS X.1 U) (hst : ∀ U, k_F X.1 U → HsS X.1 U) (hk4 : StrK X.1 s4 8 lb4) (hk2 : StrK X.1 s2 32 lb2) (hl4 : ∀ U, k_F X.1 U → vk_R RX10 98 "SigEd448" s4 U) (hl2 : ∀ U, k_F X.1 U → vk_R RX10 100 "SigEd25519 no Ed25519 collisions" s2 U) (har : ∀ U, k_F X.1 U → ArS U)
    (h68 : HxK X.1 RX1 68 "2b8324804fc1df0b2b4d00993dfbd7a72f431806ad2fe478c4ee1b274a0ea0b0" 32 hx68) (h81 : HxK X.1 RX1 81 "52036cee2b6ffe738cc740797779e89800700a4d4141d8ab75eb4dca135978a3" 32 hx81) (h95 : HxK X.1 RX1 95 "216936d3cd6e53fec0a4e231fdd6dc5c692cc7609525a7b2c9562d608f25d51a" 32 hx95) (h105 : HxK X.1 RX1 105 "6666666666666666666666666666666666666666666666666666666666666658" 32 hx105) (h79 : HxK X.1 RX1 79 "98a9" 2 hx79) (h93 : HxK X.1 RX1 93 "4f1970c66bed0ded221d15a622bf36da9e146570470f1767ea6de324a3d3a46412ae1af72ab66511433b80e18b00938e2626a82bc70cc05e" 56 hx93) (h103 : HxK X.1 RX1 103 "693f46716eb6bc248876203756c9c7624bea73736ca3984087789c1e05a0c2d73ad3ff1ce67c39c4fdbd132c4ed7c8ad9808795bf230fa14" 56 hx103) (h27 : HxK X.1 RX7 27 "3fffffffffffffffffffffffffffffffffffffffffffffffffffffff7cca23e9c44edb49aed63690216cc2728dc58f552378c292ab5844f3" 56 hx27) (h29 : HxK X.1 RX7 29 "1000000000000000000000000000000014def9dea2f79cd65812631a5cf5d3ed" 32 hx29)
    (hend : ∀ (lv : List (Nat × Value)) (P : PT) (n ce sl : Nat), ce ≤ 601024 → sl ≤ 7293033 → Rn X 1275 lv [.int 1] P n ce sl) {A : AS} {S2 : StT} (hS2 : mbody_f (0 + 335) (mkMd (0 + 335) (mkSu 0 Z0)) = S2) (hI : Inv 0 335 B S2 A) (hzF : S2.2.1 363 = fun _ => 0) :
    Rn X 0 [(0, .ref b)] [] (inst X.1 (lay (fun _ => none) 0 []) Z0.1 Z0.2.1 Z0.2.2) 0 0 0 := by
  refine ls_new (j := 0) (m := 0) (l := []) (l' := [sO 9 [some (.null), some (.null), some (.null), some (.null), some (.null), some (.null), some (.null), some (.null), some (.null), some (.null), some (.null)]]) C dL_law_0 nw_L_8 rfl rfl rfl (by decide) (by decide) ?_
  refine rn_dup C dL_law_3 rfl ?_
  refine rn_callIE (a := k_b X.1 + 0) (As := []) C hE dL_law_4 mk_X11_init li_L_71 (c_mkSuite (L := fun _ => none) (S := Z0) (j := 0) (Zr_0 0) har h68 h81 h95 h105 h79 h93 h103 h27 h29) rfl rfl (by decide) (Nat.le_of_ble_eq_true rfl) (by decide) (by decide) (fun v P' n' hp => ?_)
  obtain ⟨e1, e2, e3⟩ := hp
  cases e1
  subst e2
  subst e3
  have z1 : Zr 335 (mkSu 0 Z0) := Zr_su (Zr_0 0)
  generalize hS1 : mkSu 0 Z0 = S1 at z1 ⊢
  refine rn_astore_n (lv' := [(0, .ref b), (1, .ref (k_b X.1 + 0))]) C dL_law_7 (by decide) rfl ?_
  refine ls_new (j := 0) (m := 335) (l := suL X.1 0) (l' := suL X.1 0 ++ [sO 10 [none, some (.null), some (.null), some (.null), some (.null), none, some (.null), none, some (.null), none, some (.null), some (.null), some (.null), none, none, some (.null), some (.null), none, some (.null), some (.null), some (.null), some (.null), some (.null), some (.null), some (.null), some (.null), some (.null), some (.null), some (.null), some (.null), some (.null), some (.null), some (.null), some (.null)]]) C dL_law_8 nw_L_72 (suL_len X.1) rfl (z1 _ (by decide)).2.2 ?_ ?_ ?_
  · decide
  · decide
  refine rn_dup C dL_law_11 rfl ?_
  have hM := c_mkModel (k := X.1) (S := S1) (L := lay (fun _ => none) 0 (suL X.1 0)) (j := 0 + 335) z1
  refine ls_init (j := 0) (m := 335) (l := suL X.1 0) (l' := suL X.1 0 ++ mdL X.1 (0 + 335)) (rest := [.ref (k_b X.1 + (0 + 335))]) C dL_law_12 mk_X12_init li_L_74 (suL_len X.1) hM rfl rfl rfl (by decide) (Nat.le_of_ble_eq_true rfl) ?_ ?_ ?_
  · decide
  · decide
  refine rn_astore_n (lv' := [(0, .ref b), (1, .ref (k_b X.1 + 0)), (2, .ref (k_b X.1 + 335))]) C dL_law_15 (by decide) rfl ?_
  refine rn_iconst (v := nI 1) C dL_law_16 rfl ?_
  rw [hS1] at hS2
  rw [hS2]
  refine ls_newJ (j := 0) (m := 363) (l := suL X.1 0 ++ mdL X.1 (0 + 335)) (l' := suL X.1 0 ++ mdL X.1 (0 + 335) ++ [sJ 1]) C dL_law_17 (by rw [List.length_append, suL_len, mdL_len]) rfl hzF rfl (by decide) ?_ ?_ ?_
  · decide
  · decide
  refine rn_astore_n (lv' := [(0, .ref b), (1, .ref (k_b X.1 + 0)), (2, .ref (k_b X.1 + 335)), (3, .ref (k_b X.1 + 363))]) C dL_law_19 (by decide) rfl ?_
  refine rn_iconst (v := nI 0) C dL_law_20 rfl ?_
  refine rn_istore (lv' := [(0, .ref b), (1, .ref (k_b X.1 + 0)), (2, .ref (k_b X.1 + 335)), (3, .ref (k_b X.1 + 363)), (4, .int (nI (6 * 0)))]) C dL_law_21 (by decide) rfl ?_
  exact lw_loop (L := LF X.1) ⟨C, hT, hN, suL_at (LF_su X.1), LF_md X.1, LF_out X.1, hex, hst, hk4, hk2, hl4, hl2⟩ hend (c0 := 364) (s0 := 13598) (by decide) (by decide) 0 (Nat.zero_le _) S2 A _ hI
end LWS
