/-! the law's wrappers: a call of the class, its exceptions caught (gen_wr.py) -/
theorem wl_ia : Cond.classLink RL 13 "java/lang/IllegalArgumentException" ∈ gw := wt 513 (by decide +kernel) (by decide +kernel)
theorem wc_ia {k : KX} {U : State} (h : ExS k U) : va_Nw (.castable "java/lang/IllegalArgumentException" "java/lang/IllegalArgumentException") U := h.1 _ (by decide)
theorem wl_io : Cond.classLink RL 15 "java/lang/IndexOutOfBoundsException" ∈ gw := wt 514 (by decide +kernel) (by decide +kernel)
theorem wc_io {k : KX} {U : State} (h : ExS k U) : va_Nw (.castable "java/lang/IndexOutOfBoundsException" "java/lang/IndexOutOfBoundsException") U := h.1 _ (by decide)
theorem wl_is : Cond.classLink RL 21 "java/lang/IllegalStateException" ∈ gw := wt 615 (by decide +kernel) (by decide +kernel)
theorem wc_is {k : KX} {U : State} (h : ExS k U) : va_Nw (.castable "java/lang/IllegalStateException" "java/lang/IllegalStateException") U := h.1 _ (by decide)
/-- what a boolean answer leaves in the row out -/
def bL (r : Int32) : Int64 := if r = 0 then 0 else 1
theorem mw_put : (Cond.codeWith yL_put cL_put 7 (some .int) [(0, 9, 12, 13), (0, 9, 16, 15)] ∈ gw ∧ Cond.initialized yL_put.cls ∈ gw ∧ Cond.methodLink RL 77 yL_put ∈ gw ∧ Cond.static yL_put ∈ gw) ∧ (yL_put.cls ≠ "java/lang/invoke/MethodHandle" ∧ yL_put.cls ≠ "java/lang/invoke/VarHandle" ∧ (parseMethodDescriptor yL_put.desc).map (fun d => d.parameters.length) = some 5) ∧ 7 ≤ 26 := ⟨⟨wt 512 (by decide +kernel) (by decide +kernel), wt 0 (by decide +kernel) (by decide +kernel), wt 510 (by decide +kernel) (by decide +kernel), wt 511 (by decide +kernel) (by decide +kernel)⟩, ⟨by decide +kernel, by decide +kernel, by decide +kernel⟩, by decide⟩

theorem cw_put {R : StT} {k : KX} {L : Nat → Option Sh} {S : StT} {n h' xo : Nat} {a1 : Int32} {a2 : Int32} {a3 : Int64} {a4 : Int32} (hX0 : L xo = some (suSh k xo)) (hh : h' < 8) (hM : Cs k yX11_put cX11_put 7 none h' 0 0 [.ref (k_b k + xo), .int a1, .int a2, .long a3, .int a4] (inst k L S.1 S.2.1 S.2.2) n (Pv k L n R)) :
    CsH k yL_put cL_put 7 (some .int) [(0, 9, 12, 13), (0, 9, 16, 15)] 8 1 6 [.ref (k_b k + xo), .int a1, .int a2, .long a3, .int a4] (inst k L S.1 S.2.1 S.2.2) n (PiN k L n (nI 0, R)) := by
  refine ch_of (by decide) (Nat.le_of_ble_eq_true rfl) ?_
  intro X hXk C Rt htab
  subst hXk
  refine rn_lv [(0, .ref (k_b X.1 + xo)), (1, .int a1), (2, .int a2), (3, .long a3), (5, .int a4)] (fun q h => h) ?_
  refine rn_aload_n C dL_put_0 rfl ?_
  refine rn_iload_n C dL_put_1 rfl ?_
  refine rn_iload_n C dL_put_2 rfl ?_
  refine rn_lload_n C dL_put_3 rfl ?_
  refine rn_iload C dL_put_4 rfl ?_
  refine rs_vv C dL_put_6 mk_X11_put lv_L_7 hM hX0 rfl rfl rfl rfl hh (Nat.le_of_ble_eq_true rfl) (by decide) (by decide) ?_
  refine rn_goto (tgt := 20) C dL_put_9 (by decide) ?_
  refine rn_iconst (v := nI 0) C dL_put_20 rfl ?_
  exact rn_iret C Rt dL_put_21 ⟨rfl, rfl, Nat.le_refl _⟩ (Nat.zero_le _) (Nat.zero_le _)
theorem cx_put1 {k : KX} {L : Nat → Option Sh} {S : StT} {n h' xo : Nat} {a1 : Int32} {a2 : Int32} {a3 : Int64} {a4 : Int32} (hX0 : L xo = some (suSh k xo)) (hh : h' < 8) (hex : ∀ U, k_F k U → ExS k U) (hM : CsT k yX11_put cX11_put 7 none h' [.ref (k_b k + xo), .int a1, .int a2, .long a3, .int a4] (inst k L S.1 S.2.1 S.2.2) n "java/lang/IllegalArgumentException") :
    CsH k yL_put cL_put 7 (some .int) [(0, 9, 12, 13), (0, 9, 16, 15)] 8 1 6 [.ref (k_b k + xo), .int a1, .int a2, .long a3, .int a4] (inst k L S.1 S.2.1 S.2.2) n (PiN k L n (nI 1, S)) := by
  refine ch_of (by decide) (Nat.le_of_ble_eq_true rfl) ?_
  intro X hXk C Rt htab
  subst hXk
  refine rn_lv [(0, .ref (k_b X.1 + xo)), (1, .int a1), (2, .int a2), (3, .long a3), (5, .int a4)] (fun q h => h) ?_
  refine rn_aload_n C dL_put_0 rfl ?_
  refine rn_iload_n C dL_put_1 rfl ?_
  refine rn_iload_n C dL_put_2 rfl ?_
  refine rn_lload_n C dL_put_3 rfl ?_
  refine rn_iload C dL_put_4 rfl ?_
  refine rn_callVT (na := 4) (pre := []) (x := ⟨0, 9, 12, 13⟩) (suf := [⟨0, 9, 16, 15⟩]) C dL_put_6 mk_X11_put lv_L_7 hM (inst_at hX0) rfl rfl rfl rfl hh (Nat.le_of_ble_eq_true rfl) (by decide) (by decide) htab (fun z hz => nomatch hz) (by decide) (by decide) wl_ia (wc_ia (hex _ C.2.2.2.2.2.2.1.2.1)) ?_
  intro q9 n' hn'
  show Rn X 12 _ _ _ _ _ _
  refine rn_astore (lv' := [(0, _), (1, _), (2, _), (3, _), (5, _), (6, _)]) C dL_put_12 (by decide) rfl ?_
  refine rn_iconst (v := nI 1) C dL_put_14 rfl ?_
  exact rn_iret C Rt dL_put_15 ⟨rfl, rfl, hn'⟩ (by decide) (by decide)
theorem cx_put2 {k : KX} {L : Nat → Option Sh} {S : StT} {n h' xo : Nat} {a1 : Int32} {a2 : Int32} {a3 : Int64} {a4 : Int32} (hX0 : L xo = some (suSh k xo)) (hh : h' < 8) (hex : ∀ U, k_F k U → ExS k U) (hM : CsT k yX11_put cX11_put 7 none h' [.ref (k_b k + xo), .int a1, .int a2, .long a3, .int a4] (inst k L S.1 S.2.1 S.2.2) n "java/lang/IndexOutOfBoundsException") :
    CsH k yL_put cL_put 7 (some .int) [(0, 9, 12, 13), (0, 9, 16, 15)] 8 1 6 [.ref (k_b k + xo), .int a1, .int a2, .long a3, .int a4] (inst k L S.1 S.2.1 S.2.2) n (PiN k L n (nI 2, S)) := by
  refine ch_of (by decide) (Nat.le_of_ble_eq_true rfl) ?_
  intro X hXk C Rt htab
  subst hXk
  refine rn_lv [(0, .ref (k_b X.1 + xo)), (1, .int a1), (2, .int a2), (3, .long a3), (5, .int a4)] (fun q h => h) ?_
  refine rn_aload_n C dL_put_0 rfl ?_
  refine rn_iload_n C dL_put_1 rfl ?_
  refine rn_iload_n C dL_put_2 rfl ?_
  refine rn_lload_n C dL_put_3 rfl ?_
  refine rn_iload C dL_put_4 rfl ?_
  refine rn_callVT (na := 4) (pre := [⟨0, 9, 12, 13⟩]) (x := ⟨0, 9, 16, 15⟩) (suf := []) C dL_put_6 mk_X11_put lv_L_7 hM (inst_at hX0) rfl rfl rfl rfl hh (Nat.le_of_ble_eq_true rfl) (by decide) (by decide) htab (fun z hz => by rw [List.mem_singleton.mp hz]; exact Or.inr ⟨by decide, _, wl_ia, (hex _ C.2.2.2.2.2.2.1.2.1).2.2.1.1⟩) (by decide) (by decide) wl_io (wc_io (hex _ C.2.2.2.2.2.2.1.2.1)) ?_
  intro q9 n' hn'
  show Rn X 16 _ _ _ _ _ _
  refine rn_astore (lv' := [(0, _), (1, _), (2, _), (3, _), (5, _), (6, _)]) C dL_put_16 (by decide) rfl ?_
  refine rn_iconst (v := nI 2) C dL_put_18 rfl ?_
  exact rn_iret C Rt dL_put_19 ⟨rfl, rfl, hn'⟩ (by decide) (by decide)
theorem mw_feed : (Cond.codeWith yL_feed cL_feed 7 (some .int) [(0, 13, 16, 13), (0, 13, 20, 21)] ∈ gw ∧ Cond.initialized yL_feed.cls ∈ gw ∧ Cond.methodLink RL 87 yL_feed ∈ gw ∧ Cond.static yL_feed ∈ gw) ∧ (yL_feed.cls ≠ "java/lang/invoke/MethodHandle" ∧ yL_feed.cls ≠ "java/lang/invoke/VarHandle" ∧ (parseMethodDescriptor yL_feed.desc).map (fun d => d.parameters.length) = some 5) ∧ 7 ≤ 26 := ⟨⟨wt 614 (by decide +kernel) (by decide +kernel), wt 0 (by decide +kernel) (by decide +kernel), wt 612 (by decide +kernel) (by decide +kernel), wt 613 (by decide +kernel) (by decide +kernel)⟩, ⟨by decide +kernel, by decide +kernel, by decide +kernel⟩, by decide⟩

theorem cw_feed {R : Int32 × StT} {k : KX} {L : Nat → Option Sh} {S : StT} {n h' xo oo : Nat} {a1 : Int32} {a2 : Int64} {a3 : Int32} (hX0 : L xo = some (suSh k xo)) (hoo : L oo = some (sJ 1)) (hh : h' < 8) (hM : Cs k yX11_feed cX11_feed 6 (some .int) h' 0 0 [.ref (k_b k + xo), .int a1, .long a2, .int a3] (inst k L S.1 S.2.1 S.2.2) n (Pi k L n R)) :
    CsH k yL_feed cL_feed 7 (some .int) [(0, 13, 16, 13), (0, 13, 20, 21)] 8 1 6 [.ref (k_b k + xo), .int a1, .long a2, .int a3, .ref (k_b k + oo)] (inst k L S.1 S.2.1 S.2.2) n (PiN k L n (nI 0, (R.2.1, va_up R.2.2.1 oo (vp_updL (R.2.2.1 oo) 0 R.1.toInt64), R.2.2.2))) := by
  refine ch_of (by decide) (Nat.le_of_ble_eq_true rfl) ?_
  intro X hXk C Rt htab
  subst hXk
  refine rn_lv [(0, .ref (k_b X.1 + xo)), (1, .int a1), (2, .long a2), (4, .int a3), (5, .ref (k_b X.1 + oo))] (fun q h => h) ?_
  refine rn_aload C dL_feed_0 rfl ?_
  refine rn_iconst (v := nI 0) C dL_feed_2 rfl ?_
  refine rn_aload_n C dL_feed_3 rfl ?_
  refine rn_iload_n C dL_feed_4 rfl ?_
  refine rn_lload_n C dL_feed_5 rfl ?_
  refine rn_iload C dL_feed_6 rfl ?_
  refine rs_vi C dL_feed_8 mk_X11_feed lv_L_17 hM hX0 rfl rfl rfl rfl hh (Nat.le_of_ble_eq_true rfl) (by decide) (by decide) ?_
  refine rn_i2l C dL_feed_11 rfl ?_
  refine rs_lastore C dL_feed_12 hoo rfl (by omega) (by decide) ?_
  refine rn_goto (tgt := 24) C dL_feed_13 (by decide) ?_
  refine rn_iconst (v := nI 0) C dL_feed_24 rfl ?_
  exact rn_iret C Rt dL_feed_25 ⟨rfl, rfl, Nat.le_refl _⟩ (Nat.zero_le _) (Nat.zero_le _)
theorem cx_feed1 {k : KX} {L : Nat → Option Sh} {S : StT} {n h' xo oo : Nat} {a1 : Int32} {a2 : Int64} {a3 : Int32} (hX0 : L xo = some (suSh k xo)) (hoo : L oo = some (sJ 1)) (hh : h' < 8) (hex : ∀ U, k_F k U → ExS k U) (hM : CsT k yX11_feed cX11_feed 6 (some .int) h' [.ref (k_b k + xo), .int a1, .long a2, .int a3] (inst k L S.1 S.2.1 S.2.2) n "java/lang/IllegalArgumentException") :
    CsH k yL_feed cL_feed 7 (some .int) [(0, 13, 16, 13), (0, 13, 20, 21)] 8 1 6 [.ref (k_b k + xo), .int a1, .long a2, .int a3, .ref (k_b k + oo)] (inst k L S.1 S.2.1 S.2.2) n (PiN k L n (nI 1, S)) := by
  refine ch_of (by decide) (Nat.le_of_ble_eq_true rfl) ?_
  intro X hXk C Rt htab
  subst hXk
  refine rn_lv [(0, .ref (k_b X.1 + xo)), (1, .int a1), (2, .long a2), (4, .int a3), (5, .ref (k_b X.1 + oo))] (fun q h => h) ?_
  refine rn_aload C dL_feed_0 rfl ?_
  refine rn_iconst (v := nI 0) C dL_feed_2 rfl ?_
  refine rn_aload_n C dL_feed_3 rfl ?_
  refine rn_iload_n C dL_feed_4 rfl ?_
  refine rn_lload_n C dL_feed_5 rfl ?_
  refine rn_iload C dL_feed_6 rfl ?_
  refine rn_callVT (na := 3) (pre := []) (x := ⟨0, 13, 16, 13⟩) (suf := [⟨0, 13, 20, 21⟩]) C dL_feed_8 mk_X11_feed lv_L_17 hM (inst_at hX0) rfl rfl rfl rfl hh (Nat.le_of_ble_eq_true rfl) (by decide) (by decide) htab (fun z hz => nomatch hz) (by decide) (by decide) wl_ia (wc_ia (hex _ C.2.2.2.2.2.2.1.2.1)) ?_
  intro q9 n' hn'
  show Rn X 16 _ _ _ _ _ _
  refine rn_astore (lv' := [(0, _), (1, _), (2, _), (4, _), (5, _), (6, _)]) C dL_feed_16 (by decide) rfl ?_
  refine rn_iconst (v := nI 1) C dL_feed_18 rfl ?_
  exact rn_iret C Rt dL_feed_19 ⟨rfl, rfl, hn'⟩ (by decide) (by decide)
theorem cx_feed2 {k : KX} {L : Nat → Option Sh} {S : StT} {n h' xo oo : Nat} {a1 : Int32} {a2 : Int64} {a3 : Int32} (hX0 : L xo = some (suSh k xo)) (hoo : L oo = some (sJ 1)) (hh : h' < 8) (hex : ∀ U, k_F k U → ExS k U) (hM : CsT k yX11_feed cX11_feed 6 (some .int) h' [.ref (k_b k + xo), .int a1, .long a2, .int a3] (inst k L S.1 S.2.1 S.2.2) n "java/lang/IllegalStateException") :
    CsH k yL_feed cL_feed 7 (some .int) [(0, 13, 16, 13), (0, 13, 20, 21)] 8 1 6 [.ref (k_b k + xo), .int a1, .long a2, .int a3, .ref (k_b k + oo)] (inst k L S.1 S.2.1 S.2.2) n (PiN k L n (nI 2, S)) := by
  refine ch_of (by decide) (Nat.le_of_ble_eq_true rfl) ?_
  intro X hXk C Rt htab
  subst hXk
  refine rn_lv [(0, .ref (k_b X.1 + xo)), (1, .int a1), (2, .long a2), (4, .int a3), (5, .ref (k_b X.1 + oo))] (fun q h => h) ?_
  refine rn_aload C dL_feed_0 rfl ?_
  refine rn_iconst (v := nI 0) C dL_feed_2 rfl ?_
  refine rn_aload_n C dL_feed_3 rfl ?_
  refine rn_iload_n C dL_feed_4 rfl ?_
  refine rn_lload_n C dL_feed_5 rfl ?_
  refine rn_iload C dL_feed_6 rfl ?_
  refine rn_callVT (na := 3) (pre := [⟨0, 13, 16, 13⟩]) (x := ⟨0, 13, 20, 21⟩) (suf := []) C dL_feed_8 mk_X11_feed lv_L_17 hM (inst_at hX0) rfl rfl rfl rfl hh (Nat.le_of_ble_eq_true rfl) (by decide) (by decide) htab (fun z hz => by rw [List.mem_singleton.mp hz]; exact Or.inr ⟨by decide, _, wl_ia, (hex _ C.2.2.2.2.2.2.1.2.1).2.2.1.2⟩) (by decide) (by decide) wl_is (wc_is (hex _ C.2.2.2.2.2.2.1.2.1)) ?_
  intro q9 n' hn'
  show Rn X 20 _ _ _ _ _ _
  refine rn_astore (lv' := [(0, _), (1, _), (2, _), (4, _), (5, _), (6, _)]) C dL_feed_20 (by decide) rfl ?_
  refine rn_iconst (v := nI 2) C dL_feed_22 rfl ?_
  exact rn_iret C Rt dL_feed_23 ⟨rfl, rfl, hn'⟩ (by decide) (by decide)
theorem mw_move : (Cond.codeWith yL_move cL_move 4 (some .int) [(0, 9, 12, 13)] ∈ gw ∧ Cond.initialized yL_move.cls ∈ gw ∧ Cond.methodLink RL 96 yL_move ∈ gw ∧ Cond.static yL_move ∈ gw) ∧ (yL_move.cls ≠ "java/lang/invoke/MethodHandle" ∧ yL_move.cls ≠ "java/lang/invoke/VarHandle" ∧ (parseMethodDescriptor yL_move.desc).map (fun d => d.parameters.length) = some 3) ∧ 4 ≤ 26 := ⟨⟨wt 638 (by decide +kernel) (by decide +kernel), wt 0 (by decide +kernel) (by decide +kernel), wt 636 (by decide +kernel) (by decide +kernel), wt 637 (by decide +kernel) (by decide +kernel)⟩, ⟨by decide +kernel, by decide +kernel, by decide +kernel⟩, by decide⟩

theorem cw_move {R : Int32 × StT} {k : KX} {L : Nat → Option Sh} {S : StT} {n h' xo oo : Nat} {a1 : Int32} (hX0 : L xo = some (suSh k xo)) (hoo : L oo = some (sJ 1)) (hh : h' < 8) (hM : Cs k yX11_move cX11_move 5 (some .int) h' 0 0 [.ref (k_b k + xo), .int a1] (inst k L S.1 S.2.1 S.2.2) n (Pi k L n R)) :
    CsH k yL_move cL_move 4 (some .int) [(0, 9, 12, 13)] 8 1 6 [.ref (k_b k + xo), .int a1, .ref (k_b k + oo)] (inst k L S.1 S.2.1 S.2.2) n (PiN k L n (nI 0, (R.2.1, va_up R.2.2.1 oo (vp_updL (R.2.2.1 oo) 0 R.1.toInt64), R.2.2.2))) := by
  refine ch_of (by decide) (Nat.le_of_ble_eq_true rfl) ?_
  intro X hXk C Rt htab
  subst hXk
  refine rn_lv [(0, .ref (k_b X.1 + xo)), (1, .int a1), (2, .ref (k_b X.1 + oo))] (fun q h => h) ?_
  refine rn_aload_n C dL_move_0 rfl ?_
  refine rn_iconst (v := nI 0) C dL_move_1 rfl ?_
  refine rn_aload_n C dL_move_2 rfl ?_
  refine rn_iload_n C dL_move_3 rfl ?_
  refine rs_vi C dL_move_4 mk_X11_move lv_L_23 hM hX0 rfl rfl rfl rfl hh (Nat.le_of_ble_eq_true rfl) (by decide) (by decide) ?_
  refine rn_i2l C dL_move_7 rfl ?_
  refine rs_lastore C dL_move_8 hoo rfl (by omega) (by decide) ?_
  refine rn_goto (tgt := 15) C dL_move_9 (by decide) ?_
  refine rn_iconst (v := nI 0) C dL_move_15 rfl ?_
  exact rn_iret C Rt dL_move_16 ⟨rfl, rfl, Nat.le_refl _⟩ (Nat.zero_le _) (Nat.zero_le _)
theorem cx_move1 {k : KX} {L : Nat → Option Sh} {S : StT} {n h' xo oo : Nat} {a1 : Int32} (hX0 : L xo = some (suSh k xo)) (hoo : L oo = some (sJ 1)) (hh : h' < 8) (hex : ∀ U, k_F k U → ExS k U) (hM : CsT k yX11_move cX11_move 5 (some .int) h' [.ref (k_b k + xo), .int a1] (inst k L S.1 S.2.1 S.2.2) n "java/lang/IllegalArgumentException") :
    CsH k yL_move cL_move 4 (some .int) [(0, 9, 12, 13)] 8 1 6 [.ref (k_b k + xo), .int a1, .ref (k_b k + oo)] (inst k L S.1 S.2.1 S.2.2) n (PiN k L n (nI 1, S)) := by
  refine ch_of (by decide) (Nat.le_of_ble_eq_true rfl) ?_
  intro X hXk C Rt htab
  subst hXk
  refine rn_lv [(0, .ref (k_b X.1 + xo)), (1, .int a1), (2, .ref (k_b X.1 + oo))] (fun q h => h) ?_
  refine rn_aload_n C dL_move_0 rfl ?_
  refine rn_iconst (v := nI 0) C dL_move_1 rfl ?_
  refine rn_aload_n C dL_move_2 rfl ?_
  refine rn_iload_n C dL_move_3 rfl ?_
  refine rn_callVT (na := 1) (pre := []) (x := ⟨0, 9, 12, 13⟩) (suf := []) C dL_move_4 mk_X11_move lv_L_23 hM (inst_at hX0) rfl rfl rfl rfl hh (Nat.le_of_ble_eq_true rfl) (by decide) (by decide) htab (fun z hz => nomatch hz) (by decide) (by decide) wl_ia (wc_ia (hex _ C.2.2.2.2.2.2.1.2.1)) ?_
  intro q9 n' hn'
  show Rn X 12 _ _ _ _ _ _
  refine rn_astore_n (lv' := [(0, _), (1, _), (2, _), (3, _)]) C dL_move_12 (by decide) rfl ?_
  refine rn_iconst (v := nI 1) C dL_move_13 rfl ?_
  exact rn_iret C Rt dL_move_14 ⟨rfl, rfl, hn'⟩ (by decide) (by decide)
theorem mw_look : (Cond.codeWith yL_look cL_look 5 (some .int) [(0, 10, 13, 13), (0, 10, 17, 15)] ∈ gw ∧ Cond.initialized yL_look.cls ∈ gw ∧ Cond.methodLink RL 100 yL_look ∈ gw ∧ Cond.static yL_look ∈ gw) ∧ (yL_look.cls ≠ "java/lang/invoke/MethodHandle" ∧ yL_look.cls ≠ "java/lang/invoke/VarHandle" ∧ (parseMethodDescriptor yL_look.desc).map (fun d => d.parameters.length) = some 4) ∧ 5 ≤ 26 := ⟨⟨wt 649 (by decide +kernel) (by decide +kernel), wt 0 (by decide +kernel) (by decide +kernel), wt 647 (by decide +kernel) (by decide +kernel), wt 648 (by decide +kernel) (by decide +kernel)⟩, ⟨by decide +kernel, by decide +kernel, by decide +kernel⟩, by decide⟩

theorem cw_look {R : Int32 × StT} {k : KX} {L : Nat → Option Sh} {S : StT} {n h' xo oo : Nat} {a1 : Int32} {a2 : Int32} (hX0 : L xo = some (suSh k xo)) (hoo : L oo = some (sJ 1)) (hh : h' < 8) (hM : Cs k yX11_look cX11_look 4 (some .int) h' 0 0 [.ref (k_b k + xo), .int a1, .int a2] (inst k L S.1 S.2.1 S.2.2) n (Pi k L n R)) :
    CsH k yL_look cL_look 5 (some .int) [(0, 10, 13, 13), (0, 10, 17, 15)] 8 1 6 [.ref (k_b k + xo), .int a1, .int a2, .ref (k_b k + oo)] (inst k L S.1 S.2.1 S.2.2) n (PiN k L n (nI 0, (R.2.1, va_up R.2.2.1 oo (vp_updL (R.2.2.1 oo) 0 R.1.toInt64), R.2.2.2))) := by
  refine ch_of (by decide) (Nat.le_of_ble_eq_true rfl) ?_
  intro X hXk C Rt htab
  subst hXk
  refine rn_lv [(0, .ref (k_b X.1 + xo)), (1, .int a1), (2, .int a2), (3, .ref (k_b X.1 + oo))] (fun q h => h) ?_
  refine rn_aload_n C dL_look_0 rfl ?_
  refine rn_iconst (v := nI 0) C dL_look_1 rfl ?_
  refine rn_aload_n C dL_look_2 rfl ?_
  refine rn_iload_n C dL_look_3 rfl ?_
  refine rn_iload_n C dL_look_4 rfl ?_
  refine rs_vi C dL_look_5 mk_X11_look lv_L_27 hM hX0 rfl rfl rfl rfl hh (Nat.le_of_ble_eq_true rfl) (by decide) (by decide) ?_
  refine rn_i2l C dL_look_8 rfl ?_
  refine rs_lastore C dL_look_9 hoo rfl (by omega) (by decide) ?_
  refine rn_goto (tgt := 21) C dL_look_10 (by decide) ?_
  refine rn_iconst (v := nI 0) C dL_look_21 rfl ?_
  exact rn_iret C Rt dL_look_22 ⟨rfl, rfl, Nat.le_refl _⟩ (Nat.zero_le _) (Nat.zero_le _)
theorem cx_look1 {k : KX} {L : Nat → Option Sh} {S : StT} {n h' xo oo : Nat} {a1 : Int32} {a2 : Int32} (hX0 : L xo = some (suSh k xo)) (hoo : L oo = some (sJ 1)) (hh : h' < 8) (hex : ∀ U, k_F k U → ExS k U) (hM : CsT k yX11_look cX11_look 4 (some .int) h' [.ref (k_b k + xo), .int a1, .int a2] (inst k L S.1 S.2.1 S.2.2) n "java/lang/IllegalArgumentException") :
    CsH k yL_look cL_look 5 (some .int) [(0, 10, 13, 13), (0, 10, 17, 15)] 8 1 6 [.ref (k_b k + xo), .int a1, .int a2, .ref (k_b k + oo)] (inst k L S.1 S.2.1 S.2.2) n (PiN k L n (nI 1, S)) := by
  refine ch_of (by decide) (Nat.le_of_ble_eq_true rfl) ?_
  intro X hXk C Rt htab
  subst hXk
  refine rn_lv [(0, .ref (k_b X.1 + xo)), (1, .int a1), (2, .int a2), (3, .ref (k_b X.1 + oo))] (fun q h => h) ?_
  refine rn_aload_n C dL_look_0 rfl ?_
  refine rn_iconst (v := nI 0) C dL_look_1 rfl ?_
  refine rn_aload_n C dL_look_2 rfl ?_
  refine rn_iload_n C dL_look_3 rfl ?_
  refine rn_iload_n C dL_look_4 rfl ?_
  refine rn_callVT (na := 2) (pre := []) (x := ⟨0, 10, 13, 13⟩) (suf := [⟨0, 10, 17, 15⟩]) C dL_look_5 mk_X11_look lv_L_27 hM (inst_at hX0) rfl rfl rfl rfl hh (Nat.le_of_ble_eq_true rfl) (by decide) (by decide) htab (fun z hz => nomatch hz) (by decide) (by decide) wl_ia (wc_ia (hex _ C.2.2.2.2.2.2.1.2.1)) ?_
  intro q9 n' hn'
  show Rn X 13 _ _ _ _ _ _
  refine rn_astore (lv' := [(0, _), (1, _), (2, _), (3, _), (4, _)]) C dL_look_13 (by decide) rfl ?_
  refine rn_iconst (v := nI 1) C dL_look_15 rfl ?_
  exact rn_iret C Rt dL_look_16 ⟨rfl, rfl, hn'⟩ (by decide) (by decide)
theorem cx_look2 {k : KX} {L : Nat → Option Sh} {S : StT} {n h' xo oo : Nat} {a1 : Int32} {a2 : Int32} (hX0 : L xo = some (suSh k xo)) (hoo : L oo = some (sJ 1)) (hh : h' < 8) (hex : ∀ U, k_F k U → ExS k U) (hM : CsT k yX11_look cX11_look 4 (some .int) h' [.ref (k_b k + xo), .int a1, .int a2] (inst k L S.1 S.2.1 S.2.2) n "java/lang/IndexOutOfBoundsException") :
    CsH k yL_look cL_look 5 (some .int) [(0, 10, 13, 13), (0, 10, 17, 15)] 8 1 6 [.ref (k_b k + xo), .int a1, .int a2, .ref (k_b k + oo)] (inst k L S.1 S.2.1 S.2.2) n (PiN k L n (nI 2, S)) := by
  refine ch_of (by decide) (Nat.le_of_ble_eq_true rfl) ?_
  intro X hXk C Rt htab
  subst hXk
  refine rn_lv [(0, .ref (k_b X.1 + xo)), (1, .int a1), (2, .int a2), (3, .ref (k_b X.1 + oo))] (fun q h => h) ?_
  refine rn_aload_n C dL_look_0 rfl ?_
  refine rn_iconst (v := nI 0) C dL_look_1 rfl ?_
  refine rn_aload_n C dL_look_2 rfl ?_
  refine rn_iload_n C dL_look_3 rfl ?_
  refine rn_iload_n C dL_look_4 rfl ?_
  refine rn_callVT (na := 2) (pre := [⟨0, 10, 13, 13⟩]) (x := ⟨0, 10, 17, 15⟩) (suf := []) C dL_look_5 mk_X11_look lv_L_27 hM (inst_at hX0) rfl rfl rfl rfl hh (Nat.le_of_ble_eq_true rfl) (by decide) (by decide) htab (fun z hz => by rw [List.mem_singleton.mp hz]; exact Or.inr ⟨by decide, _, wl_ia, (hex _ C.2.2.2.2.2.2.1.2.1).2.2.1.1⟩) (by decide) (by decide) wl_io (wc_io (hex _ C.2.2.2.2.2.2.1.2.1)) ?_
  intro q9 n' hn'
  show Rn X 17 _ _ _ _ _ _
  refine rn_astore (lv' := [(0, _), (1, _), (2, _), (3, _), (4, _)]) C dL_look_17 (by decide) rfl ?_
  refine rn_iconst (v := nI 2) C dL_look_19 rfl ?_
  exact rn_iret C Rt dL_look_20 ⟨rfl, rfl, hn'⟩ (by decide) (by decide)
theorem mw_hash : (Cond.codeWith yL_hash cL_hash 4 (some .int) [(0, 6, 9, 13)] ∈ gw ∧ Cond.initialized yL_hash.cls ∈ gw ∧ Cond.methodLink RL 108 yL_hash ∈ gw ∧ Cond.static yL_hash ∈ gw) ∧ (yL_hash.cls ≠ "java/lang/invoke/MethodHandle" ∧ yL_hash.cls ≠ "java/lang/invoke/VarHandle" ∧ (parseMethodDescriptor yL_hash.desc).map (fun d => d.parameters.length) = some 3) ∧ 4 ≤ 26 := ⟨⟨wt 657 (by decide +kernel) (by decide +kernel), wt 0 (by decide +kernel) (by decide +kernel), wt 655 (by decide +kernel) (by decide +kernel), wt 656 (by decide +kernel) (by decide +kernel)⟩, ⟨by decide +kernel, by decide +kernel, by decide +kernel⟩, by decide⟩

theorem cw_hash {R : StT} {k : KX} {L : Nat → Option Sh} {S : StT} {n h' xo : Nat} {a1 : Int32} {a2 : Int32} (hX0 : L xo = some (suSh k xo)) (hh : h' < 8) (hM : Cs k yX11_hash cX11_hash 5 none h' 0 0 [.ref (k_b k + xo), .int a1, .int a2] (inst k L S.1 S.2.1 S.2.2) n (Pv k L n R)) :
    CsH k yL_hash cL_hash 4 (some .int) [(0, 6, 9, 13)] 8 1 6 [.ref (k_b k + xo), .int a1, .int a2] (inst k L S.1 S.2.1 S.2.2) n (PiN k L n (nI 0, R)) := by
  refine ch_of (by decide) (Nat.le_of_ble_eq_true rfl) ?_
  intro X hXk C Rt htab
  subst hXk
  refine rn_lv [(0, .ref (k_b X.1 + xo)), (1, .int a1), (2, .int a2)] (fun q h => h) ?_
  refine rn_aload_n C dL_hash_0 rfl ?_
  refine rn_iload_n C dL_hash_1 rfl ?_
  refine rn_iload_n C dL_hash_2 rfl ?_
  refine rs_vv C dL_hash_3 mk_X11_hash lv_L_31 hM hX0 rfl rfl rfl rfl hh (Nat.le_of_ble_eq_true rfl) (by decide) (by decide) ?_
  refine rn_goto (tgt := 12) C dL_hash_6 (by decide) ?_
  refine rn_iconst (v := nI 0) C dL_hash_12 rfl ?_
  exact rn_iret C Rt dL_hash_13 ⟨rfl, rfl, Nat.le_refl _⟩ (Nat.zero_le _) (Nat.zero_le _)
theorem cx_hash1 {k : KX} {L : Nat → Option Sh} {S : StT} {n h' xo : Nat} {a1 : Int32} {a2 : Int32} (hX0 : L xo = some (suSh k xo)) (hh : h' < 8) (hex : ∀ U, k_F k U → ExS k U) (hM : CsT k yX11_hash cX11_hash 5 none h' [.ref (k_b k + xo), .int a1, .int a2] (inst k L S.1 S.2.1 S.2.2) n "java/lang/IllegalArgumentException") :
    CsH k yL_hash cL_hash 4 (some .int) [(0, 6, 9, 13)] 8 1 6 [.ref (k_b k + xo), .int a1, .int a2] (inst k L S.1 S.2.1 S.2.2) n (PiN k L n (nI 1, S)) := by
  refine ch_of (by decide) (Nat.le_of_ble_eq_true rfl) ?_
  intro X hXk C Rt htab
  subst hXk
  refine rn_lv [(0, .ref (k_b X.1 + xo)), (1, .int a1), (2, .int a2)] (fun q h => h) ?_
  refine rn_aload_n C dL_hash_0 rfl ?_
  refine rn_iload_n C dL_hash_1 rfl ?_
  refine rn_iload_n C dL_hash_2 rfl ?_
  refine rn_callVT (na := 2) (pre := []) (x := ⟨0, 6, 9, 13⟩) (suf := []) C dL_hash_3 mk_X11_hash lv_L_31 hM (inst_at hX0) rfl rfl rfl rfl hh (Nat.le_of_ble_eq_true rfl) (by decide) (by decide) htab (fun z hz => nomatch hz) (by decide) (by decide) wl_ia (wc_ia (hex _ C.2.2.2.2.2.2.1.2.1)) ?_
  intro q9 n' hn'
  show Rn X 9 _ _ _ _ _ _
  refine rn_astore_n (lv' := [(0, _), (1, _), (2, _), (3, _)]) C dL_hash_9 (by decide) rfl ?_
  refine rn_iconst (v := nI 1) C dL_hash_10 rfl ?_
  exact rn_iret C Rt dL_hash_11 ⟨rfl, rfl, hn'⟩ (by decide) (by decide)
theorem mw_agree : (Cond.codeWith yL_agree cL_agree 5 (some .int) [(0, 17, 20, 13)] ∈ gw ∧ Cond.initialized yL_agree.cls ∈ gw ∧ Cond.methodLink RL 112 yL_agree ∈ gw ∧ Cond.static yL_agree ∈ gw) ∧ (yL_agree.cls ≠ "java/lang/invoke/MethodHandle" ∧ yL_agree.cls ≠ "java/lang/invoke/VarHandle" ∧ (parseMethodDescriptor yL_agree.desc).map (fun d => d.parameters.length) = some 4) ∧ 5 ≤ 26 := ⟨⟨wt 745 (by decide +kernel) (by decide +kernel), wt 0 (by decide +kernel) (by decide +kernel), wt 743 (by decide +kernel) (by decide +kernel), wt 744 (by decide +kernel) (by decide +kernel)⟩, ⟨by decide +kernel, by decide +kernel, by decide +kernel⟩, by decide⟩

theorem cw_agree {R : Int32 × StT} {k : KX} {L : Nat → Option Sh} {S : StT} {n h' xo oo : Nat} {a1 : Int32} {a2 : Int32} (hX0 : L xo = some (suSh k xo)) (hoo : L oo = some (sJ 1)) (hh : h' < 8) (hM : Cs k yX11_agree cX11_agree 5 (some .boolean) h' 0 0 [.ref (k_b k + xo), .int a1, .int a2] (inst k L S.1 S.2.1 S.2.2) n (Pi k L n R)) :
    CsH k yL_agree cL_agree 5 (some .int) [(0, 17, 20, 13)] 8 1 6 [.ref (k_b k + xo), .int a1, .int a2, .ref (k_b k + oo)] (inst k L S.1 S.2.1 S.2.2) n (PiN k L n (nI 0, (R.2.1, va_up R.2.2.1 oo (vp_updL (R.2.2.1 oo) 0 (bL R.1)), R.2.2.2))) := by
  refine ch_of (by decide) (Nat.le_of_ble_eq_true rfl) ?_
  intro X hXk C Rt htab
  subst hXk
  refine rn_lv [(0, .ref (k_b X.1 + xo)), (1, .int a1), (2, .int a2), (3, .ref (k_b X.1 + oo))] (fun q h => h) ?_
  refine rn_aload_n C dL_agree_0 rfl ?_
  refine rn_iconst (v := nI 0) C dL_agree_1 rfl ?_
  refine rn_aload_n C dL_agree_2 rfl ?_
  refine rn_iload_n C dL_agree_3 rfl ?_
  refine rn_iload_n C dL_agree_4 rfl ?_
  refine rs_vz C dL_agree_5 mk_X11_agree lv_L_35 hM hX0 rfl rfl rfl rfl hh (Nat.le_of_ble_eq_true rfl) (by decide) (by decide) ?_
  refine rn_if_eq (tgt := 15) C dL_agree_8 (by decide) (fun hz => ?_) (fun hz => ?_)
  · refine rn_lconst (v := 0) C dL_agree_15 rfl ?_
    refine rs_lastore C dL_agree_16 hoo rfl (by omega) (by decide) ?_
    refine rn_goto (tgt := 24) C dL_agree_17 (by decide) ?_
    refine rn_iconst (v := nI 0) C dL_agree_24 rfl ?_
    exact rn_iret C Rt dL_agree_25 ⟨rfl, by rw [show bL R.1 = 0 from if_pos hz], Nat.le_refl _⟩ (Nat.zero_le _) (Nat.zero_le _)
  · refine rn_lconst (v := 1) C dL_agree_11 rfl ?_
    refine rn_goto (tgt := 16) C dL_agree_12 (by decide) ?_
    refine rs_lastore C dL_agree_16 hoo rfl (by omega) (by decide) ?_
    refine rn_goto (tgt := 24) C dL_agree_17 (by decide) ?_
    refine rn_iconst (v := nI 0) C dL_agree_24 rfl ?_
    exact rn_iret C Rt dL_agree_25 ⟨rfl, by rw [show bL R.1 = 1 from if_neg hz], Nat.le_refl _⟩ (Nat.zero_le _) (Nat.zero_le _)
theorem cx_agree1 {k : KX} {L : Nat → Option Sh} {S : StT} {n h' xo oo : Nat} {a1 : Int32} {a2 : Int32} (hX0 : L xo = some (suSh k xo)) (hoo : L oo = some (sJ 1)) (hh : h' < 8) (hex : ∀ U, k_F k U → ExS k U) (hM : CsT k yX11_agree cX11_agree 5 (some .boolean) h' [.ref (k_b k + xo), .int a1, .int a2] (inst k L S.1 S.2.1 S.2.2) n "java/lang/IllegalArgumentException") :
    CsH k yL_agree cL_agree 5 (some .int) [(0, 17, 20, 13)] 8 1 6 [.ref (k_b k + xo), .int a1, .int a2, .ref (k_b k + oo)] (inst k L S.1 S.2.1 S.2.2) n (PiN k L n (nI 1, S)) := by
  refine ch_of (by decide) (Nat.le_of_ble_eq_true rfl) ?_
  intro X hXk C Rt htab
  subst hXk
  refine rn_lv [(0, .ref (k_b X.1 + xo)), (1, .int a1), (2, .int a2), (3, .ref (k_b X.1 + oo))] (fun q h => h) ?_
  refine rn_aload_n C dL_agree_0 rfl ?_
  refine rn_iconst (v := nI 0) C dL_agree_1 rfl ?_
  refine rn_aload_n C dL_agree_2 rfl ?_
  refine rn_iload_n C dL_agree_3 rfl ?_
  refine rn_iload_n C dL_agree_4 rfl ?_
  refine rn_callVT (na := 2) (pre := []) (x := ⟨0, 17, 20, 13⟩) (suf := []) C dL_agree_5 mk_X11_agree lv_L_35 hM (inst_at hX0) rfl rfl rfl rfl hh (Nat.le_of_ble_eq_true rfl) (by decide) (by decide) htab (fun z hz => nomatch hz) (by decide) (by decide) wl_ia (wc_ia (hex _ C.2.2.2.2.2.2.1.2.1)) ?_
  intro q9 n' hn'
  show Rn X 20 _ _ _ _ _ _
  refine rn_astore (lv' := [(0, _), (1, _), (2, _), (3, _), (4, _)]) C dL_agree_20 (by decide) rfl ?_
  refine rn_iconst (v := nI 1) C dL_agree_22 rfl ?_
  exact rn_iret C Rt dL_agree_23 ⟨rfl, rfl, hn'⟩ (by decide) (by decide)
theorem mw_derive : (Cond.codeWith yL_derive cL_derive 3 (some .int) [(0, 5, 8, 13)] ∈ gw ∧ Cond.initialized yL_derive.cls ∈ gw ∧ Cond.methodLink RL 116 yL_derive ∈ gw ∧ Cond.static yL_derive ∈ gw) ∧ (yL_derive.cls ≠ "java/lang/invoke/MethodHandle" ∧ yL_derive.cls ≠ "java/lang/invoke/VarHandle" ∧ (parseMethodDescriptor yL_derive.desc).map (fun d => d.parameters.length) = some 2) ∧ 3 ≤ 26 := ⟨⟨wt 843 (by decide +kernel) (by decide +kernel), wt 0 (by decide +kernel) (by decide +kernel), wt 841 (by decide +kernel) (by decide +kernel), wt 842 (by decide +kernel) (by decide +kernel)⟩, ⟨by decide +kernel, by decide +kernel, by decide +kernel⟩, by decide⟩

theorem cw_derive {R : StT} {k : KX} {L : Nat → Option Sh} {S : StT} {n h' xo : Nat} {a1 : Int32} (hX0 : L xo = some (suSh k xo)) (hh : h' < 8) (hM : Cs k yX11_derive cX11_derive 3 none h' 0 0 [.ref (k_b k + xo), .int a1] (inst k L S.1 S.2.1 S.2.2) n (Pv k L n R)) :
    CsH k yL_derive cL_derive 3 (some .int) [(0, 5, 8, 13)] 8 1 6 [.ref (k_b k + xo), .int a1] (inst k L S.1 S.2.1 S.2.2) n (PiN k L n (nI 0, R)) := by
  refine ch_of (by decide) (Nat.le_of_ble_eq_true rfl) ?_
  intro X hXk C Rt htab
  subst hXk
  refine rn_lv [(0, .ref (k_b X.1 + xo)), (1, .int a1)] (fun q h => h) ?_
  refine rn_aload_n C dL_derive_0 rfl ?_
  refine rn_iload_n C dL_derive_1 rfl ?_
  refine rs_vv C dL_derive_2 mk_X11_derive lv_L_39 hM hX0 rfl rfl rfl rfl hh (Nat.le_of_ble_eq_true rfl) (by decide) (by decide) ?_
  refine rn_goto (tgt := 11) C dL_derive_5 (by decide) ?_
  refine rn_iconst (v := nI 0) C dL_derive_11 rfl ?_
  exact rn_iret C Rt dL_derive_12 ⟨rfl, rfl, Nat.le_refl _⟩ (Nat.zero_le _) (Nat.zero_le _)
theorem cx_derive1 {k : KX} {L : Nat → Option Sh} {S : StT} {n h' xo : Nat} {a1 : Int32} (hX0 : L xo = some (suSh k xo)) (hh : h' < 8) (hex : ∀ U, k_F k U → ExS k U) (hM : CsT k yX11_derive cX11_derive 3 none h' [.ref (k_b k + xo), .int a1] (inst k L S.1 S.2.1 S.2.2) n "java/lang/IllegalArgumentException") :
    CsH k yL_derive cL_derive 3 (some .int) [(0, 5, 8, 13)] 8 1 6 [.ref (k_b k + xo), .int a1] (inst k L S.1 S.2.1 S.2.2) n (PiN k L n (nI 1, S)) := by
  refine ch_of (by decide) (Nat.le_of_ble_eq_true rfl) ?_
  intro X hXk C Rt htab
  subst hXk
  refine rn_lv [(0, .ref (k_b X.1 + xo)), (1, .int a1)] (fun q h => h) ?_
  refine rn_aload_n C dL_derive_0 rfl ?_
  refine rn_iload_n C dL_derive_1 rfl ?_
  refine rn_callVT (na := 1) (pre := []) (x := ⟨0, 5, 8, 13⟩) (suf := []) C dL_derive_2 mk_X11_derive lv_L_39 hM (inst_at hX0) rfl rfl rfl rfl hh (Nat.le_of_ble_eq_true rfl) (by decide) (by decide) htab (fun z hz => nomatch hz) (by decide) (by decide) wl_ia (wc_ia (hex _ C.2.2.2.2.2.2.1.2.1)) ?_
  intro q9 n' hn'
  show Rn X 8 _ _ _ _ _ _
  refine rn_astore_n (lv' := [(0, _), (1, _), (2, _)]) C dL_derive_8 (by decide) rfl ?_
  refine rn_iconst (v := nI 1) C dL_derive_9 rfl ?_
  exact rn_iret C Rt dL_derive_10 ⟨rfl, rfl, hn'⟩ (by decide) (by decide)
theorem mw_sign : (Cond.codeWith yL_sign cL_sign 4 (some .int) [(0, 6, 9, 13)] ∈ gw ∧ Cond.initialized yL_sign.cls ∈ gw ∧ Cond.methodLink RL 120 yL_sign ∈ gw ∧ Cond.static yL_sign ∈ gw) ∧ (yL_sign.cls ≠ "java/lang/invoke/MethodHandle" ∧ yL_sign.cls ≠ "java/lang/invoke/VarHandle" ∧ (parseMethodDescriptor yL_sign.desc).map (fun d => d.parameters.length) = some 3) ∧ 4 ≤ 26 := ⟨⟨wt 910 (by decide +kernel) (by decide +kernel), wt 0 (by decide +kernel) (by decide +kernel), wt 908 (by decide +kernel) (by decide +kernel), wt 909 (by decide +kernel) (by decide +kernel)⟩, ⟨by decide +kernel, by decide +kernel, by decide +kernel⟩, by decide⟩

theorem cw_sign {R : StT} {k : KX} {L : Nat → Option Sh} {S : StT} {n h' xo : Nat} {a1 : Int32} {a2 : Int32} (hX0 : L xo = some (suSh k xo)) (hh : h' < 8) (hM : Cs k yX11_sign cX11_sign 4 none h' 0 0 [.ref (k_b k + xo), .int a1, .int a2] (inst k L S.1 S.2.1 S.2.2) n (Pv k L n R)) :
    CsH k yL_sign cL_sign 4 (some .int) [(0, 6, 9, 13)] 8 1 6 [.ref (k_b k + xo), .int a1, .int a2] (inst k L S.1 S.2.1 S.2.2) n (PiN k L n (nI 0, R)) := by
  refine ch_of (by decide) (Nat.le_of_ble_eq_true rfl) ?_
  intro X hXk C Rt htab
  subst hXk
  refine rn_lv [(0, .ref (k_b X.1 + xo)), (1, .int a1), (2, .int a2)] (fun q h => h) ?_
  refine rn_aload_n C dL_sign_0 rfl ?_
  refine rn_iload_n C dL_sign_1 rfl ?_
  refine rn_iload_n C dL_sign_2 rfl ?_
  refine rs_vv C dL_sign_3 mk_X11_sign lv_L_43 hM hX0 rfl rfl rfl rfl hh (Nat.le_of_ble_eq_true rfl) (by decide) (by decide) ?_
  refine rn_goto (tgt := 12) C dL_sign_6 (by decide) ?_
  refine rn_iconst (v := nI 0) C dL_sign_12 rfl ?_
  exact rn_iret C Rt dL_sign_13 ⟨rfl, rfl, Nat.le_refl _⟩ (Nat.zero_le _) (Nat.zero_le _)
theorem cx_sign1 {k : KX} {L : Nat → Option Sh} {S : StT} {n h' xo : Nat} {a1 : Int32} {a2 : Int32} (hX0 : L xo = some (suSh k xo)) (hh : h' < 8) (hex : ∀ U, k_F k U → ExS k U) (hM : CsT k yX11_sign cX11_sign 4 none h' [.ref (k_b k + xo), .int a1, .int a2] (inst k L S.1 S.2.1 S.2.2) n "java/lang/IllegalArgumentException") :
    CsH k yL_sign cL_sign 4 (some .int) [(0, 6, 9, 13)] 8 1 6 [.ref (k_b k + xo), .int a1, .int a2] (inst k L S.1 S.2.1 S.2.2) n (PiN k L n (nI 1, S)) := by
  refine ch_of (by decide) (Nat.le_of_ble_eq_true rfl) ?_
  intro X hXk C Rt htab
  subst hXk
  refine rn_lv [(0, .ref (k_b X.1 + xo)), (1, .int a1), (2, .int a2)] (fun q h => h) ?_
  refine rn_aload_n C dL_sign_0 rfl ?_
  refine rn_iload_n C dL_sign_1 rfl ?_
  refine rn_iload_n C dL_sign_2 rfl ?_
  refine rn_callVT (na := 2) (pre := []) (x := ⟨0, 6, 9, 13⟩) (suf := []) C dL_sign_3 mk_X11_sign lv_L_43 hM (inst_at hX0) rfl rfl rfl rfl hh (Nat.le_of_ble_eq_true rfl) (by decide) (by decide) htab (fun z hz => nomatch hz) (by decide) (by decide) wl_ia (wc_ia (hex _ C.2.2.2.2.2.2.1.2.1)) ?_
  intro q9 n' hn'
  show Rn X 9 _ _ _ _ _ _
  refine rn_astore_n (lv' := [(0, _), (1, _), (2, _), (3, _)]) C dL_sign_9 (by decide) rfl ?_
  refine rn_iconst (v := nI 1) C dL_sign_10 rfl ?_
  exact rn_iret C Rt dL_sign_11 ⟨rfl, rfl, hn'⟩ (by decide) (by decide)
theorem mw_verify : (Cond.codeWith yL_verify cL_verify 5 (some .int) [(0, 17, 20, 13)] ∈ gw ∧ Cond.initialized yL_verify.cls ∈ gw ∧ Cond.methodLink RL 124 yL_verify ∈ gw ∧ Cond.static yL_verify ∈ gw) ∧ (yL_verify.cls ≠ "java/lang/invoke/MethodHandle" ∧ yL_verify.cls ≠ "java/lang/invoke/VarHandle" ∧ (parseMethodDescriptor yL_verify.desc).map (fun d => d.parameters.length) = some 4) ∧ 5 ≤ 26 := ⟨⟨wt 963 (by decide +kernel) (by decide +kernel), wt 0 (by decide +kernel) (by decide +kernel), wt 961 (by decide +kernel) (by decide +kernel), wt 962 (by decide +kernel) (by decide +kernel)⟩, ⟨by decide +kernel, by decide +kernel, by decide +kernel⟩, by decide⟩

theorem cw_verify {R : Int32 × StT} {k : KX} {L : Nat → Option Sh} {S : StT} {n h' xo oo : Nat} {a1 : Int32} {a2 : Int32} (hX0 : L xo = some (suSh k xo)) (hoo : L oo = some (sJ 1)) (hh : h' < 8) (hM : Cs k yX11_verify cX11_verify 3 (some .boolean) h' 0 0 [.ref (k_b k + xo), .int a1, .int a2] (inst k L S.1 S.2.1 S.2.2) n (Pi k L n R)) :
    CsH k yL_verify cL_verify 5 (some .int) [(0, 17, 20, 13)] 8 1 6 [.ref (k_b k + xo), .int a1, .int a2, .ref (k_b k + oo)] (inst k L S.1 S.2.1 S.2.2) n (PiN k L n (nI 0, (R.2.1, va_up R.2.2.1 oo (vp_updL (R.2.2.1 oo) 0 (bL R.1)), R.2.2.2))) := by
  refine ch_of (by decide) (Nat.le_of_ble_eq_true rfl) ?_
  intro X hXk C Rt htab
  subst hXk
  refine rn_lv [(0, .ref (k_b X.1 + xo)), (1, .int a1), (2, .int a2), (3, .ref (k_b X.1 + oo))] (fun q h => h) ?_
  refine rn_aload_n C dL_verify_0 rfl ?_
  refine rn_iconst (v := nI 0) C dL_verify_1 rfl ?_
  refine rn_aload_n C dL_verify_2 rfl ?_
  refine rn_iload_n C dL_verify_3 rfl ?_
  refine rn_iload_n C dL_verify_4 rfl ?_
  refine rs_vz C dL_verify_5 mk_X11_verify lv_L_47 hM hX0 rfl rfl rfl rfl hh (Nat.le_of_ble_eq_true rfl) (by decide) (by decide) ?_
  refine rn_if_eq (tgt := 15) C dL_verify_8 (by decide) (fun hz => ?_) (fun hz => ?_)
  · refine rn_lconst (v := 0) C dL_verify_15 rfl ?_
    refine rs_lastore C dL_verify_16 hoo rfl (by omega) (by decide) ?_
    refine rn_goto (tgt := 24) C dL_verify_17 (by decide) ?_
    refine rn_iconst (v := nI 0) C dL_verify_24 rfl ?_
    exact rn_iret C Rt dL_verify_25 ⟨rfl, by rw [show bL R.1 = 0 from if_pos hz], Nat.le_refl _⟩ (Nat.zero_le _) (Nat.zero_le _)
  · refine rn_lconst (v := 1) C dL_verify_11 rfl ?_
    refine rn_goto (tgt := 16) C dL_verify_12 (by decide) ?_
    refine rs_lastore C dL_verify_16 hoo rfl (by omega) (by decide) ?_
    refine rn_goto (tgt := 24) C dL_verify_17 (by decide) ?_
    refine rn_iconst (v := nI 0) C dL_verify_24 rfl ?_
    exact rn_iret C Rt dL_verify_25 ⟨rfl, by rw [show bL R.1 = 1 from if_neg hz], Nat.le_refl _⟩ (Nat.zero_le _) (Nat.zero_le _)
theorem cx_verify1 {k : KX} {L : Nat → Option Sh} {S : StT} {n h' xo oo : Nat} {a1 : Int32} {a2 : Int32} (hX0 : L xo = some (suSh k xo)) (hoo : L oo = some (sJ 1)) (hh : h' < 8) (hex : ∀ U, k_F k U → ExS k U) (hM : CsT k yX11_verify cX11_verify 3 (some .boolean) h' [.ref (k_b k + xo), .int a1, .int a2] (inst k L S.1 S.2.1 S.2.2) n "java/lang/IllegalArgumentException") :
    CsH k yL_verify cL_verify 5 (some .int) [(0, 17, 20, 13)] 8 1 6 [.ref (k_b k + xo), .int a1, .int a2, .ref (k_b k + oo)] (inst k L S.1 S.2.1 S.2.2) n (PiN k L n (nI 1, S)) := by
  refine ch_of (by decide) (Nat.le_of_ble_eq_true rfl) ?_
  intro X hXk C Rt htab
  subst hXk
  refine rn_lv [(0, .ref (k_b X.1 + xo)), (1, .int a1), (2, .int a2), (3, .ref (k_b X.1 + oo))] (fun q h => h) ?_
  refine rn_aload_n C dL_verify_0 rfl ?_
  refine rn_iconst (v := nI 0) C dL_verify_1 rfl ?_
  refine rn_aload_n C dL_verify_2 rfl ?_
  refine rn_iload_n C dL_verify_3 rfl ?_
  refine rn_iload_n C dL_verify_4 rfl ?_
  refine rn_callVT (na := 2) (pre := []) (x := ⟨0, 17, 20, 13⟩) (suf := []) C dL_verify_5 mk_X11_verify lv_L_47 hM (inst_at hX0) rfl rfl rfl rfl hh (Nat.le_of_ble_eq_true rfl) (by decide) (by decide) htab (fun z hz => nomatch hz) (by decide) (by decide) wl_ia (wc_ia (hex _ C.2.2.2.2.2.2.1.2.1)) ?_
  intro q9 n' hn'
  show Rn X 20 _ _ _ _ _ _
  refine rn_astore (lv' := [(0, _), (1, _), (2, _), (3, _), (4, _)]) C dL_verify_20 (by decide) rfl ?_
  refine rn_iconst (v := nI 1) C dL_verify_22 rfl ?_
  exact rn_iret C Rt dL_verify_23 ⟨rfl, rfl, hn'⟩ (by decide) (by decide)
theorem mw_point : (Cond.codeWith yL_point cL_point 5 (some .int) [(0, 17, 20, 13)] ∈ gw ∧ Cond.initialized yL_point.cls ∈ gw ∧ Cond.methodLink RL 127 yL_point ∈ gw ∧ Cond.static yL_point ∈ gw) ∧ (yL_point.cls ≠ "java/lang/invoke/MethodHandle" ∧ yL_point.cls ≠ "java/lang/invoke/VarHandle" ∧ (parseMethodDescriptor yL_point.desc).map (fun d => d.parameters.length) = some 4) ∧ 5 ≤ 26 := ⟨⟨wt 1009 (by decide +kernel) (by decide +kernel), wt 0 (by decide +kernel) (by decide +kernel), wt 1007 (by decide +kernel) (by decide +kernel), wt 1008 (by decide +kernel) (by decide +kernel)⟩, ⟨by decide +kernel, by decide +kernel, by decide +kernel⟩, by decide⟩

theorem cw_point {R : Int32 × StT} {k : KX} {L : Nat → Option Sh} {S : StT} {n h' xo oo : Nat} {a1 : Int32} {a2 : Int32} (hX0 : L xo = some (suSh k xo)) (hoo : L oo = some (sJ 1)) (hh : h' < 8) (hM : Cs k yX11_point cX11_point 3 (some .boolean) h' 0 0 [.ref (k_b k + xo), .int a1, .int a2] (inst k L S.1 S.2.1 S.2.2) n (Pi k L n R)) :
    CsH k yL_point cL_point 5 (some .int) [(0, 17, 20, 13)] 8 1 6 [.ref (k_b k + xo), .int a1, .int a2, .ref (k_b k + oo)] (inst k L S.1 S.2.1 S.2.2) n (PiN k L n (nI 0, (R.2.1, va_up R.2.2.1 oo (vp_updL (R.2.2.1 oo) 0 (bL R.1)), R.2.2.2))) := by
  refine ch_of (by decide) (Nat.le_of_ble_eq_true rfl) ?_
  intro X hXk C Rt htab
  subst hXk
  refine rn_lv [(0, .ref (k_b X.1 + xo)), (1, .int a1), (2, .int a2), (3, .ref (k_b X.1 + oo))] (fun q h => h) ?_
  refine rn_aload_n C dL_point_0 rfl ?_
  refine rn_iconst (v := nI 0) C dL_point_1 rfl ?_
  refine rn_aload_n C dL_point_2 rfl ?_
  refine rn_iload_n C dL_point_3 rfl ?_
  refine rn_iload_n C dL_point_4 rfl ?_
  refine rs_vz C dL_point_5 mk_X11_point lv_L_50 hM hX0 rfl rfl rfl rfl hh (Nat.le_of_ble_eq_true rfl) (by decide) (by decide) ?_
  refine rn_if_eq (tgt := 15) C dL_point_8 (by decide) (fun hz => ?_) (fun hz => ?_)
  · refine rn_lconst (v := 0) C dL_point_15 rfl ?_
    refine rs_lastore C dL_point_16 hoo rfl (by omega) (by decide) ?_
    refine rn_goto (tgt := 24) C dL_point_17 (by decide) ?_
    refine rn_iconst (v := nI 0) C dL_point_24 rfl ?_
    exact rn_iret C Rt dL_point_25 ⟨rfl, by rw [show bL R.1 = 0 from if_pos hz], Nat.le_refl _⟩ (Nat.zero_le _) (Nat.zero_le _)
  · refine rn_lconst (v := 1) C dL_point_11 rfl ?_
    refine rn_goto (tgt := 16) C dL_point_12 (by decide) ?_
    refine rs_lastore C dL_point_16 hoo rfl (by omega) (by decide) ?_
    refine rn_goto (tgt := 24) C dL_point_17 (by decide) ?_
    refine rn_iconst (v := nI 0) C dL_point_24 rfl ?_
    exact rn_iret C Rt dL_point_25 ⟨rfl, by rw [show bL R.1 = 1 from if_neg hz], Nat.le_refl _⟩ (Nat.zero_le _) (Nat.zero_le _)
theorem cx_point1 {k : KX} {L : Nat → Option Sh} {S : StT} {n h' xo oo : Nat} {a1 : Int32} {a2 : Int32} (hX0 : L xo = some (suSh k xo)) (hoo : L oo = some (sJ 1)) (hh : h' < 8) (hex : ∀ U, k_F k U → ExS k U) (hM : CsT k yX11_point cX11_point 3 (some .boolean) h' [.ref (k_b k + xo), .int a1, .int a2] (inst k L S.1 S.2.1 S.2.2) n "java/lang/IllegalArgumentException") :
    CsH k yL_point cL_point 5 (some .int) [(0, 17, 20, 13)] 8 1 6 [.ref (k_b k + xo), .int a1, .int a2, .ref (k_b k + oo)] (inst k L S.1 S.2.1 S.2.2) n (PiN k L n (nI 1, S)) := by
  refine ch_of (by decide) (Nat.le_of_ble_eq_true rfl) ?_
  intro X hXk C Rt htab
  subst hXk
  refine rn_lv [(0, .ref (k_b X.1 + xo)), (1, .int a1), (2, .int a2), (3, .ref (k_b X.1 + oo))] (fun q h => h) ?_
  refine rn_aload_n C dL_point_0 rfl ?_
  refine rn_iconst (v := nI 0) C dL_point_1 rfl ?_
  refine rn_aload_n C dL_point_2 rfl ?_
  refine rn_iload_n C dL_point_3 rfl ?_
  refine rn_iload_n C dL_point_4 rfl ?_
  refine rn_callVT (na := 2) (pre := []) (x := ⟨0, 17, 20, 13⟩) (suf := []) C dL_point_5 mk_X11_point lv_L_50 hM (inst_at hX0) rfl rfl rfl rfl hh (Nat.le_of_ble_eq_true rfl) (by decide) (by decide) htab (fun z hz => nomatch hz) (by decide) (by decide) wl_ia (wc_ia (hex _ C.2.2.2.2.2.2.1.2.1)) ?_
  intro q9 n' hn'
  show Rn X 20 _ _ _ _ _ _
  refine rn_astore (lv' := [(0, _), (1, _), (2, _), (3, _), (4, _)]) C dL_point_20 (by decide) rfl ?_
  refine rn_iconst (v := nI 1) C dL_point_22 rfl ?_
  exact rn_iret C Rt dL_point_23 ⟨rfl, rfl, hn'⟩ (by decide) (by decide)
theorem mw_add : (Cond.codeWith yL_add cL_add 6 (some .int) [(0, 9, 12, 13), (0, 9, 16, 21)] ∈ gw ∧ Cond.initialized yL_add.cls ∈ gw ∧ Cond.methodLink RL 130 yL_add ∈ gw ∧ Cond.static yL_add ∈ gw) ∧ (yL_add.cls ≠ "java/lang/invoke/MethodHandle" ∧ yL_add.cls ≠ "java/lang/invoke/VarHandle" ∧ (parseMethodDescriptor yL_add.desc).map (fun d => d.parameters.length) = some 5) ∧ 6 ≤ 26 := ⟨⟨wt 1021 (by decide +kernel) (by decide +kernel), wt 0 (by decide +kernel) (by decide +kernel), wt 1019 (by decide +kernel) (by decide +kernel), wt 1020 (by decide +kernel) (by decide +kernel)⟩, ⟨by decide +kernel, by decide +kernel, by decide +kernel⟩, by decide⟩

theorem cw_add {R : StT} {k : KX} {L : Nat → Option Sh} {S : StT} {n h' xo : Nat} {a1 : Int32} {a2 : Int32} {a3 : Int32} {a4 : Int32} (hX0 : L xo = some (suSh k xo)) (hh : h' < 8) (hM : Cs k yX11_add cX11_add 7 none h' 0 0 [.ref (k_b k + xo), .int a1, .int a2, .int a3, .int a4] (inst k L S.1 S.2.1 S.2.2) n (Pv k L n R)) :
    CsH k yL_add cL_add 6 (some .int) [(0, 9, 12, 13), (0, 9, 16, 21)] 8 1 6 [.ref (k_b k + xo), .int a1, .int a2, .int a3, .int a4] (inst k L S.1 S.2.1 S.2.2) n (PiN k L n (nI 0, R)) := by
  refine ch_of (by decide) (Nat.le_of_ble_eq_true rfl) ?_
  intro X hXk C Rt htab
  subst hXk
  refine rn_lv [(0, .ref (k_b X.1 + xo)), (1, .int a1), (2, .int a2), (3, .int a3), (4, .int a4)] (fun q h => h) ?_
  refine rn_aload_n C dL_add_0 rfl ?_
  refine rn_iload_n C dL_add_1 rfl ?_
  refine rn_iload_n C dL_add_2 rfl ?_
  refine rn_iload_n C dL_add_3 rfl ?_
  refine rn_iload C dL_add_4 rfl ?_
  refine rs_vv C dL_add_6 mk_X11_add lv_L_54 hM hX0 rfl rfl rfl rfl hh (Nat.le_of_ble_eq_true rfl) (by decide) (by decide) ?_
  refine rn_goto (tgt := 20) C dL_add_9 (by decide) ?_
  refine rn_iconst (v := nI 0) C dL_add_20 rfl ?_
  exact rn_iret C Rt dL_add_21 ⟨rfl, rfl, Nat.le_refl _⟩ (Nat.zero_le _) (Nat.zero_le _)
theorem cx_add1 {k : KX} {L : Nat → Option Sh} {S : StT} {n h' xo : Nat} {a1 : Int32} {a2 : Int32} {a3 : Int32} {a4 : Int32} (hX0 : L xo = some (suSh k xo)) (hh : h' < 8) (hex : ∀ U, k_F k U → ExS k U) (hM : CsT k yX11_add cX11_add 7 none h' [.ref (k_b k + xo), .int a1, .int a2, .int a3, .int a4] (inst k L S.1 S.2.1 S.2.2) n "java/lang/IllegalArgumentException") :
    CsH k yL_add cL_add 6 (some .int) [(0, 9, 12, 13), (0, 9, 16, 21)] 8 1 6 [.ref (k_b k + xo), .int a1, .int a2, .int a3, .int a4] (inst k L S.1 S.2.1 S.2.2) n (PiN k L n (nI 1, S)) := by
  refine ch_of (by decide) (Nat.le_of_ble_eq_true rfl) ?_
  intro X hXk C Rt htab
  subst hXk
  refine rn_lv [(0, .ref (k_b X.1 + xo)), (1, .int a1), (2, .int a2), (3, .int a3), (4, .int a4)] (fun q h => h) ?_
  refine rn_aload_n C dL_add_0 rfl ?_
  refine rn_iload_n C dL_add_1 rfl ?_
  refine rn_iload_n C dL_add_2 rfl ?_
  refine rn_iload_n C dL_add_3 rfl ?_
  refine rn_iload C dL_add_4 rfl ?_
  refine rn_callVT (na := 4) (pre := []) (x := ⟨0, 9, 12, 13⟩) (suf := [⟨0, 9, 16, 21⟩]) C dL_add_6 mk_X11_add lv_L_54 hM (inst_at hX0) rfl rfl rfl rfl hh (Nat.le_of_ble_eq_true rfl) (by decide) (by decide) htab (fun z hz => nomatch hz) (by decide) (by decide) wl_ia (wc_ia (hex _ C.2.2.2.2.2.2.1.2.1)) ?_
  intro q9 n' hn'
  show Rn X 12 _ _ _ _ _ _
  refine rn_astore (lv' := [(0, _), (1, _), (2, _), (3, _), (4, _), (5, _)]) C dL_add_12 (by decide) rfl ?_
  refine rn_iconst (v := nI 1) C dL_add_14 rfl ?_
  exact rn_iret C Rt dL_add_15 ⟨rfl, rfl, hn'⟩ (by decide) (by decide)
theorem cx_add2 {k : KX} {L : Nat → Option Sh} {S : StT} {n h' xo : Nat} {a1 : Int32} {a2 : Int32} {a3 : Int32} {a4 : Int32} (hX0 : L xo = some (suSh k xo)) (hh : h' < 8) (hex : ∀ U, k_F k U → ExS k U) (hM : CsT k yX11_add cX11_add 7 none h' [.ref (k_b k + xo), .int a1, .int a2, .int a3, .int a4] (inst k L S.1 S.2.1 S.2.2) n "java/lang/IllegalStateException") :
    CsH k yL_add cL_add 6 (some .int) [(0, 9, 12, 13), (0, 9, 16, 21)] 8 1 6 [.ref (k_b k + xo), .int a1, .int a2, .int a3, .int a4] (inst k L S.1 S.2.1 S.2.2) n (PiN k L n (nI 2, S)) := by
  refine ch_of (by decide) (Nat.le_of_ble_eq_true rfl) ?_
  intro X hXk C Rt htab
  subst hXk
  refine rn_lv [(0, .ref (k_b X.1 + xo)), (1, .int a1), (2, .int a2), (3, .int a3), (4, .int a4)] (fun q h => h) ?_
  refine rn_aload_n C dL_add_0 rfl ?_
  refine rn_iload_n C dL_add_1 rfl ?_
  refine rn_iload_n C dL_add_2 rfl ?_
  refine rn_iload_n C dL_add_3 rfl ?_
  refine rn_iload C dL_add_4 rfl ?_
  refine rn_callVT (na := 4) (pre := [⟨0, 9, 12, 13⟩]) (x := ⟨0, 9, 16, 21⟩) (suf := []) C dL_add_6 mk_X11_add lv_L_54 hM (inst_at hX0) rfl rfl rfl rfl hh (Nat.le_of_ble_eq_true rfl) (by decide) (by decide) htab (fun z hz => by rw [List.mem_singleton.mp hz]; exact Or.inr ⟨by decide, _, wl_ia, (hex _ C.2.2.2.2.2.2.1.2.1).2.2.1.2⟩) (by decide) (by decide) wl_is (wc_is (hex _ C.2.2.2.2.2.2.1.2.1)) ?_
  intro q9 n' hn'
  show Rn X 16 _ _ _ _ _ _
  refine rn_astore (lv' := [(0, _), (1, _), (2, _), (3, _), (4, _), (5, _)]) C dL_add_16 (by decide) rfl ?_
  refine rn_iconst (v := nI 2) C dL_add_18 rfl ?_
  exact rn_iret C Rt dL_add_19 ⟨rfl, rfl, hn'⟩ (by decide) (by decide)
theorem mw_times : (Cond.codeWith yL_times cL_times 4 (some .int) [(0, 6, 9, 13)] ∈ gw ∧ Cond.initialized yL_times.cls ∈ gw ∧ Cond.methodLink RL 134 yL_times ∈ gw ∧ Cond.static yL_times ∈ gw) ∧ (yL_times.cls ≠ "java/lang/invoke/MethodHandle" ∧ yL_times.cls ≠ "java/lang/invoke/VarHandle" ∧ (parseMethodDescriptor yL_times.desc).map (fun d => d.parameters.length) = some 3) ∧ 4 ≤ 26 := ⟨⟨wt 1031 (by decide +kernel) (by decide +kernel), wt 0 (by decide +kernel) (by decide +kernel), wt 1029 (by decide +kernel) (by decide +kernel), wt 1030 (by decide +kernel) (by decide +kernel)⟩, ⟨by decide +kernel, by decide +kernel, by decide +kernel⟩, by decide⟩

theorem cw_times {R : StT} {k : KX} {L : Nat → Option Sh} {S : StT} {n h' xo : Nat} {a1 : Int32} {a2 : Int32} (hX0 : L xo = some (suSh k xo)) (hh : h' < 8) (hM : Cs k yX11_times cX11_times 3 none h' 0 0 [.ref (k_b k + xo), .int a1, .int a2] (inst k L S.1 S.2.1 S.2.2) n (Pv k L n R)) :
    CsH k yL_times cL_times 4 (some .int) [(0, 6, 9, 13)] 8 1 6 [.ref (k_b k + xo), .int a1, .int a2] (inst k L S.1 S.2.1 S.2.2) n (PiN k L n (nI 0, R)) := by
  refine ch_of (by decide) (Nat.le_of_ble_eq_true rfl) ?_
  intro X hXk C Rt htab
  subst hXk
  refine rn_lv [(0, .ref (k_b X.1 + xo)), (1, .int a1), (2, .int a2)] (fun q h => h) ?_
  refine rn_aload_n C dL_times_0 rfl ?_
  refine rn_iload_n C dL_times_1 rfl ?_
  refine rn_iload_n C dL_times_2 rfl ?_
  refine rs_vv C dL_times_3 mk_X11_times lv_L_58 hM hX0 rfl rfl rfl rfl hh (Nat.le_of_ble_eq_true rfl) (by decide) (by decide) ?_
  refine rn_goto (tgt := 12) C dL_times_6 (by decide) ?_
  refine rn_iconst (v := nI 0) C dL_times_12 rfl ?_
  exact rn_iret C Rt dL_times_13 ⟨rfl, rfl, Nat.le_refl _⟩ (Nat.zero_le _) (Nat.zero_le _)
theorem cx_times1 {k : KX} {L : Nat → Option Sh} {S : StT} {n h' xo : Nat} {a1 : Int32} {a2 : Int32} (hX0 : L xo = some (suSh k xo)) (hh : h' < 8) (hex : ∀ U, k_F k U → ExS k U) (hM : CsT k yX11_times cX11_times 3 none h' [.ref (k_b k + xo), .int a1, .int a2] (inst k L S.1 S.2.1 S.2.2) n "java/lang/IllegalArgumentException") :
    CsH k yL_times cL_times 4 (some .int) [(0, 6, 9, 13)] 8 1 6 [.ref (k_b k + xo), .int a1, .int a2] (inst k L S.1 S.2.1 S.2.2) n (PiN k L n (nI 1, S)) := by
  refine ch_of (by decide) (Nat.le_of_ble_eq_true rfl) ?_
  intro X hXk C Rt htab
  subst hXk
  refine rn_lv [(0, .ref (k_b X.1 + xo)), (1, .int a1), (2, .int a2)] (fun q h => h) ?_
  refine rn_aload_n C dL_times_0 rfl ?_
  refine rn_iload_n C dL_times_1 rfl ?_
  refine rn_iload_n C dL_times_2 rfl ?_
  refine rn_callVT (na := 2) (pre := []) (x := ⟨0, 6, 9, 13⟩) (suf := []) C dL_times_3 mk_X11_times lv_L_58 hM (inst_at hX0) rfl rfl rfl rfl hh (Nat.le_of_ble_eq_true rfl) (by decide) (by decide) htab (fun z hz => nomatch hz) (by decide) (by decide) wl_ia (wc_ia (hex _ C.2.2.2.2.2.2.1.2.1)) ?_
  intro q9 n' hn'
  show Rn X 9 _ _ _ _ _ _
  refine rn_astore_n (lv' := [(0, _), (1, _), (2, _), (3, _)]) C dL_times_9 (by decide) rfl ?_
  refine rn_iconst (v := nI 1) C dL_times_10 rfl ?_
  exact rn_iret C Rt dL_times_11 ⟨rfl, rfl, hn'⟩ (by decide) (by decide)
theorem mw_code : (Cond.codeWith yL_code cL_code 3 (some .int) [(0, 5, 8, 13)] ∈ gw ∧ Cond.initialized yL_code.cls ∈ gw ∧ Cond.methodLink RL 138 yL_code ∈ gw ∧ Cond.static yL_code ∈ gw) ∧ (yL_code.cls ≠ "java/lang/invoke/MethodHandle" ∧ yL_code.cls ≠ "java/lang/invoke/VarHandle" ∧ (parseMethodDescriptor yL_code.desc).map (fun d => d.parameters.length) = some 2) ∧ 3 ≤ 26 := ⟨⟨wt 1039 (by decide +kernel) (by decide +kernel), wt 0 (by decide +kernel) (by decide +kernel), wt 1037 (by decide +kernel) (by decide +kernel), wt 1038 (by decide +kernel) (by decide +kernel)⟩, ⟨by decide +kernel, by decide +kernel, by decide +kernel⟩, by decide⟩

theorem cw_code {R : StT} {k : KX} {L : Nat → Option Sh} {S : StT} {n h' xo : Nat} {a1 : Int32} (hX0 : L xo = some (suSh k xo)) (hh : h' < 8) (hM : Cs k yX11_code cX11_code 4 none h' 0 0 [.ref (k_b k + xo), .int a1] (inst k L S.1 S.2.1 S.2.2) n (Pv k L n R)) :
    CsH k yL_code cL_code 3 (some .int) [(0, 5, 8, 13)] 8 1 6 [.ref (k_b k + xo), .int a1] (inst k L S.1 S.2.1 S.2.2) n (PiN k L n (nI 0, R)) := by
  refine ch_of (by decide) (Nat.le_of_ble_eq_true rfl) ?_
  intro X hXk C Rt htab
  subst hXk
  refine rn_lv [(0, .ref (k_b X.1 + xo)), (1, .int a1)] (fun q h => h) ?_
  refine rn_aload_n C dL_code_0 rfl ?_
  refine rn_iload_n C dL_code_1 rfl ?_
  refine rs_vv C dL_code_2 mk_X11_code lv_L_62 hM hX0 rfl rfl rfl rfl hh (Nat.le_of_ble_eq_true rfl) (by decide) (by decide) ?_
  refine rn_goto (tgt := 11) C dL_code_5 (by decide) ?_
  refine rn_iconst (v := nI 0) C dL_code_11 rfl ?_
  exact rn_iret C Rt dL_code_12 ⟨rfl, rfl, Nat.le_refl _⟩ (Nat.zero_le _) (Nat.zero_le _)
theorem cx_code1 {k : KX} {L : Nat → Option Sh} {S : StT} {n h' xo : Nat} {a1 : Int32} (hX0 : L xo = some (suSh k xo)) (hh : h' < 8) (hex : ∀ U, k_F k U → ExS k U) (hM : CsT k yX11_code cX11_code 4 none h' [.ref (k_b k + xo), .int a1] (inst k L S.1 S.2.1 S.2.2) n "java/lang/IllegalArgumentException") :
    CsH k yL_code cL_code 3 (some .int) [(0, 5, 8, 13)] 8 1 6 [.ref (k_b k + xo), .int a1] (inst k L S.1 S.2.1 S.2.2) n (PiN k L n (nI 1, S)) := by
  refine ch_of (by decide) (Nat.le_of_ble_eq_true rfl) ?_
  intro X hXk C Rt htab
  subst hXk
  refine rn_lv [(0, .ref (k_b X.1 + xo)), (1, .int a1)] (fun q h => h) ?_
  refine rn_aload_n C dL_code_0 rfl ?_
  refine rn_iload_n C dL_code_1 rfl ?_
  refine rn_callVT (na := 1) (pre := []) (x := ⟨0, 5, 8, 13⟩) (suf := []) C dL_code_2 mk_X11_code lv_L_62 hM (inst_at hX0) rfl rfl rfl rfl hh (Nat.le_of_ble_eq_true rfl) (by decide) (by decide) htab (fun z hz => nomatch hz) (by decide) (by decide) wl_ia (wc_ia (hex _ C.2.2.2.2.2.2.1.2.1)) ?_
  intro q9 n' hn'
  show Rn X 8 _ _ _ _ _ _
  refine rn_astore_n (lv' := [(0, _), (1, _), (2, _)]) C dL_code_8 (by decide) rfl ?_
  refine rn_iconst (v := nI 1) C dL_code_9 rfl ?_
  exact rn_iret C Rt dL_code_10 ⟨rfl, rfl, hn'⟩ (by decide) (by decide)
theorem mw_same : (Cond.codeWith yL_same cL_same 5 (some .int) [(0, 17, 20, 13)] ∈ gw ∧ Cond.initialized yL_same.cls ∈ gw ∧ Cond.methodLink RL 141 yL_same ∈ gw ∧ Cond.static yL_same ∈ gw) ∧ (yL_same.cls ≠ "java/lang/invoke/MethodHandle" ∧ yL_same.cls ≠ "java/lang/invoke/VarHandle" ∧ (parseMethodDescriptor yL_same.desc).map (fun d => d.parameters.length) = some 4) ∧ 5 ≤ 26 := ⟨⟨wt 1047 (by decide +kernel) (by decide +kernel), wt 0 (by decide +kernel) (by decide +kernel), wt 1045 (by decide +kernel) (by decide +kernel), wt 1046 (by decide +kernel) (by decide +kernel)⟩, ⟨by decide +kernel, by decide +kernel, by decide +kernel⟩, by decide⟩

theorem cw_same {R : Int32 × StT} {k : KX} {L : Nat → Option Sh} {S : StT} {n h' xo oo : Nat} {a1 : Int32} {a2 : Int32} (hX0 : L xo = some (suSh k xo)) (hoo : L oo = some (sJ 1)) (hh : h' < 8) (hM : Cs k yX11_same cX11_same 3 (some .boolean) h' 0 0 [.ref (k_b k + xo), .int a1, .int a2] (inst k L S.1 S.2.1 S.2.2) n (Pi k L n R)) :
    CsH k yL_same cL_same 5 (some .int) [(0, 17, 20, 13)] 8 1 6 [.ref (k_b k + xo), .int a1, .int a2, .ref (k_b k + oo)] (inst k L S.1 S.2.1 S.2.2) n (PiN k L n (nI 0, (R.2.1, va_up R.2.2.1 oo (vp_updL (R.2.2.1 oo) 0 (bL R.1)), R.2.2.2))) := by
  refine ch_of (by decide) (Nat.le_of_ble_eq_true rfl) ?_
  intro X hXk C Rt htab
  subst hXk
  refine rn_lv [(0, .ref (k_b X.1 + xo)), (1, .int a1), (2, .int a2), (3, .ref (k_b X.1 + oo))] (fun q h => h) ?_
  refine rn_aload_n C dL_same_0 rfl ?_
  refine rn_iconst (v := nI 0) C dL_same_1 rfl ?_
  refine rn_aload_n C dL_same_2 rfl ?_
  refine rn_iload_n C dL_same_3 rfl ?_
  refine rn_iload_n C dL_same_4 rfl ?_
  refine rs_vz C dL_same_5 mk_X11_same lv_L_65 hM hX0 rfl rfl rfl rfl hh (Nat.le_of_ble_eq_true rfl) (by decide) (by decide) ?_
  refine rn_if_eq (tgt := 15) C dL_same_8 (by decide) (fun hz => ?_) (fun hz => ?_)
  · refine rn_lconst (v := 0) C dL_same_15 rfl ?_
    refine rs_lastore C dL_same_16 hoo rfl (by omega) (by decide) ?_
    refine rn_goto (tgt := 24) C dL_same_17 (by decide) ?_
    refine rn_iconst (v := nI 0) C dL_same_24 rfl ?_
    exact rn_iret C Rt dL_same_25 ⟨rfl, by rw [show bL R.1 = 0 from if_pos hz], Nat.le_refl _⟩ (Nat.zero_le _) (Nat.zero_le _)
  · refine rn_lconst (v := 1) C dL_same_11 rfl ?_
    refine rn_goto (tgt := 16) C dL_same_12 (by decide) ?_
    refine rs_lastore C dL_same_16 hoo rfl (by omega) (by decide) ?_
    refine rn_goto (tgt := 24) C dL_same_17 (by decide) ?_
    refine rn_iconst (v := nI 0) C dL_same_24 rfl ?_
    exact rn_iret C Rt dL_same_25 ⟨rfl, by rw [show bL R.1 = 1 from if_neg hz], Nat.le_refl _⟩ (Nat.zero_le _) (Nat.zero_le _)
theorem cx_same1 {k : KX} {L : Nat → Option Sh} {S : StT} {n h' xo oo : Nat} {a1 : Int32} {a2 : Int32} (hX0 : L xo = some (suSh k xo)) (hoo : L oo = some (sJ 1)) (hh : h' < 8) (hex : ∀ U, k_F k U → ExS k U) (hM : CsT k yX11_same cX11_same 3 (some .boolean) h' [.ref (k_b k + xo), .int a1, .int a2] (inst k L S.1 S.2.1 S.2.2) n "java/lang/IllegalArgumentException") :
    CsH k yL_same cL_same 5 (some .int) [(0, 17, 20, 13)] 8 1 6 [.ref (k_b k + xo), .int a1, .int a2, .ref (k_b k + oo)] (inst k L S.1 S.2.1 S.2.2) n (PiN k L n (nI 1, S)) := by
  refine ch_of (by decide) (Nat.le_of_ble_eq_true rfl) ?_
  intro X hXk C Rt htab
  subst hXk
  refine rn_lv [(0, .ref (k_b X.1 + xo)), (1, .int a1), (2, .int a2), (3, .ref (k_b X.1 + oo))] (fun q h => h) ?_
  refine rn_aload_n C dL_same_0 rfl ?_
  refine rn_iconst (v := nI 0) C dL_same_1 rfl ?_
  refine rn_aload_n C dL_same_2 rfl ?_
  refine rn_iload_n C dL_same_3 rfl ?_
  refine rn_iload_n C dL_same_4 rfl ?_
  refine rn_callVT (na := 2) (pre := []) (x := ⟨0, 17, 20, 13⟩) (suf := []) C dL_same_5 mk_X11_same lv_L_65 hM (inst_at hX0) rfl rfl rfl rfl hh (Nat.le_of_ble_eq_true rfl) (by decide) (by decide) htab (fun z hz => nomatch hz) (by decide) (by decide) wl_ia (wc_ia (hex _ C.2.2.2.2.2.2.1.2.1)) ?_
  intro q9 n' hn'
  show Rn X 20 _ _ _ _ _ _
  refine rn_astore (lv' := [(0, _), (1, _), (2, _), (3, _), (4, _)]) C dL_same_20 (by decide) rfl ?_
  refine rn_iconst (v := nI 1) C dL_same_22 rfl ?_
  exact rn_iret C Rt dL_same_23 ⟨rfl, rfl, hn'⟩ (by decide) (by decide)
theorem mw_order : (Cond.codeWith yL_order cL_order 5 (some .int) [(0, 10, 13, 13)] ∈ gw ∧ Cond.initialized yL_order.cls ∈ gw ∧ Cond.methodLink RL 144 yL_order ∈ gw ∧ Cond.static yL_order ∈ gw) ∧ (yL_order.cls ≠ "java/lang/invoke/MethodHandle" ∧ yL_order.cls ≠ "java/lang/invoke/VarHandle" ∧ (parseMethodDescriptor yL_order.desc).map (fun d => d.parameters.length) = some 4) ∧ 5 ≤ 26 := ⟨⟨wt 1058 (by decide +kernel) (by decide +kernel), wt 0 (by decide +kernel) (by decide +kernel), wt 1056 (by decide +kernel) (by decide +kernel), wt 1057 (by decide +kernel) (by decide +kernel)⟩, ⟨by decide +kernel, by decide +kernel, by decide +kernel⟩, by decide⟩

theorem cw_order {R : Int32 × StT} {k : KX} {L : Nat → Option Sh} {S : StT} {n h' xo oo : Nat} {a1 : Int32} {a2 : Int32} (hX0 : L xo = some (suSh k xo)) (hoo : L oo = some (sJ 1)) (hh : h' < 8) (hM : Cs k yX11_order cX11_order 4 (some .int) h' 0 0 [.ref (k_b k + xo), .int a1, .int a2] (inst k L S.1 S.2.1 S.2.2) n (Pi k L n R)) :
    CsH k yL_order cL_order 5 (some .int) [(0, 10, 13, 13)] 8 1 6 [.ref (k_b k + xo), .int a1, .int a2, .ref (k_b k + oo)] (inst k L S.1 S.2.1 S.2.2) n (PiN k L n (nI 0, (R.2.1, va_up R.2.2.1 oo (vp_updL (R.2.2.1 oo) 0 R.1.toInt64), R.2.2.2))) := by
  refine ch_of (by decide) (Nat.le_of_ble_eq_true rfl) ?_
  intro X hXk C Rt htab
  subst hXk
  refine rn_lv [(0, .ref (k_b X.1 + xo)), (1, .int a1), (2, .int a2), (3, .ref (k_b X.1 + oo))] (fun q h => h) ?_
  refine rn_aload_n C dL_order_0 rfl ?_
  refine rn_iconst (v := nI 0) C dL_order_1 rfl ?_
  refine rn_aload_n C dL_order_2 rfl ?_
  refine rn_iload_n C dL_order_3 rfl ?_
  refine rn_iload_n C dL_order_4 rfl ?_
  refine rs_vi C dL_order_5 mk_X11_order lv_L_68 hM hX0 rfl rfl rfl rfl hh (Nat.le_of_ble_eq_true rfl) (by decide) (by decide) ?_
  refine rn_i2l C dL_order_8 rfl ?_
  refine rs_lastore C dL_order_9 hoo rfl (by omega) (by decide) ?_
  refine rn_goto (tgt := 17) C dL_order_10 (by decide) ?_
  refine rn_iconst (v := nI 0) C dL_order_17 rfl ?_
  exact rn_iret C Rt dL_order_18 ⟨rfl, rfl, Nat.le_refl _⟩ (Nat.zero_le _) (Nat.zero_le _)
theorem cx_order1 {k : KX} {L : Nat → Option Sh} {S : StT} {n h' xo oo : Nat} {a1 : Int32} {a2 : Int32} (hX0 : L xo = some (suSh k xo)) (hoo : L oo = some (sJ 1)) (hh : h' < 8) (hex : ∀ U, k_F k U → ExS k U) (hM : CsT k yX11_order cX11_order 4 (some .int) h' [.ref (k_b k + xo), .int a1, .int a2] (inst k L S.1 S.2.1 S.2.2) n "java/lang/IllegalArgumentException") :
    CsH k yL_order cL_order 5 (some .int) [(0, 10, 13, 13)] 8 1 6 [.ref (k_b k + xo), .int a1, .int a2, .ref (k_b k + oo)] (inst k L S.1 S.2.1 S.2.2) n (PiN k L n (nI 1, S)) := by
  refine ch_of (by decide) (Nat.le_of_ble_eq_true rfl) ?_
  intro X hXk C Rt htab
  subst hXk
  refine rn_lv [(0, .ref (k_b X.1 + xo)), (1, .int a1), (2, .int a2), (3, .ref (k_b X.1 + oo))] (fun q h => h) ?_
  refine rn_aload_n C dL_order_0 rfl ?_
  refine rn_iconst (v := nI 0) C dL_order_1 rfl ?_
  refine rn_aload_n C dL_order_2 rfl ?_
  refine rn_iload_n C dL_order_3 rfl ?_
  refine rn_iload_n C dL_order_4 rfl ?_
  refine rn_callVT (na := 2) (pre := []) (x := ⟨0, 10, 13, 13⟩) (suf := []) C dL_order_5 mk_X11_order lv_L_68 hM (inst_at hX0) rfl rfl rfl rfl hh (Nat.le_of_ble_eq_true rfl) (by decide) (by decide) htab (fun z hz => nomatch hz) (by decide) (by decide) wl_ia (wc_ia (hex _ C.2.2.2.2.2.2.1.2.1)) ?_
  intro q9 n' hn'
  show Rn X 13 _ _ _ _ _ _
  refine rn_astore (lv' := [(0, _), (1, _), (2, _), (3, _), (4, _)]) C dL_order_13 (by decide) rfl ?_
  refine rn_iconst (v := nI 1) C dL_order_15 rfl ?_
  exact rn_iret C Rt dL_order_16 ⟨rfl, rfl, hn'⟩ (by decide) (by decide)
