/-! CurveSuite: its methods where they refuse, by program (thr.py) -/
theorem gx_ps (ws : List Cond) (ps : List Nat) (h : ws = ps.filterMap (fun i => tables_1[i]?)) (g : ws.all (fun w => goodWord w || decide (w ∈ exW)) = true) : ∀ w ∈ ws, w ∈ gw ∨ w ∈ exW := by
  intro w hw
  have h1 := List.all_eq_true.mp g w hw
  rw [h] at hw
  obtain ⟨i, -, hi⟩ := List.mem_filterMap.mp hw
  cases hg : goodWord w with
  | true => exact Or.inl (wt i hi hg)
  | false =>
    rw [hg, Bool.false_or] at h1
    exact Or.inr (of_decide_eq_true h1)
theorem xw_ia : ∀ w ∈ Cond.classLink RX11 124 "java/lang/IllegalArgumentException" :: Cond.initialized "java/lang/IllegalArgumentException" :: vx_atS RX11 128 "java/lang/IllegalArgumentException" xNm, w ∈ gw ∨ w ∈ exW := gx_ps _ [522, 22, 19, 544, 553, 557, 560, 562, 545, 546, 32, 33, 547, 552, 558, 578, 534, 579, 536, 580, 538, 548, 550, 540, 574, 575, 577, 540, 565, 566, 567, 568, 526, 568, 569, 570, 571, 528, 571, 572, 573, 574, 530, 564, 523, 524, 531, 532, 533, 535, 537, 539, 543, 542, 541] (by decide +kernel) (by decide +kernel)
theorem xw_io : ∀ w ∈ Cond.classLink RX11 96 "java/lang/IndexOutOfBoundsException" :: Cond.initialized "java/lang/IndexOutOfBoundsException" :: vx_atS RX11 100 "java/lang/IndexOutOfBoundsException" xNm, w ∈ gw ∨ w ∈ exW := gx_ps _ [593, 23, 19, 544, 553, 557, 560, 562, 545, 546, 32, 33, 547, 552, 558, 578, 534, 579, 536, 580, 538, 548, 550, 540, 574, 575, 577, 540, 604, 605, 606, 568, 526, 568, 569, 570, 571, 528, 571, 572, 573, 574, 530, 603, 594, 595, 596, 556, 597, 598, 599, 600, 543, 542, 601] (by decide +kernel) (by decide +kernel)
theorem xw_is : ∀ w ∈ Cond.classLink RX11 107 "java/lang/IllegalStateException" :: Cond.initialized "java/lang/IllegalStateException" :: vx_atS RX11 111 "java/lang/IllegalStateException" xNm, w ∈ gw ∨ w ∈ exW := gx_ps _ [620, 24, 19, 544, 553, 557, 560, 562, 545, 546, 32, 33, 547, 552, 558, 578, 534, 579, 536, 580, 538, 548, 550, 540, 574, 575, 577, 540, 631, 632, 633, 568, 526, 568, 569, 570, 571, 528, 571, 572, 573, 574, 530, 630, 621, 622, 623, 555, 624, 625, 626, 627, 543, 542, 628] (by decide +kernel) (by decide +kernel)
set_option maxHeartbeats 2000000 in
theorem ct_rbc {k : KX} {P : PT} {n : Nat} {a : Int32} (hex : ∀ U, k_F k U → ExS k U) (hbad : a < nI 1 ∨ ¬ a ≤ nI 8) :
    CsT k yX11_requireByteCount cX11_requireByteCount 1 none 6 [.int (a)] P n "java/lang/IllegalArgumentException" := by
  refine ct_of (by decide) (Nat.le_of_ble_eq_true rfl) ?_
  intro X hXk C Th
  subst hXk
  refine rn_lv [(0, .int (a))] (fun q h => h) ?_
  refine rn_iload_n C dX11_requireByteCount_0 rfl ?_
  refine rn_iconst (v := nI 1) C dX11_requireByteCount_1 rfl ?_
  refine rn_icmp_lt (tgt := 11) C dX11_requireByteCount_2 (by decide) (fun h1 => ?_) (fun h1 => ?_)
  · skip
    exact rn_throwS C Th (Nat.le_refl _) (hex _ C.2.2.2.2.2.2.1.2.1) ((hex _ C.2.2.2.2.2.2.1.2.1).2.2.2 (212, "n is not 1 to 8") (by decide)) (by decide) xw_ia dX11_requireByteCount_11 dX11_requireByteCount_14 dX11_requireByteCount_15 dX11_requireByteCount_17 dX11_requireByteCount_20 (by decide) (Nat.le_of_ble_eq_true rfl)
  refine rn_iload_n C dX11_requireByteCount_5 rfl ?_
  refine rn_bipush (v := nI 8) C dX11_requireByteCount_6 rfl ?_
  refine rn_icmp_le (tgt := 21) C dX11_requireByteCount_8 (by decide) (fun h2 => hbad.elim (fun h => absurd h h1) (fun h => absurd h2 h)) (fun h2 => ?_)
  exact rn_throwS C Th (Nat.le_refl _) (hex _ C.2.2.2.2.2.2.1.2.1) ((hex _ C.2.2.2.2.2.2.1.2.1).2.2.2 (212, "n is not 1 to 8") (by decide)) (by decide) xw_ia dX11_requireByteCount_11 dX11_requireByteCount_14 dX11_requireByteCount_15 dX11_requireByteCount_17 dX11_requireByteCount_20 (by decide) (Nat.le_of_ble_eq_true rfl)
set_option maxHeartbeats 2000000 in
theorem ct_rfr {k : KX} {P : PT} {n : Nat} {a : Int32} (hex : ∀ U, k_F k U → ExS k U) (hbad : a < 0 ∨ ¬ a ≤ nI 2) :
    CsT k yX11_requireFixedRegister cX11_requireFixedRegister 1 none 6 [.int (a)] P n "java/lang/IllegalArgumentException" := by
  refine ct_of (by decide) (Nat.le_of_ble_eq_true rfl) ?_
  intro X hXk C Th
  subst hXk
  refine rn_lv [(0, .int (a))] (fun q h => h) ?_
  refine rn_iload_n C dX11_requireFixedRegister_0 rfl ?_
  refine rn_if_lt (tgt := 9) C dX11_requireFixedRegister_1 (by decide) (fun h1 => ?_) (fun h1 => ?_)
  · skip
    exact rn_throwS C Th (Nat.le_refl _) (hex _ C.2.2.2.2.2.2.1.2.1) ((hex _ C.2.2.2.2.2.2.1.2.1).2.2.2 (126, "no such register") (by decide)) (by decide) xw_ia dX11_requireFixedRegister_9 dX11_requireFixedRegister_12 dX11_requireFixedRegister_13 dX11_requireFixedRegister_15 dX11_requireFixedRegister_18 (by decide) (Nat.le_of_ble_eq_true rfl)
  refine rn_iload_n C dX11_requireFixedRegister_4 rfl ?_
  refine rn_iconst (v := nI 2) C dX11_requireFixedRegister_5 rfl ?_
  refine rn_icmp_le (tgt := 19) C dX11_requireFixedRegister_6 (by decide) (fun h2 => hbad.elim (fun h => absurd h h1) (fun h => absurd h2 h)) (fun h2 => ?_)
  exact rn_throwS C Th (Nat.le_refl _) (hex _ C.2.2.2.2.2.2.1.2.1) ((hex _ C.2.2.2.2.2.2.1.2.1).2.2.2 (126, "no such register") (by decide)) (by decide) xw_ia dX11_requireFixedRegister_9 dX11_requireFixedRegister_12 dX11_requireFixedRegister_13 dX11_requireFixedRegister_15 dX11_requireFixedRegister_18 (by decide) (Nat.le_of_ble_eq_true rfl)
set_option maxHeartbeats 2000000 in
theorem ct_rcu {k : KX} {P : PT} {n : Nat} {a : Int32} (hex : ∀ U, k_F k U → ExS k U) (hbad : a < 0 ∨ ¬ a < nI 2) :
    CsT k yX11_requireCurve cX11_requireCurve 1 none 6 [.int (a)] P n "java/lang/IllegalArgumentException" := by
  refine ct_of (by decide) (Nat.le_of_ble_eq_true rfl) ?_
  intro X hXk C Th
  subst hXk
  refine rn_lv [(0, .int (a))] (fun q h => h) ?_
  refine rn_iload_n C dX11_requireCurve_0 rfl ?_
  refine rn_if_lt (tgt := 9) C dX11_requireCurve_1 (by decide) (fun h1 => ?_) (fun h1 => ?_)
  · skip
    exact rn_throwS C Th (Nat.le_refl _) (hex _ C.2.2.2.2.2.2.1.2.1) ((hex _ C.2.2.2.2.2.2.1.2.1).2.2.2 (214, "no such curve") (by decide)) (by decide) xw_ia dX11_requireCurve_9 dX11_requireCurve_12 dX11_requireCurve_13 dX11_requireCurve_15 dX11_requireCurve_18 (by decide) (Nat.le_of_ble_eq_true rfl)
  refine rn_iload_n C dX11_requireCurve_4 rfl ?_
  refine rn_iconst (v := nI 2) C dX11_requireCurve_5 rfl ?_
  refine rn_icmp_lt (tgt := 19) C dX11_requireCurve_6 (by decide) (fun h2 => hbad.elim (fun h => absurd h h1) (fun h => absurd h2 h)) (fun h2 => ?_)
  exact rn_throwS C Th (Nat.le_refl _) (hex _ C.2.2.2.2.2.2.1.2.1) ((hex _ C.2.2.2.2.2.2.1.2.1).2.2.2 (214, "no such curve") (by decide)) (by decide) xw_ia dX11_requireCurve_9 dX11_requireCurve_12 dX11_requireCurve_13 dX11_requireCurve_15 dX11_requireCurve_18 (by decide) (Nat.le_of_ble_eq_true rfl)
set_option maxHeartbeats 2000000 in
theorem ct_rpl {k : KX} {P : PT} {n : Nat} {a : Int32} (hex : ∀ U, k_F k U → ExS k U) (hbad : a < 0 ∨ ¬ a < nI 3) :
    CsT k yX11_requirePlace cX11_requirePlace 1 none 6 [.int (a)] P n "java/lang/IllegalArgumentException" := by
  refine ct_of (by decide) (Nat.le_of_ble_eq_true rfl) ?_
  intro X hXk C Th
  subst hXk
  refine rn_lv [(0, .int (a))] (fun q h => h) ?_
  refine rn_iload_n C dX11_requirePlace_0 rfl ?_
  refine rn_if_lt (tgt := 9) C dX11_requirePlace_1 (by decide) (fun h1 => ?_) (fun h1 => ?_)
  · skip
    exact rn_throwS C Th (Nat.le_refl _) (hex _ C.2.2.2.2.2.2.1.2.1) ((hex _ C.2.2.2.2.2.2.1.2.1).2.2.2 (216, "no such place") (by decide)) (by decide) xw_ia dX11_requirePlace_9 dX11_requirePlace_12 dX11_requirePlace_13 dX11_requirePlace_15 dX11_requirePlace_18 (by decide) (Nat.le_of_ble_eq_true rfl)
  refine rn_iload_n C dX11_requirePlace_4 rfl ?_
  refine rn_iconst (v := nI 3) C dX11_requirePlace_5 rfl ?_
  refine rn_icmp_lt (tgt := 19) C dX11_requirePlace_6 (by decide) (fun h2 => hbad.elim (fun h => absurd h h1) (fun h => absurd h2 h)) (fun h2 => ?_)
  exact rn_throwS C Th (Nat.le_refl _) (hex _ C.2.2.2.2.2.2.1.2.1) ((hex _ C.2.2.2.2.2.2.1.2.1).2.2.2 (216, "no such place") (by decide)) (by decide) xw_ia dX11_requirePlace_9 dX11_requirePlace_12 dX11_requirePlace_13 dX11_requirePlace_15 dX11_requirePlace_18 (by decide) (Nat.le_of_ble_eq_true rfl)
set_option maxHeartbeats 2000000 in
theorem ct_putA {k : KX} {L : Nat → Option Sh} {S : StT} {n : Nat} {xo : Nat} {zr : Int32} {zp : Int32} {v : Int64} {zn : Int32} (hex : ∀ U, k_F k U → ExS k U) (hbad : zn < nI 1 ∨ ¬ zn ≤ nI 8) :
    CsT k yX11_put cX11_put 7 none 7 [.ref (k_b k + (xo)), .int (zr), .int (zp), .long (v), .int (zn)] (inst k L S.1 S.2.1 S.2.2) n "java/lang/IllegalArgumentException" := by
  refine ct_of (by decide) (Nat.le_of_ble_eq_true rfl) ?_
  intro X hXk C Th
  subst hXk
  refine rn_lv [(0, .ref (k_b X.1 + (xo))), (1, .int (zr)), (2, .int (zp)), (3, .long (v)), (5, .int (zn))] (fun q h => h) ?_
  refine rn_iload C dX11_put_0 rfl ?_
  exact rn_callST C Th (Nat.le_refl _) dX11_put_2 mk_X11_requireByteCount ls_X11_90 (ct_rbc hex hbad) (As := [.int (zn)]) rfl rfl (by decide) (Nat.le_of_ble_eq_true rfl)
set_option maxHeartbeats 2000000 in
theorem ct_putB {k : KX} {L : Nat → Option Sh} {S : StT} {n : Nat} {xo : Nat} {zr : Int32} {zp : Int32} {v : Int64} {nn : Nat} (hex : ∀ U, k_F k U → ExS k U) (hn1 : 1 ≤ nn) (hn8 : nn ≤ 8) (hbad : zr < 0 ∨ ¬ zr ≤ nI 2) :
    CsT k yX11_put cX11_put 7 none 7 [.ref (k_b k + (xo)), .int (zr), .int (zp), .long (v), .int (nI (nn))] (inst k L S.1 S.2.1 S.2.2) n "java/lang/IllegalArgumentException" := by
  refine ct_of (by decide) (Nat.le_of_ble_eq_true rfl) ?_
  intro X hXk C Th
  subst hXk
  refine rn_lv [(0, .ref (k_b X.1 + (xo))), (1, .int (zr)), (2, .int (zp)), (3, .long (v)), (5, .int (nI (nn)))] (fun q h => h) ?_
  refine rn_iload C dX11_put_0 rfl ?_
  refine rs_sv C dX11_put_2 mk_X11_requireByteCount ls_X11_90 (cv_rbc (a := nn) (by omega) (by omega)) rfl rfl (by decide) (Nat.le_of_ble_eq_true rfl) (by decide) (by decide) ?_
  refine rn_iload_n C dX11_put_5 rfl ?_
  exact rn_callST C Th (Nat.le_refl _) dX11_put_6 mk_X11_requireFixedRegister ls_X11_93 (ct_rfr hex hbad) (As := [.int (zr)]) rfl rfl (by decide) (Nat.le_of_ble_eq_true rfl)
set_option maxHeartbeats 2000000 in
theorem ct_putC0 {k : KX} {L : Nat → Option Sh} {S : StT} {n : Nat} {xo : Nat} {zp : Int32} {v : Int64} {nn : Nat} (hex : ∀ U, k_F k U → ExS k U) (hX : SuiteAt k L xo) (hgn0 : S.2.2 (xo + 15 + 2 * 0) 1 = nI 57) (hn1 : 1 ≤ nn) (hn8 : nn ≤ 8) (hbad : zp < 0 ∨ ¬ zp ≤ nI (57 - nn)) :
    CsT k yX11_put cX11_put 7 none 7 [.ref (k_b k + (xo)), .int (nI (0)), .int (zp), .long (v), .int (nI (nn))] (inst k L S.1 S.2.1 S.2.2) n "java/lang/IndexOutOfBoundsException" := by
  refine ct_of (by decide) (Nat.le_of_ble_eq_true rfl) ?_
  intro X hXk C Th
  subst hXk
  have hX9 := hX
  obtain ⟨hX0, hx1, hx2, hx4, hx6, hx7, hx8, hx9, hx10, hx11, hg0, hg1, hg2, hg3, hhs, hall, hpl⟩ := hX9
  have hg09 := hg0
  obtain ⟨hg0a, hg0b⟩ := hg09
  have hg19 := hg1
  obtain ⟨hg1a, hg1b⟩ := hg19
  have hg29 := hg2
  obtain ⟨hg2a, hg2b⟩ := hg29
  have hg39 := hg3
  obtain ⟨hg3a, hg3b⟩ := hg39
  have hx29 := hx2
  obtain ⟨hx2a, hx2b⟩ := hx29
  have hx49 := hx4
  obtain ⟨hx4a, hx4b⟩ := hx49
  have hx119 := hx11
  obtain ⟨hx110, hx111, hx112, hx113⟩ := hx119
  refine rn_lv [(0, .ref (k_b X.1 + (xo))), (1, .int (nI (0))), (2, .int (zp)), (3, .long (v)), (5, .int (nI (nn)))] (fun q h => h) ?_
  refine rn_iload C dX11_put_0 rfl ?_
  refine rs_sv C dX11_put_2 mk_X11_requireByteCount ls_X11_90 (cv_rbc (a := nn) (by omega) (by omega)) rfl rfl (by decide) (Nat.le_of_ble_eq_true rfl) (by decide) (by decide) ?_
  refine rn_iload_n C dX11_put_5 rfl ?_
  refine rs_sv C dX11_put_6 mk_X11_requireFixedRegister ls_X11_93 (cv_rfr (a := 0) (by omega)) rfl rfl (by decide) (Nat.le_of_ble_eq_true rfl) (by decide) (by decide) ?_
  refine rn_aload_n C dX11_put_9 rfl ?_
  refine rs_get C dX11_put_10 fl_X11_11 hX0 rfl ?_
  refine rn_iload_n C dX11_put_13 rfl ?_
  refine rs_aaload C dX11_put_14 hx1 rfl rfl (by decide) (by decide) (if_pos (by decide)) ?_
  refine rn_astore (lv' := [(0, _), (1, _), (2, _), (3, _), (5, _), (6, _)]) C dX11_put_15 (by decide) rfl ?_
  refine rn_iload_n C dX11_put_17 rfl ?_
  refine rn_if_lt (tgt := 33) C dX11_put_18 (by decide) (fun h1 => ?_) (fun h1 => ?_)
  · skip
    exact rn_throwS C Th (Nat.le_refl _) (hex _ C.2.2.2.2.2.2.1.2.1) ((hex _ C.2.2.2.2.2.2.1.2.1).2.2.2 (98, "not all bytes have a place") (by decide)) (by decide) xw_io dX11_put_33 dX11_put_36 dX11_put_37 dX11_put_39 dX11_put_42 (by decide) (Nat.le_of_ble_eq_true rfl)
  refine rn_iload_n C dX11_put_21 rfl ?_
  refine rn_aload C dX11_put_22 rfl ?_
  refine rs_getFe C dX11_put_24 fl_X11_61 hg0a rfl hgn0 ?_
  refine rn_iload C dX11_put_27 rfl ?_
  refine rn_isub C dX11_put_29 (pk_sub (by omega)) ?_
  refine rn_icmp_le (tgt := 43) C dX11_put_30 (by decide) (fun h2 => hbad.elim (fun h => absurd h h1) (fun h => absurd h2 h)) (fun h2 => ?_)
  exact rn_throwS C Th (Nat.le_refl _) (hex _ C.2.2.2.2.2.2.1.2.1) ((hex _ C.2.2.2.2.2.2.1.2.1).2.2.2 (98, "not all bytes have a place") (by decide)) (by decide) xw_io dX11_put_33 dX11_put_36 dX11_put_37 dX11_put_39 dX11_put_42 (by decide) (Nat.le_of_ble_eq_true rfl)
set_option maxHeartbeats 2000000 in
theorem ct_putC1 {k : KX} {L : Nat → Option Sh} {S : StT} {n : Nat} {xo : Nat} {zp : Int32} {v : Int64} {nn : Nat} (hex : ∀ U, k_F k U → ExS k U) (hX : SuiteAt k L xo) (hgn1 : S.2.2 (xo + 15 + 2 * 1) 1 = nI 57) (hn1 : 1 ≤ nn) (hn8 : nn ≤ 8) (hbad : zp < 0 ∨ ¬ zp ≤ nI (57 - nn)) :
    CsT k yX11_put cX11_put 7 none 7 [.ref (k_b k + (xo)), .int (nI (1)), .int (zp), .long (v), .int (nI (nn))] (inst k L S.1 S.2.1 S.2.2) n "java/lang/IndexOutOfBoundsException" := by
  refine ct_of (by decide) (Nat.le_of_ble_eq_true rfl) ?_
  intro X hXk C Th
  subst hXk
  have hX9 := hX
  obtain ⟨hX0, hx1, hx2, hx4, hx6, hx7, hx8, hx9, hx10, hx11, hg0, hg1, hg2, hg3, hhs, hall, hpl⟩ := hX9
  have hg09 := hg0
  obtain ⟨hg0a, hg0b⟩ := hg09
  have hg19 := hg1
  obtain ⟨hg1a, hg1b⟩ := hg19
  have hg29 := hg2
  obtain ⟨hg2a, hg2b⟩ := hg29
  have hg39 := hg3
  obtain ⟨hg3a, hg3b⟩ := hg39
  have hx29 := hx2
  obtain ⟨hx2a, hx2b⟩ := hx29
  have hx49 := hx4
  obtain ⟨hx4a, hx4b⟩ := hx49
  have hx119 := hx11
  obtain ⟨hx110, hx111, hx112, hx113⟩ := hx119
  refine rn_lv [(0, .ref (k_b X.1 + (xo))), (1, .int (nI (1))), (2, .int (zp)), (3, .long (v)), (5, .int (nI (nn)))] (fun q h => h) ?_
  refine rn_iload C dX11_put_0 rfl ?_
  refine rs_sv C dX11_put_2 mk_X11_requireByteCount ls_X11_90 (cv_rbc (a := nn) (by omega) (by omega)) rfl rfl (by decide) (Nat.le_of_ble_eq_true rfl) (by decide) (by decide) ?_
  refine rn_iload_n C dX11_put_5 rfl ?_
  refine rs_sv C dX11_put_6 mk_X11_requireFixedRegister ls_X11_93 (cv_rfr (a := 1) (by omega)) rfl rfl (by decide) (Nat.le_of_ble_eq_true rfl) (by decide) (by decide) ?_
  refine rn_aload_n C dX11_put_9 rfl ?_
  refine rs_get C dX11_put_10 fl_X11_11 hX0 rfl ?_
  refine rn_iload_n C dX11_put_13 rfl ?_
  refine rs_aaload C dX11_put_14 hx1 rfl rfl (by decide) (by decide) (if_pos (by decide)) ?_
  refine rn_astore (lv' := [(0, _), (1, _), (2, _), (3, _), (5, _), (6, _)]) C dX11_put_15 (by decide) rfl ?_
  refine rn_iload_n C dX11_put_17 rfl ?_
  refine rn_if_lt (tgt := 33) C dX11_put_18 (by decide) (fun h1 => ?_) (fun h1 => ?_)
  · skip
    exact rn_throwS C Th (Nat.le_refl _) (hex _ C.2.2.2.2.2.2.1.2.1) ((hex _ C.2.2.2.2.2.2.1.2.1).2.2.2 (98, "not all bytes have a place") (by decide)) (by decide) xw_io dX11_put_33 dX11_put_36 dX11_put_37 dX11_put_39 dX11_put_42 (by decide) (Nat.le_of_ble_eq_true rfl)
  refine rn_iload_n C dX11_put_21 rfl ?_
  refine rn_aload C dX11_put_22 rfl ?_
  refine rs_getFe C dX11_put_24 fl_X11_61 hg1a rfl hgn1 ?_
  refine rn_iload C dX11_put_27 rfl ?_
  refine rn_isub C dX11_put_29 (pk_sub (by omega)) ?_
  refine rn_icmp_le (tgt := 43) C dX11_put_30 (by decide) (fun h2 => hbad.elim (fun h => absurd h h1) (fun h => absurd h2 h)) (fun h2 => ?_)
  exact rn_throwS C Th (Nat.le_refl _) (hex _ C.2.2.2.2.2.2.1.2.1) ((hex _ C.2.2.2.2.2.2.1.2.1).2.2.2 (98, "not all bytes have a place") (by decide)) (by decide) xw_io dX11_put_33 dX11_put_36 dX11_put_37 dX11_put_39 dX11_put_42 (by decide) (Nat.le_of_ble_eq_true rfl)
set_option maxHeartbeats 2000000 in
theorem ct_putC2 {k : KX} {L : Nat → Option Sh} {S : StT} {n : Nat} {xo : Nat} {zp : Int32} {v : Int64} {nn : Nat} (hex : ∀ U, k_F k U → ExS k U) (hX : SuiteAt k L xo) (hgn2 : S.2.2 (xo + 15 + 2 * 2) 1 = nI 114) (hn1 : 1 ≤ nn) (hn8 : nn ≤ 8) (hbad : zp < 0 ∨ ¬ zp ≤ nI (114 - nn)) :
    CsT k yX11_put cX11_put 7 none 7 [.ref (k_b k + (xo)), .int (nI (2)), .int (zp), .long (v), .int (nI (nn))] (inst k L S.1 S.2.1 S.2.2) n "java/lang/IndexOutOfBoundsException" := by
  refine ct_of (by decide) (Nat.le_of_ble_eq_true rfl) ?_
  intro X hXk C Th
  subst hXk
  have hX9 := hX
  obtain ⟨hX0, hx1, hx2, hx4, hx6, hx7, hx8, hx9, hx10, hx11, hg0, hg1, hg2, hg3, hhs, hall, hpl⟩ := hX9
  have hg09 := hg0
  obtain ⟨hg0a, hg0b⟩ := hg09
  have hg19 := hg1
  obtain ⟨hg1a, hg1b⟩ := hg19
  have hg29 := hg2
  obtain ⟨hg2a, hg2b⟩ := hg29
  have hg39 := hg3
  obtain ⟨hg3a, hg3b⟩ := hg39
  have hx29 := hx2
  obtain ⟨hx2a, hx2b⟩ := hx29
  have hx49 := hx4
  obtain ⟨hx4a, hx4b⟩ := hx49
  have hx119 := hx11
  obtain ⟨hx110, hx111, hx112, hx113⟩ := hx119
  refine rn_lv [(0, .ref (k_b X.1 + (xo))), (1, .int (nI (2))), (2, .int (zp)), (3, .long (v)), (5, .int (nI (nn)))] (fun q h => h) ?_
  refine rn_iload C dX11_put_0 rfl ?_
  refine rs_sv C dX11_put_2 mk_X11_requireByteCount ls_X11_90 (cv_rbc (a := nn) (by omega) (by omega)) rfl rfl (by decide) (Nat.le_of_ble_eq_true rfl) (by decide) (by decide) ?_
  refine rn_iload_n C dX11_put_5 rfl ?_
  refine rs_sv C dX11_put_6 mk_X11_requireFixedRegister ls_X11_93 (cv_rfr (a := 2) (by omega)) rfl rfl (by decide) (Nat.le_of_ble_eq_true rfl) (by decide) (by decide) ?_
  refine rn_aload_n C dX11_put_9 rfl ?_
  refine rs_get C dX11_put_10 fl_X11_11 hX0 rfl ?_
  refine rn_iload_n C dX11_put_13 rfl ?_
  refine rs_aaload C dX11_put_14 hx1 rfl rfl (by decide) (by decide) (if_pos (by decide)) ?_
  refine rn_astore (lv' := [(0, _), (1, _), (2, _), (3, _), (5, _), (6, _)]) C dX11_put_15 (by decide) rfl ?_
  refine rn_iload_n C dX11_put_17 rfl ?_
  refine rn_if_lt (tgt := 33) C dX11_put_18 (by decide) (fun h1 => ?_) (fun h1 => ?_)
  · skip
    exact rn_throwS C Th (Nat.le_refl _) (hex _ C.2.2.2.2.2.2.1.2.1) ((hex _ C.2.2.2.2.2.2.1.2.1).2.2.2 (98, "not all bytes have a place") (by decide)) (by decide) xw_io dX11_put_33 dX11_put_36 dX11_put_37 dX11_put_39 dX11_put_42 (by decide) (Nat.le_of_ble_eq_true rfl)
  refine rn_iload_n C dX11_put_21 rfl ?_
  refine rn_aload C dX11_put_22 rfl ?_
  refine rs_getFe C dX11_put_24 fl_X11_61 hg2a rfl hgn2 ?_
  refine rn_iload C dX11_put_27 rfl ?_
  refine rn_isub C dX11_put_29 (pk_sub (by omega)) ?_
  refine rn_icmp_le (tgt := 43) C dX11_put_30 (by decide) (fun h2 => hbad.elim (fun h => absurd h h1) (fun h => absurd h2 h)) (fun h2 => ?_)
  exact rn_throwS C Th (Nat.le_refl _) (hex _ C.2.2.2.2.2.2.1.2.1) ((hex _ C.2.2.2.2.2.2.1.2.1).2.2.2 (98, "not all bytes have a place") (by decide)) (by decide) xw_io dX11_put_33 dX11_put_36 dX11_put_37 dX11_put_39 dX11_put_42 (by decide) (Nat.le_of_ble_eq_true rfl)
set_option maxHeartbeats 2000000 in
theorem ct_feedA {k : KX} {L : Nat → Option Sh} {S : StT} {n : Nat} {xo : Nat} {zt : Int32} {v : Int64} {zn : Int32} (hex : ∀ U, k_F k U → ExS k U) (hbad : zn < nI 1 ∨ ¬ zn ≤ nI 8) :
    CsT k yX11_feed cX11_feed 6 (some .int) 7 [.ref (k_b k + (xo)), .int (zt), .long (v), .int (zn)] (inst k L S.1 S.2.1 S.2.2) n "java/lang/IllegalArgumentException" := by
  refine ct_of (by decide) (Nat.le_of_ble_eq_true rfl) ?_
  intro X hXk C Th
  subst hXk
  refine rn_lv [(0, .ref (k_b X.1 + (xo))), (1, .int (zt)), (2, .long (v)), (4, .int (zn))] (fun q h => h) ?_
  refine rn_iload C dX11_feed_0 rfl ?_
  exact rn_callST C Th (Nat.le_refl _) dX11_feed_2 mk_X11_requireByteCount ls_X11_90 (ct_rbc hex hbad) (As := [.int (zn)]) rfl rfl (by decide) (Nat.le_of_ble_eq_true rfl)
set_option maxHeartbeats 2000000 in
theorem ct_feedB0 {k : KX} {L : Nat → Option Sh} {S : StT} {n : Nat} {xo : Nat} {mg : Nat} {v : Int64} {nn : Nat} (hex : ∀ U, k_F k U → ExS k U) (hX : SuiteAt k L xo) (hmg : S.2.2 (xo + 2) 1 = nI mg) (hmg1 : mg ≤ 256) (hn1 : 1 ≤ nn) (hn8 : nn ≤ 8) (hfull : 256 < mg + nn) :
    CsT k yX11_feed cX11_feed 6 (some .int) 7 [.ref (k_b k + (xo)), .int (nI (0)), .long (v), .int (nI (nn))] (inst k L S.1 S.2.1 S.2.2) n "java/lang/IllegalStateException" := by
  refine ct_of (by decide) (Nat.le_of_ble_eq_true rfl) ?_
  intro X hXk C Th
  subst hXk
  have hX9 := hX
  obtain ⟨hX0, hx1, hx2, hx4, hx6, hx7, hx8, hx9, hx10, hx11, hg0, hg1, hg2, hg3, hhs, hall, hpl⟩ := hX9
  have hg09 := hg0
  obtain ⟨hg0a, hg0b⟩ := hg09
  have hg19 := hg1
  obtain ⟨hg1a, hg1b⟩ := hg19
  have hg29 := hg2
  obtain ⟨hg2a, hg2b⟩ := hg29
  have hg39 := hg3
  obtain ⟨hg3a, hg3b⟩ := hg39
  have hx29 := hx2
  obtain ⟨hx2a, hx2b⟩ := hx29
  have hx49 := hx4
  obtain ⟨hx4a, hx4b⟩ := hx49
  have hx119 := hx11
  obtain ⟨hx110, hx111, hx112, hx113⟩ := hx119
  refine rn_lv [(0, .ref (k_b X.1 + (xo))), (1, .int (nI (0))), (2, .long (v)), (4, .int (nI (nn)))] (fun q h => h) ?_
  refine rn_iload C dX11_feed_0 rfl ?_
  refine rs_sv C dX11_feed_2 mk_X11_requireByteCount ls_X11_90 (cv_rbc (a := nn) (by omega) (by omega)) rfl rfl (by decide) (Nat.le_of_ble_eq_true rfl) (by decide) (by decide) ?_
  refine rn_iload_n C dX11_feed_5 rfl ?_
  refine rn_if_eq (tgt := 16) C dX11_feed_6 (by decide) (fun hb => ?_) (fun hb => absurd (show (nI (0)) = 0 from by decide) hb)
  refine rn_aload_n C dX11_feed_16 rfl ?_
  refine rs_get C dX11_feed_17 fl_X11_18 hX0 rfl ?_
  refine rn_astore (lv' := [(0, _), (1, _), (2, _), (4, _), (5, _)]) C dX11_feed_20 (by decide) rfl ?_
  refine rn_aload C dX11_feed_22 rfl ?_
  refine rs_getFe C dX11_feed_24 fl_X11_61 hx2a rfl hmg ?_
  refine rn_aload C dX11_feed_27 rfl ?_
  refine rs_get C dX11_feed_29 fl_X11_58 hx2a rfl ?_
  refine rs_alenI C dX11_feed_32 hx2b ?_
  refine rn_iload C dX11_feed_33 rfl ?_
  refine rn_isub C dX11_feed_35 (pk_sub (by omega)) ?_
  refine rn_icmp_le (tgt := 49) C dX11_feed_36 (by decide) (fun hb => absurd hb (fun h => absurd ((nI_leI (by omega) (by omega)).mp h) (by omega))) (fun hb => ?_)
  exact rn_throwS C Th (Nat.le_refl _) (hex _ C.2.2.2.2.2.2.1.2.1) ((hex _ C.2.2.2.2.2.2.1.2.1).2.2.2 (109, "too many bytes") (by decide)) (by decide) xw_is dX11_feed_39 dX11_feed_42 dX11_feed_43 dX11_feed_45 dX11_feed_48 (by decide) (Nat.le_of_ble_eq_true rfl)
set_option maxHeartbeats 2000000 in
theorem ct_feedB1 {k : KX} {L : Nat → Option Sh} {S : StT} {n : Nat} {xo : Nat} {cx : Nat} {v : Int64} {nn : Nat} (hex : ∀ U, k_F k U → ExS k U) (hX : SuiteAt k L xo) (hcx : S.2.2 (xo + 4) 1 = nI cx) (hcx1 : cx ≤ 64) (hn1 : 1 ≤ nn) (hn8 : nn ≤ 8) (hfull : 64 < cx + nn) :
    CsT k yX11_feed cX11_feed 6 (some .int) 7 [.ref (k_b k + (xo)), .int (nI (1)), .long (v), .int (nI (nn))] (inst k L S.1 S.2.1 S.2.2) n "java/lang/IllegalStateException" := by
  refine ct_of (by decide) (Nat.le_of_ble_eq_true rfl) ?_
  intro X hXk C Th
  subst hXk
  have hX9 := hX
  obtain ⟨hX0, hx1, hx2, hx4, hx6, hx7, hx8, hx9, hx10, hx11, hg0, hg1, hg2, hg3, hhs, hall, hpl⟩ := hX9
  have hg09 := hg0
  obtain ⟨hg0a, hg0b⟩ := hg09
  have hg19 := hg1
  obtain ⟨hg1a, hg1b⟩ := hg19
  have hg29 := hg2
  obtain ⟨hg2a, hg2b⟩ := hg29
  have hg39 := hg3
  obtain ⟨hg3a, hg3b⟩ := hg39
  have hx29 := hx2
  obtain ⟨hx2a, hx2b⟩ := hx29
  have hx49 := hx4
  obtain ⟨hx4a, hx4b⟩ := hx49
  have hx119 := hx11
  obtain ⟨hx110, hx111, hx112, hx113⟩ := hx119
  refine rn_lv [(0, .ref (k_b X.1 + (xo))), (1, .int (nI (1))), (2, .long (v)), (4, .int (nI (nn)))] (fun q h => h) ?_
  refine rn_iload C dX11_feed_0 rfl ?_
  refine rs_sv C dX11_feed_2 mk_X11_requireByteCount ls_X11_90 (cv_rbc (a := nn) (by omega) (by omega)) rfl rfl (by decide) (Nat.le_of_ble_eq_true rfl) (by decide) (by decide) ?_
  refine rn_iload_n C dX11_feed_5 rfl ?_
  refine rn_if_eq (tgt := 16) C dX11_feed_6 (by decide) (fun hb => absurd hb (show ¬ (nI (1)) = 0 from by decide)) (fun hb => ?_)
  refine rn_aload_n C dX11_feed_9 rfl ?_
  refine rs_get C dX11_feed_10 fl_X11_22 hX0 rfl ?_
  refine rn_goto (tgt := 20) C dX11_feed_13 (by decide) ?_
  refine rn_astore (lv' := [(0, _), (1, _), (2, _), (4, _), (5, _)]) C dX11_feed_20 (by decide) rfl ?_
  refine rn_aload C dX11_feed_22 rfl ?_
  refine rs_getFe C dX11_feed_24 fl_X11_61 hx4a rfl hcx ?_
  refine rn_aload C dX11_feed_27 rfl ?_
  refine rs_get C dX11_feed_29 fl_X11_58 hx4a rfl ?_
  refine rs_alenI C dX11_feed_32 hx4b ?_
  refine rn_iload C dX11_feed_33 rfl ?_
  refine rn_isub C dX11_feed_35 (pk_sub (by omega)) ?_
  refine rn_icmp_le (tgt := 49) C dX11_feed_36 (by decide) (fun hb => absurd hb (fun h => absurd ((nI_leI (by omega) (by omega)).mp h) (by omega))) (fun hb => ?_)
  exact rn_throwS C Th (Nat.le_refl _) (hex _ C.2.2.2.2.2.2.1.2.1) ((hex _ C.2.2.2.2.2.2.1.2.1).2.2.2 (109, "too many bytes") (by decide)) (by decide) xw_is dX11_feed_39 dX11_feed_42 dX11_feed_43 dX11_feed_45 dX11_feed_48 (by decide) (Nat.le_of_ble_eq_true rfl)
set_option maxHeartbeats 2000000 in
theorem ct_moveA {k : KX} {L : Nat → Option Sh} {S : StT} {n : Nat} {xo : Nat} {zr : Int32} (hex : ∀ U, k_F k U → ExS k U) (hbad : zr < 0 ∨ ¬ zr ≤ nI 2) :
    CsT k yX11_move cX11_move 5 (some .int) 7 [.ref (k_b k + (xo)), .int (zr)] (inst k L S.1 S.2.1 S.2.2) n "java/lang/IllegalArgumentException" := by
  refine ct_of (by decide) (Nat.le_of_ble_eq_true rfl) ?_
  intro X hXk C Th
  subst hXk
  refine rn_lv [(0, .ref (k_b X.1 + (xo))), (1, .int (zr))] (fun q h => h) ?_
  refine rn_iload_n C dX11_move_0 rfl ?_
  exact rn_callST C Th (Nat.le_refl _) dX11_move_1 mk_X11_requireFixedRegister ls_X11_93 (ct_rfr hex hbad) (As := [.int (zr)]) rfl rfl (by decide) (Nat.le_of_ble_eq_true rfl)
set_option maxHeartbeats 2000000 in
theorem ct_lookA {k : KX} {L : Nat → Option Sh} {S : StT} {n : Nat} {xo : Nat} {zr : Int32} {zk : Int32} (hex : ∀ U, k_F k U → ExS k U) (hbad : zr < 0 ∨ ¬ zr ≤ nI 3) :
    CsT k yX11_look cX11_look 4 (some .int) 7 [.ref (k_b k + (xo)), .int (zr), .int (zk)] (inst k L S.1 S.2.1 S.2.2) n "java/lang/IllegalArgumentException" := by
  refine ct_of (by decide) (Nat.le_of_ble_eq_true rfl) ?_
  intro X hXk C Th
  subst hXk
  refine rn_lv [(0, .ref (k_b X.1 + (xo))), (1, .int (zr)), (2, .int (zk))] (fun q h => h) ?_
  refine rn_iload_n C dX11_look_0 rfl ?_
  refine rn_if_lt (tgt := 9) C dX11_look_1 (by decide) (fun h1 => ?_) (fun h1 => ?_)
  · skip
    exact rn_throwS C Th (Nat.le_refl _) (hex _ C.2.2.2.2.2.2.1.2.1) ((hex _ C.2.2.2.2.2.2.1.2.1).2.2.2 (126, "no such register") (by decide)) (by decide) xw_ia dX11_look_9 dX11_look_12 dX11_look_13 dX11_look_15 dX11_look_18 (by decide) (Nat.le_of_ble_eq_true rfl)
  refine rn_iload_n C dX11_look_4 rfl ?_
  refine rn_iconst (v := nI 3) C dX11_look_5 rfl ?_
  refine rn_icmp_le (tgt := 19) C dX11_look_6 (by decide) (fun h2 => hbad.elim (fun h => absurd h h1) (fun h => absurd h2 h)) (fun h2 => ?_)
  exact rn_throwS C Th (Nat.le_refl _) (hex _ C.2.2.2.2.2.2.1.2.1) ((hex _ C.2.2.2.2.2.2.1.2.1).2.2.2 (126, "no such register") (by decide)) (by decide) xw_ia dX11_look_9 dX11_look_12 dX11_look_13 dX11_look_15 dX11_look_18 (by decide) (Nat.le_of_ble_eq_true rfl)
set_option maxHeartbeats 2000000 in
theorem ct_lookB0 {k : KX} {L : Nat → Option Sh} {S : StT} {n : Nat} {xo : Nat} {zk : Int32} (hex : ∀ U, k_F k U → ExS k U) (hX : SuiteAt k L xo) (hgn0 : S.2.2 (xo + 15 + 2 * 0) 1 = nI 57) (hbad : zk < 0 ∨ ¬ zk < nI 57) :
    CsT k yX11_look cX11_look 4 (some .int) 7 [.ref (k_b k + (xo)), .int (nI (0)), .int (zk)] (inst k L S.1 S.2.1 S.2.2) n "java/lang/IndexOutOfBoundsException" := by
  refine ct_of (by decide) (Nat.le_of_ble_eq_true rfl) ?_
  intro X hXk C Th
  subst hXk
  have hX9 := hX
  obtain ⟨hX0, hx1, hx2, hx4, hx6, hx7, hx8, hx9, hx10, hx11, hg0, hg1, hg2, hg3, hhs, hall, hpl⟩ := hX9
  have hg09 := hg0
  obtain ⟨hg0a, hg0b⟩ := hg09
  have hg19 := hg1
  obtain ⟨hg1a, hg1b⟩ := hg19
  have hg29 := hg2
  obtain ⟨hg2a, hg2b⟩ := hg29
  have hg39 := hg3
  obtain ⟨hg3a, hg3b⟩ := hg39
  have hx29 := hx2
  obtain ⟨hx2a, hx2b⟩ := hx29
  have hx49 := hx4
  obtain ⟨hx4a, hx4b⟩ := hx49
  have hx119 := hx11
  obtain ⟨hx110, hx111, hx112, hx113⟩ := hx119
  refine rn_lv [(0, .ref (k_b X.1 + (xo))), (1, .int (nI (0))), (2, .int (zk))] (fun q h => h) ?_
  refine rn_iload_n C dX11_look_0 rfl ?_
  refine rn_if_lt (tgt := 9) C dX11_look_1 (by decide) (fun hb => absurd hb (show ¬ (nI (0)) < 0 from by decide)) (fun hb => ?_)
  refine rn_iload_n C dX11_look_4 rfl ?_
  refine rn_iconst (v := nI 3) C dX11_look_5 rfl ?_
  refine rn_icmp_le (tgt := 19) C dX11_look_6 (by decide) (fun hb => ?_) (fun hb => absurd (show (nI (0)) ≤ (nI (3)) from by decide) hb)
  refine rn_aload_n C dX11_look_19 rfl ?_
  refine rs_get C dX11_look_20 fl_X11_11 hX0 rfl ?_
  refine rn_iload_n C dX11_look_23 rfl ?_
  refine rs_aaload C dX11_look_24 hx1 rfl rfl (by decide) (by decide) (if_pos (by decide)) ?_
  refine rn_astore_n (lv' := [(0, _), (1, _), (2, _), (3, _)]) C dX11_look_25 (by decide) rfl ?_
  refine rn_iload_n C dX11_look_26 rfl ?_
  refine rn_if_lt (tgt := 38) C dX11_look_27 (by decide) (fun h1 => ?_) (fun h1 => ?_)
  · skip
    exact rn_throwS C Th (Nat.le_refl _) (hex _ C.2.2.2.2.2.2.1.2.1) ((hex _ C.2.2.2.2.2.2.1.2.1).2.2.2 (129, "no such byte") (by decide)) (by decide) xw_io dX11_look_38 dX11_look_41 dX11_look_42 dX11_look_44 dX11_look_47 (by decide) (Nat.le_of_ble_eq_true rfl)
  refine rn_iload_n C dX11_look_30 rfl ?_
  refine rn_aload_n C dX11_look_31 rfl ?_
  refine rs_getFe C dX11_look_32 fl_X11_61 hg0a rfl hgn0 ?_
  refine rn_icmp_lt (tgt := 48) C dX11_look_35 (by decide) (fun h2 => hbad.elim (fun h => absurd h h1) (fun h => absurd h2 h)) (fun h2 => ?_)
  exact rn_throwS C Th (Nat.le_refl _) (hex _ C.2.2.2.2.2.2.1.2.1) ((hex _ C.2.2.2.2.2.2.1.2.1).2.2.2 (129, "no such byte") (by decide)) (by decide) xw_io dX11_look_38 dX11_look_41 dX11_look_42 dX11_look_44 dX11_look_47 (by decide) (Nat.le_of_ble_eq_true rfl)
set_option maxHeartbeats 2000000 in
theorem ct_lookB1 {k : KX} {L : Nat → Option Sh} {S : StT} {n : Nat} {xo : Nat} {zk : Int32} (hex : ∀ U, k_F k U → ExS k U) (hX : SuiteAt k L xo) (hgn1 : S.2.2 (xo + 15 + 2 * 1) 1 = nI 57) (hbad : zk < 0 ∨ ¬ zk < nI 57) :
    CsT k yX11_look cX11_look 4 (some .int) 7 [.ref (k_b k + (xo)), .int (nI (1)), .int (zk)] (inst k L S.1 S.2.1 S.2.2) n "java/lang/IndexOutOfBoundsException" := by
  refine ct_of (by decide) (Nat.le_of_ble_eq_true rfl) ?_
  intro X hXk C Th
  subst hXk
  have hX9 := hX
  obtain ⟨hX0, hx1, hx2, hx4, hx6, hx7, hx8, hx9, hx10, hx11, hg0, hg1, hg2, hg3, hhs, hall, hpl⟩ := hX9
  have hg09 := hg0
  obtain ⟨hg0a, hg0b⟩ := hg09
  have hg19 := hg1
  obtain ⟨hg1a, hg1b⟩ := hg19
  have hg29 := hg2
  obtain ⟨hg2a, hg2b⟩ := hg29
  have hg39 := hg3
  obtain ⟨hg3a, hg3b⟩ := hg39
  have hx29 := hx2
  obtain ⟨hx2a, hx2b⟩ := hx29
  have hx49 := hx4
  obtain ⟨hx4a, hx4b⟩ := hx49
  have hx119 := hx11
  obtain ⟨hx110, hx111, hx112, hx113⟩ := hx119
  refine rn_lv [(0, .ref (k_b X.1 + (xo))), (1, .int (nI (1))), (2, .int (zk))] (fun q h => h) ?_
  refine rn_iload_n C dX11_look_0 rfl ?_
  refine rn_if_lt (tgt := 9) C dX11_look_1 (by decide) (fun hb => absurd hb (show ¬ (nI (1)) < 0 from by decide)) (fun hb => ?_)
  refine rn_iload_n C dX11_look_4 rfl ?_
  refine rn_iconst (v := nI 3) C dX11_look_5 rfl ?_
  refine rn_icmp_le (tgt := 19) C dX11_look_6 (by decide) (fun hb => ?_) (fun hb => absurd (show (nI (1)) ≤ (nI (3)) from by decide) hb)
  refine rn_aload_n C dX11_look_19 rfl ?_
  refine rs_get C dX11_look_20 fl_X11_11 hX0 rfl ?_
  refine rn_iload_n C dX11_look_23 rfl ?_
  refine rs_aaload C dX11_look_24 hx1 rfl rfl (by decide) (by decide) (if_pos (by decide)) ?_
  refine rn_astore_n (lv' := [(0, _), (1, _), (2, _), (3, _)]) C dX11_look_25 (by decide) rfl ?_
  refine rn_iload_n C dX11_look_26 rfl ?_
  refine rn_if_lt (tgt := 38) C dX11_look_27 (by decide) (fun h1 => ?_) (fun h1 => ?_)
  · skip
    exact rn_throwS C Th (Nat.le_refl _) (hex _ C.2.2.2.2.2.2.1.2.1) ((hex _ C.2.2.2.2.2.2.1.2.1).2.2.2 (129, "no such byte") (by decide)) (by decide) xw_io dX11_look_38 dX11_look_41 dX11_look_42 dX11_look_44 dX11_look_47 (by decide) (Nat.le_of_ble_eq_true rfl)
  refine rn_iload_n C dX11_look_30 rfl ?_
  refine rn_aload_n C dX11_look_31 rfl ?_
  refine rs_getFe C dX11_look_32 fl_X11_61 hg1a rfl hgn1 ?_
  refine rn_icmp_lt (tgt := 48) C dX11_look_35 (by decide) (fun h2 => hbad.elim (fun h => absurd h h1) (fun h => absurd h2 h)) (fun h2 => ?_)
  exact rn_throwS C Th (Nat.le_refl _) (hex _ C.2.2.2.2.2.2.1.2.1) ((hex _ C.2.2.2.2.2.2.1.2.1).2.2.2 (129, "no such byte") (by decide)) (by decide) xw_io dX11_look_38 dX11_look_41 dX11_look_42 dX11_look_44 dX11_look_47 (by decide) (Nat.le_of_ble_eq_true rfl)
set_option maxHeartbeats 2000000 in
theorem ct_lookB2 {k : KX} {L : Nat → Option Sh} {S : StT} {n : Nat} {xo : Nat} {zk : Int32} (hex : ∀ U, k_F k U → ExS k U) (hX : SuiteAt k L xo) (hgn2 : S.2.2 (xo + 15 + 2 * 2) 1 = nI 114) (hbad : zk < 0 ∨ ¬ zk < nI 114) :
    CsT k yX11_look cX11_look 4 (some .int) 7 [.ref (k_b k + (xo)), .int (nI (2)), .int (zk)] (inst k L S.1 S.2.1 S.2.2) n "java/lang/IndexOutOfBoundsException" := by
  refine ct_of (by decide) (Nat.le_of_ble_eq_true rfl) ?_
  intro X hXk C Th
  subst hXk
  have hX9 := hX
  obtain ⟨hX0, hx1, hx2, hx4, hx6, hx7, hx8, hx9, hx10, hx11, hg0, hg1, hg2, hg3, hhs, hall, hpl⟩ := hX9
  have hg09 := hg0
  obtain ⟨hg0a, hg0b⟩ := hg09
  have hg19 := hg1
  obtain ⟨hg1a, hg1b⟩ := hg19
  have hg29 := hg2
  obtain ⟨hg2a, hg2b⟩ := hg29
  have hg39 := hg3
  obtain ⟨hg3a, hg3b⟩ := hg39
  have hx29 := hx2
  obtain ⟨hx2a, hx2b⟩ := hx29
  have hx49 := hx4
  obtain ⟨hx4a, hx4b⟩ := hx49
  have hx119 := hx11
  obtain ⟨hx110, hx111, hx112, hx113⟩ := hx119
  refine rn_lv [(0, .ref (k_b X.1 + (xo))), (1, .int (nI (2))), (2, .int (zk))] (fun q h => h) ?_
  refine rn_iload_n C dX11_look_0 rfl ?_
  refine rn_if_lt (tgt := 9) C dX11_look_1 (by decide) (fun hb => absurd hb (show ¬ (nI (2)) < 0 from by decide)) (fun hb => ?_)
  refine rn_iload_n C dX11_look_4 rfl ?_
  refine rn_iconst (v := nI 3) C dX11_look_5 rfl ?_
  refine rn_icmp_le (tgt := 19) C dX11_look_6 (by decide) (fun hb => ?_) (fun hb => absurd (show (nI (2)) ≤ (nI (3)) from by decide) hb)
  refine rn_aload_n C dX11_look_19 rfl ?_
  refine rs_get C dX11_look_20 fl_X11_11 hX0 rfl ?_
  refine rn_iload_n C dX11_look_23 rfl ?_
  refine rs_aaload C dX11_look_24 hx1 rfl rfl (by decide) (by decide) (if_pos (by decide)) ?_
  refine rn_astore_n (lv' := [(0, _), (1, _), (2, _), (3, _)]) C dX11_look_25 (by decide) rfl ?_
  refine rn_iload_n C dX11_look_26 rfl ?_
  refine rn_if_lt (tgt := 38) C dX11_look_27 (by decide) (fun h1 => ?_) (fun h1 => ?_)
  · skip
    exact rn_throwS C Th (Nat.le_refl _) (hex _ C.2.2.2.2.2.2.1.2.1) ((hex _ C.2.2.2.2.2.2.1.2.1).2.2.2 (129, "no such byte") (by decide)) (by decide) xw_io dX11_look_38 dX11_look_41 dX11_look_42 dX11_look_44 dX11_look_47 (by decide) (Nat.le_of_ble_eq_true rfl)
  refine rn_iload_n C dX11_look_30 rfl ?_
  refine rn_aload_n C dX11_look_31 rfl ?_
  refine rs_getFe C dX11_look_32 fl_X11_61 hg2a rfl hgn2 ?_
  refine rn_icmp_lt (tgt := 48) C dX11_look_35 (by decide) (fun h2 => hbad.elim (fun h => absurd h h1) (fun h => absurd h2 h)) (fun h2 => ?_)
  exact rn_throwS C Th (Nat.le_refl _) (hex _ C.2.2.2.2.2.2.1.2.1) ((hex _ C.2.2.2.2.2.2.1.2.1).2.2.2 (129, "no such byte") (by decide)) (by decide) xw_io dX11_look_38 dX11_look_41 dX11_look_42 dX11_look_44 dX11_look_47 (by decide) (Nat.le_of_ble_eq_true rfl)
set_option maxHeartbeats 2000000 in
theorem ct_lookB3 {k : KX} {L : Nat → Option Sh} {S : StT} {n : Nat} {xo : Nat} {zk : Int32} {ou : Nat} (hex : ∀ U, k_F k U → ExS k U) (hX : SuiteAt k L xo) (hou : S.2.2 (xo + 15 + 2 * 3) 1 = nI ou) (hou1 : ou ≤ 114) (hbad : zk < 0 ∨ ¬ zk < nI ou) :
    CsT k yX11_look cX11_look 4 (some .int) 7 [.ref (k_b k + (xo)), .int (nI (3)), .int (zk)] (inst k L S.1 S.2.1 S.2.2) n "java/lang/IndexOutOfBoundsException" := by
  refine ct_of (by decide) (Nat.le_of_ble_eq_true rfl) ?_
  intro X hXk C Th
  subst hXk
  have hX9 := hX
  obtain ⟨hX0, hx1, hx2, hx4, hx6, hx7, hx8, hx9, hx10, hx11, hg0, hg1, hg2, hg3, hhs, hall, hpl⟩ := hX9
  have hg09 := hg0
  obtain ⟨hg0a, hg0b⟩ := hg09
  have hg19 := hg1
  obtain ⟨hg1a, hg1b⟩ := hg19
  have hg29 := hg2
  obtain ⟨hg2a, hg2b⟩ := hg29
  have hg39 := hg3
  obtain ⟨hg3a, hg3b⟩ := hg39
  have hx29 := hx2
  obtain ⟨hx2a, hx2b⟩ := hx29
  have hx49 := hx4
  obtain ⟨hx4a, hx4b⟩ := hx49
  have hx119 := hx11
  obtain ⟨hx110, hx111, hx112, hx113⟩ := hx119
  refine rn_lv [(0, .ref (k_b X.1 + (xo))), (1, .int (nI (3))), (2, .int (zk))] (fun q h => h) ?_
  refine rn_iload_n C dX11_look_0 rfl ?_
  refine rn_if_lt (tgt := 9) C dX11_look_1 (by decide) (fun hb => absurd hb (show ¬ (nI (3)) < 0 from by decide)) (fun hb => ?_)
  refine rn_iload_n C dX11_look_4 rfl ?_
  refine rn_iconst (v := nI 3) C dX11_look_5 rfl ?_
  refine rn_icmp_le (tgt := 19) C dX11_look_6 (by decide) (fun hb => ?_) (fun hb => absurd (show (nI (3)) ≤ (nI (3)) from by decide) hb)
  refine rn_aload_n C dX11_look_19 rfl ?_
  refine rs_get C dX11_look_20 fl_X11_11 hX0 rfl ?_
  refine rn_iload_n C dX11_look_23 rfl ?_
  refine rs_aaload C dX11_look_24 hx1 rfl rfl (by decide) (by decide) (if_pos (by decide)) ?_
  refine rn_astore_n (lv' := [(0, _), (1, _), (2, _), (3, _)]) C dX11_look_25 (by decide) rfl ?_
  refine rn_iload_n C dX11_look_26 rfl ?_
  refine rn_if_lt (tgt := 38) C dX11_look_27 (by decide) (fun h1 => ?_) (fun h1 => ?_)
  · skip
    exact rn_throwS C Th (Nat.le_refl _) (hex _ C.2.2.2.2.2.2.1.2.1) ((hex _ C.2.2.2.2.2.2.1.2.1).2.2.2 (129, "no such byte") (by decide)) (by decide) xw_io dX11_look_38 dX11_look_41 dX11_look_42 dX11_look_44 dX11_look_47 (by decide) (Nat.le_of_ble_eq_true rfl)
  refine rn_iload_n C dX11_look_30 rfl ?_
  refine rn_aload_n C dX11_look_31 rfl ?_
  refine rs_getFe C dX11_look_32 fl_X11_61 hg3a rfl hou ?_
  refine rn_icmp_lt (tgt := 48) C dX11_look_35 (by decide) (fun h2 => hbad.elim (fun h => absurd h h1) (fun h => absurd h2 h)) (fun h2 => ?_)
  exact rn_throwS C Th (Nat.le_refl _) (hex _ C.2.2.2.2.2.2.1.2.1) ((hex _ C.2.2.2.2.2.2.1.2.1).2.2.2 (129, "no such byte") (by decide)) (by decide) xw_io dX11_look_38 dX11_look_41 dX11_look_42 dX11_look_44 dX11_look_47 (by decide) (Nat.le_of_ble_eq_true rfl)
set_option maxHeartbeats 2000000 in
theorem ct_hashA {k : KX} {L : Nat → Option Sh} {S : StT} {n : Nat} {xo : Nat} {zn : Int32} (hex : ∀ U, k_F k U → ExS k U) (hbad : zn < 0 ∨ ¬ zn ≤ nI 114) :
    CsT k yX11_hash cX11_hash 5 none 7 [.ref (k_b k + (xo)), .int (nI (1)), .int (zn)] (inst k L S.1 S.2.1 S.2.2) n "java/lang/IllegalArgumentException" := by
  refine ct_of (by decide) (Nat.le_of_ble_eq_true rfl) ?_
  intro X hXk C Th
  subst hXk
  refine rn_lv [(0, .ref (k_b X.1 + (xo))), (1, .int (nI (1))), (2, .int (zn))] (fun q h => h) ?_
  refine rn_iload_n C dX11_hash_0 rfl ?_
  refine rn_if_eq (tgt := 24) C dX11_hash_1 (by decide) (fun hb => absurd hb (show ¬ (nI (1)) = 0 from by decide)) (fun hb => ?_)
  refine rn_iload_n C dX11_hash_4 rfl ?_
  refine rn_if_lt (tgt := 14) C dX11_hash_5 (by decide) (fun h1 => ?_) (fun h1 => ?_)
  · skip
    exact rn_throwS C Th (Nat.le_refl _) (hex _ C.2.2.2.2.2.2.1.2.1) ((hex _ C.2.2.2.2.2.2.1.2.1).2.2.2 (131, "no such number of bytes") (by decide)) (by decide) xw_ia dX11_hash_14 dX11_hash_17 dX11_hash_18 dX11_hash_20 dX11_hash_23 (by decide) (Nat.le_of_ble_eq_true rfl)
  refine rn_iload_n C dX11_hash_8 rfl ?_
  refine rn_bipush (v := nI 114) C dX11_hash_9 rfl ?_
  refine rn_icmp_le (tgt := 24) C dX11_hash_11 (by decide) (fun h2 => hbad.elim (fun h => absurd h h1) (fun h => absurd h2 h)) (fun h2 => ?_)
  exact rn_throwS C Th (Nat.le_refl _) (hex _ C.2.2.2.2.2.2.1.2.1) ((hex _ C.2.2.2.2.2.2.1.2.1).2.2.2 (131, "no such number of bytes") (by decide)) (by decide) xw_ia dX11_hash_14 dX11_hash_17 dX11_hash_18 dX11_hash_20 dX11_hash_23 (by decide) (Nat.le_of_ble_eq_true rfl)
set_option maxHeartbeats 2000000 in
theorem ct_agreeA {k : KX} {L : Nat → Option Sh} {S : StT} {n : Nat} {xo : Nat} {zc : Int32} {zb : Int32} (hex : ∀ U, k_F k U → ExS k U) (hbad : zc < 0 ∨ ¬ zc < nI 2) :
    CsT k yX11_agree cX11_agree 5 (some .boolean) 7 [.ref (k_b k + (xo)), .int (zc), .int (zb)] (inst k L S.1 S.2.1 S.2.2) n "java/lang/IllegalArgumentException" := by
  refine ct_of (by decide) (Nat.le_of_ble_eq_true rfl) ?_
  intro X hXk C Th
  subst hXk
  refine rn_lv [(0, .ref (k_b X.1 + (xo))), (1, .int (zc)), (2, .int (zb))] (fun q h => h) ?_
  refine rn_iload_n C dX11_agree_0 rfl ?_
  exact rn_callST C Th (Nat.le_refl _) dX11_agree_1 mk_X11_requireCurve ls_X11_139 (ct_rcu hex hbad) (As := [.int (zc)]) rfl rfl (by decide) (Nat.le_of_ble_eq_true rfl)
set_option maxHeartbeats 2000000 in
theorem ct_deriveA {k : KX} {L : Nat → Option Sh} {S : StT} {n : Nat} {xo : Nat} {zc : Int32} (hex : ∀ U, k_F k U → ExS k U) (hbad : zc < 0 ∨ ¬ zc < nI 2) :
    CsT k yX11_derive cX11_derive 3 none 7 [.ref (k_b k + (xo)), .int (zc)] (inst k L S.1 S.2.1 S.2.2) n "java/lang/IllegalArgumentException" := by
  refine ct_of (by decide) (Nat.le_of_ble_eq_true rfl) ?_
  intro X hXk C Th
  subst hXk
  refine rn_lv [(0, .ref (k_b X.1 + (xo))), (1, .int (zc))] (fun q h => h) ?_
  refine rn_iload_n C dX11_derive_0 rfl ?_
  exact rn_callST C Th (Nat.le_refl _) dX11_derive_1 mk_X11_requireCurve ls_X11_139 (ct_rcu hex hbad) (As := [.int (zc)]) rfl rfl (by decide) (Nat.le_of_ble_eq_true rfl)
set_option maxHeartbeats 2000000 in
theorem ct_signA {k : KX} {L : Nat → Option Sh} {S : StT} {n : Nat} {xo : Nat} {zc : Int32} {zb : Int32} (hex : ∀ U, k_F k U → ExS k U) (hbad : zc < 0 ∨ ¬ zc < nI 2) :
    CsT k yX11_sign cX11_sign 4 none 7 [.ref (k_b k + (xo)), .int (zc), .int (zb)] (inst k L S.1 S.2.1 S.2.2) n "java/lang/IllegalArgumentException" := by
  refine ct_of (by decide) (Nat.le_of_ble_eq_true rfl) ?_
  intro X hXk C Th
  subst hXk
  refine rn_lv [(0, .ref (k_b X.1 + (xo))), (1, .int (zc)), (2, .int (zb))] (fun q h => h) ?_
  refine rn_iload_n C dX11_sign_0 rfl ?_
  exact rn_callST C Th (Nat.le_refl _) dX11_sign_1 mk_X11_requireCurve ls_X11_139 (ct_rcu hex hbad) (As := [.int (zc)]) rfl rfl (by decide) (Nat.le_of_ble_eq_true rfl)
set_option maxHeartbeats 2000000 in
theorem ct_verifyA {k : KX} {L : Nat → Option Sh} {S : StT} {n : Nat} {xo : Nat} {zc : Int32} {zb : Int32} (hex : ∀ U, k_F k U → ExS k U) (hbad : zc < 0 ∨ ¬ zc < nI 2) :
    CsT k yX11_verify cX11_verify 3 (some .boolean) 7 [.ref (k_b k + (xo)), .int (zc), .int (zb)] (inst k L S.1 S.2.1 S.2.2) n "java/lang/IllegalArgumentException" := by
  refine ct_of (by decide) (Nat.le_of_ble_eq_true rfl) ?_
  intro X hXk C Th
  subst hXk
  refine rn_lv [(0, .ref (k_b X.1 + (xo))), (1, .int (zc)), (2, .int (zb))] (fun q h => h) ?_
  refine rn_iload_n C dX11_verify_0 rfl ?_
  exact rn_callST C Th (Nat.le_refl _) dX11_verify_1 mk_X11_requireCurve ls_X11_139 (ct_rcu hex hbad) (As := [.int (zc)]) rfl rfl (by decide) (Nat.le_of_ble_eq_true rfl)
set_option maxHeartbeats 2000000 in
theorem ct_pointA {k : KX} {L : Nat → Option Sh} {S : StT} {n : Nat} {xo : Nat} {zc : Int32} {zp : Int32} (hex : ∀ U, k_F k U → ExS k U) (hbad : zc < 0 ∨ ¬ zc < nI 2) :
    CsT k yX11_point cX11_point 3 (some .boolean) 7 [.ref (k_b k + (xo)), .int (zc), .int (zp)] (inst k L S.1 S.2.1 S.2.2) n "java/lang/IllegalArgumentException" := by
  refine ct_of (by decide) (Nat.le_of_ble_eq_true rfl) ?_
  intro X hXk C Th
  subst hXk
  refine rn_lv [(0, .ref (k_b X.1 + (xo))), (1, .int (zc)), (2, .int (zp))] (fun q h => h) ?_
  refine rn_iload_n C dX11_point_0 rfl ?_
  exact rn_callST C Th (Nat.le_refl _) dX11_point_1 mk_X11_requireCurve ls_X11_139 (ct_rcu hex hbad) (As := [.int (zc)]) rfl rfl (by decide) (Nat.le_of_ble_eq_true rfl)
set_option maxHeartbeats 2000000 in
theorem ct_pointB {k : KX} {L : Nat → Option Sh} {S : StT} {n : Nat} {c : Bool} {xo : Nat} {zp : Int32} (hex : ∀ U, k_F k U → ExS k U) (hbad : zp < 0 ∨ ¬ zp < nI 3) :
    CsT k yX11_point cX11_point 3 (some .boolean) 7 [.ref (k_b k + (xo)), .int (nI (bN c)), .int (zp)] (inst k L S.1 S.2.1 S.2.2) n "java/lang/IllegalArgumentException" := by
  refine ct_of (by decide) (Nat.le_of_ble_eq_true rfl) ?_
  intro X hXk C Th
  subst hXk
  have hbn := bN_le c
  refine rn_lv [(0, .ref (k_b X.1 + (xo))), (1, .int (nI (bN c))), (2, .int (zp))] (fun q h => h) ?_
  refine rn_iload_n C dX11_point_0 rfl ?_
  refine rs_sv C dX11_point_1 mk_X11_requireCurve ls_X11_139 (cv_rcu (a := bN c) (by omega)) rfl rfl (by decide) (Nat.le_of_ble_eq_true rfl) (by decide) (by decide) ?_
  refine rn_iload_n C dX11_point_4 rfl ?_
  exact rn_callST C Th (Nat.le_refl _) dX11_point_5 mk_X11_requirePlace ls_X11_173 (ct_rpl hex hbad) (As := [.int (zp)]) rfl rfl (by decide) (Nat.le_of_ble_eq_true rfl)
set_option maxHeartbeats 2000000 in
theorem ct_addA {k : KX} {L : Nat → Option Sh} {S : StT} {n : Nat} {xo : Nat} {zt : Int32} {za : Int32} {zb : Int32} {zl : Int32} (hex : ∀ U, k_F k U → ExS k U) (hbad : zt < 0 ∨ ¬ zt < nI 3) :
    CsT k yX11_add cX11_add 7 none 7 [.ref (k_b k + (xo)), .int (zt), .int (za), .int (zb), .int (zl)] (inst k L S.1 S.2.1 S.2.2) n "java/lang/IllegalArgumentException" := by
  refine ct_of (by decide) (Nat.le_of_ble_eq_true rfl) ?_
  intro X hXk C Th
  subst hXk
  refine rn_lv [(0, .ref (k_b X.1 + (xo))), (1, .int (zt)), (2, .int (za)), (3, .int (zb)), (4, .int (zl))] (fun q h => h) ?_
  refine rn_iload_n C dX11_add_0 rfl ?_
  exact rn_callST C Th (Nat.le_refl _) dX11_add_1 mk_X11_requirePlace ls_X11_173 (ct_rpl hex hbad) (As := [.int (zt)]) rfl rfl (by decide) (Nat.le_of_ble_eq_true rfl)
set_option maxHeartbeats 2000000 in
theorem ct_addB {k : KX} {L : Nat → Option Sh} {S : StT} {n : Nat} {xo : Nat} {to : Nat} {za : Int32} {zb : Int32} {zl : Int32} (hex : ∀ U, k_F k U → ExS k U) (hto3 : to < 3) (hbad : za < 0 ∨ ¬ za < nI 3) :
    CsT k yX11_add cX11_add 7 none 7 [.ref (k_b k + (xo)), .int (nI (to)), .int (za), .int (zb), .int (zl)] (inst k L S.1 S.2.1 S.2.2) n "java/lang/IllegalArgumentException" := by
  refine ct_of (by decide) (Nat.le_of_ble_eq_true rfl) ?_
  intro X hXk C Th
  subst hXk
  refine rn_lv [(0, .ref (k_b X.1 + (xo))), (1, .int (nI (to))), (2, .int (za)), (3, .int (zb)), (4, .int (zl))] (fun q h => h) ?_
  refine rn_iload_n C dX11_add_0 rfl ?_
  refine rs_sv C dX11_add_1 mk_X11_requirePlace ls_X11_173 (cv_rpl (a := to) (by omega)) rfl rfl (by decide) (Nat.le_of_ble_eq_true rfl) (by decide) (by decide) ?_
  refine rn_iload_n C dX11_add_4 rfl ?_
  exact rn_callST C Th (Nat.le_refl _) dX11_add_5 mk_X11_requirePlace ls_X11_173 (ct_rpl hex hbad) (As := [.int (za)]) rfl rfl (by decide) (Nat.le_of_ble_eq_true rfl)
set_option maxHeartbeats 2000000 in
theorem ct_addC {k : KX} {L : Nat → Option Sh} {S : StT} {n : Nat} {xo : Nat} {to : Nat} {a : Nat} {zb : Int32} {zl : Int32} (hex : ∀ U, k_F k U → ExS k U) (hto3 : to < 3) (ha3 : a < 3) (hbad : zb < 0 ∨ ¬ zb < nI 3) :
    CsT k yX11_add cX11_add 7 none 7 [.ref (k_b k + (xo)), .int (nI (to)), .int (nI (a)), .int (zb), .int (zl)] (inst k L S.1 S.2.1 S.2.2) n "java/lang/IllegalArgumentException" := by
  refine ct_of (by decide) (Nat.le_of_ble_eq_true rfl) ?_
  intro X hXk C Th
  subst hXk
  refine rn_lv [(0, .ref (k_b X.1 + (xo))), (1, .int (nI (to))), (2, .int (nI (a))), (3, .int (zb)), (4, .int (zl))] (fun q h => h) ?_
  refine rn_iload_n C dX11_add_0 rfl ?_
  refine rs_sv C dX11_add_1 mk_X11_requirePlace ls_X11_173 (cv_rpl (a := to) (by omega)) rfl rfl (by decide) (Nat.le_of_ble_eq_true rfl) (by decide) (by decide) ?_
  refine rn_iload_n C dX11_add_4 rfl ?_
  refine rs_sv C dX11_add_5 mk_X11_requirePlace ls_X11_173 (cv_rpl (a := a) (by omega)) rfl rfl (by decide) (Nat.le_of_ble_eq_true rfl) (by decide) (by decide) ?_
  refine rn_iload_n C dX11_add_8 rfl ?_
  exact rn_callST C Th (Nat.le_refl _) dX11_add_9 mk_X11_requirePlace ls_X11_173 (ct_rpl hex hbad) (As := [.int (zb)]) rfl rfl (by decide) (Nat.le_of_ble_eq_true rfl)
set_option maxHeartbeats 2000000 in
theorem ct_addD {k : KX} {L : Nat → Option Sh} {S : StT} {n : Nat} {xo : Nat} {to : Nat} {a : Nat} {b : Nat} {zl : Int32} (hex : ∀ U, k_F k U → ExS k U) (hX : SuiteAt k L xo) (hto3 : to < 3) (ha3 : a < 3) (hb3 : b < 3) (hne : ¬ S.1 (xo + 10) a = S.1 (xo + 10) b) :
    CsT k yX11_add cX11_add 7 none 7 [.ref (k_b k + (xo)), .int (nI (to)), .int (nI (a)), .int (nI (b)), .int (zl)] (inst k L S.1 S.2.1 S.2.2) n "java/lang/IllegalStateException" := by
  refine ct_of (by decide) (Nat.le_of_ble_eq_true rfl) ?_
  intro X hXk C Th
  subst hXk
  have hX9 := hX
  obtain ⟨hX0, hx1, hx2, hx4, hx6, hx7, hx8, hx9, hx10, hx11, hg0, hg1, hg2, hg3, hhs, hall, hpl⟩ := hX9
  have hg09 := hg0
  obtain ⟨hg0a, hg0b⟩ := hg09
  have hg19 := hg1
  obtain ⟨hg1a, hg1b⟩ := hg19
  have hg29 := hg2
  obtain ⟨hg2a, hg2b⟩ := hg29
  have hg39 := hg3
  obtain ⟨hg3a, hg3b⟩ := hg39
  have hx29 := hx2
  obtain ⟨hx2a, hx2b⟩ := hx29
  have hx49 := hx4
  obtain ⟨hx4a, hx4b⟩ := hx49
  have hx119 := hx11
  obtain ⟨hx110, hx111, hx112, hx113⟩ := hx119
  refine rn_lv [(0, .ref (k_b X.1 + (xo))), (1, .int (nI (to))), (2, .int (nI (a))), (3, .int (nI (b))), (4, .int (zl))] (fun q h => h) ?_
  refine rn_iload_n C dX11_add_0 rfl ?_
  refine rs_sv C dX11_add_1 mk_X11_requirePlace ls_X11_173 (cv_rpl (a := to) (by omega)) rfl rfl (by decide) (Nat.le_of_ble_eq_true rfl) (by decide) (by decide) ?_
  refine rn_iload_n C dX11_add_4 rfl ?_
  refine rs_sv C dX11_add_5 mk_X11_requirePlace ls_X11_173 (cv_rpl (a := a) (by omega)) rfl rfl (by decide) (Nat.le_of_ble_eq_true rfl) (by decide) (by decide) ?_
  refine rn_iload_n C dX11_add_8 rfl ?_
  refine rs_sv C dX11_add_9 mk_X11_requirePlace ls_X11_173 (cv_rpl (a := b) (by omega)) rfl rfl (by decide) (Nat.le_of_ble_eq_true rfl) (by decide) (by decide) ?_
  refine rn_aload_n C dX11_add_12 rfl ?_
  refine rs_get C dX11_add_13 fl_X11_49 hX0 rfl ?_
  refine rn_iload_n C dX11_add_16 rfl ?_
  refine rs_iaload C dX11_add_17 hx10 rfl (by omega) (by decide) ?_
  refine rn_aload_n C dX11_add_18 rfl ?_
  refine rs_get C dX11_add_19 fl_X11_49 hX0 rfl ?_
  refine rn_iload_n C dX11_add_22 rfl ?_
  refine rs_iaload C dX11_add_23 hx10 rfl (by omega) (by decide) ?_
  refine rn_icmp_eq (tgt := 37) C dX11_add_24 (by decide) (fun hb => absurd hb hne) (fun hb => ?_)
  exact rn_throwS C Th (Nat.le_refl _) (hex _ C.2.2.2.2.2.2.1.2.1) ((hex _ C.2.2.2.2.2.2.1.2.1).2.2.2 (180, "the points are not of one curve") (by decide)) (by decide) xw_is dX11_add_27 dX11_add_30 dX11_add_31 dX11_add_33 dX11_add_36 (by decide) (Nat.le_of_ble_eq_true rfl)
set_option maxHeartbeats 2000000 in
theorem ct_timesA {k : KX} {L : Nat → Option Sh} {S : StT} {n : Nat} {xo : Nat} {zt : Int32} {za : Int32} (hex : ∀ U, k_F k U → ExS k U) (hbad : zt < 0 ∨ ¬ zt < nI 3) :
    CsT k yX11_times cX11_times 3 none 7 [.ref (k_b k + (xo)), .int (zt), .int (za)] (inst k L S.1 S.2.1 S.2.2) n "java/lang/IllegalArgumentException" := by
  refine ct_of (by decide) (Nat.le_of_ble_eq_true rfl) ?_
  intro X hXk C Th
  subst hXk
  refine rn_lv [(0, .ref (k_b X.1 + (xo))), (1, .int (zt)), (2, .int (za))] (fun q h => h) ?_
  refine rn_iload_n C dX11_times_0 rfl ?_
  exact rn_callST C Th (Nat.le_refl _) dX11_times_1 mk_X11_requirePlace ls_X11_173 (ct_rpl hex hbad) (As := [.int (zt)]) rfl rfl (by decide) (Nat.le_of_ble_eq_true rfl)
set_option maxHeartbeats 2000000 in
theorem ct_timesB {k : KX} {L : Nat → Option Sh} {S : StT} {n : Nat} {xo : Nat} {to : Nat} {za : Int32} (hex : ∀ U, k_F k U → ExS k U) (hto3 : to < 3) (hbad : za < 0 ∨ ¬ za < nI 3) :
    CsT k yX11_times cX11_times 3 none 7 [.ref (k_b k + (xo)), .int (nI (to)), .int (za)] (inst k L S.1 S.2.1 S.2.2) n "java/lang/IllegalArgumentException" := by
  refine ct_of (by decide) (Nat.le_of_ble_eq_true rfl) ?_
  intro X hXk C Th
  subst hXk
  refine rn_lv [(0, .ref (k_b X.1 + (xo))), (1, .int (nI (to))), (2, .int (za))] (fun q h => h) ?_
  refine rn_iload_n C dX11_times_0 rfl ?_
  refine rs_sv C dX11_times_1 mk_X11_requirePlace ls_X11_173 (cv_rpl (a := to) (by omega)) rfl rfl (by decide) (Nat.le_of_ble_eq_true rfl) (by decide) (by decide) ?_
  refine rn_iload_n C dX11_times_4 rfl ?_
  exact rn_callST C Th (Nat.le_refl _) dX11_times_5 mk_X11_requirePlace ls_X11_173 (ct_rpl hex hbad) (As := [.int (za)]) rfl rfl (by decide) (Nat.le_of_ble_eq_true rfl)
set_option maxHeartbeats 2000000 in
theorem ct_codeA {k : KX} {L : Nat → Option Sh} {S : StT} {n : Nat} {xo : Nat} {za : Int32} (hex : ∀ U, k_F k U → ExS k U) (hbad : za < 0 ∨ ¬ za < nI 3) :
    CsT k yX11_code cX11_code 4 none 7 [.ref (k_b k + (xo)), .int (za)] (inst k L S.1 S.2.1 S.2.2) n "java/lang/IllegalArgumentException" := by
  refine ct_of (by decide) (Nat.le_of_ble_eq_true rfl) ?_
  intro X hXk C Th
  subst hXk
  refine rn_lv [(0, .ref (k_b X.1 + (xo))), (1, .int (za))] (fun q h => h) ?_
  refine rn_iload_n C dX11_code_0 rfl ?_
  exact rn_callST C Th (Nat.le_refl _) dX11_code_1 mk_X11_requirePlace ls_X11_173 (ct_rpl hex hbad) (As := [.int (za)]) rfl rfl (by decide) (Nat.le_of_ble_eq_true rfl)
set_option maxHeartbeats 2000000 in
theorem ct_sameA {k : KX} {L : Nat → Option Sh} {S : StT} {n : Nat} {xo : Nat} {za : Int32} {zb : Int32} (hex : ∀ U, k_F k U → ExS k U) (hbad : za < 0 ∨ ¬ za < nI 3) :
    CsT k yX11_same cX11_same 3 (some .boolean) 7 [.ref (k_b k + (xo)), .int (za), .int (zb)] (inst k L S.1 S.2.1 S.2.2) n "java/lang/IllegalArgumentException" := by
  refine ct_of (by decide) (Nat.le_of_ble_eq_true rfl) ?_
  intro X hXk C Th
  subst hXk
  refine rn_lv [(0, .ref (k_b X.1 + (xo))), (1, .int (za)), (2, .int (zb))] (fun q h => h) ?_
  refine rn_iload_n C dX11_same_0 rfl ?_
  exact rn_callST C Th (Nat.le_refl _) dX11_same_1 mk_X11_requirePlace ls_X11_173 (ct_rpl hex hbad) (As := [.int (za)]) rfl rfl (by decide) (Nat.le_of_ble_eq_true rfl)
set_option maxHeartbeats 2000000 in
theorem ct_sameB {k : KX} {L : Nat → Option Sh} {S : StT} {n : Nat} {xo : Nat} {a : Nat} {zb : Int32} (hex : ∀ U, k_F k U → ExS k U) (ha3 : a < 3) (hbad : zb < 0 ∨ ¬ zb < nI 3) :
    CsT k yX11_same cX11_same 3 (some .boolean) 7 [.ref (k_b k + (xo)), .int (nI (a)), .int (zb)] (inst k L S.1 S.2.1 S.2.2) n "java/lang/IllegalArgumentException" := by
  refine ct_of (by decide) (Nat.le_of_ble_eq_true rfl) ?_
  intro X hXk C Th
  subst hXk
  refine rn_lv [(0, .ref (k_b X.1 + (xo))), (1, .int (nI (a))), (2, .int (zb))] (fun q h => h) ?_
  refine rn_iload_n C dX11_same_0 rfl ?_
  refine rs_sv C dX11_same_1 mk_X11_requirePlace ls_X11_173 (cv_rpl (a := a) (by omega)) rfl rfl (by decide) (Nat.le_of_ble_eq_true rfl) (by decide) (by decide) ?_
  refine rn_iload_n C dX11_same_4 rfl ?_
  exact rn_callST C Th (Nat.le_refl _) dX11_same_5 mk_X11_requirePlace ls_X11_173 (ct_rpl hex hbad) (As := [.int (zb)]) rfl rfl (by decide) (Nat.le_of_ble_eq_true rfl)
set_option maxHeartbeats 2000000 in
theorem ct_orderA {k : KX} {L : Nat → Option Sh} {S : StT} {n : Nat} {xo : Nat} {za : Int32} {zw : Int32} (hex : ∀ U, k_F k U → ExS k U) (hbad : za < 0 ∨ ¬ za < nI 3) :
    CsT k yX11_order cX11_order 4 (some .int) 7 [.ref (k_b k + (xo)), .int (za), .int (zw)] (inst k L S.1 S.2.1 S.2.2) n "java/lang/IllegalArgumentException" := by
  refine ct_of (by decide) (Nat.le_of_ble_eq_true rfl) ?_
  intro X hXk C Th
  subst hXk
  refine rn_lv [(0, .ref (k_b X.1 + (xo))), (1, .int (za)), (2, .int (zw))] (fun q h => h) ?_
  refine rn_iload_n C dX11_order_0 rfl ?_
  exact rn_callST C Th (Nat.le_refl _) dX11_order_1 mk_X11_requirePlace ls_X11_173 (ct_rpl hex hbad) (As := [.int (za)]) rfl rfl (by decide) (Nat.le_of_ble_eq_true rfl)
set_option maxHeartbeats 2000000 in
theorem ct_orderB {k : KX} {L : Nat → Option Sh} {S : StT} {n : Nat} {xo : Nat} {a : Nat} {zw : Int32} (hex : ∀ U, k_F k U → ExS k U) (ha3 : a < 3) (hbad : zw < 0 ∨ ¬ zw ≤ nI 2) :
    CsT k yX11_order cX11_order 4 (some .int) 7 [.ref (k_b k + (xo)), .int (nI (a)), .int (zw)] (inst k L S.1 S.2.1 S.2.2) n "java/lang/IllegalArgumentException" := by
  refine ct_of (by decide) (Nat.le_of_ble_eq_true rfl) ?_
  intro X hXk C Th
  subst hXk
  refine rn_lv [(0, .ref (k_b X.1 + (xo))), (1, .int (nI (a))), (2, .int (zw))] (fun q h => h) ?_
  refine rn_iload_n C dX11_order_0 rfl ?_
  refine rs_sv C dX11_order_1 mk_X11_requirePlace ls_X11_173 (cv_rpl (a := a) (by omega)) rfl rfl (by decide) (Nat.le_of_ble_eq_true rfl) (by decide) (by decide) ?_
  refine rn_iload_n C dX11_order_4 rfl ?_
  refine rn_if_lt (tgt := 13) C dX11_order_5 (by decide) (fun h1 => ?_) (fun h1 => ?_)
  · skip
    exact rn_throwS C Th (Nat.le_refl _) (hex _ C.2.2.2.2.2.2.1.2.1) ((hex _ C.2.2.2.2.2.2.1.2.1).2.2.2 (202, "no such what") (by decide)) (by decide) xw_ia dX11_order_13 dX11_order_16 dX11_order_17 dX11_order_19 dX11_order_22 (by decide) (Nat.le_of_ble_eq_true rfl)
  refine rn_iload_n C dX11_order_8 rfl ?_
  refine rn_iconst (v := nI 2) C dX11_order_9 rfl ?_
  refine rn_icmp_le (tgt := 23) C dX11_order_10 (by decide) (fun h2 => hbad.elim (fun h => absurd h h1) (fun h => absurd h2 h)) (fun h2 => ?_)
  exact rn_throwS C Th (Nat.le_refl _) (hex _ C.2.2.2.2.2.2.1.2.1) ((hex _ C.2.2.2.2.2.2.1.2.1).2.2.2 (202, "no such what") (by decide)) (by decide) xw_ia dX11_order_13 dX11_order_16 dX11_order_17 dX11_order_19 dX11_order_22 (by decide) (Nat.le_of_ble_eq_true rfl)
