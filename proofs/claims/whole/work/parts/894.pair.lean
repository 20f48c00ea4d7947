theorem sg_v {A : AS} {B : (c : Bool) → Pt c} {c ph : Bool} (h : AV A) : AV (setN (setR A 3 (sgF c (B c) (A.1 0) (dmA c ph (A.2.1 1) (A.1 5)) (dmN c ph (A.2.1 1)) (bdA c ph (A.1 4) (A.2.1 0)) (if ph then 64 else A.2.1 0))) 2 (2 * cB c)) := by
  refine out_v h (by cases c <;> decide) (fun i hi => ?_)
  unfold sgF app
  split <;> exact nby_lt _ _
theorem out0_v {A : AS} (h : AV A) : AV (out0 A) := by
  obtain ⟨h0, h1, h2, h3, h4, h5, h6, h7, h8⟩ := h
  exact ⟨h0, h1, h2, fun i hi => absurd hi (Nat.not_lt_zero _), h4, h5, h6, h7, Nat.zero_le _⟩
theorem mveriP_0 {mo : Nat} {B : (c : Bool) → Pt c} {c ph : Bool} {S : StT} {A : AS} (hv : AV A) (h : RM mo B S A) : (mveriP_f c mo (A.2.1 0) (A.2.1 1) ph S).2.2.2 mo 0 = nI 0 := by
  have hcB := cB_b c
  obtain ⟨hC, hB, hO⟩ := h.2.2.2.1 c
  obtain ⟨-, -, -, e4⟩ := mveri_s c mo (A.2.1 0) (A.2.1 1) ph (S.1, S.2.1, fs (fC c mo S.2.2) mo 5 (nI 0)) (x := A.1 2) (y := A.1 1) (m := A.1 4) (g := A.1 5) (B0 := B c) hv.2.2.2.2.2.2.1 hv.2.2.2.2.2.2.2.1 (fun i hi => h.1.2.2.1 i (by omega)) (fun i hi => h.1.2.1 i (by omega)) (fun i hi => hv.2.2.1 i (by omega)) (fun i hi => hv.2.1 i (by omega)) (fun i hi => h.1.2.2.2.2.1 i hi) (fun i hi => h.1.2.2.2.2.2 i hi) hC hB hO h.2.2.2.2.1 h.2.2.2.2.2
  have en : (mveriP_f c mo (A.2.1 0) (A.2.1 1) ph S).2.2.2 = (mveri_f c mo (A.2.1 0) (A.2.1 1) ph (S.1, S.2.1, fs (fC c mo S.2.2) mo 5 (nI 0))).2.2.2 := by
    dsimp only [mveriP_f, mnoC_f, mcho_f, fC]
  rw [en]
  refine (e4 0 (by decide)).trans ((fs_oth (by decide)).trans ?_)
  unfold fC
  exact (fs_oth (by decide)).trans ((fs_oth (by decide)).trans fs_get)
/-! PAIRS of calls, one theorem a method (pair.py) -/
section PO3
variable {k : KX} {L : Nat → Option Sh} {xo mo oo s4 s2 : Nat} {B : (c : Bool) → Pt c} {S : StT} {A : AS}
theorem pr_put (hX : SuiteAt k L xo) (hMd : ModelAt k L mo) (hex : ∀ U, k_F k U → ExS k U) (hI : Inv xo mo B S A) (h1 : xo + 335 ≤ mo)  (z1 z2 : Int32) (v : Int64) (z4 : Int32) :
    PairV k L xo mo B S yL_put cL_put 7 [(0, 9, 12, 13), (0, 9, 16, 15)] [.ref (k_b k + xo), .int z1, .int z2, .long v, .int z4] yX12_put cX12_put 7 [.ref (k_b k + mo), .int z1, .int z2, .long v, .int z4] := by
  obtain ⟨f0, f1, f2, f3, f4, f5⟩ := hI.1.2.1
  obtain ⟨-, -, -, -, -, -, a0, a1, a2⟩ := hI.2.2
  rcases i3_bc z4 with hb | ⟨nn, n1, n8, rfl⟩
  · exact pv_x (q := nI 1) hI h1 (by decide) (fun n => cx_put1 hX.1 (by decide) hex (ct_putA hex hb)) (fun n => c_mputX hMd (hb.elim Or.inl (fun h => Or.inr (Or.inl (i3_not h))))) rfl
  · rcases i3_le z1 2 (by decide) with hb | ⟨r, hr, rfl⟩
    · exact pv_x (q := nI 1) hI h1 (by decide) (fun n => cx_put1 hX.1 (by decide) hex (ct_putB hex n1 n8 hb)) (fun n => c_mputX hMd (Or.inr (Or.inr hb))) rfl
    · have hr3 : r = 0 ∨ r = 1 ∨ r = 2 := by omega
      rcases hr3 with rfl | rfl | rfl
      · rcases i3_le z2 (57 - nn) (by omega) with hb | ⟨pl, hp, rfl⟩
        · exact pv_x (q := nI 2) hI h1 (by decide) (fun n => cx_put2 hX.1 (by decide) hex (ct_putC0 hex hX f3 n1 n8 hb)) (fun n => c_mputY0 hMd n1 n8 hb) rfl
        · exact pv_ok (A := A) hI h1 (by decide) (fun n => cw_put hX.1 (by decide) (c_xput0 hX f3 n1 n8 (by omega))) (xput0_r xo B pl nn v S A hI.1) (fun n T _ => c_mput0 hMd n1 n8 (by omega)) (fun T g => mput0_r mo B pl nn v T A n8 g) (fun T _ => by rw [mput0_F]; exact fs_get) (put0_v pl nn v hI.2.2)
      · rcases i3_le z2 (57 - nn) (by omega) with hb | ⟨pl, hp, rfl⟩
        · exact pv_x (q := nI 2) hI h1 (by decide) (fun n => cx_put2 hX.1 (by decide) hex (ct_putC1 hex hX f4 n1 n8 hb)) (fun n => c_mputY1 hMd n1 n8 hb) rfl
        · exact pv_ok (A := A) hI h1 (by decide) (fun n => cw_put hX.1 (by decide) (c_xput1 hX f4 n1 n8 (by omega))) (xput1_r xo B pl nn v S A hI.1) (fun n T _ => c_mput1 hMd n1 n8 (by omega)) (fun T g => mput1_r mo B pl nn v T A n8 g) (fun T _ => by rw [mput1_F]; exact fs_get) (put1_v pl nn v hI.2.2)
      · rcases i3_le z2 (114 - nn) (by omega) with hb | ⟨pl, hp, rfl⟩
        · exact pv_x (q := nI 2) hI h1 (by decide) (fun n => cx_put2 hX.1 (by decide) hex (ct_putC2 hex hX f5 n1 n8 hb)) (fun n => c_mputY2 hMd n1 n8 hb) rfl
        · exact pv_ok (A := A) hI h1 (by decide) (fun n => cw_put hX.1 (by decide) (c_xput2 hX f5 n1 n8 (by omega))) (xput2_r xo B pl nn v S A hI.1) (fun n T _ => c_mput2 hMd n1 n8 (by omega)) (fun T g => mput2_r mo B pl nn v T A n8 g) (fun T _ => by rw [mput2_F]; exact fs_get) (put2_v pl nn v hI.2.2)
theorem pr_feed (hX : SuiteAt k L xo) (hMd : ModelAt k L mo) (hoo : L oo = some (sJ 1)) (hex : ∀ U, k_F k U → ExS k U) (hI : Inv xo mo B S A) (h1 : xo + 335 ≤ mo) (h2 : mo + 28 ≤ oo) (tc : Bool) (v : Int64) (z4 : Int32) :
    PairI k L xo mo oo B S Int32.toInt64 .int yL_feed cL_feed 7 [(0, 13, 16, 13), (0, 13, 20, 21)] [.ref (k_b k + xo), .int (bI tc), .long v, .int z4, .ref (k_b k + oo)] yX12_feed cX12_feed 8 [.ref (k_b k + mo), .int (bI tc), .long v, .int z4] := by
  obtain ⟨f0, f1, f2, f3, f4, f5⟩ := hI.1.2.1
  obtain ⟨-, -, -, -, -, -, a0, a1, a2⟩ := hI.2.2
  rcases i3_bc z4 with hb | ⟨nn, n1, n8, rfl⟩
  · cases tc
    · exact pi_x (q := nI 1) hI h1 (by decide) (by decide) (fun n => cx_feed1 hX.1 hoo (by decide) hex (ct_feedA hex hb)) (fun n => c_mfeedX0 hMd hb) rfl
    · exact pi_x (q := nI 1) hI h1 (by decide) (by decide) (fun n => cx_feed1 hX.1 hoo (by decide) hex (ct_feedA hex hb)) (fun n => c_mfeedX1 hMd hb) rfl
  · cases tc
    · by_cases hf : A.2.1 0 + nn ≤ 256
      · have hr := xfeed0_r xo B nn v S A hI.1
        exact pi_ok (A := A) hI h1 h2 (by decide) (fun n => cw_feed hX.1 hoo (by decide) (c_xfeed0 hX f0 a0 n1 n8 hf)) hr.2 (fun n T g => c_mfeed0 hMd g.2.1.1 a0 n1 n8 hf) (fun T g => by have hq := mfeed0_r mo B nn v T A n8 g; exact ⟨by rw [hq.1, hr.1], hq.2⟩) (fun T _ => by rw [mfeed0_F]; exact (fs_oth (by decide)).trans fs_get) (feed0_v v hf hI.2.2)
      · exact pi_x (q := nI 2) hI h1 (by decide) (by decide) (fun n => cx_feed2 hX.1 hoo (by decide) hex (ct_feedB0 hex hX f0 a0 n1 n8 (by omega))) (fun n => c_mfeedY0 hMd hI.2.1.2.1.1 a0 n1 n8 (by omega)) rfl
    · by_cases hf : A.2.1 1 + nn ≤ 64
      · have hr := xfeed1_r xo B nn v S A hI.1
        exact pi_ok (A := A) hI h1 h2 (by decide) (fun n => cw_feed hX.1 hoo (by decide) (c_xfeed1 hX f1 a1 n1 n8 hf)) hr.2 (fun n T g => c_mfeed1 hMd g.2.1.2.1 a1 n1 n8 hf) (fun T g => by have hq := mfeed1_r mo B nn v T A n8 g; exact ⟨by rw [hq.1, hr.1], hq.2⟩) (fun T _ => by rw [mfeed1_F]; exact (fs_oth (by decide)).trans fs_get) (feed1_v v hf hI.2.2)
      · exact pi_x (q := nI 2) hI h1 (by decide) (by decide) (fun n => cx_feed2 hX.1 hoo (by decide) hex (ct_feedB1 hex hX f1 a1 n1 n8 (by omega))) (fun n => c_mfeedY1 hMd hI.2.1.2.1.2.1 a1 n1 n8 (by omega)) rfl
theorem pr_move (hX : SuiteAt k L xo) (hMd : ModelAt k L mo) (hoo : L oo = some (sJ 1)) (hex : ∀ U, k_F k U → ExS k U) (hI : Inv xo mo B S A) (h1 : xo + 335 ≤ mo) (h2 : mo + 28 ≤ oo) (z1 : Int32) :
    PairI k L xo mo oo B S Int32.toInt64 .int yL_move cL_move 4 [(0, 9, 12, 13)] [.ref (k_b k + xo), .int z1, .ref (k_b k + oo)] yX12_move cX12_move 4 [.ref (k_b k + mo), .int z1] := by
  obtain ⟨f0, f1, f2, f3, f4, f5⟩ := hI.1.2.1
  obtain ⟨-, -, -, -, -, -, a0, a1, a2⟩ := hI.2.2
  rcases i3_le z1 2 (by decide) with hb | ⟨r, hr, rfl⟩
  · exact pi_x (q := nI 1) hI h1 (by decide) (by decide) (fun n => cx_move1 hX.1 hoo (by decide) hex (ct_moveA hex hb)) (fun n => c_mmoveX hMd hb) rfl
  · have hr3 : r = 0 ∨ r = 1 ∨ r = 2 := by omega
    rcases hr3 with rfl | rfl | rfl
    · have hr := xmove0_r xo B S A hI.1
      exact pi_ok (A := A) hI h1 h2 (by decide) (fun n => cw_move hX.1 hoo (by decide) (c_xmove0 hX f3 f2 a2)) hr.2 (fun n T g => c_mmove0 hMd g.2.1.2.2 a2) (fun T g => by have hq := mmove0_r mo B T A g; exact ⟨by rw [hq.1, hr.1], hq.2⟩) (fun T _ => by rw [mmove0_F]; exact fs_get) (move0_v hI.2.2)
    · have hr := xmove1_r xo B S A hI.1
      exact pi_ok (A := A) hI h1 h2 (by decide) (fun n => cw_move hX.1 hoo (by decide) (c_xmove1 hX f4 f2 a2)) hr.2 (fun n T g => c_mmove1 hMd g.2.1.2.2 a2) (fun T g => by have hq := mmove1_r mo B T A g; exact ⟨by rw [hq.1, hr.1], hq.2⟩) (fun T _ => by rw [mmove1_F]; exact fs_get) (move1_v hI.2.2)
    · have hr := xmove2_r xo B S A hI.1
      exact pi_ok (A := A) hI h1 h2 (by decide) (fun n => cw_move hX.1 hoo (by decide) (c_xmove2 hX f5 f2 a2)) hr.2 (fun n T g => c_mmove2 hMd g.2.1.2.2 a2) (fun T g => by have hq := mmove2_r mo B T A g; exact ⟨by rw [hq.1, hr.1], hq.2⟩) (fun T _ => by rw [mmove2_F]; exact fs_get) (move2_v hI.2.2)
theorem pr_look (hX : SuiteAt k L xo) (hMd : ModelAt k L mo) (hoo : L oo = some (sJ 1)) (hex : ∀ U, k_F k U → ExS k U) (hI : Inv xo mo B S A) (h1 : xo + 335 ≤ mo) (h2 : mo + 28 ≤ oo) (z1 z2 : Int32) :
    PairI k L xo mo oo B S Int32.toInt64 .int yL_look cL_look 5 [(0, 10, 13, 13), (0, 10, 17, 15)] [.ref (k_b k + xo), .int z1, .int z2, .ref (k_b k + oo)] yX12_look cX12_look 4 [.ref (k_b k + mo), .int z1, .int z2] := by
  obtain ⟨f0, f1, f2, f3, f4, f5⟩ := hI.1.2.1
  obtain ⟨-, -, -, -, -, -, a0, a1, a2⟩ := hI.2.2
  rcases i3_le z1 3 (by decide) with hb | ⟨r, hr, rfl⟩
  · exact pi_x (q := nI 1) hI h1 (by decide) (by decide) (fun n => cx_look1 hX.1 hoo (by decide) hex (ct_lookA hex hb)) (fun n => c_mlookX hMd hb) rfl
  · have hr3 : r = 0 ∨ r = 1 ∨ r = 2 ∨ r = 3 := by omega
    rcases hr3 with rfl | rfl | rfl | rfl
    · rcases i3_lt z2 57 (by omega) with hb | ⟨q, hq, rfl⟩
      · exact pi_x (q := nI 2) hI h1 (by decide) (by decide) (fun n => cx_look2 hX.1 hoo (by decide) hex (ct_lookB0 hex hX f3 hb)) (fun n => c_mlookY0 hMd hb) rfl
      · have hr := look0_r xo mo B q S S A hq hI.1 hI.2.1
        exact pi_ok (A := A) hI h1 h2 (by decide) (fun n => cw_look hX.1 hoo (by decide) (c_xlook0 hX f3 hq)) (by rw [hr.2.1]; exact ⟨hI.1, OX_rfl xo S⟩) (fun n T g => c_mlook0 hMd hq) (fun T g => by have hg := look0_r xo mo B q S T A hq hI.1 g; exact ⟨by rw [hg.2.2.1, hr.1], hg.2.2.2⟩) (fun T _ => by rw [mlook0_F]; exact fs_get) hI.2.2
    · rcases i3_lt z2 57 (by omega) with hb | ⟨q, hq, rfl⟩
      · exact pi_x (q := nI 2) hI h1 (by decide) (by decide) (fun n => cx_look2 hX.1 hoo (by decide) hex (ct_lookB1 hex hX f4 hb)) (fun n => c_mlookY1 hMd hb) rfl
      · have hr := look1_r xo mo B q S S A hq hI.1 hI.2.1
        exact pi_ok (A := A) hI h1 h2 (by decide) (fun n => cw_look hX.1 hoo (by decide) (c_xlook1 hX f4 hq)) (by rw [hr.2.1]; exact ⟨hI.1, OX_rfl xo S⟩) (fun n T g => c_mlook1 hMd hq) (fun T g => by have hg := look1_r xo mo B q S T A hq hI.1 g; exact ⟨by rw [hg.2.2.1, hr.1], hg.2.2.2⟩) (fun T _ => by rw [mlook1_F]; exact fs_get) hI.2.2
    · rcases i3_lt z2 114 (by omega) with hb | ⟨q, hq, rfl⟩
      · exact pi_x (q := nI 2) hI h1 (by decide) (by decide) (fun n => cx_look2 hX.1 hoo (by decide) hex (ct_lookB2 hex hX f5 hb)) (fun n => c_mlookY2 hMd hb) rfl
      · have hr := look2_r xo mo B q S S A hq hI.1 hI.2.1
        exact pi_ok (A := A) hI h1 h2 (by decide) (fun n => cw_look hX.1 hoo (by decide) (c_xlook2 hX f5 hq)) (by rw [hr.2.1]; exact ⟨hI.1, OX_rfl xo S⟩) (fun n T g => c_mlook2 hMd hq) (fun T g => by have hg := look2_r xo mo B q S T A hq hI.1 g; exact ⟨by rw [hg.2.2.1, hr.1], hg.2.2.2⟩) (fun T _ => by rw [mlook2_F]; exact fs_get) hI.2.2
    · rcases i3_lt z2 (A.2.1 2) (by omega) with hb | ⟨q, hq, rfl⟩
      · exact pi_x (q := nI 2) hI h1 (by decide) (by decide) (fun n => cx_look2 hX.1 hoo (by decide) hex (ct_lookB3 hex hX f2 a2 hb)) (fun n => c_mlookY3 hMd hI.2.1.2.1.2.2 a2 hb) rfl
      · have hr := look3_r xo mo B q S S A hq hI.1 hI.2.1
        exact pi_ok (A := A) hI h1 h2 (by decide) (fun n => cw_look hX.1 hoo (by decide) (c_xlook3 hX f2 a2 hq)) (by rw [hr.2.1]; exact ⟨hI.1, OX_rfl xo S⟩) (fun n T g => c_mlook3 hMd g.2.1.2.2 a2 hq) (fun T g => by have hg := look3_r xo mo B q S T A hq hI.1 g; exact ⟨by rw [hg.2.2.1, hr.1], hg.2.2.2⟩) (fun T _ => by rw [mlook3_F]; exact fs_get) hI.2.2
theorem pr_hash (hX : SuiteAt k L xo) (hMd : ModelAt k L mo) (hex : ∀ U, k_F k U → ExS k U) (hst : ∀ U, k_F k U → HsS k U) (hI : Inv xo mo B S A) (h1 : xo + 335 ≤ mo)  (tc : Bool) (z2 : Int32) :
    PairV k L xo mo B S yL_hash cL_hash 4 [(0, 6, 9, 13)] [.ref (k_b k + xo), .int (bI tc), .int z2] yX12_hash cX12_hash 4 [.ref (k_b k + mo), .int (bI tc), .int z2] := by
  obtain ⟨f0, f1, f2, f3, f4, f5⟩ := hI.1.2.1
  obtain ⟨-, -, -, -, -, -, a0, a1, a2⟩ := hI.2.2
  cases tc
  · have hr := xhash_r (c := false) xo B (xo + 23) 64 S A hI.2.2 (Or.inl rfl) (by decide) (fun _ => Nat.le_refl _) hI.1
    exact pv_ok (A := A) hI h1 (by decide) (fun n => cw_hash hX.1 (by decide) (c_xhash0 hX hst f0 a0)) hr (fun n T g => c_mhash0 hMd g.2.1.1 a0) (fun T g => mhash0_r mo B z2 T A hI.2.2 g) (fun T _ => by rw [mhash0_F]; exact (fs_oth (by decide)).trans ((fs_oth (by decide)).trans fs_get)) (out_v hI.2.2 (by decide) (dgA_lt false _ _ 64 (by decide)))
  · rcases i3_le z2 114 (by decide) with hb | ⟨nn, hn, rfl⟩
    · exact pv_x (q := nI 1) hI h1 (by decide) (fun n => cx_hash1 hX.1 (by decide) hex (ct_hashA hex hb)) (fun n => c_mhashX hMd hb) rfl
    · have hr := xhash_r (c := true) xo B (xo + 26) nn S A hI.2.2 (Or.inr rfl) hn (fun h => by cases h) hI.1
      exact pv_ok (A := A) hI h1 (by decide) (fun n => cw_hash hX.1 (by decide) (c_xhash1 hX hst f0 a0 hn)) hr (fun n T g => c_mhash1 hMd g.2.1.1 a0 hn) (fun T g => mhash1_r mo B nn T A hI.2.2 hn g) (fun T _ => by rw [mhash1_F]; exact (fs_oth (by decide)).trans ((fs_oth (by decide)).trans fs_get)) (out_v hI.2.2 hn (dgA_lt true _ _ nn (fun h => by cases h)))
theorem magree_0 (c bs : Bool) (mo : Nat) (S : StT) : (magree_f c mo bs S).2.2.2 mo 0 = nI 0 := by
  unfold magree_f
  dsimp only
  generalize mlad_f c mo bs _ = S2
  obtain ⟨g1, g2⟩ := magree_scan c mo S2 S.2.2 (fB c) 0
  by_cases h : ∀ j, 0 ≤ j → j < 0 + fB c → S2.1 (mo + 4) j = 0
  · rw [g1 h]; exact (fs_oth (by decide)).trans (by unfold fC; exact (fs_oth (by decide)).trans ((fs_oth (by decide)).trans fs_get))
  · rw [g2 h]; exact (fs_oth (by decide)).trans (by unfold fC; exact (fs_oth (by decide)).trans ((fs_oth (by decide)).trans fs_get))
theorem pr_agree (hX : SuiteAt k L xo) (hMd : ModelAt k L mo) (hoo : L oo = some (sJ 1)) (hex : ∀ U, k_F k U → ExS k U) (hI : Inv xo mo B S A) (h1 : xo + 335 ≤ mo) (h2 : mo + 28 ≤ oo) (z1 : Int32) (tc : Bool) :
    PairI k L xo mo oo B S bL .boolean yL_agree cL_agree 5 [(0, 17, 20, 13)] [.ref (k_b k + xo), .int z1, .int (bI tc), .ref (k_b k + oo)] yX12_agree cX12_agree 4 [.ref (k_b k + mo), .int z1, .int (bI tc)] := by
  obtain ⟨f0, f1, f2, f3, f4, f5⟩ := hI.1.2.1
  obtain ⟨-, -, -, -, -, -, a0, a1, a2⟩ := hI.2.2
  rcases i3_lt z1 2 (by decide) with hb | ⟨m, hm, rfl⟩
  · exact pi_x (q := nI 1) hI h1 (by decide) (by decide) (fun n => cx_agree1 hX.1 hoo (by decide) hex (ct_agreeA hex hb)) (fun n => c_magreeX hMd (i3_c hb)) rfl
  · obtain ⟨c, rfl⟩ := i3_bN hm
    cases tc
    · have hr := xagreeP_r xo B c S A hI.2.2 hI.1
      exact pi_ok (A := A) hI h1 h2 (by decide) (fun n => cw_agree hX.1 hoo (by decide) (c_xagreeP hX)) hr.2 (fun n T g => c_magree (bs := false) hMd) (fun T g => by have hq := magree_r mo B c false T A hI.2.2 g; exact ⟨by rw [hq.1, hr.1], hq.2⟩) (fun T _ => magree_0 c false mo T) (ag_v c false hI.2.2)
    · have hr := xagreeB_r xo B c S A hI.2.2 hI.1
      exact pi_ok (A := A) hI h1 h2 (by decide) (fun n => cw_agree hX.1 hoo (by decide) (c_xagreeB hX)) hr.2 (fun n T g => c_magree (bs := true) hMd) (fun T g => by have hq := magree_r mo B c true T A hI.2.2 g; exact ⟨by rw [hq.1, hr.1], hq.2⟩) (fun T _ => magree_0 c true mo T) (ag_v c true hI.2.2)
theorem pr_derive (hX : SuiteAt k L xo) (hMd : ModelAt k L mo) (hex : ∀ U, k_F k U → ExS k U) (hst : ∀ U, k_F k U → HsS k U) (hI : Inv xo mo B S A) (h1 : xo + 335 ≤ mo)  (z1 : Int32) :
    PairV k L xo mo B S yL_derive cL_derive 3 [(0, 5, 8, 13)] [.ref (k_b k + xo), .int z1] yX12_derive cX12_derive 3 [.ref (k_b k + mo), .int z1] := by
  obtain ⟨f0, f1, f2, f3, f4, f5⟩ := hI.1.2.1
  obtain ⟨-, -, -, -, -, -, a0, a1, a2⟩ := hI.2.2
  rcases i3_lt z1 2 (by decide) with hb | ⟨m, hm, rfl⟩
  · exact pv_x (q := nI 1) hI h1 (by decide) (fun n => cx_derive1 hX.1 (by decide) hex (ct_deriveA hex hb)) (fun n => c_mderiveX hMd (i3_c hb)) rfl
  · obtain ⟨c, rfl⟩ := i3_bN hm
    exact pv_ok (A := A) hI h1 (by decide) (fun n => cw_derive hX.1 (by decide) (c_xderive hX hst)) (xderive_r xo B c S A hI.1) (fun n T g => c_mderive hMd) (fun T g => mderive_r mo B c T A g) (fun T _ => by rw [mderive_F]; exact (fs_oth (by decide)).trans ((fs_oth (by decide)).trans ((fs_oth (by decide)).trans ((fs_oth (by decide)).trans fs_get)))) (out_v hI.2.2 (by cases c <;> decide) (fun i _ => nby_lt _ i))
theorem pr_sign (hX : SuiteAt k L xo) (hMd : ModelAt k L mo) (hex : ∀ U, k_F k U → ExS k U) (hst : ∀ U, k_F k U → HsS k U) (hks4 : StrK k s4 8 lb4) (hks2 : StrK k s2 32 lb2) (hl4 : ∀ U, k_F k U → vk_R RX10 98 "SigEd448" s4 U) (hl2 : ∀ U, k_F k U → vk_R RX10 100 "SigEd25519 no Ed25519 collisions" s2 U) (hI : Inv xo mo B S A) (h1 : xo + 335 ≤ mo)  (z1 : Int32) (ph : Bool) :
    PairV k L xo mo B S yL_sign cL_sign 4 [(0, 6, 9, 13)] [.ref (k_b k + xo), .int z1, .int (bI ph)] yX12_sign cX12_sign 3 [.ref (k_b k + mo), .int z1, .int (bI ph)] := by
  obtain ⟨f0, f1, f2, f3, f4, f5⟩ := hI.1.2.1
  obtain ⟨-, -, -, -, -, -, a0, a1, a2⟩ := hI.2.2
  rcases i3_lt z1 2 (by decide) with hb | ⟨m, hm, rfl⟩
  · exact pv_x (q := nI 1) hI h1 (by decide) (fun n => cx_sign1 hX.1 (by decide) hex (ct_signA hex hb)) (fun n => c_msignX hMd (i3_c hb)) rfl
  · obtain ⟨c, rfl⟩ := i3_bN hm
    exact pv_ok (A := A) hI h1 (by decide) (fun n => cw_sign hX.1 (by decide) (c_xsign hX hst f0 a0 f1 a1 hks4 hks2 hl4 hl2)) (xsign_r xo B c ph s4 s2 S A hI.2.2 hI.1) (fun n T g => c_msignP hMd g.2.1.1 a0 g.2.1.2.1 a1) (fun T g => msign_r mo B c ph T A hI.2.2 g) (fun T _ => by rw [msignP_F]; exact (fs_oth (by decide)).trans ((fs_oth (by decide)).trans ((fs_oth (by decide)).trans ((fs_oth (by decide)).trans fs_get)))) (sg_v hI.2.2)
theorem pr_verify (hX : SuiteAt k L xo) (hMd : ModelAt k L mo) (hoo : L oo = some (sJ 1)) (hex : ∀ U, k_F k U → ExS k U) (hst : ∀ U, k_F k U → HsS k U) (hks4 : StrK k s4 8 lb4) (hks2 : StrK k s2 32 lb2) (hl4 : ∀ U, k_F k U → vk_R RX10 98 "SigEd448" s4 U) (hl2 : ∀ U, k_F k U → vk_R RX10 100 "SigEd25519 no Ed25519 collisions" s2 U) (hI : Inv xo mo B S A) (h1 : xo + 335 ≤ mo) (h2 : mo + 28 ≤ oo) (z1 : Int32) (ph : Bool) :
    PairI k L xo mo oo B S bL .boolean yL_verify cL_verify 5 [(0, 17, 20, 13)] [.ref (k_b k + xo), .int z1, .int (bI ph), .ref (k_b k + oo)] yX12_verify cX12_verify 3 [.ref (k_b k + mo), .int z1, .int (bI ph)] := by
  obtain ⟨f0, f1, f2, f3, f4, f5⟩ := hI.1.2.1
  obtain ⟨-, -, -, -, -, -, a0, a1, a2⟩ := hI.2.2
  rcases i3_lt z1 2 (by decide) with hb | ⟨m, hm, rfl⟩
  · exact pi_x (q := nI 1) hI h1 (by decide) (by decide) (fun n => cx_verify1 hX.1 hoo (by decide) hex (ct_verifyA hex hb)) (fun n => c_mverifyX hMd (i3_c hb)) rfl
  · obtain ⟨c, rfl⟩ := i3_bN hm
    have hr := xverify_r xo B c ph s4 s2 S A hI.2.2 hI.1
    exact pi_ok (A := A) hI h1 h2 (by decide) (fun n => cw_verify hX.1 hoo (by decide) (c_xverify hX hst f0 a0 f1 a1 hks4 hks2 hl4 hl2)) hr.2 (fun n T g => c_mveriP hMd g.2.1.1 a0 g.2.1.2.1 a1) (fun T g => by
        have hq := mverify_r mo B c ph T A hI.2.2 g
        refine ⟨?_, hq.2⟩
        rcases hr.1 with ⟨e1, e2⟩ | ⟨e1, e2⟩ <;> rcases hq.1 with ⟨d1, d2⟩ | ⟨d1, d2⟩
        · rw [e1, d1]
        · exact absurd e2 d2
        · exact absurd d2 e2
        · rw [e1, d1]) (fun T g => mveriP_0 hI.2.2 g) (out0_v hI.2.2)
theorem pr_point (hX : SuiteAt k L xo) (hMd : ModelAt k L mo) (hoo : L oo = some (sJ 1)) (hex : ∀ U, k_F k U → ExS k U) (hI : Inv xo mo B S A) (h1 : xo + 335 ≤ mo) (h2 : mo + 28 ≤ oo) (z1 z2 : Int32) :
    PairI k L xo mo oo B S bL .boolean yL_point cL_point 5 [(0, 17, 20, 13)] [.ref (k_b k + xo), .int z1, .int z2, .ref (k_b k + oo)] yX12_point cX12_point 3 [.ref (k_b k + mo), .int z1, .int z2] := by
  obtain ⟨f0, f1, f2, f3, f4, f5⟩ := hI.1.2.1
  obtain ⟨-, -, -, -, -, -, a0, a1, a2⟩ := hI.2.2
  rcases i3_lt z1 2 (by decide) with hb | ⟨m, hm, rfl⟩
  · exact pi_x (q := nI 1) hI h1 (by decide) (by decide) (fun n => cx_point1 hX.1 hoo (by decide) hex (ct_pointA hex hb)) (fun n => c_mpointX hMd ((i3_c hb).imp id (fun h => Or.inl (i3_not h)))) rfl
  · obtain ⟨c, rfl⟩ := i3_bN hm
    rcases i3_lt z2 3 (by decide) with hb | ⟨p, hp, rfl⟩
    · exact pi_x (q := nI 1) hI h1 (by decide) (by decide) (fun n => cx_point1 hX.1 hoo (by decide) hex (ct_pointB hex hb)) (fun n => c_mpointX hMd (Or.inr (Or.inr (i3_pl _ hb)))) rfl
    · have hr := xpoint_r xo B c p S A hp hI.2.2 hI.1
      rcases hr.1 with ⟨e1, P, e2, e3⟩ | ⟨e1, e2, e3⟩
      · exact pi_ok (A := A) (A' := setP A p ⟨c, P⟩) hI h1 h2 (by decide) (fun n => cw_point hX.1 hoo (by decide) (c_xpoint hX hp)) ⟨e3, hr.2⟩ (fun n T g => c_mpoint hMd hp) (fun T g => by
          have hq := mpoint_r mo B c p T A hp hI.2.2 g
          rcases hq.1 with ⟨d1, Q, d2, d3⟩ | ⟨d1, d2, d3⟩
          · have : Q = P := Dec_uniq d2 e2
            subst this
            exact ⟨by rw [e1, d1], d3, hq.2⟩
          · exact absurd e2 (d2 P)) (fun T _ => by rw [mpoint_F]; exact (fs_oth (by decide)).trans ((fs_oth (by decide)).trans fs_get)) hI.2.2
      · exact pi_ok (A := A) (A' := A) hI h1 h2 (by decide) (fun n => cw_point hX.1 hoo (by decide) (c_xpoint hX hp)) ⟨e3, hr.2⟩ (fun n T g => c_mpoint hMd hp) (fun T g => by
          have hq := mpoint_r mo B c p T A hp hI.2.2 g
          rcases hq.1 with ⟨d1, Q, d2, d3⟩ | ⟨d1, d2, d3⟩
          · exact absurd d2 (e2 Q)
          · exact ⟨by rw [e1, d1], d3, hq.2⟩) (fun T _ => by rw [mpoint_F]; exact (fs_oth (by decide)).trans ((fs_oth (by decide)).trans fs_get)) hI.2.2
theorem pr_add (hX : SuiteAt k L xo) (hMd : ModelAt k L mo) (hex : ∀ U, k_F k U → ExS k U) (hI : Inv xo mo B S A) (h1 : xo + 335 ≤ mo)  (z1 z2 z3 : Int32) (tc : Bool) :
    PairV k L xo mo B S yL_add cL_add 6 [(0, 9, 12, 13), (0, 9, 16, 21)] [.ref (k_b k + xo), .int z1, .int z2, .int z3, .int (bI tc)] yX12_add cX12_add 5 [.ref (k_b k + mo), .int z1, .int z2, .int z3, .int (bI tc)] := by
  obtain ⟨f0, f1, f2, f3, f4, f5⟩ := hI.1.2.1
  obtain ⟨-, -, -, -, -, -, a0, a1, a2⟩ := hI.2.2
  have hcu : ∀ p, p < 3 → S.1 (xo + 10) p = nI (bN (A.2.2 p).1) := fun p hp => (hI.1.2.2.1 p hp).1
  have hcm : ∀ T, RM mo B T A → ∀ p, p < 3 → T.1 (mo + 10) p = nI (bN (A.2.2 p).1) := fun T g p hp => (g.2.2.1 p hp).1
  rcases i3_lt z1 3 (by decide) with hb | ⟨t, ht, rfl⟩
  · exact pv_x (q := nI 1) hI h1 (by decide) (fun n => cx_add1 hX.1 (by decide) hex (ct_addA hex hb)) (fun n => c_maddX hMd (Or.inl (i3_pl _ hb))) rfl
  · rcases i3_lt z2 3 (by decide) with hb | ⟨a, ha, rfl⟩
    · exact pv_x (q := nI 1) hI h1 (by decide) (fun n => cx_add1 hX.1 (by decide) hex (ct_addB hex ht hb)) (fun n => c_maddX hMd (Or.inr (Or.inl (i3_pl _ hb)))) rfl
    · rcases i3_lt z3 3 (by decide) with hb | ⟨b, hbb, rfl⟩
      · exact pv_x (q := nI 1) hI h1 (by decide) (fun n => cx_add1 hX.1 (by decide) hex (ct_addC hex ht ha hb)) (fun n => c_maddX hMd (Or.inr (Or.inr (i3_pl _ hb)))) rfl
      · by_cases hc : (A.2.2 a).1 = (A.2.2 b).1
        · obtain ⟨c, P, hA⟩ : ∃ c P, A.2.2 a = ⟨c, P⟩ := ⟨_, _, rfl⟩
          obtain ⟨c', Q, hB⟩ : ∃ c Q, A.2.2 b = ⟨c, Q⟩ := ⟨_, _, rfl⟩
          rw [hA, hB] at hc
          have hc' : c = c' := hc
          subst hc'
          have ka := hcu a ha
          have kb := hcu b hbb
          rw [hA] at ka
          rw [hB] at kb
          have ma : ∀ T, RM mo B T A → T.1 (mo + 10) a = nI (bN c) := fun T g => by have := hcm T g a ha; rw [hA] at this; exact this
          have mb : ∀ T, RM mo B T A → T.1 (mo + 10) b = nI (bN c) := fun T g => by have := hcm T g b hbb; rw [hB] at this; exact this
          cases tc
          · exact pv_ok (A := A) hI h1 (by decide) (fun n => cw_add hX.1 (by decide) (c_xadd0 hX ht ha hbb ka kb)) (xadd0_r xo B t a b S A ht ha hbb hA hB hI.1) (fun n T g => c_madd0 hMd ht ha hbb (ma T g) (mb T g)) (fun T g => madd0_r mo B t a b T A ht ha hbb hA hB g) (fun T _ => by rw [madd0_F]; exact (fs_oth (by decide)).trans ((fs_oth (by decide)).trans fs_get)) (setP_v hI.2.2)
          · exact pv_ok (A := A) hI h1 (by decide) (fun n => cw_add hX.1 (by decide) (c_xadd1 hX ht ha hbb ka kb)) (xadd1_r xo B t a b S A ht ha hbb hA hB hI.1) (fun n T g => c_madd1 hMd ht ha hbb (ma T g) (mb T g)) (fun T g => madd1_r mo B t a b T A ht ha hbb hA hB g) (fun T _ => by rw [madd1_F]; exact (fs_oth (by decide)).trans ((fs_oth (by decide)).trans fs_get)) (setP_v hI.2.2)
        · have hn : ∀ x y : Bool, x ≠ y → ¬ nI (bN x) = nI (bN y) := by decide
          exact pv_x (q := nI 2) hI h1 (by decide) (fun n => cx_add2 hX.1 (by decide) hex (ct_addD hex hX ht ha hbb (by rw [hcu a ha, hcu b hbb]; exact hn _ _ hc))) (fun n => c_maddY hMd ht ha hbb (by rw [hcm S hI.2.1 a ha, hcm S hI.2.1 b hbb]; exact hn _ _ hc)) rfl
theorem pr_times (hX : SuiteAt k L xo) (hMd : ModelAt k L mo) (hex : ∀ U, k_F k U → ExS k U) (hI : Inv xo mo B S A) (h1 : xo + 335 ≤ mo)  (z1 z2 : Int32) :
    PairV k L xo mo B S yL_times cL_times 4 [(0, 6, 9, 13)] [.ref (k_b k + xo), .int z1, .int z2] yX12_times cX12_times 3 [.ref (k_b k + mo), .int z1, .int z2] := by
  obtain ⟨f0, f1, f2, f3, f4, f5⟩ := hI.1.2.1
  obtain ⟨-, -, -, -, -, -, a0, a1, a2⟩ := hI.2.2
  have hcu : ∀ p, p < 3 → S.1 (xo + 10) p = nI (bN (A.2.2 p).1) := fun p hp => (hI.1.2.2.1 p hp).1
  have hcm : ∀ T, RM mo B T A → ∀ p, p < 3 → T.1 (mo + 10) p = nI (bN (A.2.2 p).1) := fun T g p hp => (g.2.2.1 p hp).1
  rcases i3_lt z1 3 (by decide) with hb | ⟨t, ht, rfl⟩
  · exact pv_x (q := nI 1) hI h1 (by decide) (fun n => cx_times1 hX.1 (by decide) hex (ct_timesA hex hb)) (fun n => c_mtimesX hMd (Or.inl (i3_pl _ hb))) rfl
  · rcases i3_lt z2 3 (by decide) with hb | ⟨a, ha, rfl⟩
    · exact pv_x (q := nI 1) hI h1 (by decide) (fun n => cx_times1 hX.1 (by decide) hex (ct_timesB hex ht hb)) (fun n => c_mtimesX hMd (Or.inr (i3_pl _ hb))) rfl
    · obtain ⟨c, P, hA⟩ : ∃ c P, A.2.2 a = ⟨c, P⟩ := ⟨_, _, rfl⟩
      have ka := hcu a ha
      rw [hA] at ka
      have ma : ∀ T, RM mo B T A → T.1 (mo + 10) a = nI (bN c) := fun T g => by have := hcm T g a ha; rw [hA] at this; exact this
      exact pv_ok (A := A) hI h1 (by decide) (fun n => cw_times hX.1 (by decide) (c_xtimes hX ht ha ka)) (xtimes_r xo B t a S A ht ha hA hI.2.2 hI.1) (fun n T g => c_mtimes hMd ht ha (ma T g)) (fun T g => mtimes_r mo B t a T A ht ha hA hI.2.2 g) (fun T _ => by rw [mtimes_F]; exact (fs_oth (by decide)).trans ((fs_oth (by decide)).trans fs_get)) (setP_v hI.2.2)
theorem pr_code (hX : SuiteAt k L xo) (hMd : ModelAt k L mo) (hex : ∀ U, k_F k U → ExS k U) (hI : Inv xo mo B S A) (h1 : xo + 335 ≤ mo)  (z1 : Int32) :
    PairV k L xo mo B S yL_code cL_code 3 [(0, 5, 8, 13)] [.ref (k_b k + xo), .int z1] yX12_code cX12_code 3 [.ref (k_b k + mo), .int z1] := by
  obtain ⟨f0, f1, f2, f3, f4, f5⟩ := hI.1.2.1
  obtain ⟨-, -, -, -, -, -, a0, a1, a2⟩ := hI.2.2
  have hcu : ∀ p, p < 3 → S.1 (xo + 10) p = nI (bN (A.2.2 p).1) := fun p hp => (hI.1.2.2.1 p hp).1
  have hcm : ∀ T, RM mo B T A → ∀ p, p < 3 → T.1 (mo + 10) p = nI (bN (A.2.2 p).1) := fun T g p hp => (g.2.2.1 p hp).1
  rcases i3_lt z1 3 (by decide) with hb | ⟨a, ha, rfl⟩
  · exact pv_x (q := nI 1) hI h1 (by decide) (fun n => cx_code1 hX.1 (by decide) hex (ct_codeA hex hb)) (fun n => c_mcodeX hMd (i3_pl _ hb)) rfl
  · obtain ⟨c, P, hA⟩ : ∃ c P, A.2.2 a = ⟨c, P⟩ := ⟨_, _, rfl⟩
    have ka := hcu a ha
    rw [hA] at ka
    have ma : ∀ T, RM mo B T A → T.1 (mo + 10) a = nI (bN c) := fun T g => by have := hcm T g a ha; rw [hA] at this; exact this
    exact pv_ok (A := A) hI h1 (by decide) (fun n => cw_code hX.1 (by decide) (c_xcode hX ha ka)) (xcode_r xo B a S A ha hA hI.1) (fun n T g => c_mcode hMd ha (ma T g)) (fun T g => mcode_r mo B a T A ha hA g) (fun T _ => by rw [mcode_F]; exact (fs_oth (by decide)).trans ((fs_oth (by decide)).trans ((fs_oth (by decide)).trans fs_get))) (out_v hI.2.2 (by show cB c ≤ 114; cases c <;> decide) (fun i _ => nby_lt _ i))
theorem pr_same (hX : SuiteAt k L xo) (hMd : ModelAt k L mo) (hoo : L oo = some (sJ 1)) (hex : ∀ U, k_F k U → ExS k U) (hI : Inv xo mo B S A) (h1 : xo + 335 ≤ mo) (h2 : mo + 28 ≤ oo) (z1 z2 : Int32) :
    PairI k L xo mo oo B S bL .boolean yL_same cL_same 5 [(0, 17, 20, 13)] [.ref (k_b k + xo), .int z1, .int z2, .ref (k_b k + oo)] yX12_same cX12_same 3 [.ref (k_b k + mo), .int z1, .int z2] := by
  obtain ⟨f0, f1, f2, f3, f4, f5⟩ := hI.1.2.1
  obtain ⟨-, -, -, -, -, -, a0, a1, a2⟩ := hI.2.2
  have hcu : ∀ p, p < 3 → S.1 (xo + 10) p = nI (bN (A.2.2 p).1) := fun p hp => (hI.1.2.2.1 p hp).1
  have hcm : ∀ T, RM mo B T A → ∀ p, p < 3 → T.1 (mo + 10) p = nI (bN (A.2.2 p).1) := fun T g p hp => (g.2.2.1 p hp).1
  rcases i3_lt z1 3 (by decide) with hb | ⟨a, ha, rfl⟩
  · exact pi_x (q := nI 1) hI h1 (by decide) (by decide) (fun n => cx_same1 hX.1 hoo (by decide) hex (ct_sameA hex hb)) (fun n => c_msameX hMd (Or.inl (i3_pl _ hb))) rfl
  · rcases i3_lt z2 3 (by decide) with hb | ⟨b, hbb, rfl⟩
    · exact pi_x (q := nI 1) hI h1 (by decide) (by decide) (fun n => cx_same1 hX.1 hoo (by decide) hex (ct_sameB hex ha hb)) (fun n => c_msameX hMd (Or.inr (i3_pl _ hb))) rfl
    · by_cases hc : (A.2.2 a).1 = (A.2.2 b).1
      · obtain ⟨c, P, hA⟩ : ∃ c P, A.2.2 a = ⟨c, P⟩ := ⟨_, _, rfl⟩
        obtain ⟨c', Q, hB⟩ : ∃ c Q, A.2.2 b = ⟨c, Q⟩ := ⟨_, _, rfl⟩
        rw [hA, hB] at hc
        have hc' : c = c' := hc
        subst hc'
        have ka := hcu a ha
        rw [hA] at ka
        have ma : ∀ T, RM mo B T A → T.1 (mo + 10) a = nI (bN c) := fun T g => by have := hcm T g a ha; rw [hA] at this; exact this
        have kb := hcu b hbb
        rw [hB] at kb
        have mb : ∀ T, RM mo B T A → T.1 (mo + 10) b = nI (bN c) := fun T g => by have := hcm T g b hbb; rw [hB] at this; exact this
        have hr := xsame_r xo B a b S A ha hbb hA hB hI.1
        exact pi_ok (A := A) hI h1 h2 (by decide) (fun n => cw_same hX.1 hoo (by decide) (c_xsame hX ha hbb ka kb)) hr.2 (fun n T g => c_msame hMd ha hbb (ma T g) (mb T g)) (fun T g => by have hq := msame_r mo B a b T A ha hbb hA hB g; exact ⟨by rw [hq.1, hr.1], hq.2⟩) (fun T _ => by rw [msame_F]; exact (fs_oth (by decide)).trans ((fs_oth (by decide)).trans fs_get)) hI.2.2
      · have hn : ∀ x y : Bool, x ≠ y → ¬ nI (bN x) = nI (bN y) := by decide
        exact pi_ok (A := A) (f := fun T => msameY_f mo a b T) hI h1 h2 (by decide) (fun n => cw_same hX.1 hoo (by decide) (c_xsameY hX ha hbb (by rw [hcu a ha, hcu b hbb]; exact hn _ _ hc))) ⟨hI.1, OX_rfl xo S⟩ (fun n T g => c_msameY hMd ha hbb (by rw [hcm T g a ha, hcm T g b hbb]; exact hn _ _ hc)) (fun T g => ⟨rfl, RM_f0 (nI 0) g⟩) (fun T _ => fs_get) hI.2.2
theorem pr_order (hX : SuiteAt k L xo) (hMd : ModelAt k L mo) (hoo : L oo = some (sJ 1)) (hex : ∀ U, k_F k U → ExS k U) (hI : Inv xo mo B S A) (h1 : xo + 335 ≤ mo) (h2 : mo + 28 ≤ oo) (z1 z2 : Int32) :
    PairI k L xo mo oo B S Int32.toInt64 .int yL_order cL_order 5 [(0, 10, 13, 13)] [.ref (k_b k + xo), .int z1, .int z2, .ref (k_b k + oo)] yX12_order cX12_order 4 [.ref (k_b k + mo), .int z1, .int z2] := by
  obtain ⟨f0, f1, f2, f3, f4, f5⟩ := hI.1.2.1
  obtain ⟨-, -, -, -, -, -, a0, a1, a2⟩ := hI.2.2
  have hcu : ∀ p, p < 3 → S.1 (xo + 10) p = nI (bN (A.2.2 p).1) := fun p hp => (hI.1.2.2.1 p hp).1
  have hcm : ∀ T, RM mo B T A → ∀ p, p < 3 → T.1 (mo + 10) p = nI (bN (A.2.2 p).1) := fun T g p hp => (g.2.2.1 p hp).1
  rcases i3_lt z1 3 (by decide) with hb | ⟨a, ha, rfl⟩
  · exact pi_x (q := nI 1) hI h1 (by decide) (by decide) (fun n => cx_order1 hX.1 hoo (by decide) hex (ct_orderA hex hb)) (fun n => c_morderX hMd (Or.inl (i3_pl _ hb))) rfl
  · rcases i3_le z2 2 (by decide) with hb | ⟨q, hq, rfl⟩
    · exact pi_x (q := nI 1) hI h1 (by decide) (by decide) (fun n => cx_order1 hX.1 hoo (by decide) hex (ct_orderB hex ha hb)) (fun n => c_morderX hMd (Or.inr hb)) rfl
    · obtain ⟨c, P, hA⟩ : ∃ c P, A.2.2 a = ⟨c, P⟩ := ⟨_, _, rfl⟩
      have ka := hcu a ha
      rw [hA] at ka
      have ma : ∀ T, RM mo B T A → T.1 (mo + 10) a = nI (bN c) := fun T g => by have := hcm T g a ha; rw [hA] at this; exact this
      have hq3 : q = 0 ∨ q = 1 ∨ q = 2 := by omega
      rcases hq3 with rfl | rfl | rfl
      · have hr := xorder0_r xo B a S A ha hA hI.1
        exact pi_ok (A := A) hI h1 h2 (by decide) (fun n => cw_order hX.1 hoo (by decide) (c_xorder0 hX ha ka)) hr.2 (fun n T g => c_morder0 hMd ha (ma T g)) (fun T g => by have hq := morder0_r mo B a T A ha hA g; exact ⟨by rw [hq.1, hr.1], hq.2⟩) (fun T _ => by rw [morder0_F]; exact (fs_oth (by decide)).trans ((fs_oth (by decide)).trans fs_get)) hI.2.2
      · have hr := xorder1_r xo B a S A ha hA hI.1
        exact pi_ok (A := A) hI h1 h2 (by decide) (fun n => cw_order hX.1 hoo (by decide) (c_xorder1 hX ha ka)) hr.2 (fun n T g => c_morder1 hMd ha (ma T g)) (fun T g => by have hq := morder1_r mo B a T A ha hA g; exact ⟨by rw [hq.1, hr.1], hq.2⟩) (fun T _ => by rw [morder1_F]; exact (fs_oth (by decide)).trans ((fs_oth (by decide)).trans fs_get)) hI.2.2
      · have hr := xorder2_r xo B a S A ha hA hI.1
        exact pi_ok (A := A) hI h1 h2 (by decide) (fun n => cw_order hX.1 hoo (by decide) (c_xorder2 hX ha ka)) (by rw [hr.2]; exact ⟨hI.1, OX_rfl xo S⟩) (fun n T g => c_morder2 hMd ha (ma T g)) (fun T g => by have hq := morder2_r mo B a T A (c := c) g; exact ⟨by rw [hq.1, hr.1], hq.2⟩) (fun T _ => by rw [morder2_F]; exact (fs_oth (by decide)).trans ((fs_oth (by decide)).trans fs_get)) hI.2.2
end PO3
