/-! VALUES: the class, as it is made, holds nothing yet, and its constants -/
def A0 : AS := (fun _ _ => 0, fun _ => 0, fun _ => ⟨false, (0, 1)⟩)
theorem prR0_ok : ∀ i, i < fL false → (prR0 i).toInt = pl false i := by decide +kernel
theorem prR1_ok : ∀ i, i < fL true → (prR1 i).toInt = pl true i := by decide +kernel
theorem Kp_sg0 (j : Nat) (S : StT) : Kp (j + 17) (mkSg0 j S) S := Kp_tr (Kp_le (sc0_s (j + 27) _).2.2.2 (by omega)) (Kp_tr (Kp_le (Kp_pt (j + 23) _) (by omega)) (Kp_tr (Kp_le (Kp_pt (j + 19) _) (by omega)) (Kp_le (Kp_pt (j + 15) _) (by omega))))
theorem Kp_sg1 (j : Nat) (S : StT) : Kp (j + 17) (mkSg1 j S) S := Kp_tr (Kp_le (sc1_s (j + 27) _).2.2.2 (by omega)) (Kp_tr (Kp_le (Kp_pt (j + 23) _) (by omega)) (Kp_tr (Kp_le (Kp_pt (j + 19) _) (by omega)) (Kp_le (Kp_pt (j + 15) _) (by omega))))
theorem sg0_s (j : Nat) (S : StT) : SD (mkSg0 j S).2.1 (j + 27 + 1) 1 ∧ SD (mkSg0 j S).2.1 (j + 27 + 4) (gO false) ∧ ∀ i, i < cB false → uN ((mkSg0 j S).1 (j + 27 + 5) i) = gO false / 2 ^ (8 * i) % 256 := by
  obtain ⟨a, b, c, -⟩ := sc0_s (j + 27) (mkPt (j + 23) (mkPt (j + 19) (mkPt (j + 15) S)))
  exact ⟨a, b, c⟩
theorem sg1_s (j : Nat) (S : StT) : SD (mkSg1 j S).2.1 (j + 27 + 1) 1 ∧ SD (mkSg1 j S).2.1 (j + 27 + 4) (gO true) ∧ ∀ i, i < cB true → uN ((mkSg1 j S).1 (j + 27 + 5) i) = gO true / 2 ^ (8 * i) % 256 := by
  obtain ⟨a, b, c, -⟩ := sc1_s (j + 27) (mkPt (j + 23) (mkPt (j + 19) (mkPt (j + 15) S)))
  exact ⟨a, b, c⟩
theorem fd0_s (j : Nat) (S : StT) : (mkFd0 j S).2.1 (j + 1) = oneR ∧ (mkFd0 j S).2.1 (j + 2) = prR0 := ⟨(vu_n (by omega)).trans vu_s, vu_s⟩
theorem fd1_s (j : Nat) (S : StT) : (mkFd1 j S).2.1 (j + 1) = oneR ∧ (mkFd1 j S).2.1 (j + 2) = prR1 := ⟨(vu_n (by omega)).trans vu_s, vu_s⟩
theorem su_RC : RC 0 Bp (mkSu 0 Z0) A0 := by
  unfold mkSu
  simp only [Nat.zero_add]
  have zU1 : Zr 29 (mkCt 19 114 (mkCt 17 57 (mkCt 15 57 (mkPt 11 Z0)))) := Zr_ct (by omega) (Zr_ct (by omega) (Zr_ct (by omega) (Zr_le (Zr_pt (j := 11) (Zr_0 11)) (by omega))))
  have i1 : ∀ r, (mkCt 19 114 (mkCt 17 57 (mkCt 15 57 (mkPt 11 Z0)))).1 r = fun _ => 0 := fun _ => rfl
  have f2 : (mkCt 19 114 (mkCt 17 57 (mkCt 15 57 (mkPt 11 Z0)))).2.2 2 1 = nI 0 := rfl
  have f4 : (mkCt 19 114 (mkCt 17 57 (mkCt 15 57 (mkPt 11 Z0)))).2.2 4 1 = nI 0 := rfl
  have f21 : (mkCt 19 114 (mkCt 17 57 (mkCt 15 57 (mkPt 11 Z0)))).2.2 21 1 = nI 0 := rfl
  have f15 : (mkCt 19 114 (mkCt 17 57 (mkCt 15 57 (mkPt 11 Z0)))).2.2 15 1 = nI 57 := rfl
  have f17 : (mkCt 19 114 (mkCt 17 57 (mkCt 15 57 (mkPt 11 Z0)))).2.2 17 1 = nI 57 := rfl
  have f19 : (mkCt 19 114 (mkCt 17 57 (mkCt 15 57 (mkPt 11 Z0)))).2.2 19 1 = nI 114 := rfl
  generalize mkCt 19 114 (mkCt 17 57 (mkCt 15 57 (mkPt 11 Z0))) = U1 at zU1 i1 f2 f4 f21 f15 f17 f19 ⊢
  have k2 := Kp_fd0 29 U1
  have zU2 : Zr 39 (mkFd0 29 U1) := Zr_fd0 zU1
  have a2 : (mkFd0 29 U1).2.1 30 = oneR := (fd0_s 29 U1).1
  have b2 : (mkFd0 29 U1).2.1 31 = prR0 := (fd0_s 29 U1).2
  generalize mkFd0 29 U1 = U2 at k2 zU2 a2 b2 ⊢
  obtain ⟨c1, c2, c3, c4, k3⟩ := cv0_s 39 U2 zU2
  have zU3 : Zr 131 (mkCv0 39 U2) := Zr_cv0 zU2
  generalize mkCv0 39 U2 = U3 at c1 c2 c3 c4 k3 zU3 ⊢
  obtain ⟨g1, g2, g3⟩ := sg0_s 143 U3
  have k4 := Kp_sg0 143 U3
  have zU4 : Zr 176 (mkSg0 143 U3) := Zr_sg0 (Zr_le zU3 (by omega))
  generalize mkSg0 143 U3 = U4 at g1 g2 g3 k4 zU4 ⊢
  have k5 := Kp_fd1 176 U4
  have zU5 : Zr 186 (mkFd1 176 U4) := Zr_fd1 zU4
  have a5 : (mkFd1 176 U4).2.1 177 = oneR := (fd1_s 176 U4).1
  have b5 : (mkFd1 176 U4).2.1 178 = prR1 := (fd1_s 176 U4).2
  generalize mkFd1 176 U4 = U5 at k5 zU5 a5 b5 ⊢
  obtain ⟨d1, d3, d4, k6⟩ := cv1_s 186 U5 zU5
  have zU6 : Zr 278 (mkCv1 186 U5) := Zr_cv1 zU5
  generalize mkCv1 186 U5 = U6 at d1 d3 d4 k6 zU6 ⊢
  obtain ⟨h1, h2, h3⟩ := sg1_s 290 U6
  have k7 := Kp_sg1 290 U6
  have zU7 : Zr 323 (mkSg1 290 U6) := Zr_sg1 (Zr_le zU6 (by omega))
  generalize mkSg1 290 U6 = U7 at h1 h2 h3 k7 zU7 ⊢
  obtain ⟨p1, p2, p3, p4, p5⟩ := mkPt_s 323 U7
  generalize mkPt 323 U7 = U8 at p1 p2 p3 p4 p5 ⊢
  obtain ⟨q1, q2, q3, q4, q5⟩ := mkPt_s 327 U8
  generalize mkPt 327 U8 = U9 at q1 q2 q3 q4 q5 ⊢
  obtain ⟨r1, r2, r3, r4, r5⟩ := mkPt_s 331 U9
  generalize mkPt 331 U9 = T at r1 r2 r3 r4 r5 ⊢
  have t7 : Kp 325 T U7 := fun r hr => ⟨by rw [r1, q1, p1], (r3 r (by omega) (by omega)).trans ((q3 r (by omega) (by omega)).trans (p3 r (by omega) (by omega))), by rw [r2, q2, p2]⟩
  have t6 : Kp 307 T U6 := Kp_tr (Kp_le t7 (by omega)) k7
  have t5 : Kp 187 T U5 := Kp_tr (Kp_le t6 (by omega)) k6
  have t4 : Kp 177 T U4 := Kp_tr (Kp_le t5 (by omega)) k5
  have t3 : Kp 160 T U3 := Kp_tr (Kp_le t4 (by omega)) k4
  have t2 : Kp 40 T U2 := Kp_tr (Kp_le t3 (by omega)) k3
  have t1 : Kp 30 T U1 := Kp_tr (Kp_le t2 (by omega)) k2
  have I0 : ∀ r, r < 30 → ∀ i, T.1 r i = 0 := fun r hr i => by rw [(t1 r hr).1, i1 r]
  have pz : ∀ r, r = 324 ∨ r = 328 ∨ r = 332 → T.2.1 r = fun _ => 0 := by
    intro r hr
    exact (r3 r (by omega) (by omega)).trans ((q3 r (by omega) (by omega)).trans ((p3 r (by omega) (by omega)).trans (zU7 r (by omega)).2.1))
  have y0 : T.2.1 325 = oneR := (r3 _ (by omega) (by omega)).trans ((q3 _ (by omega) (by omega)).trans p4)
  have z0 : T.2.1 326 = oneR := (r3 _ (by omega) (by omega)).trans ((q3 _ (by omega) (by omega)).trans p5)
  have y1 : T.2.1 329 = oneR := (r3 _ (by omega) (by omega)).trans q4
  have z1 : T.2.1 330 = oneR := (r3 _ (by omega) (by omega)).trans q5
  refine ⟨⟨fun i _ => I0 16 (by omega) i, fun i _ => I0 18 (by omega) i, fun i _ => I0 20 (by omega) i, fun i _ => I0 22 (by omega) i, fun i _ => I0 3 (by omega) i, fun i _ => I0 5 (by omega) i⟩, ⟨?_, ?_, ?_, ?_, ?_, ?_⟩, fun p hp => ⟨I0 10 (by omega) p, ?_⟩, fun c => ?_⟩
  · show T.2.2 2 1 = nI 0
    rw [(t1 2 (by omega)).2.2]
    exact f2
  · show T.2.2 4 1 = nI 0
    rw [(t1 4 (by omega)).2.2]
    exact f4
  · show T.2.2 21 1 = nI 0
    rw [(t1 21 (by omega)).2.2]
    exact f21
  · show T.2.2 15 1 = nI 57
    rw [(t1 15 (by omega)).2.2]
    exact f15
  · show T.2.2 17 1 = nI 57
    rw [(t1 17 (by omega)).2.2]
    exact f17
  · show T.2.2 19 1 = nI 114
    rw [(t1 19 (by omega)).2.2]
    exact f19
  · show PV false T.2.1 (0 + 323 + 4 * p) (0, 1)
    have hp3 : p = 0 ∨ p = 1 ∨ p = 2 := by omega
    rcases hp3 with rfl | rfl | rfl
    · exact PV_1 (p := 323) (pO_0 false) (VL_nul (pz 324 (by omega))) (VL_one y0) (VL_one z0)
    · exact PV_1 (p := 327) (pO_0 false) (VL_nul (pz 328 (by omega))) (VL_one y1) (VL_one z1)
    · exact PV_1 (p := 331) (pO_0 false) (VL_nul (pz 332 (by omega))) (VL_one r4) (VL_one r5)
  · cases c
    · show CI false 39 29 T.2.1 ∧ PV false T.2.1 59 (Bp false) ∧ SD T.2.1 171 1 ∧ SD T.2.1 174 (gO false) ∧ ∀ i, i < cB false → uN (T.1 175 i) = gO false / 2 ^ (8 * i) % 256
      refine ⟨⟨fun i hi => ?_, VL_one ((t2 30 (by omega)).2.1.trans a2), VL_row (t3 58 (by omega)).2.1 c1, fun _ => VL_row (t3 56 (by omega)).2.1 c2, PV_row (t3 68 (by omega)).2.1 (t3 69 (by omega)).2.1 (t3 70 (by omega)).2.1 c4⟩, PV_row (t3 60 (by omega)).2.1 (t3 61 (by omega)).2.1 (t3 62 (by omega)).2.1 c3, SD_row (t4 171 (by omega)).2.1 g1, SD_row (t4 174 (by omega)).2.1 g2, fun i hi => ?_⟩
      · show (T.2.1 31 i).toInt = pl false i
        rw [(t2 31 (by omega)).2.1, b2]
        exact prR0_ok i hi
      · rw [(t4 175 (by omega)).1]
        exact g3 i hi
    · show CI true 186 176 T.2.1 ∧ PV true T.2.1 206 (Bp true) ∧ SD T.2.1 318 1 ∧ SD T.2.1 321 (gO true) ∧ ∀ i, i < cB true → uN (T.1 322 i) = gO true / 2 ^ (8 * i) % 256
      refine ⟨⟨fun i hi => ?_, VL_one ((t5 177 (by omega)).2.1.trans a5), VL_row (t6 205 (by omega)).2.1 d1, fun z => absurd z (by decide), PV_row (t6 215 (by omega)).2.1 (t6 216 (by omega)).2.1 (t6 217 (by omega)).2.1 d4⟩, PV_row (t6 207 (by omega)).2.1 (t6 208 (by omega)).2.1 (t6 209 (by omega)).2.1 d3, SD_row (t7 318 (by omega)).2.1 h1, SD_row (t7 321 (by omega)).2.1 h2, fun i hi => ?_⟩
      · show (T.2.1 178 i).toInt = pl true i
        rw [(t5 178 (by omega)).2.1, b5]
        exact prR1_ok i hi
      · rw [(t7 322 (by omega)).1]
        exact h3 i hi
