/-! VALUES: what the class's makers leave (vals.py) -/
/-- the places below j are as they were -/
def Kp (j : Nat) (T S : StT) : Prop := ∀ r, r < j → T.1 r = S.1 r ∧ T.2.1 r = S.2.1 r ∧ T.2.2 r = S.2.2 r
theorem Kp_tr {j : Nat} {T U S : StT} (h1 : Kp j T U) (h2 : Kp j U S) : Kp j T S := fun r hr => ⟨(h1 r hr).1.trans (h2 r hr).1, (h1 r hr).2.1.trans (h2 r hr).2.1, (h1 r hr).2.2.trans (h2 r hr).2.2⟩
theorem Kp_le {i j : Nat} {T S : StT} (h : Kp j T S) (hi : i ≤ j) : Kp i T S := fun r hr => h r (by omega)
theorem Kp_pt (j : Nat) (S : StT) : Kp (j + 2) (mkPt j S) S := by
  obtain ⟨a, b, c, -⟩ := mkPt_s j S
  intro r hr
  exact ⟨by rw [a], c r (by omega) (by omega), by rw [b]⟩
theorem Kp_hx {j nB bits : Nat} {f : Nat → Nat} {S : StT} (hn : nB ≤ 56) (h1 : 28 ≤ bits) (h2 : bits ≤ 29) (hx : ∀ q, q < 2 * nB → hxOk (f q)) : Kp j (mkHx j nB bits f S) S := by
  obtain ⟨-, b, c, d⟩ := mkHx_s j nB bits f S hn h1 h2 hx
  intro r hr
  exact ⟨c r (by omega), b r (by omega), by rw [d]⟩
theorem Kp_cpy (c : Bool) (to a : Nat) (S : StT) : Kp to (fcopy_f c to a S) S := fun r hr => ⟨rfl, vu_n (by omega), rfl⟩
theorem Kp_neg {c : Bool} {to : Nat} {S : StT} (hk : FK c S.2.1 to) : Kp to (fneg_f c to to S) S := by
  intro r hr
  exact ⟨by rw [fneg_I], (neg_s c to to S hk).2.2 r (by omega), by rw [fneg_F]⟩
theorem Kp_fd0 (j : Nat) (S : StT) : Kp (j + 1) (mkFd0 j S) S := fun r hr => ⟨rfl, (vu_n (by omega)).trans (vu_n (by omega)), rfl⟩
theorem Kp_fd1 (j : Nat) (S : StT) : Kp (j + 1) (mkFd1 j S) S := fun r hr => ⟨rfl, (vu_n (by omega)).trans (vu_n (by omega)), rfl⟩
theorem VL_one {c : Bool} {J : Nat → Nat → Int64} {r : Nat} (h : J r = oneR) : VL c J r 1 := by
  have := VL_small (c := c) (J := J) (r := r) (m := 1) (by decide) (by rw [h]; rfl) (fun j h1 h2 => by rw [h]; exact if_neg (by omega))
  rwa [show fz c (((1 : Nat) : Int)) = 1 from fz_1 c] at this
theorem VL_nul {c : Bool} {J : Nat → Nat → Int64} {r : Nat} (h : J r = fun _ => 0) : VL c J r 0 := by
  have := VL_small (c := c) (J := J) (r := r) (m := 0) (by decide) (by rw [h]; rfl) (fun j h1 h2 => by rw [h])
  rwa [show fz c (((0 : Nat) : Int)) = 0 from fz_0 c] at this
theorem PV_1 {c : Bool} {J : Nat → Nat → Int64} {p : Nat} {P : Pt c} (hP : pO c P) (hx : VL c J (p + 1) P.1) (hy : VL c J (p + 2) P.2) (hz : VL c J (p + 3) 1) : PV c J p P :=
  ⟨hP, P.1, P.2, 1, hx, hy, hz, fp_10 c, (Lean.Grind.Semiring.mul_one _).symm, (Lean.Grind.Semiring.mul_one _).symm⟩
/-- the base point -/
def bX (c : Bool) : Nat := if c then 0x4f1970c66bed0ded221d15a622bf36da9e146570470f1767ea6de324a3d3a46412ae1af72ab66511433b80e18b00938e2626a82bc70cc05e else 0x216936d3cd6e53fec0a4e231fdd6dc5c692cc7609525a7b2c9562d608f25d51a
def bY (c : Bool) : Nat := if c then 0x693f46716eb6bc248876203756c9c7624bea73736ca3984087789c1e05a0c2d73ad3ff1ce67c39c4fdbd132c4ed7c8ad9808795bf230fa14 else 0x6666666666666666666666666666666666666666666666666666666666666658
def Bp (c : Bool) : Pt c := (fz c (bX c : Int), fz c (bY c : Int))
theorem Bp_on (c : Bool) : pO c (Bp c) := by
  unfold pO ed_on fp_a fp_d Bp
  rw [← fz_1 c]
  simp only [← fz_mul, ← fz_add]
  rw [fz_eq]
  cases c <;> decide +kernel
theorem bv_68 : bv (hxP 32 hx68 32) 32 = 0x2b8324804fc1df0b2b4d00993dfbd7a72f431806ad2fe478c4ee1b274a0ea0b0 := by decide +kernel
theorem bv_81 : bv (hxP 32 hx81 32) 32 = 0x52036cee2b6ffe738cc740797779e89800700a4d4141d8ab75eb4dca135978a3 := by decide +kernel
theorem bv_95 : bv (hxP 32 hx95 32) 32 = 0x216936d3cd6e53fec0a4e231fdd6dc5c692cc7609525a7b2c9562d608f25d51a := by decide +kernel
theorem bv_105 : bv (hxP 32 hx105 32) 32 = 0x6666666666666666666666666666666666666666666666666666666666666658 := by decide +kernel
theorem bv_79 : bv (hxP 2 hx79 2) 2 = 0x98a9 := by decide +kernel
theorem bv_93 : bv (hxP 56 hx93 56) 56 = 0x4f1970c66bed0ded221d15a622bf36da9e146570470f1767ea6de324a3d3a46412ae1af72ab66511433b80e18b00938e2626a82bc70cc05e := by decide +kernel
theorem bv_103 : bv (hxP 56 hx103 56) 56 = 0x693f46716eb6bc248876203756c9c7624bea73736ca3984087789c1e05a0c2d73ad3ff1ce67c39c4fdbd132c4ed7c8ad9808795bf230fa14 := by decide +kernel
theorem bv_27 : bv (hxP 56 hx27 56) 56 = 0x3fffffffffffffffffffffffffffffffffffffffffffffffffffffff7cca23e9c44edb49aed63690216cc2728dc58f552378c292ab5844f3 := by decide +kernel
theorem bv_29 : bv (hxP 32 hx29 32) 32 = 0x1000000000000000000000000000000014def9dea2f79cd65812631a5cf5d3ed := by decide +kernel
theorem Kp_15 (j : Nat) (S : StT) : Kp (j + 34) (mkPt (j + 88) (mkPt (j + 84) (mkPt (j + 80) (mkPt (j + 76) (mkPt (j + 72) (mkPt (j + 68) (mkPt (j + 64) (mkPt (j + 60) (mkPt (j + 56) (mkPt (j + 52) (mkPt (j + 48) (mkPt (j + 44) (mkPt (j + 40) (mkPt (j + 36) (mkPt (j + 32) S))))))))))))))) S := (Kp_tr (Kp_le (Kp_pt (j + 88) (mkPt (j + 84) (mkPt (j + 80) (mkPt (j + 76) (mkPt (j + 72) (mkPt (j + 68) (mkPt (j + 64) (mkPt (j + 60) (mkPt (j + 56) (mkPt (j + 52) (mkPt (j + 48) (mkPt (j + 44) (mkPt (j + 40) (mkPt (j + 36) (mkPt (j + 32) S))))))))))))))) (by omega)) (Kp_tr (Kp_le (Kp_pt (j + 84) (mkPt (j + 80) (mkPt (j + 76) (mkPt (j + 72) (mkPt (j + 68) (mkPt (j + 64) (mkPt (j + 60) (mkPt (j + 56) (mkPt (j + 52) (mkPt (j + 48) (mkPt (j + 44) (mkPt (j + 40) (mkPt (j + 36) (mkPt (j + 32) S)))))))))))))) (by omega)) (Kp_tr (Kp_le (Kp_pt (j + 80) (mkPt (j + 76) (mkPt (j + 72) (mkPt (j + 68) (mkPt (j + 64) (mkPt (j + 60) (mkPt (j + 56) (mkPt (j + 52) (mkPt (j + 48) (mkPt (j + 44) (mkPt (j + 40) (mkPt (j + 36) (mkPt (j + 32) S))))))))))))) (by omega)) (Kp_tr (Kp_le (Kp_pt (j + 76) (mkPt (j + 72) (mkPt (j + 68) (mkPt (j + 64) (mkPt (j + 60) (mkPt (j + 56) (mkPt (j + 52) (mkPt (j + 48) (mkPt (j + 44) (mkPt (j + 40) (mkPt (j + 36) (mkPt (j + 32) S)))))))))))) (by omega)) (Kp_tr (Kp_le (Kp_pt (j + 72) (mkPt (j + 68) (mkPt (j + 64) (mkPt (j + 60) (mkPt (j + 56) (mkPt (j + 52) (mkPt (j + 48) (mkPt (j + 44) (mkPt (j + 40) (mkPt (j + 36) (mkPt (j + 32) S))))))))))) (by omega)) (Kp_tr (Kp_le (Kp_pt (j + 68) (mkPt (j + 64) (mkPt (j + 60) (mkPt (j + 56) (mkPt (j + 52) (mkPt (j + 48) (mkPt (j + 44) (mkPt (j + 40) (mkPt (j + 36) (mkPt (j + 32) S)))))))))) (by omega)) (Kp_tr (Kp_le (Kp_pt (j + 64) (mkPt (j + 60) (mkPt (j + 56) (mkPt (j + 52) (mkPt (j + 48) (mkPt (j + 44) (mkPt (j + 40) (mkPt (j + 36) (mkPt (j + 32) S))))))))) (by omega)) (Kp_tr (Kp_le (Kp_pt (j + 60) (mkPt (j + 56) (mkPt (j + 52) (mkPt (j + 48) (mkPt (j + 44) (mkPt (j + 40) (mkPt (j + 36) (mkPt (j + 32) S)))))))) (by omega)) (Kp_tr (Kp_le (Kp_pt (j + 56) (mkPt (j + 52) (mkPt (j + 48) (mkPt (j + 44) (mkPt (j + 40) (mkPt (j + 36) (mkPt (j + 32) S))))))) (by omega)) (Kp_tr (Kp_le (Kp_pt (j + 52) (mkPt (j + 48) (mkPt (j + 44) (mkPt (j + 40) (mkPt (j + 36) (mkPt (j + 32) S)))))) (by omega)) (Kp_tr (Kp_le (Kp_pt (j + 48) (mkPt (j + 44) (mkPt (j + 40) (mkPt (j + 36) (mkPt (j + 32) S))))) (by omega)) (Kp_tr (Kp_le (Kp_pt (j + 44) (mkPt (j + 40) (mkPt (j + 36) (mkPt (j + 32) S)))) (by omega)) (Kp_tr (Kp_le (Kp_pt (j + 40) (mkPt (j + 36) (mkPt (j + 32) S))) (by omega)) (Kp_tr (Kp_le (Kp_pt (j + 36) (mkPt (j + 32) S)) (by omega)) (Kp_le (Kp_pt (j + 32) S) (by omega))))))))))))))))
theorem cv0_s (j : Nat) (S : StT) (hz : Zr j S) : VL false (mkCv0 j S).2.1 (j + 19) (fp_d false) ∧ VL false (mkCv0 j S).2.1 (j + 17) (fp_i false) ∧ PV false (mkCv0 j S).2.1 (j + 20) (Bp false) ∧ PV false (mkCv0 j S).2.1 (j + 28) (0, 1) ∧ Kp (j + 1) (mkCv0 j S) S := by
  unfold mkCv0
  have kS1 := Kp_pt (j + 2) S
  have zS1 : Zr (j + 6) (mkPt (j + 2) S) := Zr_pt (Zr_le hz (by omega))
  generalize mkPt (j + 2) S = S1 at kS1 zS1 ⊢
  have a2 := mkHx_s (j + 16) 32 (fb false) hx68 S1 (by decide) (by decide) (by decide) hk_68.2
  have k2 := Kp_hx (j := j + 16) (S := S1) (bits := fb false) (by decide) (by decide) (by decide) hk_68.2
  have z2 := Zr_hx (j := j + 16) (S := S1) (bits := fb false) (by decide) (by decide) (by decide) hk_68.2 (Zr_le zS1 (by omega))
  have v2 := hx_VL0 (c := false) (j := j + 16) (S := S1) (by rw [bv_68]; decide) (by decide) hk_68.2
  generalize mkHx (j + 16) 32 (fb false) hx68 S1 = S2 at *
  have a3 := mkHx_s (j + 18) 32 (fb false) hx81 S2 (by decide) (by decide) (by decide) hk_81.2
  have k3 := Kp_hx (j := j + 18) (S := S2) (bits := fb false) (by decide) (by decide) (by decide) hk_81.2
  have z3 := Zr_hx (j := j + 18) (S := S2) (bits := fb false) (by decide) (by decide) (by decide) hk_81.2 (Zr_le z2 (by omega))
  have v3 := hx_VL0 (c := false) (j := j + 18) (S := S2) (by rw [bv_81]; decide) (by decide) hk_81.2
  rw [bv_81] at v3
  generalize mkHx (j + 18) 32 (fb false) hx81 S2 = S3 at *
  obtain ⟨p1, p2, p3, p4, p5⟩ := mkPt_s (j + 20) S3
  have k4 := Kp_pt (j + 20) S3
  have z4 : Zr (j + 24) (mkPt (j + 20) S3) := Zr_pt (Zr_le z3 (by omega))
  generalize mkPt (j + 20) S3 = S4 at *
  have a5 := mkHx_s (j + 24) 32 (fb false) hx95 S4 (by decide) (by decide) (by decide) hk_95.2
  have k5 := Kp_hx (j := j + 24) (S := S4) (bits := fb false) (by decide) (by decide) (by decide) hk_95.2
  have z5 := Zr_hx (j := j + 24) (S := S4) (bits := fb false) (by decide) (by decide) (by decide) hk_95.2 z4
  have v5 := hx_VL0 (c := false) (j := j + 24) (S := S4) (by rw [bv_95]; decide) (by decide) hk_95.2
  rw [bv_95] at v5
  generalize mkHx (j + 24) 32 (fb false) hx95 S4 = S5 at *
  obtain ⟨v6, f6⟩ := copy_v false (j + 21) (j + 24 + 1) S5 v5
  have k6 := Kp_cpy false (j + 21) (j + 25) S5
  have z6 : Zr (j + 26) (fcopy_f false (j + 21) (j + 25) S5) := Zr_cpy (by omega) z5
  generalize fcopy_f false (j + 21) (j + 25) S5 = S6 at *
  have a7 := mkHx_s (j + 26) 32 (fb false) hx105 S6 (by decide) (by decide) (by decide) hk_105.2
  have k7 := Kp_hx (j := j + 26) (S := S6) (bits := fb false) (by decide) (by decide) (by decide) hk_105.2
  have z7 := Zr_hx (j := j + 26) (S := S6) (bits := fb false) (by decide) (by decide) (by decide) hk_105.2 z6
  have v7 := hx_VL0 (c := false) (j := j + 26) (S := S6) (by rw [bv_105]; decide) (by decide) hk_105.2
  rw [bv_105] at v7
  generalize mkHx (j + 26) 32 (fb false) hx105 S6 = S7 at *
  obtain ⟨v8, f8⟩ := copy_v false (j + 22) (j + 26 + 1) S7 v7
  have k8 := Kp_cpy false (j + 22) (j + 27) S7
  have z8 : Zr (j + 28) (fcopy_f false (j + 22) (j + 27) S7) := Zr_cpy (by omega) z7
  generalize fcopy_f false (j + 22) (j + 27) S7 = S8 at *
  obtain ⟨q1, q2, q3, q4, q5⟩ := mkPt_s (j + 28) S8
  have k9 := Kp_pt (j + 28) S8
  generalize mkPt (j + 28) S8 = S9 at *
  have k10 := Kp_15 j S9
  generalize mkPt (j + 88) (mkPt (j + 84) (mkPt (j + 80) (mkPt (j + 76) (mkPt (j + 72) (mkPt (j + 68) (mkPt (j + 64) (mkPt (j + 60) (mkPt (j + 56) (mkPt (j + 52) (mkPt (j + 48) (mkPt (j + 44) (mkPt (j + 40) (mkPt (j + 36) (mkPt (j + 32) S9)))))))))))))) = T at k10 ⊢
  have e9 : ∀ r, r < j + 34 → T.2.1 r = S9.2.1 r := fun r hr => (k10 r hr).2.1
  have e8 : ∀ r, r < j + 30 → T.2.1 r = S8.2.1 r := fun r hr => (e9 r (by omega)).trans (q3 r (by omega) (by omega))
  have e6 : ∀ r, r < j + 27 → r ≠ j + 22 → T.2.1 r = S6.2.1 r := fun r hr h1 => (e8 r (by omega)).trans ((f8 r h1).trans (a7.2.1 r (by omega)))
  have e4 : ∀ r, r < j + 25 → r ≠ j + 22 → r ≠ j + 21 → T.2.1 r = S4.2.1 r := fun r hr h1 h2 => (e6 r (by omega) h1).trans ((f6 r h2).trans (a5.2.1 r (by omega)))
  have e3 : ∀ r, r < j + 21 → T.2.1 r = S3.2.1 r := fun r hr => (e4 r (by omega) (by omega) (by omega)).trans (p3 r (by omega) (by omega))
  have e2 : ∀ r, r < j + 19 → T.2.1 r = S2.2.1 r := fun r hr => (e3 r (by omega)).trans (a3.2.1 r (by omega))
  rw [bv_68] at v2
  have hb : PV false T.2.1 (j + 20) (Bp false) := PV_1 (Bp_on false) (VL_row (e6 (j + 21) (by omega) (by omega)) v6) (VL_row (e8 (j + 22) (by omega)) v8) (VL_one ((e4 (j + 23) (by omega) (by omega) (by omega)).trans p5))
  have h0 : PV false T.2.1 (j + 28) (0, 1) := PV_1 (pO_0 _) (VL_nul ((e8 (j + 29) (by omega)).trans (z8 (j + 29) (by omega)).2.1)) (VL_one ((e9 (j + 30) (by omega)).trans q4)) (VL_one ((e9 (j + 31) (by omega)).trans q5))
  have hk : Kp (j + 1) T S := Kp_tr (Kp_le k10 (by omega)) (Kp_tr (Kp_le k9 (by omega)) (Kp_tr (Kp_le k8 (by omega)) (Kp_tr (Kp_le k7 (by omega)) (Kp_tr (Kp_le k6 (by omega)) (Kp_tr (Kp_le k5 (by omega)) (Kp_tr (Kp_le k4 (by omega)) (Kp_tr (Kp_le k3 (by omega)) (Kp_tr (Kp_le k2 (by omega)) (Kp_le kS1 (by omega))))))))))
  exact ⟨VL_row (e3 (j + 19) (by omega)) v3, VL_row (e2 (j + 17) (by omega)) v2, hb, h0, hk⟩
theorem cv1_s (j : Nat) (S : StT) (hz : Zr j S) : VL true (mkCv1 j S).2.1 (j + 19) (fp_d true) ∧ PV true (mkCv1 j S).2.1 (j + 20) (Bp true) ∧ PV true (mkCv1 j S).2.1 (j + 28) (0, 1) ∧ Kp (j + 1) (mkCv1 j S) S := by
  unfold mkCv1
  have kS1 := Kp_pt (j + 2) S
  have zS1 : Zr (j + 6) (mkPt (j + 2) S) := Zr_pt (Zr_le hz (by omega))
  generalize mkPt (j + 2) S = S1 at kS1 zS1 ⊢
  have a2 := mkHx_s (j + 16) 32 (fb true) hx68 S1 (by decide) (by decide) (by decide) hk_68.2
  have k2 := Kp_hx (j := j + 16) (S := S1) (bits := fb true) (by decide) (by decide) (by decide) hk_68.2
  have z2 := Zr_hx (j := j + 16) (S := S1) (bits := fb true) (by decide) (by decide) (by decide) hk_68.2 (Zr_le zS1 (by omega))
  generalize mkHx (j + 16) 32 (fb true) hx68 S1 = S2 at *
  have a3 := mkHx_s (j + 18) 2 (fb true) hx79 S2 (by decide) (by decide) (by decide) hk_79.2
  have k3 := Kp_hx (j := j + 18) (S := S2) (bits := fb true) (by decide) (by decide) (by decide) hk_79.2
  have z3 := Zr_hx (j := j + 18) (S := S2) (bits := fb true) (by decide) (by decide) (by decide) hk_79.2 (Zr_le z2 (by omega))
  have v3 := hx_VL0 (c := true) (j := j + 18) (S := S2) (by rw [bv_79]; decide) (by decide) hk_79.2
  rw [bv_79] at v3
  generalize mkHx (j + 18) 2 (fb true) hx79 S2 = S3 at *
  obtain ⟨n1, n2⟩ := neg_v true (j + 19) (j + 19) S3 v3
  have kn := Kp_neg v3.1
  have zn := Zr_neg v3.1 (by omega) z3
  generalize fneg_f true (j + 19) (j + 19) S3 = S3n at *
  obtain ⟨p1, p2, p3, p4, p5⟩ := mkPt_s (j + 20) S3n
  have k4 := Kp_pt (j + 20) S3n
  have z4 : Zr (j + 24) (mkPt (j + 20) S3n) := Zr_pt (Zr_le zn (by omega))
  generalize mkPt (j + 20) S3n = S4 at *
  have a5 := mkHx_s (j + 24) 56 (fb true) hx93 S4 (by decide) (by decide) (by decide) hk_93.2
  have k5 := Kp_hx (j := j + 24) (S := S4) (bits := fb true) (by decide) (by decide) (by decide) hk_93.2
  have z5 := Zr_hx (j := j + 24) (S := S4) (bits := fb true) (by decide) (by decide) (by decide) hk_93.2 z4
  have v5 := hx_VL0 (c := true) (j := j + 24) (S := S4) (by rw [bv_93]; decide) (by decide) hk_93.2
  rw [bv_93] at v5
  generalize mkHx (j + 24) 56 (fb true) hx93 S4 = S5 at *
  obtain ⟨v6, f6⟩ := copy_v true (j + 21) (j + 24 + 1) S5 v5
  have k6 := Kp_cpy true (j + 21) (j + 25) S5
  have z6 : Zr (j + 26) (fcopy_f true (j + 21) (j + 25) S5) := Zr_cpy (by omega) z5
  generalize fcopy_f true (j + 21) (j + 25) S5 = S6 at *
  have a7 := mkHx_s (j + 26) 56 (fb true) hx103 S6 (by decide) (by decide) (by decide) hk_103.2
  have k7 := Kp_hx (j := j + 26) (S := S6) (bits := fb true) (by decide) (by decide) (by decide) hk_103.2
  have z7 := Zr_hx (j := j + 26) (S := S6) (bits := fb true) (by decide) (by decide) (by decide) hk_103.2 z6
  have v7 := hx_VL0 (c := true) (j := j + 26) (S := S6) (by rw [bv_103]; decide) (by decide) hk_103.2
  rw [bv_103] at v7
  generalize mkHx (j + 26) 56 (fb true) hx103 S6 = S7 at *
  obtain ⟨v8, f8⟩ := copy_v true (j + 22) (j + 26 + 1) S7 v7
  have k8 := Kp_cpy true (j + 22) (j + 27) S7
  have z8 : Zr (j + 28) (fcopy_f true (j + 22) (j + 27) S7) := Zr_cpy (by omega) z7
  generalize fcopy_f true (j + 22) (j + 27) S7 = S8 at *
  obtain ⟨q1, q2, q3, q4, q5⟩ := mkPt_s (j + 28) S8
  have k9 := Kp_pt (j + 28) S8
  generalize mkPt (j + 28) S8 = S9 at *
  have k10 := Kp_15 j S9
  generalize mkPt (j + 88) (mkPt (j + 84) (mkPt (j + 80) (mkPt (j + 76) (mkPt (j + 72) (mkPt (j + 68) (mkPt (j + 64) (mkPt (j + 60) (mkPt (j + 56) (mkPt (j + 52) (mkPt (j + 48) (mkPt (j + 44) (mkPt (j + 40) (mkPt (j + 36) (mkPt (j + 32) S9)))))))))))))) = T at k10 ⊢
  have e9 : ∀ r, r < j + 34 → T.2.1 r = S9.2.1 r := fun r hr => (k10 r hr).2.1
  have e8 : ∀ r, r < j + 30 → T.2.1 r = S8.2.1 r := fun r hr => (e9 r (by omega)).trans (q3 r (by omega) (by omega))
  have e6 : ∀ r, r < j + 27 → r ≠ j + 22 → T.2.1 r = S6.2.1 r := fun r hr h1 => (e8 r (by omega)).trans ((f8 r h1).trans (a7.2.1 r (by omega)))
  have e4 : ∀ r, r < j + 25 → r ≠ j + 22 → r ≠ j + 21 → T.2.1 r = S4.2.1 r := fun r hr h1 h2 => (e6 r (by omega) h1).trans ((f6 r h2).trans (a5.2.1 r (by omega)))
  have e3 : ∀ r, r < j + 21 → T.2.1 r = S3n.2.1 r := fun r hr => (e4 r (by omega) (by omega) (by omega)).trans (p3 r (by omega) (by omega))
  have hb : PV true T.2.1 (j + 20) (Bp true) := PV_1 (Bp_on true) (VL_row (e6 (j + 21) (by omega) (by omega)) v6) (VL_row (e8 (j + 22) (by omega)) v8) (VL_one ((e4 (j + 23) (by omega) (by omega) (by omega)).trans p5))
  have h0 : PV true T.2.1 (j + 28) (0, 1) := PV_1 (pO_0 _) (VL_nul ((e8 (j + 29) (by omega)).trans (z8 (j + 29) (by omega)).2.1)) (VL_one ((e9 (j + 30) (by omega)).trans q4)) (VL_one ((e9 (j + 31) (by omega)).trans q5))
  have hk : Kp (j + 1) T S := Kp_tr (Kp_le k10 (by omega)) (Kp_tr (Kp_le k9 (by omega)) (Kp_tr (Kp_le k8 (by omega)) (Kp_tr (Kp_le k7 (by omega)) (Kp_tr (Kp_le k6 (by omega)) (Kp_tr (Kp_le k5 (by omega)) (Kp_tr (Kp_le k4 (by omega)) (Kp_tr (Kp_le kn (by omega)) (Kp_tr (Kp_le k3 (by omega)) (Kp_tr (Kp_le k2 (by omega)) (Kp_le kS1 (by omega)))))))))))
  refine ⟨VL_row (e3 (j + 19) (by omega)) ?_, hb, h0, hk⟩
  rw [show fp_d true = -fz true (((0x98a9 : Nat)) : Int) from fz_neg true 39081]
  exact n1
theorem sc0_s (j : Nat) (S : StT) : SD (mkSc0 j S).2.1 (j + 1) 1 ∧ SD (mkSc0 j S).2.1 (j + 4) (gO false) ∧ (∀ i, i < cB false → uN ((mkSc0 j S).1 (j + 5) i) = gO false / 2 ^ (8 * i) % 256) ∧ Kp (j + 1) (mkSc0 j S) S := by
  obtain ⟨a, b, d, e⟩ := mkHx_s (j + 3) 32 28 hx29 S (by decide) (by decide) (by decide) hk_29.2
  rw [bv_29] at a
  unfold mkSc0
  generalize mkHx (j + 3) 32 28 hx29 S = T at a b d e ⊢
  have g : ∀ q, q < 16 → uL (T.2.1 (j + 4) q) = gO false / 2 ^ (28 * q) % 2 ^ 28 := a
  have hg : gO false < 2 ^ 448 := by decide
  obtain ⟨l1, l2, -⟩ := lto_s (j + 5) 0 32 (j + 4) 28 16 T ⟨by decide, by decide⟩ (Nat.le_refl _) (fun q hq => by rw [g q hq]; exact Nat.mod_lt _ (by decide)) (Or.inl rfl) (by decide)
  have fJ : (lto_f (j + 5) 0 32 (j + 4) 28 T).2.1 = T.2.1 := rfl
  have fF : (lto_f (j + 5) 0 32 (j + 4) 28 T).2.2 = T.2.2 := rfl
  have hv : rvN (2 ^ 28) (fun q => uL (T.2.1 (j + 4) q)) 16 = gO false := by
    rw [rvN_congr 16 (fun q hq => g q hq), rvN_dg]
    exact Nat.mod_eq_of_lt hg
  rw [hv] at l1
  refine ⟨⟨by decide, fun i hi => ?_⟩, ⟨hg, fun i hi => ?_⟩, fun i hi => ?_, fun r hr => ⟨(l2 r (by omega)).trans (d r (by omega)), ?_, ?_⟩⟩
  · show uL (va_up _ (j + 1) oneR (j + 1) i) = _
    rw [vu_s]
    exact (by decide : ∀ i, i < 16 → uL (oneR i) = 1 / 2 ^ (28 * i) % 2 ^ 28) i hi
  · show uL (va_up _ (j + 1) oneR (j + 4) i) = _
    rw [vu_n (by omega), fJ]
    exact g i hi
  · have := l1 i hi
    rw [Nat.zero_add] at this
    exact this
  · show va_up _ (j + 1) oneR r = _
    rw [vu_n (by omega), fJ]
    exact b r (by omega)
  · show (lto_f (j + 5) 0 32 (j + 4) 28 T).2.2 r = _
    rw [fF, e]
theorem sc1_s (j : Nat) (S : StT) : SD (mkSc1 j S).2.1 (j + 1) 1 ∧ SD (mkSc1 j S).2.1 (j + 4) (gO true) ∧ (∀ i, i < cB true → uN ((mkSc1 j S).1 (j + 5) i) = gO true / 2 ^ (8 * i) % 256) ∧ Kp (j + 1) (mkSc1 j S) S := by
  obtain ⟨a, b, d, e⟩ := mkHx_s (j + 3) 56 28 hx27 S (by decide) (by decide) (by decide) hk_27.2
  rw [bv_27] at a
  unfold mkSc1
  generalize mkHx (j + 3) 56 28 hx27 S = T at a b d e ⊢
  have g : ∀ q, q < 16 → uL (T.2.1 (j + 4) q) = gO true / 2 ^ (28 * q) % 2 ^ 28 := a
  have hg : gO true < 2 ^ 448 := by decide
  obtain ⟨l1, l2, -⟩ := lto_s (j + 5) 0 57 (j + 4) 28 16 T ⟨by decide, by decide⟩ (Nat.le_refl _) (fun q hq => by rw [g q hq]; exact Nat.mod_lt _ (by decide)) (Or.inl rfl) (by decide)
  have fJ : (lto_f (j + 5) 0 57 (j + 4) 28 T).2.1 = T.2.1 := rfl
  have fF : (lto_f (j + 5) 0 57 (j + 4) 28 T).2.2 = T.2.2 := rfl
  have hv : rvN (2 ^ 28) (fun q => uL (T.2.1 (j + 4) q)) 16 = gO true := by
    rw [rvN_congr 16 (fun q hq => g q hq), rvN_dg]
    exact Nat.mod_eq_of_lt hg
  rw [hv] at l1
  refine ⟨⟨by decide, fun i hi => ?_⟩, ⟨hg, fun i hi => ?_⟩, fun i hi => ?_, fun r hr => ⟨(l2 r (by omega)).trans (d r (by omega)), ?_, ?_⟩⟩
  · show uL (va_up _ (j + 1) oneR (j + 1) i) = _
    rw [vu_s]
    exact (by decide : ∀ i, i < 16 → uL (oneR i) = 1 / 2 ^ (28 * i) % 2 ^ 28) i hi
  · show uL (va_up _ (j + 1) oneR (j + 4) i) = _
    rw [vu_n (by omega), fJ]
    exact g i hi
  · have := l1 i hi
    rw [Nat.zero_add] at this
    exact this
  · show va_up _ (j + 1) oneR r = _
    rw [vu_n (by omega), fJ]
    exact b r (by omega)
  · show (lto_f (j + 5) 0 57 (j + 4) 28 T).2.2 r = _
    rw [fF, e]
