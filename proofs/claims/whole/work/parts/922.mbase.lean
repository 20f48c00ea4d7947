/-! VALUES: the base points in the model -/
theorem bX_ev (c : Bool) : (Bp c).1.val % 2 = 0 ∧ (Bp c).1 ≠ 0 := by
  have e : ((Bp c).1.val : Int) = (bX c : Int) % (nt_p c : Int) := fz_vl c _
  have e2 : (bX c : Int) % (nt_p c : Int) = (bX c : Int) := by cases c <;> decide +kernel
  rw [e2] at e
  have e3 : (Bp c).1.val = bX c := by omega
  refine ⟨by rw [e3]; cases c <;> decide +kernel, fun h => ?_⟩
  rw [h] at e3
  have e4 : (0 : Nat) = bX c := e3
  revert e4
  cases c <;> decide +kernel
theorem MP_1 {c : Bool} {I : Nat → Nat → Int32} {mo a : Nat} {P : Pt c} (hP : pO c P) (h0 : MV c I mo a P.1) (h1 : MV c I mo (a + 1) P.2) (h2 : MV c I mo (a + 2) 1) : MP c I mo a P := ⟨hP, P.1, P.2, 1, h0, h1, h2, fp_10 c, (Lean.Grind.Semiring.mul_one _).symm, (Lean.Grind.Semiring.mul_one _).symm⟩
def mbD (d x : Nat) : Prop := x = 25 ∨ x = d ∨ x = d + 2
theorem mbase_m (c : Bool) (mo d : Nat) (S : StT) {x yv bx : Zp c} (hd : d = 13 ∨ d = 16) (hp : MD S.1 mo (9 + bN c) (nt_p c)) (hx : MV c S.1 mo d x) (hy : MV c S.1 mo (d + 1) yv) (ho : pO c (x, yv)) (hb : pO c (bx, yv)) (he : bx.val % 2 = 0) (hn : bx ≠ 0) :
    MP c (mbase_f c mo d (nI 0) S).1 mo d (bx, yv) ∧ MX mo (mbD d) (mbase_f c mo d (nI 0) S) S := by
  have hbN := bN_le c
  have hpar := par_m hx
  have h2 := x_two ho hb
  have hnp := neg_par hn
  unfold mbase_f
  by_cases hc : (S.1 (mo + 7) (32 * d) &&& nI 1) = nI 0
  · rw [if_pos hc]
    rw [hc, uN_nI (by decide)] at hpar
    have e : x = bx := by
      rcases h2 with h | h
      · exact h
      · rw [h] at hpar
        omega
    obtain ⟨a1, a2, a3⟩ := mone_v c mo (d + 2) S
    rw [e] at hx
    exact ⟨MP_1 hb (MV_fr a2 (by omega) hx) (MV_fr a2 (by omega) hy) a1, MX_of2 (Or.inr (Or.inr rfl)) a2 a3⟩
  · rw [if_neg hc]
    have hne : uN (S.1 (mo + 7) (32 * d) &&& nI 1) ≠ 0 := fun q => hc (uN_ext (by rw [q, uN_nI (by decide)]))
    have e : x = -bx := by
      rcases h2 with h | h
      · rw [h] at hpar
        omega
      · exact h
    obtain ⟨z1, z2, z3⟩ := mzero_v c mo 25 S
    have x1 : MX mo (mbD d) (mzero_f mo 25 S) S := MX_of2 (Or.inl rfl) z2 z3
    have hx1 := MV_fr z2 (by omega) hx
    have hy1 := MV_fr z2 (by omega) hy
    have hp1 := MD_fr z2 (by omega) hp
    clear z2
    generalize mzero_f mo 25 S = S1 at z1 x1 hx1 hy1 hp1 ⊢
    obtain ⟨m1, m2, m3, m4⟩ := mminus_m c mo d 25 d S1 (by omega) hp1 z1 hx1
    have x2 : MX mo (mbD d) (mminus_f c mo d 25 d S1) S := MX_tr (MX_of (Or.inr (Or.inl rfl)) m2 m3 m4) x1
    have hy2 := MV_fr m2 (by omega) hy1
    rw [show (0 : Zp c) - x = bx from by rw [e]; grind] at m1
    generalize mminus_f c mo d 25 d S1 = S2 at m1 m2 x2 hy2 ⊢
    obtain ⟨a1, a2, a3⟩ := mone_v c mo (d + 2) S2
    exact ⟨MP_1 hb (MV_fr a2 (by omega) m1) (MV_fr a2 (by omega) hy2) a1, MX_tr (MX_of2 (Or.inr (Or.inr rfl)) a2 a3) x2⟩
def mbG (d x : Nat) : Prop := (23 ≤ x ∧ x ≤ 28) ∨ x = d ∨ x = d + 2
/-- root and sign: the base point -/
theorem mrb_m (c : Bool) (mo d y : Nat) (S : StT) (hyd : y = d + 1) (hd : d = 13 ∨ d = 16) (hC : MC c S.1 mo) (hy : MV c S.1 mo (d + 1) (Bp c).2) :
    MP c (mbase_f c mo d (nI 0) (mroot_f c mo d y S).2).1 mo d (Bp c) ∧ MX mo (mbG d) (mbase_f c mo d (nI 0) (mroot_f c mo d y S).2) S ∧ MX mo (mrD d) (mroot_f c mo d y S).2 S := by
  subst hyd
  have hbN := bN_le c
  obtain ⟨r1, r2⟩ := mroot_m c mo d (d + 1) S (by omega) (by omega) (by omega) hC hy
  have hon : pO c ((Bp c).1, (Bp c).2) := Bp_on c
  rcases r1 with ⟨-, x, ox, hx⟩ | ⟨-, hno⟩
  · obtain ⟨e1, e2⟩ := bX_ev c
    obtain ⟨b1, b2⟩ := mbase_m c mo d (mroot_f c mo d (d + 1) S).2 hd (MD_mx r2 (by unfold mrD; omega) hC.1) hx (MV_mx r2 (by unfold mrD; omega) hy) ox hon e1 e2
    exact ⟨b1, MX_tr (MX_le (fun q hq => by unfold mbD at hq; unfold mbG; omega) b2) (MX_le (fun q hq => by unfold mrD at hq; unfold mbG; omega) r2), r2⟩
  · exact absurd hon (hno _)
def gY : Nat → Int32 := pcz 24 7583857750517922852 (pcz 20 (-8613661815248140446) (pcz 16 5470311636975982656 (pcz 12 (-8685020228626627881) (pcz 8 4239012173876836804 (pcz 4 (-162952930493216595) (pcz 0 (-7491604544318539244) (fun _ => 0)))))))
theorem gY_ok : ∀ k, k < 32 → uN (gY k) = bY true / 2 ^ (16 * k) % 2 ^ 16 := by decide +kernel
theorem bY_vl : (Bp true).2.val = bY true := by
  have e : ((Bp true).2.val : Int) = (bY true : Int) % (nt_p true : Int) := fz_vl true _
  have e2 : (bY true : Int) % (nt_p true : Int) = (bY true : Int) := by decide +kernel
  rw [e2] at e
  omega
theorem mb448_m (mo : Nat) (S : StT) (hC : MC true S.1 mo) : MP true (mb448_f true mo S).1 mo 16 (Bp true) ∧ MX mo (fun x => (23 ≤ x ∧ x ≤ 28) ∨ (16 ≤ x ∧ x ≤ 18)) (mb448_f true mo S) S := by
  unfold mb448_f
  dsimp only
  have z1 := zero28_z mo 17 S
  have x1 : MX mo (fun x => x = 17) (zero28_f mo 17 S) S := MX_of2 rfl (zero28_m mo 17 S).2.1 (zero28_m mo 17 S).2.2
  have f1 : (zero28_f mo 17 S).2.2 = S.2.2 := rfl
  generalize zero28_f mo 17 S = S1 at z1 x1 f1 ⊢
  rw [← f1, show ((S1.1, S1.2.1, S1.2.2) : StT) = S1 from rfl]
  obtain ⟨z2, y2⟩ := mpiece_z (at_ := 0) (v := -7491604544318539244) (S := S1) (by decide) z1
  have f2 : (mpiece_f mo 17 0 (-7491604544318539244) S1).2.2 = S1.2.2 := rfl
  have x2 := MX_tr y2 x1
  generalize mpiece_f mo 17 0 (-7491604544318539244) S1 = S2 at z2 x2 f2 ⊢
  rw [← f2, show ((S2.1, S2.2.1, S2.2.2) : StT) = S2 from rfl]
  obtain ⟨z3, y3⟩ := mpiece_z (at_ := 4) (v := -162952930493216595) (S := S2) (by decide) z2
  have f3 : (mpiece_f mo 17 4 (-162952930493216595) S2).2.2 = S2.2.2 := rfl
  have x3 := MX_tr y3 x2
  generalize mpiece_f mo 17 4 (-162952930493216595) S2 = S3 at z3 x3 f3 ⊢
  rw [← f3, show ((S3.1, S3.2.1, S3.2.2) : StT) = S3 from rfl]
  obtain ⟨z4, y4⟩ := mpiece_z (at_ := 8) (v := 4239012173876836804) (S := S3) (by decide) z3
  have f4 : (mpiece_f mo 17 8 4239012173876836804 S3).2.2 = S3.2.2 := rfl
  have x4 := MX_tr y4 x3
  generalize mpiece_f mo 17 8 4239012173876836804 S3 = S4 at z4 x4 f4 ⊢
  rw [← f4, show ((S4.1, S4.2.1, S4.2.2) : StT) = S4 from rfl]
  obtain ⟨z5, y5⟩ := mpiece_z (at_ := 12) (v := -8685020228626627881) (S := S4) (by decide) z4
  have f5 : (mpiece_f mo 17 12 (-8685020228626627881) S4).2.2 = S4.2.2 := rfl
  have x5 := MX_tr y5 x4
  generalize mpiece_f mo 17 12 (-8685020228626627881) S4 = S5 at z5 x5 f5 ⊢
  rw [← f5, show ((S5.1, S5.2.1, S5.2.2) : StT) = S5 from rfl]
  obtain ⟨z6, y6⟩ := mpiece_z (at_ := 16) (v := 5470311636975982656) (S := S5) (by decide) z5
  have f6 : (mpiece_f mo 17 16 5470311636975982656 S5).2.2 = S5.2.2 := rfl
  have x6 := MX_tr y6 x5
  generalize mpiece_f mo 17 16 5470311636975982656 S5 = S6 at z6 x6 f6 ⊢
  rw [← f6, show ((S6.1, S6.2.1, S6.2.2) : StT) = S6 from rfl]
  obtain ⟨z7, y7⟩ := mpiece_z (at_ := 20) (v := -8613661815248140446) (S := S6) (by decide) z6
  have f7 : (mpiece_f mo 17 20 (-8613661815248140446) S6).2.2 = S6.2.2 := rfl
  have x7 := MX_tr y7 x6
  generalize mpiece_f mo 17 20 (-8613661815248140446) S6 = S7 at z7 x7 f7 ⊢
  rw [← f7, show ((S7.1, S7.2.1, S7.2.2) : StT) = S7 from rfl]
  obtain ⟨z8, y8⟩ := mpiece_z (at_ := 24) (v := 7583857750517922852) (S := S7) (by decide) z7
  have f8 : (mpiece_f mo 17 24 7583857750517922852 S7).2.2 = S7.2.2 := rfl
  have x8 := MX_tr y8 x7
  generalize mpiece_f mo 17 24 7583857750517922852 S7 = S8 at z8 x8 f8 ⊢
  rw [← f8, show ((S8.1, S8.2.1, S8.2.2) : StT) = S8 from rfl]
  have hy : MV true S8.1 mo 17 (Bp true).2 := ZV_MD z8 (by rw [bY_vl]; decide +kernel) (fun k hk => by rw [bY_vl]; exact gY_ok k hk)
  have hC8 : MC true S8.1 mo := ⟨MD_mx x8 (by decide) hC.1, MV_mx x8 (by decide) hC.2⟩
  obtain ⟨g1, g2, g3⟩ := mrb_m true mo 16 17 S8 rfl (Or.inr rfl) hC8 hy
  generalize mroot_f true mo 16 17 S8 = R at g1 g2 g3 ⊢
  have fr : R.2.2.2 = S8.2.2 := g3.2.2.2
  rw [← fr, show ((R.2.1, R.2.2.1, R.2.2.2) : StT) = R.2 from rfl]
  have fb : (mbase_f true mo 16 (nI 0) R.2).2.2 = R.2.2.2 := by rw [g2.2.2.2, fr]
  generalize mbase_f true mo 16 (nI 0) R.2 = Q at g1 g2 fb ⊢
  rw [← fb]
  exact ⟨g1, MX_tr (MX_le (fun q hq => by unfold mbG at hq; omega) g2) (MX_le (fun q hq => by omega) x8)⟩
