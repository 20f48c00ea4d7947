section
/-! THE SUITE: add, times, point. -/
theorem bv_cg {f g : Nat → Int32} {n : Nat} (h : ∀ i, i < n → f i = g i) : bv f n = bv g n := rvN_congr n (fun j hj => by show uN (f j) = uN (g j); rw [h j hj])
theorem fl_up {xo to : Nat} {I : Nat → Nat → Int32} {x : Int32} : ∀ p, va_up I xo (upd (I xo) to x) xo p = if p = to then x else I xo p := fun p => by rw [vu_s]; rfl
theorem RC_fl {xo : Nat} {B : (c : Bool) → Pt c} {S : StT} {A : AS} {a : Nat} {c : Bool} {P : Pt c} (h : RC xo B S A) (ha : a < 3) (hA : A.2.2 a = ⟨c, P⟩) : S.1 (xo + 10) a = nI (bN c) := by
  have := (h.2.2.1 a ha).1
  rw [hA] at this
  exact this
theorem kI_ne {xo r : Nat} (h : kI xo r ∨ r = xo + 22) (h10 : r ≠ xo + 10) (c : Bool) : r ≠ xo + 39 + 147 * bN c + 6 ∧ r ≠ xo + 39 + 147 * bN c + 7 ∧ r ≠ xo + 131 + 147 * bN c + 1 := by
  have hc := bN_le c
  unfold kI at h
  rcases h with (z | z | z | z | z | z | ⟨b, hb, z⟩) | z
  · omega
  · omega
  · omega
  · omega
  · omega
  · omega
  · rcases (by omega : b = 0 ∨ b = 1) with e | e <;> rcases (by omega : bN c = 0 ∨ bN c = 1) with e2 | e2 <;> rw [e] at z <;> rw [e2] <;> omega
  · omega
theorem xadd0_r (xo : Nat) (B : (c : Bool) → Pt c) (to a b : Nat) (S : StT) (A : AS) {c : Bool} {P Q : Pt c} (ht : to < 3) (ha : a < 3) (hb : b < 3) (hA : A.2.2 a = ⟨c, P⟩) (hB : A.2.2 b = ⟨c, Q⟩) (h : RC xo B S A) : RC xo B (xadd0_f c xo to a b S) (setP A to ⟨c, pA c P Q⟩) ∧ OX xo (xadd0_f c xo to a b S) S := by
  obtain ⟨e1, e2⟩ := csum_s c (xo + 39 + 147 * bN c) (xo + 29 + 147 * bN c) (xo + 323 + 4 * to) (xo + 323 + 4 * a) (xo + 323 + 4 * b) S (by omega) (pF_x c ht) (pF_x c ha) (pF_x c hb) (h.2.2.2 c).1.2.2.1 (RC_pt h ha hA) (RC_pt h hb hB)
  have en : xadd0_f c xo to a b S = (va_up S.1 (xo + 10) (upd (S.1 (xo + 10)) to (S.1 (xo + 10) a)), (csum_f c (xo + 39 + 147 * bN c) (xo + 29 + 147 * bN c) (xo + 323 + 4 * to) (xo + 323 + 4 * a) (xo + 323 + 4 * b) S).2.1, S.2.2) := by
    dsimp only [xadd0_f]
  rw [en, RC_fl h ha hA]
  clear en
  generalize csum_f c (xo + 39 + 147 * bN c) (xo + 29 + 147 * bN c) (xo + 323 + 4 * to) (xo + 323 + 4 * a) (xo + 323 + 4 * b) S = T at e1 e2 ⊢
  refine ⟨RC_P h e1 (fun r _ h10 => vu_n h10) (fun p _ => fl_up p) (fun r hr => e2 r (kJ_T c hr) (by have := kJ_p hr; omega)) (fun p hp hne j h1 h2 => e2 _ (fun q => by have := cT_x c q; omega) (by omega)), fun r hr => ⟨vu_n (by omega), e2 r (fun q => by have := cT_x c q; omega) (by omega), rfl⟩⟩
theorem xadd1_r (xo : Nat) (B : (c : Bool) → Pt c) (to a b : Nat) (S : StT) (A : AS) {c : Bool} {P Q : Pt c} (ht : to < 3) (ha : a < 3) (hb : b < 3) (hA : A.2.2 a = ⟨c, P⟩) (hB : A.2.2 b = ⟨c, Q⟩) (h : RC xo B S A) : RC xo B (xadd1_f c xo to a b S) (setP A to ⟨c, pA c P (ed_neg Q)⟩) ∧ OX xo (xadd1_f c xo to a b S) S := by
  have hbN := bN_le c
  obtain ⟨n1, n2⟩ := cneg_s c (xo + 39 + 147 * bN c) (xo + 29 + 147 * bN c) (xo + 11) (xo + 323 + 4 * b) S (by omega) (RC_pt h hb hB)
  have en : xadd1_f c xo to a b S = (va_up S.1 (xo + 10) (upd (S.1 (xo + 10)) to (S.1 (xo + 10) a)), (csum_f c (xo + 39 + 147 * bN c) (xo + 29 + 147 * bN c) (xo + 323 + 4 * to) (xo + 323 + 4 * a) (xo + 11) (S.1, (cneg_f c (xo + 39 + 147 * bN c) (xo + 29 + 147 * bN c) (xo + 11) (xo + 323 + 4 * b) S).2.1, S.2.2)).2.1, S.2.2) := by
    dsimp only [xadd1_f]
  rw [en, RC_fl h ha hA]
  clear en
  generalize cneg_f c (xo + 39 + 147 * bN c) (xo + 29 + 147 * bN c) (xo + 11) (xo + 323 + 4 * b) S = N at n1 n2 ⊢
  have hPa : PV c N.2.1 (xo + 323 + 4 * a) P := PV_row (n2 _ (by omega)) (n2 _ (by omega)) (n2 _ (by omega)) (RC_pt h ha hA)
  obtain ⟨e1, e2⟩ := csum_s c (xo + 39 + 147 * bN c) (xo + 29 + 147 * bN c) (xo + 323 + 4 * to) (xo + 323 + 4 * a) (xo + 11) (S.1, N.2.1, S.2.2) (by omega) (pF_x c ht) (pF_x c ha) (by unfold pF; omega) (VL_row (n2 _ (by omega)) (h.2.2.2 c).1.2.2.1) hPa n1
  have e3 : ∀ r, ¬ cT (xo + 39 + 147 * bN c) (xo + 29 + 147 * bN c) r → ¬ (xo + 323 + 4 * to + 1 ≤ r ∧ r ≤ xo + 323 + 4 * to + 3) → (csum_f c (xo + 39 + 147 * bN c) (xo + 29 + 147 * bN c) (xo + 323 + 4 * to) (xo + 323 + 4 * a) (xo + 11) (S.1, N.2.1, S.2.2)).2.1 r = N.2.1 r := e2
  generalize csum_f c (xo + 39 + 147 * bN c) (xo + 29 + 147 * bN c) (xo + 323 + 4 * to) (xo + 323 + 4 * a) (xo + 11) (S.1, N.2.1, S.2.2) = T at e1 e3 ⊢
  refine ⟨RC_P h e1 (fun r _ h10 => vu_n h10) (fun p _ => fl_up p) (fun r hr => (e3 r (kJ_T c hr) (by have := kJ_p hr; omega)).trans (n2 r (by have := kJ_p hr; omega))) (fun p hp hne j h1 h2 => (e3 _ (fun q => by have := cT_x c q; omega) (by omega)).trans (n2 _ (by omega))), fun r hr => ⟨vu_n (by omega), (e3 r (fun q => by have := cT_x c q; omega) (by omega)).trans (n2 r (by omega)), rfl⟩⟩
theorem madd_fin {mo : Nat} {B : (c : Bool) → Pt c} {S : StT} {A : AS} {to : Nat} {c : Bool} {R : Pt c} {T : StT} {D : Nat → Prop} (h : RM mo B S A) (ht : to < 3) (hR : MP c T.1 mo (3 * to) R) (hx : MX mo D (T.1, T.2.1, fC c mo S.2.2) (S.1, S.2.1, fC c mo S.2.2)) (hD : ∀ x, x < 21 → ¬ (3 * to ≤ x ∧ x ≤ 3 * to + 2) → ¬ D x) : RM mo B (va_up T.1 (mo + 10) (upd (T.1 (mo + 10)) to (nI (bN c))), T.2.1, fC c mo S.2.2) (setP A to ⟨c, R⟩) ∧ OM mo (va_up T.1 (mo + 10) (upd (T.1 (mo + 10)) to (nI (bN c))), T.2.1, fC c mo S.2.2) S := by
  refine ⟨RM_P h (MP_rows (vu_n (by omega)) hR) (fun r hr => (vu_n (by omega)).trans (hx.1 r (by omega) (by omega))) (fun p hp => ?_) (fun x h1 h2 i hi => ?_) ht (hx.2.2.1 _ (by omega)) (hx.2.2.1 _ (by omega)) fC_F, fun r hr => ⟨(vu_n (by omega)).trans (hx.1 r (by omega) (by omega)), hx.2.2.1 r (by omega), fC_o c mo S.2.2 (by omega)⟩⟩
  · refine (fl_up p).trans ?_
    have e : T.1 (mo + 10) = S.1 (mo + 10) := hx.1 (mo + 10) (by omega) (by omega)
    rw [e]
  · show va_up T.1 (mo + 10) _ (mo + 7) (32 * x + i) = _
    rw [vu_n (show mo + 7 ≠ mo + 10 by omega)]
    exact hx.2.1 x (hD x h1 h2) i hi
theorem madd0_r (mo : Nat) (B : (c : Bool) → Pt c) (to a b : Nat) (S : StT) (A : AS) {c : Bool} {P Q : Pt c} (ht : to < 3) (ha : a < 3) (hb : b < 3) (hA : A.2.2 a = ⟨c, P⟩) (hB : A.2.2 b = ⟨c, Q⟩) (h : RM mo B S A) : RM mo B (madd0_f c mo to a b S) (setP A to ⟨c, pA c P Q⟩) ∧ OM mo (madd0_f c mo to a b S) S := by
  have hbN := bN_le c
  have hPa : MP c S.1 mo (3 * a) P := RM_pt h ha hA
  have hPb : MP c S.1 mo (3 * b) Q := RM_pt h hb hB
  have hC : MC c S.1 mo := (h.2.2.2.1 c).1
  have bump : ∀ {T : StT} {D : Nat → Prop} {U : StT}, MX mo D T U → U.2.2 = fC c mo S.2.2 → MX mo D (T.1, T.2.1, fC c mo S.2.2) U := fun q e => ⟨q.1, q.2.1, q.2.2.1, e.symm⟩
  unfold madd0_f mcho_f
  dsimp only
  rw [show fs (fs (fs S.2.2 mo 0 (nI 0)) mo 13 (nI (bN c))) mo 14 (nI (pN c)) = fC c mo S.2.2 from rfl]
  obtain ⟨a1, a2⟩ := mcopyP_m c mo 54 (3 * b) (S.1, S.2.1, fC c mo S.2.2) (by omega) hPb
  have x1 := bump a2 rfl
  generalize mcopyP_f mo 54 (3 * b) (S.1, S.2.1, fC c mo S.2.2) = S2 at a1 x1 ⊢
  obtain ⟨b1, b2⟩ := msum_m c mo 57 (3 * a) 54 (S2.1, S2.2.1, fC c mo S.2.2) (by decide) (by omega) (by decide) (MC_mx (T := (S2.1, S2.2.1, fC c mo S.2.2)) x1 (by unfold m3D; omega) (by unfold m3D; omega) hC) (MP_mx (T := (S2.1, S2.2.1, fC c mo S.2.2)) x1 (by unfold m3D; omega) (by unfold m3D; omega) (by unfold m3D; omega) hPa) a1
  have x2 := bump b2 rfl
  generalize msum_f c mo 57 (3 * a) 54 (S2.1, S2.2.1, fC c mo S.2.2) = S3 at b1 x2 ⊢
  obtain ⟨d1, d2⟩ := mcopyP_m c mo (3 * to) 57 (S3.1, S3.2.1, fC c mo S.2.2) (by omega) b1
  have x3 := bump d2 rfl
  generalize mcopyP_f mo (3 * to) 57 (S3.1, S3.2.1, fC c mo S.2.2) = S4 at d1 x3 ⊢
  exact madd_fin (D := fun x => (30 ≤ x ∧ x ≤ 39) ∨ (54 ≤ x ∧ x ≤ 59) ∨ (3 * to ≤ x ∧ x ≤ 3 * to + 2)) h ht d1 (MX_tr (MX_le (fun x hx => by unfold m3D at hx; omega) x3) (MX_tr (MX_le (fun x hx => by unfold msD at hx; omega) x2) (MX_le (fun x hx => by unfold m3D at hx; omega) x1))) (fun x h1 h2 q => by omega)
theorem madd1_r (mo : Nat) (B : (c : Bool) → Pt c) (to a b : Nat) (S : StT) (A : AS) {c : Bool} {P Q : Pt c} (ht : to < 3) (ha : a < 3) (hb : b < 3) (hA : A.2.2 a = ⟨c, P⟩) (hB : A.2.2 b = ⟨c, Q⟩) (h : RM mo B S A) : RM mo B (madd1_f c mo to a b S) (setP A to ⟨c, pA c P (ed_neg Q)⟩) ∧ OM mo (madd1_f c mo to a b S) S := by
  have hbN := bN_le c
  have hPa : MP c S.1 mo (3 * a) P := RM_pt h ha hA
  have hPb : MP c S.1 mo (3 * b) Q := RM_pt h hb hB
  have hC : MC c S.1 mo := (h.2.2.2.1 c).1
  have bump : ∀ {T : StT} {D : Nat → Prop} {U : StT}, MX mo D T U → U.2.2 = fC c mo S.2.2 → MX mo D (T.1, T.2.1, fC c mo S.2.2) U := fun q e => ⟨q.1, q.2.1, q.2.2.1, e.symm⟩
  unfold madd1_f mcho_f
  dsimp only
  rw [show fs (fs (fs S.2.2 mo 0 (nI 0)) mo 13 (nI (bN c))) mo 14 (nI (pN c)) = fC c mo S.2.2 from rfl]
  obtain ⟨a1, a2⟩ := mcopyP_m c mo 54 (3 * b) (S.1, S.2.1, fC c mo S.2.2) (by omega) hPb
  have x1 := bump a2 rfl
  generalize mcopyP_f mo 54 (3 * b) (S.1, S.2.1, fC c mo S.2.2) = S2 at a1 x1 ⊢
  have hC2 : MC c S2.1 mo := MC_mx (T := (S2.1, S2.2.1, fC c mo S.2.2)) x1 (by unfold m3D; omega) (by unfold m3D; omega) hC
  have hP2 : MP c S2.1 mo (3 * a) P := MP_mx (T := (S2.1, S2.2.1, fC c mo S.2.2)) x1 (by unfold m3D; omega) (by unfold m3D; omega) (by unfold m3D; omega) hPa
  obtain ⟨n1, n2⟩ := mneg_m c mo 54 (S2.1, S2.2.1, fC c mo S.2.2) (by decide) hC2 a1
  have xn := bump n2 rfl
  generalize mneg_f c mo 54 (S2.1, S2.2.1, fC c mo S.2.2) = S3 at n1 xn ⊢
  obtain ⟨b1, b2⟩ := msum_m c mo 57 (3 * a) 54 (S3.1, S3.2.1, fC c mo S.2.2) (by decide) (by omega) (by decide) (MC_mx (T := (S3.1, S3.2.1, fC c mo S.2.2)) xn (by omega) (by omega) hC2) (MP_mx (T := (S3.1, S3.2.1, fC c mo S.2.2)) xn (by omega) (by omega) (by omega) hP2) n1
  have x2 := bump b2 rfl
  generalize msum_f c mo 57 (3 * a) 54 (S3.1, S3.2.1, fC c mo S.2.2) = S4 at b1 x2 ⊢
  obtain ⟨d1, d2⟩ := mcopyP_m c mo (3 * to) 57 (S4.1, S4.2.1, fC c mo S.2.2) (by omega) b1
  have x3 := bump d2 rfl
  generalize mcopyP_f mo (3 * to) 57 (S4.1, S4.2.1, fC c mo S.2.2) = S5 at d1 x3 ⊢
  exact madd_fin (D := fun x => (30 ≤ x ∧ x ≤ 39) ∨ (54 ≤ x ∧ x ≤ 59) ∨ (3 * to ≤ x ∧ x ≤ 3 * to + 2)) h ht d1 (MX_tr (MX_le (fun x hx => by unfold m3D at hx; omega) x3) (MX_tr (MX_le (fun x hx => by unfold msD at hx; omega) x2) (MX_tr (MX_le (fun x hx => by omega) xn) (MX_le (fun x hx => by unfold m3D at hx; omega) x1)))) (fun x h1 h2 q => by omega)
/-- times -/
theorem RC_b0 {xo : Nat} {B : (c : Bool) → Pt c} {S : StT} {A : AS} (h : RC xo B S A) (hv : AV A) (c : Bool) : BY (S.1 (xo + 15 + 2 * 0 + 1)) (cB c) := fun i hi => by
  have hc : cB c ≤ 57 := by cases c <;> decide
  rw [h.1.1 i (by omega)]
  exact hv.1 i (by omega)
theorem xtimes_r (xo : Nat) (B : (c : Bool) → Pt c) (to a : Nat) (S : StT) (A : AS) {c : Bool} {P : Pt c} (ht : to < 3) (ha : a < 3) (hA : A.2.2 a = ⟨c, P⟩) (hv : AV A) (h : RC xo B S A) : RC xo B (xtimes_f c xo to a S) (setP A to ⟨c, pM c P (bv (A.1 0) (cB c))⟩) ∧ OX xo (xtimes_f c xo to a S) S := by
  have hbN := bN_le c
  have hcB : cB c ≤ 57 := by cases c <;> decide
  obtain ⟨e1, e2⟩ := cmult_s c (xo + 39 + 147 * bN c) (xo + 29 + 147 * bN c) (xo + 323 + 4 * to) (xo + 15 + 2 * 0 + 1) (xo + 323 + 4 * a) S (by omega) (pX_x c ht) (pX_x c ha) (by omega) (h.2.2.2 c).1 (RC_b0 h hv c) (RC_pt h ha hA)
  have e3 := cmult_i c (xo + 39 + 147 * bN c) (xo + 29 + 147 * bN c) (xo + 323 + 4 * to) (xo + 15 + 2 * 0 + 1) (xo + 323 + 4 * a) S
  rw [bv_cg (fun i hi => h.1.1 i (by omega))] at e1
  have en : xtimes_f c xo to a S = (va_up (cmult_f c (xo + 39 + 147 * bN c) (xo + 29 + 147 * bN c) (xo + 323 + 4 * to) (xo + 15 + 2 * 0 + 1) (xo + 323 + 4 * a) S).1 (xo + 10) (upd ((cmult_f c (xo + 39 + 147 * bN c) (xo + 29 + 147 * bN c) (xo + 323 + 4 * to) (xo + 15 + 2 * 0 + 1) (xo + 323 + 4 * a) S).1 (xo + 10)) to ((cmult_f c (xo + 39 + 147 * bN c) (xo + 29 + 147 * bN c) (xo + 323 + 4 * to) (xo + 15 + 2 * 0 + 1) (xo + 323 + 4 * a) S).1 (xo + 10) a)), (cmult_f c (xo + 39 + 147 * bN c) (xo + 29 + 147 * bN c) (xo + 323 + 4 * to) (xo + 15 + 2 * 0 + 1) (xo + 323 + 4 * a) S).2.1, S.2.2) := by
    dsimp only [xtimes_f]
  rw [en]
  clear en
  generalize cmult_f c (xo + 39 + 147 * bN c) (xo + 29 + 147 * bN c) (xo + 323 + 4 * to) (xo + 15 + 2 * 0 + 1) (xo + 323 + 4 * a) S = T at e1 e2 e3 ⊢
  have e10 : T.1 (xo + 10) = S.1 (xo + 10) := e3 _ (by omega)
  rw [e10, RC_fl h ha hA]
  refine ⟨RC_P h e1 (fun r hr h10 => (vu_n h10).trans (e3 r (kI_ne hr h10 c).1)) (fun p _ => ?_) (fun r hr => e2 r (kJ_U c hr) (by have := kJ_p hr; omega)) (fun p hp hne j h1 h2 => e2 _ (fun q => by have := cU_x c q; omega) (by omega)), fun r hr => ⟨(vu_n (by omega)).trans (e3 r (by omega)), e2 r (fun q => by have := cU_x c q; omega) (by omega), rfl⟩⟩
  rw [vu_s]
  rfl
theorem mtimes_r (mo : Nat) (B : (c : Bool) → Pt c) (to a : Nat) (S : StT) (A : AS) {c : Bool} {P : Pt c} (ht : to < 3) (ha : a < 3) (hA : A.2.2 a = ⟨c, P⟩) (hv : AV A) (h : RM mo B S A) : RM mo B (mtimes_f c mo to a S) (setP A to ⟨c, pM c P (bv (A.1 0) (cB c))⟩) ∧ OM mo (mtimes_f c mo to a S) S := by
  have hbN := bN_le c
  have hcB : cB c ≤ 57 := by cases c <;> decide
  have hPa : MP c S.1 mo (3 * a) P := RM_pt h ha hA
  obtain ⟨a1, a2⟩ := mmany_m c mo (3 * to) (3 * a) (mo + 1) 57 (cB c) (S.1, S.2.1, fC c mo S.2.2) (by omega) (by omega) (by omega) (by omega) (fun i hi => by show uN (S.1 (mo + 1) i) < 256; rw [h.1.1 i (by omega)]; exact hv.1 i (by omega)) (h.2.2.2.1 c).1 hPa
  have a3 : MP c (mmany_f c mo (3 * to) (3 * a) (mo + 1) 57 (cB c) (S.1, S.2.1, fC c mo S.2.2)).1 mo (3 * to) (pM c P (bv (S.1 (mo + 1)) (cB c))) := a1
  rw [bv_cg (fun i hi => h.1.1 i (by omega))] at a3
  unfold mtimes_f mcho_f
  dsimp only
  rw [show fs (fs (fs S.2.2 mo 0 (nI 0)) mo 13 (nI (bN c))) mo 14 (nI (pN c)) = fC c mo S.2.2 from rfl]
  have x1 : MX mo (myD (3 * to)) ((mmany_f c mo (3 * to) (3 * a) (mo + 1) 57 (cB c) (S.1, S.2.1, fC c mo S.2.2)).1, (mmany_f c mo (3 * to) (3 * a) (mo + 1) 57 (cB c) (S.1, S.2.1, fC c mo S.2.2)).2.1, fC c mo S.2.2) (S.1, S.2.1, fC c mo S.2.2) := ⟨a2.1, a2.2.1, a2.2.2.1, rfl⟩
  generalize mmany_f c mo (3 * to) (3 * a) (mo + 1) 57 (cB c) (S.1, S.2.1, fC c mo S.2.2) = T at a3 x1 ⊢
  exact madd_fin h ht a3 x1 (fun x h1 h2 q => by unfold myD at q; omega)
/-- point -/
theorem xpoint_r (xo : Nat) (B : (c : Bool) → Pt c) (c : Bool) (pl : Nat) (S : StT) (A : AS) (hp : pl < 3) (hv : AV A) (h : RC xo B S A) : (((xpoint_f c xo pl S).1 = nI 1 ∧ ∃ P, Dec c (bv (A.1 1) (cB c)) P ∧ RC xo B (xpoint_f c xo pl S).2 (setP A pl ⟨c, P⟩)) ∨ ((xpoint_f c xo pl S).1 = nI 0 ∧ (∀ P, ¬ Dec c (bv (A.1 1) (cB c)) P) ∧ RC xo B (xpoint_f c xo pl S).2 A)) ∧ OX xo (xpoint_f c xo pl S).2 S := by
  have hbN := bN_le c
  have hcB : cB c ≤ 57 := by cases c <;> decide
  obtain ⟨e1, e2⟩ := cdec_s c (xo + 39 + 147 * bN c) (xo + 29 + 147 * bN c) (xo + 323 + 4 * pl) (xo + 15 + 2 * 1 + 1) S (by omega) (pF_x c hp) (by omega) (by omega) (h.2.2.2 c).1 (fun i hi => by rw [h.1.2.1 i (by omega)]; exact hv.2.1 i (by omega))
  rw [bv_cg (fun i hi => h.1.2.1 i (by omega))] at e1
  have en : xpoint_f c xo pl S = (if (cdec_f c (xo + 39 + 147 * bN c) (xo + 29 + 147 * bN c) (xo + 323 + 4 * pl) (xo + 15 + 2 * 1 + 1) S).1 ≠ 0 then (nI 1, (va_up (cdec_f c (xo + 39 + 147 * bN c) (xo + 29 + 147 * bN c) (xo + 323 + 4 * pl) (xo + 15 + 2 * 1 + 1) S).2.1 (xo + 10) (upd ((cdec_f c (xo + 39 + 147 * bN c) (xo + 29 + 147 * bN c) (xo + 323 + 4 * pl) (xo + 15 + 2 * 1 + 1) S).2.1 (xo + 10)) pl (nI (bN c))), (cdec_f c (xo + 39 + 147 * bN c) (xo + 29 + 147 * bN c) (xo + 323 + 4 * pl) (xo + 15 + 2 * 1 + 1) S).2.2.1, S.2.2)) else (nI 0, ((cdec_f c (xo + 39 + 147 * bN c) (xo + 29 + 147 * bN c) (xo + 323 + 4 * pl) (xo + 15 + 2 * 1 + 1) S).2.1, (cdec_f c (xo + 39 + 147 * bN c) (xo + 29 + 147 * bN c) (xo + 323 + 4 * pl) (xo + 15 + 2 * 1 + 1) S).2.2.1, S.2.2))) := by
    dsimp only [xpoint_f]
  rw [en]
  clear en
  generalize cdec_f c (xo + 39 + 147 * bN c) (xo + 29 + 147 * bN c) (xo + 323 + 4 * pl) (xo + 15 + 2 * 1 + 1) S = R at e1 e2 ⊢
  have e10 : R.2.1 (xo + 10) = S.1 (xo + 10) := e2 _ (by omega)
  rcases e1 with ⟨a1, ⟨P, a2, a3⟩, a4⟩ | ⟨a1, a2, a4⟩
  · rw [if_pos (by rw [a1]; decide), e10]
    refine ⟨Or.inl ⟨rfl, P, a2, RC_P h a3 (fun r hr h10 => (vu_n h10).trans (e2 r (kI_ne hr h10 c).2.1)) (fun p _ => ?_) (fun r hr => a4 r (kJ_T c hr) (by have := kJ_p hr; omega)) (fun p hp hne j h1 h2 => a4 _ (fun q => by have := cT_x c q; omega) (by omega))⟩, fun r hr => ⟨(vu_n (by omega)).trans (e2 r (by omega)), a4 r (fun q => by have := cT_x c q; omega) (by omega), rfl⟩⟩
    rw [vu_s]
    rfl
  · rw [if_neg (fun q => q (a1.trans (by decide)))]
    refine ⟨Or.inr ⟨rfl, a2, ?_⟩, fun r hr => ⟨e2 r (by omega), a4 r (fun q => by have := cT_x c q; omega), rfl⟩⟩
    have k1 := RC_J (J := R.2.2.1) h (fun r hr => a4 r (kJ_T c hr)) (fun r h1 h2 => a4 r (fun q => by have := cT_x c q; omega))
    obtain ⟨⟨r0, r1, r2, r3, r4, r5⟩, hf, hq, hk⟩ := k1
    refine ⟨⟨fun i hi => ?_, fun i hi => ?_, fun i hi => ?_, fun i hi => ?_, fun i hi => ?_, fun i hi => ?_⟩, hf, fun p h3 => ⟨?_, (hq p h3).2⟩, CK_fr (fun _ _ => rfl) (fun b hb => e2 _ (by rcases (by omega : b = 0 ∨ b = 1) with e | e <;> rcases (by omega : bN c = 0 ∨ bN c = 1) with e' | e' <;> rw [e, e'] <;> omega)) hk⟩
    · show R.2.1 (xo + 15 + 2 * 0 + 1) i = _; rw [e2 _ (by omega)]; exact r0 i hi
    · show R.2.1 (xo + 15 + 2 * 1 + 1) i = _; rw [e2 _ (by omega)]; exact r1 i hi
    · show R.2.1 (xo + 15 + 2 * 2 + 1) i = _; rw [e2 _ (by omega)]; exact r2 i hi
    · show R.2.1 (xo + 15 + 2 * 3 + 1) i = _; rw [e2 _ (by omega)]; exact r3 i hi
    · show R.2.1 (xo + 2 + 1) i = _; rw [e2 _ (by omega)]; exact r4 i hi
    · show R.2.1 (xo + 4 + 1) i = _; rw [e2 _ (by omega)]; exact r5 i hi
    · show R.2.1 (xo + 10) p = _; rw [e10]; exact (hq p h3).1
theorem mpoint_r (mo : Nat) (B : (c : Bool) → Pt c) (c : Bool) (pl : Nat) (S : StT) (A : AS) (hp : pl < 3) (hv : AV A) (h : RM mo B S A) : (((mpoint_f c mo pl S).1 = nI 1 ∧ ∃ P, Dec c (bv (A.1 1) (cB c)) P ∧ RM mo B (mpoint_f c mo pl S).2 (setP A pl ⟨c, P⟩)) ∨ ((mpoint_f c mo pl S).1 = nI 0 ∧ (∀ P, ¬ Dec c (bv (A.1 1) (cB c)) P) ∧ RM mo B (mpoint_f c mo pl S).2 A)) ∧ OM mo (mpoint_f c mo pl S).2 S := by
  have hbN := bN_le c
  have hcB : cB c ≤ 57 := by cases c <;> decide
  have hBY : BY (A.1 1) (cB c) := fun i hi => hv.2.1 i (by omega)
  obtain ⟨e1, e2⟩ := mdec_m c mo (3 * pl) (mo + 2) 0 (S.1, S.2.1, fC c mo S.2.2) (N := bv (A.1 1) (cB c)) (by omega) (by omega) (by omega) (bv_lt hBY) (fun i hi => by
    show uN (S.1 (mo + 2) (0 + i)) = _
    rw [Nat.zero_add, h.1.2.1 i (by omega)]
    exact bv_dig hBY hi) (h.2.2.2.1 c).1
  unfold mpoint_f mcho_f
  dsimp only
  rw [show fs (fs (fs S.2.2 mo 0 (nI 0)) mo 13 (nI (bN c))) mo 14 (nI (pN c)) = fC c mo S.2.2 from rfl]
  have x2 : MX mo (mdD (3 * pl)) ((mdec_f c mo (3 * pl) (mo + 2) 0 (S.1, S.2.1, fC c mo S.2.2)).2.1, (mdec_f c mo (3 * pl) (mo + 2) 0 (S.1, S.2.1, fC c mo S.2.2)).2.2.1, fC c mo S.2.2) (S.1, S.2.1, fC c mo S.2.2) := ⟨e2.1, e2.2.1, e2.2.2.1, rfl⟩
  clear e2
  generalize mdec_f c mo (3 * pl) (mo + 2) 0 (S.1, S.2.1, fC c mo S.2.2) = R at e1 x2 ⊢
  rcases e1 with ⟨a1, P, a2, a3⟩ | ⟨a1, a2, a4⟩
  · rw [if_pos (by rw [a1]; decide)]
    obtain ⟨k1, k2⟩ := madd_fin h hp a3 x2 (fun x h1 h2 q => by unfold mdD at q; omega)
    exact ⟨Or.inl ⟨rfl, P, a2, k1⟩, k2⟩
  · rw [if_neg (fun q => q (a1.trans (by decide)))]
    obtain ⟨k1, k2⟩ := RM_x h a4 (fun x hx q => by omega) (fC c mo S.2.2) fC_F (fun r hr => fC_o c mo S.2.2 hr)
    exact ⟨Or.inr ⟨rfl, a2, k1⟩, k2⟩
end
