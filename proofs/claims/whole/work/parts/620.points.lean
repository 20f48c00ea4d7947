section
/-! THE SUITE: what changes rows of longs alone; what the model's places keep. -/
theorem cmult_i (c : Bool) (co fo to nb p : Nat) (S : StT) : ∀ r, r ≠ co + 6 → (cmult_f c co fo to nb p S).1 r = S.1 r := by
  have lp : ∀ (S : StT) n r, r ≠ co + 6 → cmult_l41 co nb S n r = S.1 r := by
    intro S n r hr
    induction n with
    | zero => rfl
    | succ n ih =>
      unfold cmult_l41
      dsimp only
      exact (vu_n hr).trans ih
  intro r hr
  unfold cmult_f
  dsimp only
  exact lp _ _ r hr
theorem cmul2_i (c : Bool) (co fo to m_ p n_ q : Nat) (S : StT) : ∀ r, r ≠ co + 6 → (cmul2_f c co fo to m_ p n_ q S).1 r = S.1 r := by
  have lp : ∀ (S : StT) n r, r ≠ co + 6 → cmul2_l18 co m_ n_ S n r = S.1 r := by
    intro S n r hr
    induction n with
    | zero => rfl
    | succ n ih =>
      unfold cmul2_l18
      dsimp only
      exact (vu_n hr).trans ih
  intro r hr
  unfold cmul2_f
  dsimp only
  exact lp _ _ r hr
theorem kJ_T {xo r : Nat} (c : Bool) (h : kJ xo r) : ¬ cT (xo + 39 + 147 * bN c) (xo + 29 + 147 * bN c) r := by
  obtain ⟨b, hb, h⟩ := h
  have hc := bN_le c
  unfold cT
  rcases (by omega : b = 0 ∨ b = 1) with e | e <;> rcases (by omega : bN c = 0 ∨ bN c = 1) with e2 | e2 <;> rw [e] at h <;> rw [e2] <;> omega
theorem kJ_U {xo r : Nat} (c : Bool) (h : kJ xo r) : ¬ cU (xo + 39 + 147 * bN c) (xo + 29 + 147 * bN c) r := by
  obtain ⟨b, hb, h⟩ := h
  have hc := bN_le c
  unfold cU cT
  rcases (by omega : b = 0 ∨ b = 1) with e | e <;> rcases (by omega : bN c = 0 ∨ bN c = 1) with e2 | e2 <;> rw [e] at h <;> rw [e2] <;> omega
theorem kJ_A {xo r : Nat} (c : Bool) (h : kJ xo r) : ¬ aT (xo + 131 + 147 * bN c) (xo + 29 + 147 * bN c) r ∧ r ≠ xo + 131 + 147 * bN c + 2 := by
  obtain ⟨b, hb, h⟩ := h
  have hc := bN_le c
  unfold aT
  rcases (by omega : b = 0 ∨ b = 1) with e | e <;> rcases (by omega : bN c = 0 ∨ bN c = 1) with e2 | e2 <;> rw [e] at h <;> rw [e2] <;> omega
theorem kJ_p {xo r : Nat} (h : kJ xo r) : r < xo + 323 ∧ xo ≤ r ∧ r ≠ xo + 12 ∧ r ≠ xo + 13 ∧ r ≠ xo + 14 := by
  obtain ⟨b, hb, h⟩ := h
  omega
theorem cU_x {xo r : Nat} (c : Bool) (h : cU (xo + 39 + 147 * bN c) (xo + 29 + 147 * bN c) r) : xo ≤ r ∧ r < xo + 323 := by
  have hc := bN_le c
  unfold cU cT at h
  omega
theorem cT_x {xo r : Nat} (c : Bool) (h : cT (xo + 39 + 147 * bN c) (xo + 29 + 147 * bN c) r) : xo ≤ r ∧ r < xo + 323 := cU_x c (Or.inl h)
/-- the class's rows of longs: constants and points stay -/
theorem RC_J {xo : Nat} {B : (c : Bool) → Pt c} {S : StT} {A : AS} {J : Nat → Nat → Int64} (h : RC xo B S A) (hk : ∀ r, kJ xo r → J r = S.2.1 r) (hp : ∀ r, xo + 324 ≤ r → r < xo + 335 → J r = S.2.1 r) : RC xo B (S.1, J, S.2.2) A := by
  obtain ⟨hr, hf, hq, hC⟩ := h
  exact ⟨hr, hf, fun p h3 => ⟨(hq p h3).1, PV_row (hp _ (by omega) (by omega)) (hp _ (by omega) (by omega)) (hp _ (by omega) (by omega)) (hq p h3).2⟩, CK_fr hk (fun _ _ => rfl) hC⟩
theorem MD_pl {I K : Nat → Nat → Int32} {mo a n : Nat} (h : ∀ i, i < 32 → I (mo + 7) (32 * a + i) = K (mo + 7) (32 * a + i)) (hk : MD K mo a n) : MD I mo a n := ⟨hk.1, fun i hi => by rw [← hk.2 i hi]; unfold mq; rw [h i hi]⟩
theorem MP_pl {c : Bool} {I K : Nat → Nat → Int32} {mo a : Nat} {P : Pt c} (h : ∀ x, a ≤ x → x ≤ a + 2 → ∀ i, i < 32 → I (mo + 7) (32 * x + i) = K (mo + 7) (32 * x + i)) (hk : MP c K mo a P) : MP c I mo a P := by
  obtain ⟨on, x, y, z, q1, q2, q3, q4⟩ := hk
  exact ⟨on, x, y, z, MD_pl (h a (by omega) (by omega)) q1, MD_pl (h (a + 1) (by omega) (by omega)) q2, MD_pl (h (a + 2) (by omega) (by omega)) q3, q4⟩
theorem MK_pl {mo : Nat} {B : (c : Bool) → Pt c} {T S : StT} (h7 : ∀ x, 9 ≤ x → x < 21 → ∀ i, i < 32 → T.1 (mo + 7) (32 * x + i) = S.1 (mo + 7) (32 * x + i)) (h14 : T.2.1 (mo + 14) = S.2.1 (mo + 14)) (h15 : T.2.1 (mo + 15) = S.2.1 (mo + 15)) (h : MK mo B S) : MK mo B T := by
  obtain ⟨h1, h2, h3⟩ := h
  refine ⟨fun c => ?_, fun i hi => by rw [h14]; exact h2 i hi, fun i hi => by rw [h15]; exact h3 i hi⟩
  have hb := bN_le c
  obtain ⟨⟨a1, a2⟩, a3, a4⟩ := h1 c
  exact ⟨⟨MD_pl (h7 _ (by omega) (by omega)) a1, MD_pl (h7 _ (by omega) (by omega)) a2⟩, MP_pl (fun x h4 h5 => h7 x (by omega) (by omega)) a3, MD_pl (h7 _ (by omega) (by omega)) a4⟩
/-- the model: rows 1 to 6 and 10, places below 21, and three fields stay -/
theorem RM_of {mo : Nat} {B : (c : Bool) → Pt c} {S T : StT} {A : AS} (h : RM mo B S A) (hI : ∀ r, ((mo + 1 ≤ r ∧ r ≤ mo + 6) ∨ r = mo + 10) → T.1 r = S.1 r) (h7 : ∀ x, x < 21 → ∀ i, i < 32 → T.1 (mo + 7) (32 * x + i) = S.1 (mo + 7) (32 * x + i)) (h14 : T.2.1 (mo + 14) = S.2.1 (mo + 14)) (h15 : T.2.1 (mo + 15) = S.2.1 (mo + 15)) (hF : T.2.2 mo 7 = S.2.2 mo 7 ∧ T.2.2 mo 9 = S.2.2 mo 9 ∧ T.2.2 mo 5 = S.2.2 mo 5) : RM mo B T A := by
  obtain ⟨⟨r0, r1, r2, r3, r4, r5⟩, ⟨f0, f1, f2⟩, hp, hk⟩ := h
  refine ⟨⟨fun i hi => by rw [hI _ (by omega)]; exact r0 i hi, fun i hi => by rw [hI _ (by omega)]; exact r1 i hi, fun i hi => by rw [hI _ (by omega)]; exact r2 i hi, fun i hi => by rw [hI _ (by omega)]; exact r3 i hi, fun i hi => by rw [hI _ (by omega)]; exact r4 i hi, fun i hi => by rw [hI _ (by omega)]; exact r5 i hi⟩, ⟨hF.1.trans f0, hF.2.1.trans f1, hF.2.2.trans f2⟩, fun p h3 => ⟨by rw [hI _ (by omega)]; exact (hp p h3).1, MP_pl (fun x h4 h5 => h7 x (by omega)) (hp p h3).2⟩, MK_pl (fun x _ h5 => h7 x h5) h14 h15 hk⟩
/-- the fields that a call on curve c sets first -/
def fC (c : Bool) (mo : Nat) (F : Nat → Nat → Int32) : Nat → Nat → Int32 := fs (fs (fs F mo 0 (nI 0)) mo 13 (nI (bN c))) mo 14 (nI (pN c))
theorem fC_q (c : Bool) (mo : Nat) (F : Nat → Nat → Int32) {q : Nat} (h0 : q ≠ 0) (h1 : q ≠ 13) (h2 : q ≠ 14) : fC c mo F mo q = F mo q := by
  unfold fC
  rw [fs_oth h2, fs_oth h1, fs_oth h0]
theorem fC_o (c : Bool) (mo : Nat) (F : Nat → Nat → Int32) {r : Nat} (h : r ≠ mo) : fC c mo F r = F r := by
  unfold fC
  exact (vu_n h).trans ((vu_n h).trans (vu_n h))
theorem RM_x {mo : Nat} {B : (c : Bool) → Pt c} {S T : StT} {A : AS} {D : Nat → Prop} {F : Nat → Nat → Int32} (h : RM mo B S A) (hx : MX mo D T (S.1, S.2.1, F)) (hD : ∀ x, x < 21 → ¬ D x) (F' : Nat → Nat → Int32) (hF : F' mo 7 = S.2.2 mo 7 ∧ F' mo 9 = S.2.2 mo 9 ∧ F' mo 5 = S.2.2 mo 5) (ho : ∀ r, r ≠ mo → F' r = S.2.2 r) : RM mo B (T.1, T.2.1, F') A ∧ OM mo (T.1, T.2.1, F') S :=
  ⟨RM_of h (fun r hr => hx.1 r (by omega) (by omega)) (fun x h5 => hx.2.1 x (hD x h5)) (hx.2.2.1 _ (by omega)) (hx.2.2.1 _ (by omega)) hF, fun r hr => ⟨hx.1 r (by omega) (by omega), hx.2.2.1 r (by omega), ho r (by omega)⟩⟩
theorem fC_F {c : Bool} {mo : Nat} {F : Nat → Nat → Int32} : fC c mo F mo 7 = F mo 7 ∧ fC c mo F mo 9 = F mo 9 ∧ fC c mo F mo 5 = F mo 5 := ⟨fC_q c mo F (by decide) (by decide) (by decide), fC_q c mo F (by decide) (by decide) (by decide), fC_q c mo F (by decide) (by decide) (by decide)⟩
theorem RC_pt {xo : Nat} {B : (c : Bool) → Pt c} {S : StT} {A : AS} {a : Nat} {c : Bool} {P : Pt c} (h : RC xo B S A) (ha : a < 3) (hA : A.2.2 a = ⟨c, P⟩) : PV c S.2.1 (xo + 323 + 4 * a) P := by
  have := (h.2.2.1 a ha).2
  rw [hA] at this
  exact this
theorem RM_pt {mo : Nat} {B : (c : Bool) → Pt c} {S : StT} {A : AS} {a : Nat} {c : Bool} {P : Pt c} (h : RM mo B S A) (ha : a < 3) (hA : A.2.2 a = ⟨c, P⟩) : MP c S.1 mo (3 * a) P := by
  have := (h.2.2.1 a ha).2
  rw [hA] at this
  exact this
theorem pF_x {xo a : Nat} (c : Bool) (ha : a < 3) : pF (xo + 39 + 147 * bN c) (xo + 29 + 147 * bN c) (xo + 323 + 4 * a) := by
  have := bN_le c
  unfold pF
  omega
theorem pX_x {xo a : Nat} (c : Bool) (ha : a < 3) : pX (xo + 39 + 147 * bN c) (xo + 29 + 147 * bN c) (xo + 323 + 4 * a) := by
  have := bN_le c
  unfold pX
  omega
/-- same -/
theorem xsame_r (xo : Nat) (B : (c : Bool) → Pt c) (a b : Nat) (S : StT) (A : AS) {c : Bool} {P Q : Pt c} (ha : a < 3) (hb : b < 3) (hA : A.2.2 a = ⟨c, P⟩) (hB : A.2.2 b = ⟨c, Q⟩) (h : RC xo B S A) : (xsame_f c xo a b S).1 = (if P = Q then nI 1 else nI 0) ∧ RC xo B (xsame_f c xo a b S).2 A ∧ OX xo (xsame_f c xo a b S).2 S := by
  obtain ⟨e1, e2⟩ := cEq_s c (xo + 39 + 147 * bN c) (xo + 29 + 147 * bN c) (xo + 323 + 4 * a) (xo + 323 + 4 * b) S (by omega) (pF_x c ha) (pF_x c hb) (h.2.2.2 c).1.1 (RC_pt h ha hA) (RC_pt h hb hB)
  unfold xsame_f
  dsimp only
  generalize cEq_f c (xo + 39 + 147 * bN c) (xo + 29 + 147 * bN c) (xo + 323 + 4 * a) (xo + 323 + 4 * b) S = R at e1 e2 ⊢
  have k1 : RC xo B (S.1, R.2.2.1, S.2.2) A := RC_J h (fun r hr => e2 r (kJ_T c hr)) (fun r h1 h2 => e2 r (fun q => by have := cT_x c q; omega))
  have k2 : OX xo (S.1, R.2.2.1, S.2.2) S := fun r hr => ⟨rfl, e2 r (fun q => by have := cT_x c q; omega), rfl⟩
  by_cases hPQ : P = Q
  · rw [if_pos hPQ] at e1 ⊢
    rw [if_neg (by rw [e1]; decide)]
    exact ⟨rfl, k1, k2⟩
  · rw [if_neg hPQ] at e1 ⊢
    rw [if_pos (e1.trans (by decide))]
    exact ⟨rfl, k1, k2⟩
theorem msame_r (mo : Nat) (B : (c : Bool) → Pt c) (a b : Nat) (S : StT) (A : AS) {c : Bool} {P Q : Pt c} (ha : a < 3) (hb : b < 3) (hA : A.2.2 a = ⟨c, P⟩) (hB : A.2.2 b = ⟨c, Q⟩) (h : RM mo B S A) : (msame_f c mo a b S).1 = (if P = Q then nI 1 else nI 0) ∧ RM mo B (msame_f c mo a b S).2 A ∧ OM mo (msame_f c mo a b S).2 S := by
  have hPa : MP c S.1 mo (3 * a) P := RM_pt h ha hA
  have hPb : MP c S.1 mo (3 * b) Q := RM_pt h hb hB
  obtain ⟨e1, e2⟩ := malike_m c mo (3 * a) (3 * b) (S.1, S.2.1, fC c mo S.2.2) (by omega) (by omega) (h.2.2.2.1 c).1 hPa hPb
  have en : msame_f c mo a b S = ((malike_f c mo (3 * a) (3 * b) (S.1, S.2.1, fC c mo S.2.2)).1, ((malike_f c mo (3 * a) (3 * b) (S.1, S.2.1, fC c mo S.2.2)).2.1, (malike_f c mo (3 * a) (3 * b) (S.1, S.2.1, fC c mo S.2.2)).2.2.1, fC c mo S.2.2)) := rfl
  rw [en]
  obtain ⟨k1, k2⟩ := RM_x h e2 (fun x hx q => by omega) (fC c mo S.2.2) fC_F (fun r hr => fC_o c mo S.2.2 hr)
  exact ⟨e1, k1, k2⟩
/-- order -/
theorem xorder0_r (xo : Nat) (B : (c : Bool) → Pt c) (a : Nat) (S : StT) (A : AS) {c : Bool} {P : Pt c} (ha : a < 3) (hA : A.2.2 a = ⟨c, P⟩) (h : RC xo B S A) : (xorder0_f c xo a S).1 = (if P = (0, 1) then nI 1 else nI 0) ∧ RC xo B (xorder0_f c xo a S).2 A ∧ OX xo (xorder0_f c xo a S).2 S := by
  obtain ⟨e1, e2⟩ := cisN_s c (xo + 39 + 147 * bN c) (xo + 29 + 147 * bN c) (xo + 323 + 4 * a) S (pF_x c ha) (h.2.2.2 c).1.1 (RC_pt h ha hA)
  unfold xorder0_f
  dsimp only
  generalize cisN_f c (xo + 39 + 147 * bN c) (xo + 29 + 147 * bN c) (xo + 323 + 4 * a) S = R at e1 e2 ⊢
  refine ⟨?_, RC_J h (fun r hr => e2 r (kJ_T c hr)) (fun r h1 h2 => e2 r (fun q => by have := cT_x c q; omega)), fun r hr => ⟨rfl, e2 r (fun q => by have := cT_x c q; omega), rfl⟩⟩
  rw [e1]
  by_cases hP : P = (0, 1)
  · rw [if_pos hP, if_neg (by decide)]
  · rw [if_neg hP, if_pos (by decide)]
theorem morder0_r (mo : Nat) (B : (c : Bool) → Pt c) (a : Nat) (S : StT) (A : AS) {c : Bool} {P : Pt c} (ha : a < 3) (hA : A.2.2 a = ⟨c, P⟩) (h : RM mo B S A) : (morder0_f c mo a S).1 = (if P = (0, 1) then nI 1 else nI 0) ∧ RM mo B (morder0_f c mo a S).2 A ∧ OM mo (morder0_f c mo a S).2 S := by
  have hPa : MP c S.1 mo (3 * a) P := RM_pt h ha hA
  obtain ⟨e1, _⟩ := misN_m c mo (3 * a) (S.1, S.2.1, fC c mo S.2.2) hPa
  have en : morder0_f c mo a S = (nI (if (misN_f mo (3 * a) (S.1, S.2.1, fC c mo S.2.2)).1 = 0 then 0 else 1), (S.1, S.2.1, fC c mo S.2.2)) := rfl
  rw [en, e1]
  obtain ⟨k1, k2⟩ := RM_x h (MX_rfl mo (fun _ => False) (S.1, S.2.1, fC c mo S.2.2)) (fun x _ q => q) (fC c mo S.2.2) fC_F (fun r hr => fC_o c mo S.2.2 hr)
  refine ⟨?_, k1, k2⟩
  by_cases hP : P = (0, 1)
  · rw [if_pos hP, if_neg (by decide)]
  · rw [if_neg hP, if_pos (by decide)]
theorem csmall_IF (c : Bool) (co fo p : Nat) (S : StT) : (csmall_f c co fo p S).2.1 = S.1 ∧ (csmall_f c co fo p S).2.2.2 = S.2.2 := by
  unfold csmall_f
  dsimp only
  split
  · split
    · split
      · split
        · exact ⟨rfl, rfl⟩
        · exact ⟨rfl, rfl⟩
      · exact ⟨rfl, rfl⟩
    · exact ⟨rfl, rfl⟩
  · exact ⟨rfl, rfl⟩
theorem xorder1_v (c : Bool) (xo a : Nat) (S : StT) : xorder1_f c xo a S = ((csmall_f c (xo + 39 + 147 * bN c) (xo + 29 + 147 * bN c) (xo + 323 + 4 * a) S).1, ((csmall_f c (xo + 39 + 147 * bN c) (xo + 29 + 147 * bN c) (xo + 323 + 4 * a) S).2.1, (csmall_f c (xo + 39 + 147 * bN c) (xo + 29 + 147 * bN c) (xo + 323 + 4 * a) S).2.2.1, (csmall_f c (xo + 39 + 147 * bN c) (xo + 29 + 147 * bN c) (xo + 323 + 4 * a) S).2.2.2)) := by
  dsimp only [xorder1_f]
theorem xorder1_r (xo : Nat) (B : (c : Bool) → Pt c) (a : Nat) (S : StT) (A : AS) {c : Bool} {P : Pt c} (ha : a < 3) (hA : A.2.2 a = ⟨c, P⟩) (h : RC xo B S A) : (xorder1_f c xo a S).1 = nI (ordS c P) ∧ RC xo B (xorder1_f c xo a S).2 A ∧ OX xo (xorder1_f c xo a S).2 S := by
  obtain ⟨e1, e2⟩ := csmall_s c (xo + 39 + 147 * bN c) (xo + 29 + 147 * bN c) (xo + 323 + 4 * a) S (by omega) (pX_x c ha) (h.2.2.2 c).1 (RC_pt h ha hA)
  obtain ⟨e3, e4⟩ := csmall_IF c (xo + 39 + 147 * bN c) (xo + 29 + 147 * bN c) (xo + 323 + 4 * a) S
  rw [xorder1_v]
  generalize csmall_f c (xo + 39 + 147 * bN c) (xo + 29 + 147 * bN c) (xo + 323 + 4 * a) S = R at e1 e2 e3 e4 ⊢
  rw [e3, e4]
  exact ⟨e1, RC_J h (fun r hr => e2 r (kJ_U c hr)) (fun r h1 h2 => e2 r (fun q => by have := cU_x c q; omega)), fun r hr => ⟨rfl, e2 r (fun q => by have := cU_x c q; omega), rfl⟩⟩
end
