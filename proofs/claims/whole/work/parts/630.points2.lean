section
/-! THE SUITE: order of the model, code, add, times, point. -/
theorem morder1_r (mo : Nat) (B : (c : Bool) → Pt c) (a : Nat) (S : StT) (A : AS) {c : Bool} {P : Pt c} (ha : a < 3) (hA : A.2.2 a = ⟨c, P⟩) (h : RM mo B S A) : (morder1_f c mo a S).1 = nI (ordS c P) ∧ RM mo B (morder1_f c mo a S).2 A ∧ OM mo (morder1_f c mo a S).2 S := by
  have hbN := bN_le c
  have hPa : MP c S.1 mo (3 * a) P := RM_pt h ha hA
  obtain ⟨a1, a2⟩ := mcopyP_m c mo 54 (3 * a) (S.1, S.2.1, fC c mo S.2.2) (by omega) hPa
  unfold morder1_f mcho_f
  dsimp only
  rw [show fs (fs (fs S.2.2 mo 0 (nI 0)) mo 13 (nI (bN c))) mo 14 (nI (pN c)) = fC c mo S.2.2 from rfl]
  have hC : MC c S.1 mo := (h.2.2.2.1 c).1
  have hfin : ∀ T : StT, MX mo (fun x => (30 ≤ x ∧ x ≤ 39) ∨ (54 ≤ x ∧ x ≤ 56)) (T.1, T.2.1, fC c mo S.2.2) (S.1, S.2.1, fC c mo S.2.2) → RM mo B (T.1, T.2.1, fC c mo S.2.2) A ∧ OM mo (T.1, T.2.1, fC c mo S.2.2) S := fun T hx => RM_x h hx (fun x hx q => by omega) (fC c mo S.2.2) fC_F (fun r hr => fC_o c mo S.2.2 hr)
  have bump : ∀ {T : StT} {D : Nat → Prop} {U : StT}, MX mo D T U → U.2.2 = fC c mo S.2.2 → MX mo D (T.1, T.2.1, fC c mo S.2.2) U := fun q e => ⟨q.1, q.2.1, q.2.2.1, e.symm⟩
  have x2 : MX mo (fun x => (30 ≤ x ∧ x ≤ 39) ∨ (54 ≤ x ∧ x ≤ 56)) ((mcopyP_f mo 54 (3 * a) (S.1, S.2.1, fC c mo S.2.2)).1, (mcopyP_f mo 54 (3 * a) (S.1, S.2.1, fC c mo S.2.2)).2.1, fC c mo S.2.2) (S.1, S.2.1, fC c mo S.2.2) := MX_le (fun x hx => by unfold m3D at hx; omega) (bump a2 rfl)
  generalize mcopyP_f mo 54 (3 * a) (S.1, S.2.1, fC c mo S.2.2) = S2 at a1 x2 ⊢
  have step : ∀ (T : StT) (Q : Pt c), MP c T.1 mo 54 Q → MX mo (fun x => (30 ≤ x ∧ x ≤ 39) ∨ (54 ≤ x ∧ x ≤ 56)) (T.1, T.2.1, fC c mo S.2.2) (S.1, S.2.1, fC c mo S.2.2) → (misN_f mo 54 (T.1, T.2.1, fC c mo S.2.2)).1 = (if Q = (0, 1) then nI 1 else nI 0) ∧ MP c (msum_f c mo 54 54 54 (T.1, T.2.1, fC c mo S.2.2)).1 mo 54 (pA c Q Q) ∧ MX mo (fun x => (30 ≤ x ∧ x ≤ 39) ∨ (54 ≤ x ∧ x ≤ 56)) ((msum_f c mo 54 54 54 (T.1, T.2.1, fC c mo S.2.2)).1, (msum_f c mo 54 54 54 (T.1, T.2.1, fC c mo S.2.2)).2.1, fC c mo S.2.2) (S.1, S.2.1, fC c mo S.2.2) := by
    intro T Q hQ hx
    obtain ⟨n1, _⟩ := misN_m c mo 54 (T.1, T.2.1, fC c mo S.2.2) hQ
    have hCT : MC c T.1 mo := MC_mx (T := (T.1, T.2.1, fC c mo S.2.2)) hx (by omega) (by omega) hC
    obtain ⟨m1, m2⟩ := msum_m c mo 54 54 54 (T.1, T.2.1, fC c mo S.2.2) (by decide) (by decide) (by decide) hCT hQ hQ
    exact ⟨n1, m1, MX_tr (MX_le (fun x hx => by unfold msD at hx; omega) (bump m2 rfl)) hx⟩
  unfold ordS
  obtain ⟨s1, s3, s4⟩ := step S2 P a1 x2
  by_cases e1 : P = (0, 1)
  · rw [if_pos e1] at s1
    rw [if_neg (by rw [s1]; decide), if_pos e1]
    exact ⟨rfl, hfin S2 x2⟩
  rw [if_neg e1] at s1
  rw [if_pos (s1.trans (by decide)), if_neg e1]
  generalize msum_f c mo 54 54 54 (S2.1, S2.2.1, fC c mo S.2.2) = S5 at s3 s4 ⊢
  generalize pA c P P = P2 at s3 ⊢
  obtain ⟨u1, u3, u4⟩ := step S5 P2 s3 s4
  by_cases e2 : P2 = (0, 1)
  · rw [if_pos e2] at u1
    rw [if_neg (by rw [u1]; decide), if_pos e2]
    exact ⟨rfl, hfin S5 s4⟩
  rw [if_neg e2] at u1
  rw [if_pos (u1.trans (by decide)), if_neg e2]
  generalize msum_f c mo 54 54 54 (S5.1, S5.2.1, fC c mo S.2.2) = S8 at u3 u4 ⊢
  generalize pA c P2 P2 = P4 at u3 ⊢
  obtain ⟨v1, v3, v4⟩ := step S8 P4 u3 u4
  by_cases e3 : P4 = (0, 1)
  · rw [if_pos e3] at v1
    rw [if_neg (by rw [v1]; decide), if_pos e3]
    exact ⟨rfl, hfin S8 u4⟩
  rw [if_neg e3] at v1
  rw [if_pos (v1.trans (by decide)), if_neg e3]
  generalize msum_f c mo 54 54 54 (S8.1, S8.2.1, fC c mo S.2.2) = S11 at v3 v4 ⊢
  generalize pA c P4 P4 = P8 at v3 ⊢
  obtain ⟨w1, w3, w4⟩ := step S11 P8 v3 v4
  by_cases e4 : P8 = (0, 1)
  · rw [if_pos e4] at w1
    rw [if_neg (by rw [w1]; decide), if_pos e4]
    exact ⟨rfl, hfin S11 v4⟩
  rw [if_neg e4] at w1
  rw [if_pos (w1.trans (by decide)), if_neg e4]
  exact ⟨rfl, hfin _ w4⟩
theorem xorder2_r (xo : Nat) (B : (c : Bool) → Pt c) (a : Nat) (S : StT) (A : AS) {c : Bool} {P : Pt c} (ha : a < 3) (hA : A.2.2 a = ⟨c, P⟩) (h : RC xo B S A) : (xorder2_f c xo a S).1 = nI (bN c) ∧ (xorder2_f c xo a S).2 = S := by
  have := (h.2.2.1 a ha).1
  rw [hA] at this
  exact ⟨this, rfl⟩
theorem morder2_r (mo : Nat) (B : (c : Bool) → Pt c) (a : Nat) (S : StT) (A : AS) {c : Bool} (h : RM mo B S A) : (morder2_f c mo a S).1 = nI (bN c) ∧ RM mo B (morder2_f c mo a S).2 A ∧ OM mo (morder2_f c mo a S).2 S := by
  obtain ⟨k1, k2⟩ := RM_x h (MX_rfl mo (fun _ => False) (S.1, S.2.1, fC c mo S.2.2)) (fun x _ q => q) (fC c mo S.2.2) fC_F (fun r hr => fC_o c mo S.2.2 hr)
  exact ⟨rfl, k1, k2⟩
/-- rows of ints that stay: all texts but the out row, the points' curves, the orders' bytes -/
def kI (xo r : Nat) : Prop := r = xo + 16 ∨ r = xo + 18 ∨ r = xo + 20 ∨ r = xo + 3 ∨ r = xo + 5 ∨ r = xo + 10 ∨ ∃ b, b ≤ 1 ∧ r = xo + 143 + 147 * b + 32
def kF (xo r : Nat) : Prop := r = xo + 2 ∨ r = xo + 4 ∨ r = xo + 15 ∨ r = xo + 17 ∨ r = xo + 19
/-- the out row is written anew -/
theorem RC_3 {xo : Nat} {B : (c : Bool) → Pt c} {S T : StT} {A : AS} (h : RC xo B S A) (n : Nat) (f : Nat → Int32) (hI : ∀ r, kI xo r → T.1 r = S.1 r) (hO : ∀ i, i < n → T.1 (xo + 22) i = f i) (hJ : ∀ r, kJ xo r → T.2.1 r = S.2.1 r) (hp : ∀ r, xo + 324 ≤ r → r < xo + 335 → T.2.1 r = S.2.1 r) (hF : ∀ r, kF xo r → T.2.2 r = S.2.2 r) (hn : T.2.2 (xo + 21) 1 = nI n) : RC xo B T (setN (setR A 3 f) 2 n) := by
  obtain ⟨⟨r0, r1, r2, r3, r4, r5⟩, ⟨f0, f1, f2, f3, f4, f5⟩, hq, hk⟩ := h
  unfold kI at hI
  unfold kF at hF
  refine ⟨⟨fun i hi => ?_, fun i hi => ?_, fun i hi => ?_, hO, fun i hi => ?_, fun i hi => ?_⟩, ⟨?_, ?_, hn, ?_, ?_, ?_⟩, fun p h3 => ⟨?_, PV_row (hp _ (by omega) (by omega)) (hp _ (by omega) (by omega)) (hp _ (by omega) (by omega)) (hq p h3).2⟩, CK_fr hJ (fun b hb => hI _ (Or.inr (Or.inr (Or.inr (Or.inr (Or.inr (Or.inr ⟨b, hb, by omega⟩))))))) hk⟩
  · rw [hI _ (Or.inl (by omega))]; exact r0 i hi
  · rw [hI _ (Or.inr (Or.inl (by omega)))]; exact r1 i hi
  · rw [hI _ (Or.inr (Or.inr (Or.inl (by omega))))]; exact r2 i hi
  · rw [hI _ (Or.inr (Or.inr (Or.inr (Or.inl (by omega)))))]; exact r4 i hi
  · rw [hI _ (Or.inr (Or.inr (Or.inr (Or.inr (Or.inl (by omega))))))]; exact r5 i hi
  · rw [hF _ (by omega)]; exact f0
  · rw [hF _ (by omega)]; exact f1
  · rw [hF _ (by omega)]; exact f3
  · rw [hF _ (by omega)]; exact f4
  · rw [hF _ (by omega)]; exact f5
  · rw [hI _ (Or.inr (Or.inr (Or.inr (Or.inr (Or.inr (Or.inl (by omega)))))))]; exact (hq p h3).1
theorem RM_3 {mo : Nat} {B : (c : Bool) → Pt c} {S T : StT} {A : AS} (h : RM mo B S A) (n : Nat) (f : Nat → Int32) (hI : ∀ r, (r = mo + 1 ∨ r = mo + 2 ∨ r = mo + 3 ∨ r = mo + 5 ∨ r = mo + 6 ∨ r = mo + 10) → T.1 r = S.1 r) (hO : ∀ i, i < n → T.1 (mo + 4) i = f i) (h7 : ∀ x, x < 21 → ∀ i, i < 32 → T.1 (mo + 7) (32 * x + i) = S.1 (mo + 7) (32 * x + i)) (h14 : T.2.1 (mo + 14) = S.2.1 (mo + 14)) (h15 : T.2.1 (mo + 15) = S.2.1 (mo + 15)) (hF : T.2.2 mo 7 = S.2.2 mo 7 ∧ T.2.2 mo 9 = S.2.2 mo 9 ∧ T.2.2 mo 5 = nI n) : RM mo B T (setN (setR A 3 f) 2 n) := by
  obtain ⟨⟨r0, r1, r2, r3, r4, r5⟩, ⟨f0, f1, f2⟩, hp, hk⟩ := h
  refine ⟨⟨fun i hi => by rw [hI _ (by omega)]; exact r0 i hi, fun i hi => by rw [hI _ (by omega)]; exact r1 i hi, fun i hi => by rw [hI _ (by omega)]; exact r2 i hi, hO, fun i hi => by rw [hI _ (by omega)]; exact r4 i hi, fun i hi => by rw [hI _ (by omega)]; exact r5 i hi⟩, ⟨hF.1.trans f0, hF.2.1.trans f1, hF.2.2⟩, fun p h3 => ⟨by rw [hI _ (by omega)]; exact (hp p h3).1, MP_pl (fun x h4 h5 => h7 x (by omega)) (hp p h3).2⟩, MK_pl (fun x _ h5 => h7 x h5) h14 h15 hk⟩
theorem out_v {A : AS} {n : Nat} {f : Nat → Int32} (h : AV A) (hn : n ≤ 114) (hf : ∀ i, i < n → uN (f i) < 256) : AV (setN (setR A 3 f) 2 n) := by
  obtain ⟨h0, h1, h2, h3, h4, h5, h6, h7, h8⟩ := h
  exact ⟨h0, h1, h2, hf, h4, h5, h6, h7, hn⟩
/-- bytes of a number -/
def nby (n : Nat) (i : Nat) : Int32 := nI (n / 2 ^ (8 * i) % 256)
theorem nby_lt (n i : Nat) : uN (nby n i) < 256 := by
  unfold nby
  generalize n / 2 ^ (8 * i) = z
  rw [uN_nI (by omega)]
  omega
theorem nby_of {x : Int32} {n i : Nat} (h : uN x = n / 2 ^ (8 * i) % 256) : x = nby n i := by
  unfold nby
  rw [← h, nI_uN]
/-- code -/
theorem xcode_r (xo : Nat) (B : (c : Bool) → Pt c) (a : Nat) (S : StT) (A : AS) {c : Bool} {P : Pt c} (ha : a < 3) (hA : A.2.2 a = ⟨c, P⟩) (h : RC xo B S A) : RC xo B (xcode_f c xo a S) (setN (setR A 3 (nby (cN c P))) 2 (cB c)) ∧ OX xo (xcode_f c xo a S) S := by
  obtain ⟨e1, e2, _, e4⟩ := cenc_s c (xo + 39 + 147 * bN c) (xo + 29 + 147 * bN c) (xo + 15 + 2 * 3 + 1) (xo + 323 + 4 * a) S (by omega) (pF_x c ha) (h.2.2.2 c).1.1 (RC_pt h ha hA)
  have en : xcode_f c xo a S = ((cenc_f c (xo + 39 + 147 * bN c) (xo + 29 + 147 * bN c) (xo + 15 + 2 * 3 + 1) (xo + 323 + 4 * a) S).1, (cenc_f c (xo + 39 + 147 * bN c) (xo + 29 + 147 * bN c) (xo + 15 + 2 * 3 + 1) (xo + 323 + 4 * a) S).2.1, fs S.2.2 (xo + 15 + 2 * 3) 1 (nI (cB c))) := by
    dsimp only [xcode_f]
  rw [en]
  clear en
  generalize cenc_f c (xo + 39 + 147 * bN c) (xo + 29 + 147 * bN c) (xo + 15 + 2 * 3 + 1) (xo + 323 + 4 * a) S = T at e1 e2 e4 ⊢
  have hb := bN_le c
  refine ⟨RC_3 h (cB c) (nby (cN c P)) (fun r hr => e2 r (fun q => ?_)) (fun i hi => nby_of (e1 i hi)) (fun r hr => e4 r (kJ_T c hr)) (fun r h1 h2 => e4 r (fun q => by have := cT_x c q; omega)) (fun r hr => vu_n (fun q => ?_)) fs_get, fun r hr => ⟨e2 r (by omega), e4 r (fun q => by have := cT_x c q; omega), vu_n (by omega)⟩⟩
  · unfold kI at hr
    rcases hr with z | z | z | z | z | z | ⟨b, hb, z⟩ <;> omega
  · unfold kF at hr
    omega
theorem mcode_lp (mo : Nat) (S : StT) : ∀ n, (∀ i, i < n → mcode_l51 mo S n (mo + 4) i = S.1 (mo + 27) i) ∧ ∀ r, r ≠ mo + 4 → mcode_l51 mo S n r = S.1 r := by
  intro n
  induction n with
  | zero => exact ⟨fun i hi => absurd hi (Nat.not_lt_zero _), fun _ _ => rfl⟩
  | succ n ih =>
    obtain ⟨h1, h2⟩ := ih
    unfold mcode_l51
    dsimp only
    rw [h2 (mo + 27) (by omega)]
    refine ⟨fun i hi => ?_, fun r hr => (vu_n hr).trans (h2 r hr)⟩
    rw [vu_s]
    show (if i = n then S.1 (mo + 27) n else mcode_l51 mo S n (mo + 4) i) = _
    by_cases e : i = n
    · rw [if_pos e, e]
    · rw [if_neg e]; exact h1 i (by omega)
theorem mcode_r (mo : Nat) (B : (c : Bool) → Pt c) (a : Nat) (S : StT) (A : AS) {c : Bool} {P : Pt c} (ha : a < 3) (hA : A.2.2 a = ⟨c, P⟩) (h : RM mo B S A) : RM mo B (mcode_f c mo a S) (setN (setR A 3 (nby (cN c P))) 2 (cB c)) ∧ OM mo (mcode_f c mo a S) S := by
  have hPa : MP c S.1 mo (3 * a) P := RM_pt h ha hA
  obtain ⟨e1, _, e3, e4, e5, _⟩ := menc_m c mo (3 * a) (S.1, S.2.1, fC c mo S.2.2) (by omega) (h.2.2.2.1 c).1 hPa
  have en : mcode_f c mo a S = (mcode_l51 mo ((menc_f c mo (3 * a) (S.1, S.2.1, fC c mo S.2.2)).1, (menc_f c mo (3 * a) (S.1, S.2.1, fC c mo S.2.2)).2.1, S.2.2) (cB c), (menc_f c mo (3 * a) (S.1, S.2.1, fC c mo S.2.2)).2.1, fs (fC c mo S.2.2) mo 5 (nI (cB c))) := by
    dsimp only [mcode_f, mcho_f, fC]
  rw [en]
  clear en
  generalize menc_f c mo (3 * a) (S.1, S.2.1, fC c mo S.2.2) = T at e1 e3 e4 e5 ⊢
  obtain ⟨l1, l2⟩ := mcode_lp mo (T.1, T.2.1, S.2.2) (cB c)
  have hcB : cB c ≤ 57 := by cases c <;> decide
  have l3 : ∀ r, r ≠ mo + 4 → mcode_l51 mo (T.1, T.2.1, S.2.2) (cB c) r = T.1 r := l2
  refine ⟨RM_3 h (cB c) (nby (cN c P)) (fun r hr => (l3 r (by omega)).trans (e3 r (by omega) (by omega) (by omega))) (fun i hi => (l1 i hi).trans (nby_of (e1 i (by omega)))) (fun x hx i hi => ?_) (e5 _ (by omega)) (e5 _ (by omega)) ⟨?_, ?_, fs_get⟩, fun r hr => ⟨(l3 r (by omega)).trans (e3 r (by omega) (by omega) (by omega)), e5 r (by omega), ?_⟩⟩
  · show mcode_l51 mo (T.1, T.2.1, S.2.2) (cB c) (mo + 7) (32 * x + i) = _
    rw [l3 (mo + 7) (by omega)]
    exact e4 x (by unfold meD; omega) i hi
  · exact (fs_oth (by decide)).trans (fC_F).1
  · exact (fs_oth (by decide)).trans (fC_F).2.1
  · exact (vu_n (by omega)).trans (fC_o c mo S.2.2 (by omega))
def setP (A : AS) (to : Nat) (p : (c : Bool) × Pt c) : AS := (A.1, A.2.1, fun k => if k = to then p else A.2.2 k)
theorem setP_v {A : AS} {to : Nat} {p : (c : Bool) × Pt c} (h : AV A) : AV (setP A to p) := h
/-- a point is set -/
theorem RC_P {xo : Nat} {B : (c : Bool) → Pt c} {S : StT} {A : AS} {I : Nat → Nat → Int32} {J : Nat → Nat → Int64} {to : Nat} {c : Bool} {R : Pt c} (h : RC xo B S A) (hPV : PV c J (xo + 323 + 4 * to) R) (hI : ∀ r, (kI xo r ∨ r = xo + 22) → r ≠ xo + 10 → I r = S.1 r) (hfl : ∀ p, p < 3 → I (xo + 10) p = if p = to then nI (bN c) else S.1 (xo + 10) p) (hJ : ∀ r, kJ xo r → J r = S.2.1 r) (hq : ∀ p, p < 3 → p ≠ to → ∀ j, 1 ≤ j → j ≤ 3 → J (xo + 323 + 4 * p + j) = S.2.1 (xo + 323 + 4 * p + j)) : RC xo B (I, J, S.2.2) (setP A to ⟨c, R⟩) := by
  obtain ⟨⟨r0, r1, r2, r3, r4, r5⟩, hf, hp, hk⟩ := h
  unfold kI at hI
  refine ⟨⟨fun i hi => ?_, fun i hi => ?_, fun i hi => ?_, fun i hi => ?_, fun i hi => ?_, fun i hi => ?_⟩, hf, fun p h3 => ?_, CK_fr hJ (fun b hb => hI _ (Or.inl (Or.inr (Or.inr (Or.inr (Or.inr (Or.inr (Or.inr ⟨b, hb, by omega⟩))))))) (by omega)) hk⟩
  · show I (xo + 15 + 2 * 0 + 1) i = _; rw [hI _ (Or.inl (Or.inl (by omega))) (by omega)]; exact r0 i hi
  · show I (xo + 15 + 2 * 1 + 1) i = _; rw [hI _ (Or.inl (Or.inr (Or.inl (by omega)))) (by omega)]; exact r1 i hi
  · show I (xo + 15 + 2 * 2 + 1) i = _; rw [hI _ (Or.inl (Or.inr (Or.inr (Or.inl (by omega))))) (by omega)]; exact r2 i hi
  · show I (xo + 15 + 2 * 3 + 1) i = _; rw [hI _ (Or.inr (by omega)) (by omega)]; exact r3 i hi
  · show I (xo + 2 + 1) i = _; rw [hI _ (Or.inl (Or.inr (Or.inr (Or.inr (Or.inl (by omega)))))) (by omega)]; exact r4 i hi
  · show I (xo + 4 + 1) i = _; rw [hI _ (Or.inl (Or.inr (Or.inr (Or.inr (Or.inr (Or.inl (by omega))))))) (by omega)]; exact r5 i hi
  · show I (xo + 10) p = nI (bN (if p = to then (⟨c, R⟩ : (c : Bool) × Pt c) else A.2.2 p).1) ∧ PV (if p = to then (⟨c, R⟩ : (c : Bool) × Pt c) else A.2.2 p).1 J (xo + 323 + 4 * p) (if p = to then (⟨c, R⟩ : (c : Bool) × Pt c) else A.2.2 p).2
    rw [hfl p h3]
    by_cases e : p = to
    · rw [if_pos e, if_pos e, e]
      exact ⟨rfl, hPV⟩
    · rw [if_neg e, if_neg e]
      exact ⟨(hp p h3).1, PV_row (hq p h3 e 1 (by decide) (by decide)) (hq p h3 e 2 (by decide) (by decide)) (hq p h3 e 3 (by decide) (by decide)) (hp p h3).2⟩
theorem RM_P {mo : Nat} {B : (c : Bool) → Pt c} {S T : StT} {A : AS} {to : Nat} {c : Bool} {R : Pt c} (h : RM mo B S A) (hMP : MP c T.1 mo (3 * to) R) (hI : ∀ r, (mo + 1 ≤ r ∧ r ≤ mo + 6) → T.1 r = S.1 r) (hfl : ∀ p, p < 3 → T.1 (mo + 10) p = if p = to then nI (bN c) else S.1 (mo + 10) p) (h7 : ∀ x, x < 21 → ¬ (3 * to ≤ x ∧ x ≤ 3 * to + 2) → ∀ i, i < 32 → T.1 (mo + 7) (32 * x + i) = S.1 (mo + 7) (32 * x + i)) (ht : to < 3) (h14 : T.2.1 (mo + 14) = S.2.1 (mo + 14)) (h15 : T.2.1 (mo + 15) = S.2.1 (mo + 15)) (hF : T.2.2 mo 7 = S.2.2 mo 7 ∧ T.2.2 mo 9 = S.2.2 mo 9 ∧ T.2.2 mo 5 = S.2.2 mo 5) : RM mo B T (setP A to ⟨c, R⟩) := by
  obtain ⟨⟨r0, r1, r2, r3, r4, r5⟩, ⟨f0, f1, f2⟩, hp, hk⟩ := h
  refine ⟨⟨fun i hi => by rw [hI _ (by omega)]; exact r0 i hi, fun i hi => by rw [hI _ (by omega)]; exact r1 i hi, fun i hi => by rw [hI _ (by omega)]; exact r2 i hi, fun i hi => by rw [hI _ (by omega)]; exact r3 i hi, fun i hi => by rw [hI _ (by omega)]; exact r4 i hi, fun i hi => by rw [hI _ (by omega)]; exact r5 i hi⟩, ⟨hF.1.trans f0, hF.2.1.trans f1, hF.2.2.trans f2⟩, fun p h3 => ?_, MK_pl (fun x h4 h5 => h7 x h5 (by omega)) h14 h15 hk⟩
  show T.1 (mo + 10) p = nI (bN (if p = to then (⟨c, R⟩ : (c : Bool) × Pt c) else A.2.2 p).1) ∧ MP (if p = to then (⟨c, R⟩ : (c : Bool) × Pt c) else A.2.2 p).1 T.1 mo (3 * p) (if p = to then (⟨c, R⟩ : (c : Bool) × Pt c) else A.2.2 p).2
  rw [hfl p h3]
  by_cases e : p = to
  · rw [if_pos e, if_pos e, e]
    exact ⟨rfl, hMP⟩
  · rw [if_neg e, if_neg e]
    exact ⟨(hp p h3).1, MP_pl (fun x h4 h5 => h7 x (by omega) (by omega)) (hp p h3).2⟩
end
