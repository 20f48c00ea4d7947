section
/-! THE SIGNER OF THE CLASS: public key, signature. -/
def sgE (c : Bool) (f : Nat → Int32) : Nat → Int32 := dgA c f (cB c) (2 * cB c)
def sgs (c : Bool) (f : Nat → Int32) : Nat := bv (xsA c (sgE c f)) (cB c)
theorem sgE_lt (c : Bool) (f : Nat → Int32) : ∀ i, i < 2 * cB c → uN (sgE c f i) < 256 := dgA_lt c f (cB c) (2 * cB c) (n2 c)
theorem sgs_by (c : Bool) (f : Nat → Int32) : BY (xsA c (sgE c f)) (cB c) := xsA_by (fun i hi => sgE_lt c f i (by omega))
theorem BY_cg {f g : Nat → Int32} {n : Nat} (h : ∀ i, i < n → f i = g i) (hg : BY g n) : BY f n := fun i hi => by rw [h i hi]; exact hg i hi
/-- secret, its multiple of the base, its code: both gpub and gmak begin so -/
theorem gkey_s (c : Bool) (so co fo hs to sk : Nat) (S : StT) (F1 F2 : Nat → Nat → Int32) {f : Nat → Int32} {B0 : Pt c} (D1 : fo + 9 < co) (D2 : co + 92 ≤ so) (D3 : hs + 2 < fo) (hsk : sk < hs) (hto : to ≠ so + 7 ∧ to ≠ co + 6) (hC : CI c co fo S.2.1) (hB : PV c S.2.1 (co + 20) B0) (hf : ∀ i, i < cB c → S.1 sk i = f i) (S1 S2 S3 : StT) (e1 : gexp_f c so co fo hs sk S = S1) (e2 : cmult_f c co fo (so + 15) (so + 7) (co + 20) (S1.1, S1.2.1, F1) = S2) (e3 : cenc_f c co fo to (so + 15) (S2.1, S2.2.1, F2) = S3) :
    (∀ i, i < cB c → S3.1 to i = nby (cN c (pM c B0 (sgs c f))) i) ∧ (∀ i, i < cB c → S3.1 (so + 7) i = xsA c (sgE c f) i) ∧ (∀ j, j < cB c → S3.1 (so + 7) (cB c + j) = sgE c f (cB c + j)) ∧ (∀ r, r ≠ to → r ≠ so + 6 → r ≠ so + 7 → r ≠ co + 6 → S3.1 r = S.1 r) ∧ (∀ j, cB c ≤ j → to ≠ so + 6 → S3.1 to j = S.1 to j) ∧ (∀ r, ¬ cU co fo r → ¬ (so + 16 ≤ r ∧ r ≤ so + 18) → r ≠ hs + 1 → r ≠ hs + 2 → S3.2.1 r = S.2.1 r) := by
  have hcB := cB_b c
  obtain ⟨g1, g2, g3, g4⟩ := gexp_s c so co fo hs sk S (f := f) (by omega) hf
  rw [e1] at g1 g2 g3 g4
  have hC1 : CI c co fo S1.2.1 := CI_fr (fun r hr => g4 r (by omega) (by omega)) hC
  have hB1 : PV c S1.2.1 (co + 20) B0 := PV_row (g4 _ (by omega) (by omega)) (g4 _ (by omega) (by omega)) (g4 _ (by omega) (by omega)) hB
  have g1' : ∀ i, i < cB c → S1.1 (so + 7) i = xsA c (sgE c f) i := g1
  obtain ⟨m1, m2⟩ := cmult_s c co fo (so + 15) (so + 7) (co + 20) (S1.1, S1.2.1, F1) D1 (by unfold pX; omega) (by unfold pX; omega) (by omega) hC1 (BY_cg g1' (sgs_by c f)) hB1
  have m3 := cmult_i c co fo (so + 15) (so + 7) (co + 20) (S1.1, S1.2.1, F1)
  rw [e2] at m1 m2 m3
  have m1' : PV c S2.2.1 (so + 15) (pM c B0 (bv (S1.1 (so + 7)) (cB c))) := m1
  rw [bv_cg g1'] at m1'
  have m4 : ∀ r, ¬ cU co fo r → ¬ (so + 15 + 1 ≤ r ∧ r ≤ so + 15 + 3) → S2.2.1 r = S1.2.1 r := m2
  have m5 : ∀ r, r ≠ co + 6 → S2.1 r = S1.1 r := m3
  have hP2 : PrimeAt c fo S2.2.1 := PrimeAt_row (m4 _ (by unfold cU cT; omega) (by omega)) hC1.1
  obtain ⟨n1, n2', n3, n4⟩ := cenc_s c co fo to (so + 15) (S2.1, S2.2.1, F2) D1 (by unfold pF; omega) hP2 m1'
  rw [e3] at n1 n2' n3 n4
  have n5 : ∀ r, r ≠ to → S3.1 r = S2.1 r := n2'
  have n6 : ∀ j, cB c ≤ j → S3.1 to j = S2.1 to j := n3
  refine ⟨fun i hi => nby_of (n1 i hi), fun i hi => ?_, fun j hj => ?_, fun r q1 q2 q3 q4 => (n5 r q1).trans ((m5 r q4).trans (g3 r q2 q3)), fun j hj q => (n6 j hj).trans ((congrFun (m5 to hto.2) j).trans (congrFun (g3 to q hto.1) j)), fun r q1 q2 q3 q4 => (n4 r (cU_T q1)).trans ((m4 r q1 (by omega)).trans (g4 r q3 q4))⟩
  · rw [n5 _ (Ne.symm hto.1), m5 _ (by omega)]
    exact g1' i hi
  · rw [n5 _ (Ne.symm hto.1), m5 _ (by omega)]
    exact g2 _ (by omega) (by omega)
theorem kI_so {xo r : Nat} (c : Bool) (h : kI xo r) : r ≠ xo + 22 ∧ (∀ j, j ≤ 27 → r ≠ xo + 143 + 147 * bN c + j) ∧ r ≠ xo + 39 + 147 * bN c + 6 ∧ r ≠ xo + 39 + 147 * bN c + 7 := by
  have hc := bN_le c
  generalize bN c = b' at hc ⊢
  unfold kI at h
  rcases h with z | z | z | z | z | z | ⟨b, hb, z⟩
  · refine ⟨by omega, fun j hj => by omega, by omega, by omega⟩
  · refine ⟨by omega, fun j hj => by omega, by omega, by omega⟩
  · refine ⟨by omega, fun j hj => by omega, by omega, by omega⟩
  · refine ⟨by omega, fun j hj => by omega, by omega, by omega⟩
  · refine ⟨by omega, fun j hj => by omega, by omega, by omega⟩
  · refine ⟨by omega, fun j hj => by omega, by omega, by omega⟩
  · rcases (by omega : b = 0 ∨ b = 1) with e | e <;> rcases (by omega : b' = 0 ∨ b' = 1) with e2 | e2 <;> subst e <;> subst e2 <;> refine ⟨by omega, fun j hj => by omega, by omega, by omega⟩
theorem kJ_so {xo r : Nat} (c : Bool) (h : kJ xo r) : (∀ j, j ≤ 27 → r ≠ xo + 143 + 147 * bN c + j) ∧ r ≠ xo + 143 + 147 * bN c + 29 ∧ r ≠ xo + 23 + 3 * bN c + 1 ∧ r ≠ xo + 23 + 3 * bN c + 2 := by
  have hc := bN_le c
  generalize bN c = b' at hc ⊢
  obtain ⟨b, hb, h⟩ := h
  rcases (by omega : b = 0 ∨ b = 1) with e | e <;> rcases (by omega : b' = 0 ∨ b' = 1) with e2 | e2 <;> subst e <;> subst e2 <;> refine ⟨fun j hj => by omega, by omega, by omega, by omega⟩
/-- derive -/
theorem xderive_r (xo : Nat) (B : (c : Bool) → Pt c) (c : Bool) (S : StT) (A : AS) (h : RC xo B S A) : RC xo B (xderive_f c xo S) (setN (setR A 3 (nby (cN c (pM c (B c) (sgs c (A.1 0)))))) 2 (cB c)) ∧ OX xo (xderive_f c xo S) S := by
  have hbN := bN_le c
  have hcB := cB_b c
  obtain ⟨hC, hB, _⟩ := h.2.2.2 c
  generalize hT : xderive_f c xo S = T
  unfold xderive_f gpub_f at hT
  dsimp only at hT
  generalize e1 : gexp_f c (xo + 143 + 147 * bN c) (xo + 39 + 147 * bN c) (xo + 29 + 147 * bN c) (xo + 23 + 3 * bN c) (xo + 15 + 2 * 0 + 1) S = S1 at hT
  generalize e2 : cmult_f c (xo + 39 + 147 * bN c) (xo + 29 + 147 * bN c) (xo + 143 + 147 * bN c + 15) (xo + 143 + 147 * bN c + 7) (xo + 39 + 147 * bN c + 20) (S1.1, S1.2.1, fs S.2.2 (xo + 143 + 147 * bN c + 5) 1 (nI (0 + cB c))) = S2 at hT
  generalize e3 : cenc_f c (xo + 39 + 147 * bN c) (xo + 29 + 147 * bN c) (xo + 15 + 2 * 3 + 1) (xo + 143 + 147 * bN c + 15) (S2.1, S2.2.1, fs S.2.2 (xo + 143 + 147 * bN c + 5) 1 (nI (0 + cB c))) = S3 at hT
  obtain ⟨k1, _, _, k4, _, k6⟩ := gkey_s c (xo + 143 + 147 * bN c) (xo + 39 + 147 * bN c) (xo + 29 + 147 * bN c) (xo + 23 + 3 * bN c) (xo + 15 + 2 * 3 + 1) (xo + 15 + 2 * 0 + 1) S _ _ (f := A.1 0) (B0 := B c) (by omega) (by omega) (by omega) (by omega) (by omega) hC hB (fun i hi => h.1.1 i (by omega)) S1 S2 S3 e1 e2 e3
  rw [← hT]
  have kI2 : ∀ r, kI xo r → S3.1 r = S.1 r := fun r hr => by
    obtain ⟨q1, q2, q3, _⟩ := kI_so c hr
    exact k4 r (by omega) (q2 6 (by decide)) (q2 7 (by decide)) q3
  have kJ2 : ∀ r, kJ xo r → S3.2.1 r = S.2.1 r := fun r hr => by
    obtain ⟨q1, _, q3, q4⟩ := kJ_so c hr
    have q16 := q1 16 (by decide)
    have q17 := q1 17 (by decide)
    have q18 := q1 18 (by decide)
    exact k6 r (kJ_U c hr) (by omega) q3 q4
  refine ⟨RC_3 h (cB c) _ kI2 k1 kJ2 (fun r h1 h2 => k6 r (fun q => by have := cU_x c q; omega) (by omega) (by omega) (by omega)) (fun r hr => ?_) fs_get, fun r hr => ⟨k4 r (by omega) (by omega) (by omega) (by omega), k6 r (fun q => by have := cU_x c q; omega) (by omega) (by omega) (by omega), (vu_n (by omega)).trans (vu_n (by omega))⟩⟩
  unfold kF at hr
  exact (vu_n (by omega)).trans (vu_n (by omega))
/-- the nonce, the challenge, the answer -/
def sgr (c : Bool) (f d : Nat → Int32) (pf : Nat) (b : Nat → Int32) (bd : Nat) : Nat := bv (dgA c (app (app d pf (fun j => sgE c f (cB c + j))) (pf + cB c) b) (pf + cB c + bd) (2 * cB c)) (2 * cB c) % gO c
def sgk (c : Bool) (x y d : Nat → Int32) (pf : Nat) (b : Nat → Int32) (bd : Nat) : Nat := bv (dgA c (app (app (app d pf x) (pf + cB c) y) (pf + cB c + cB c) b) (pf + cB c + cB c + bd) (2 * cB c)) (2 * cB c)
def sgT (c : Bool) (B0 : Pt c) (f d : Nat → Int32) (pf : Nat) (b : Nat → Int32) (bd : Nat) : Nat := (sgk c (nby (cN c (pM c B0 (sgr c f d pf b bd)))) (nby (cN c (pM c B0 (sgs c f)))) d pf b bd * sgs c f + sgr c f d pf b bd) % gO c
theorem nby_bv {f : Nat → Int32} {n N : Nat} (hN : N < 2 ^ (8 * n)) (h : ∀ i, i < n → uN (f i) = N / 2 ^ (8 * i) % 256) : bv f n = N ∧ BY f n := ⟨bv_of hN h, fun i hi => by
  rw [h i hi]
  exact Nat.mod_lt _ (by decide)⟩
theorem gO_cB (c : Bool) : gO c < 2 ^ (8 * cB c) := by cases c <;> decide +kernel
end
