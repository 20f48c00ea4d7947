section
/-! THE SIGNER OF THE CLASS: a signature. -/
theorem sum_m (k s r L : Nat) : (k * (s % L) % L + r) % L = (k * s + r) % L := by
  rw [Nat.mod_add_mod, Nat.add_mod, Nat.mul_mod_mod, ← Nat.add_mod]
theorem gmak_s (c : Bool) (so co fo hs pf bd to sk : Nat) (S : StT) {f d b : Nat → Int32} {B0 : Pt c} (D1 : fo + 9 < co) (D2 : co + 92 ≤ so) (D3 : hs + 2 < fo) (hsk : sk < hs) (hto : to < hs) (hpf : pf ≤ 98) (hbd : bd ≤ 256) (hC : CI c co fo S.2.1) (hB : PV c S.2.1 (co + 20) B0) (h1 : SD S.2.1 (so + 27 + 1) 1) (hO : SD S.2.1 (so + 27 + 4) (gO c)) (hf : ∀ i, i < cB c → S.1 sk i = f i) (hd : ∀ i, i < pf → S.1 (so + 1 + 1) i = d i) (hb : ∀ i, i < bd → S.1 (so + 3 + 1) i = b i) :
    (∀ i, i < cB c → (gmak_f c so co fo hs pf bd to sk S).1 to i = nby (cN c (pM c B0 (sgr c f d pf b bd))) i) ∧ (∀ i, i < cB c → (gmak_f c so co fo hs pf bd to sk S).1 to (cB c + i) = nby (sgT c B0 f d pf b bd) i) ∧ (∀ r, r ≠ to → ¬ (so + 6 ≤ r ∧ r ≤ so + 11) → r ≠ co + 6 → (gmak_f c so co fo hs pf bd to sk S).1 r = S.1 r) ∧ (∀ r, ¬ cU co fo r → ¬ (so + 12 ≤ r ∧ r ≤ so + 18) → r ≠ so + 29 → r ≠ hs + 1 → r ≠ hs + 2 → (gmak_f c so co fo hs pf bd to sk S).2.1 r = S.2.1 r) := by
  have hcB := cB_b c
  have hG := gO_lt c
  have hGc := gO_cB c
  have cu : ∀ r, so ≤ r → ¬ cU co fo r := fun r hr q => by unfold cU cT at q; omega
  generalize hT : gmak_f c so co fo hs pf bd to sk S = T
  unfold gmak_f at hT
  dsimp only at hT
  generalize e1 : gexp_f c so co fo hs sk S = S1 at hT
  generalize e2 : cmult_f c co fo (so + 15) (so + 7) (co + 20) (S1.1, S1.2.1, fs S.2.2 (so + 5) 1 (nI (0 + cB c))) = S2 at hT
  generalize e3 : cenc_f c co fo (so + 9) (so + 15) (S2.1, S2.2.1, fs S.2.2 (so + 5) 1 (nI (0 + cB c))) = S3 at hT
  obtain ⟨k1, k2, k3, k4, _, k6⟩ := gkey_s c so co fo hs (so + 9) sk S _ _ (f := f) (B0 := B0) D1 D2 D3 hsk ⟨by omega, by omega⟩ hC hB hf S1 S2 S3 e1 e2 e3
  clear e1 e2 e3
  -- nonce
  obtain ⟨n1, n2', n3⟩ := gnon_s c so co fo hs pf bd (S3.1, S3.2.1, fs S.2.2 (so + 5) 1 (nI (0 + cB c))) (d := d) (g := fun j => sgE c f (cB c + j)) (b := b) hpf hbd (fun i hi => by show S3.1 _ i = _; rw [k4 _ (by omega) (by omega) (by omega) (by omega)]; exact hd i hi) k3 (fun i hi => by show S3.1 _ i = _; rw [k4 _ (by omega) (by omega) (by omega) (by omega)]; exact hb i hi)
  have n4 : ∀ r, r ≠ so + 6 → r ≠ so + 8 → (gnon_f c so co fo hs pf bd (S3.1, S3.2.1, fs S.2.2 (so + 5) 1 (nI (0 + cB c)))).1 r = S3.1 r := n2'
  have n5 : ∀ r, r ≠ hs + 1 → r ≠ hs + 2 → (gnon_f c so co fo hs pf bd (S3.1, S3.2.1, fs S.2.2 (so + 5) 1 (nI (0 + cB c)))).2.1 r = S3.2.1 r := n3
  clear n2' n3
  generalize gnon_f c so co fo hs pf bd (S3.1, S3.2.1, fs S.2.2 (so + 5) 1 (nI (0 + cB c))) = S4 at n1 n4 n5 hT
  have J4 : ∀ r, ¬ cU co fo r → ¬ (so + 16 ≤ r ∧ r ≤ so + 18) → r ≠ hs + 1 → r ≠ hs + 2 → S4.2.1 r = S.2.1 r := fun r q1 q2 q3 q4 => (n5 r q3 q4).trans (k6 r q1 q2 q3 q4)
  generalize hFb : fs S.2.2 (so + 5) 1 (nI (0 + pf + cB c + bd)) = Fb at hT
  generalize hFc : fs S.2.2 (so + 5) 1 (nI (0 + pf + cB c + cB c + bd)) = Fc at hT
  have hby8 : BY (S4.1 (so + 8)) (2 * cB c) := BY_cg n1 (dgA_lt c _ _ _ (n2 c))
  obtain ⟨s1, s2, _⟩ := smul_s c (so + 27) (so + 12) (so + 8) (2 * cB c) (so + 27 + 1) (S4.1, S4.2.1, Fb) (f := 1) (by omega) (by omega) (by omega) (by omega) hby8 (SD_row (J4 _ (cu _ (by omega)) (by omega) (by omega) (by omega)) h1) (by omega) (SD_row (J4 _ (cu _ (by omega)) (by omega) (by omega) (by omega)) hO)
  have s1' : SD (sred_f c (so + 27) (so + 12) (so + 8) (2 * cB c) (S4.1, S4.2.1, Fb)).2.1 (so + 12) (sgr c f d pf b bd) := by
    have e : bv (S4.1 (so + 8)) (2 * cB c) * 1 % gO c = sgr c f d pf b bd := by
      rw [Nat.mul_one, bv_cg n1]
      rfl
    rw [← e]
    exact s1
  have s3 : ∀ r, r ≠ so + 12 → r ≠ so + 27 + 2 → (sred_f c (so + 27) (so + 12) (so + 8) (2 * cB c) (S4.1, S4.2.1, Fb)).2.1 r = S4.2.1 r := s2
  clear s1 s2
  generalize sred_f c (so + 27) (so + 12) (so + 8) (2 * cB c) (S4.1, S4.2.1, Fb) = S5 at s1' s3 hT
  have J5 : ∀ r, ¬ cU co fo r → ¬ (so + 12 ≤ r ∧ r ≤ so + 18) → r ≠ so + 29 → r ≠ hs + 1 → r ≠ hs + 2 → S5.2.1 r = S.2.1 r := fun r q1 q2 q3 q4 q5 => (s3 r (by omega) (by omega)).trans (J4 r q1 (by omega) q4 q5)
  obtain ⟨w1, w2, _, w4⟩ := swrite_s c (so + 27) (so + 10) 0 (so + 12) (S4.1, S5.2.1, Fb) s1'
  have w5 : ∀ i, i < cB c → uN ((swrite_f c (so + 27) (so + 10) 0 (so + 12) (S4.1, S5.2.1, Fb)).1 (so + 10) i) = sgr c f d pf b bd / 2 ^ (8 * i) % 256 := fun i hi => by
    have := w1 i hi
    rw [Nat.zero_add] at this
    exact this
  have w6 : ∀ r, r ≠ so + 10 → (swrite_f c (so + 27) (so + 10) 0 (so + 12) (S4.1, S5.2.1, Fb)).1 r = S4.1 r := w2
  have w7 : (swrite_f c (so + 27) (so + 10) 0 (so + 12) (S4.1, S5.2.1, Fb)).2.1 = S5.2.1 := w4
  clear w1 w2 w4
  generalize swrite_f c (so + 27) (so + 10) 0 (so + 12) (S4.1, S5.2.1, Fb) = S6 at w5 w6 w7 hT
  have hrl : sgr c f d pf b bd < 2 ^ (8 * cB c) := Nat.lt_trans (Nat.mod_lt _ (by omega)) hGc
  obtain ⟨b6, y6⟩ := nby_bv hrl w5
  have hC6 : CI c co fo S6.2.1 := by
    rw [w7]
    exact CI_fr (fun r hr => J5 r (fun q => by unfold cU cT at q; omega) (by omega) (by omega) (by omega) (by omega)) hC
  have hB6 : PV c S6.2.1 (co + 20) B0 := by
    rw [w7]
    exact PV_row (J5 _ (fun q => by unfold cU cT at q; omega) (by omega) (by omega) (by omega) (by omega)) (J5 _ (fun q => by unfold cU cT at q; omega) (by omega) (by omega) (by omega) (by omega)) (J5 _ (fun q => by unfold cU cT at q; omega) (by omega) (by omega) (by omega) (by omega)) hB
  obtain ⟨m1, m2⟩ := cmult_s c co fo (so + 15) (so + 10) (co + 20) (S6.1, S6.2.1, Fb) D1 (by unfold pX; omega) (by unfold pX; omega) (by omega) hC6 y6 hB6
  have m3 := cmult_i c co fo (so + 15) (so + 10) (co + 20) (S6.1, S6.2.1, Fb)
  have m1' : PV c (cmult_f c co fo (so + 15) (so + 10) (co + 20) (S6.1, S6.2.1, Fb)).2.1 (so + 15) (pM c B0 (bv (S6.1 (so + 10)) (cB c))) := m1
  rw [b6] at m1'
  have m4 : ∀ r, ¬ cU co fo r → ¬ (so + 15 + 1 ≤ r ∧ r ≤ so + 15 + 3) → (cmult_f c co fo (so + 15) (so + 10) (co + 20) (S6.1, S6.2.1, Fb)).2.1 r = S5.2.1 r := fun r q1 q2 => (m2 r q1 q2).trans (by show S6.2.1 r = _; rw [w7])
  have m5 : ∀ r, r ≠ co + 6 → (cmult_f c co fo (so + 15) (so + 10) (co + 20) (S6.1, S6.2.1, Fb)).1 r = S6.1 r := m3
  clear m1 m2 m3
  generalize cmult_f c co fo (so + 15) (so + 10) (co + 20) (S6.1, S6.2.1, Fb) = S7 at m1' m4 m5 hT
  have hP7 : PrimeAt c fo S7.2.1 := PrimeAt_row (m4 _ (fun q => by unfold cU cT at q; omega) (by omega)) (by rw [← w7]; exact hC6.1)
  obtain ⟨c1, c2, c3, c4⟩ := cenc_s c co fo to (so + 15) (S7.1, S7.2.1, Fb) D1 (by unfold pF; omega) hP7 m1'
  have c5 : ∀ r, r ≠ to → (cenc_f c co fo to (so + 15) (S7.1, S7.2.1, Fb)).1 r = S7.1 r := c2
  have c6 : ∀ r, ¬ cT co fo r → (cenc_f c co fo to (so + 15) (S7.1, S7.2.1, Fb)).2.1 r = S7.2.1 r := c4
  have c7 : ∀ i, i < cB c → (cenc_f c co fo to (so + 15) (S7.1, S7.2.1, Fb)).1 to i = nby (cN c (pM c B0 (sgr c f d pf b bd))) i := fun i hi => nby_of (c1 i hi)
  clear c1 c2 c3 c4
  generalize cenc_f c co fo to (so + 15) (S7.1, S7.2.1, Fb) = S8 at c5 c6 c7 hT
  have I8 : ∀ r, r ≠ to → r ≠ co + 6 → r ≠ so + 10 → r ≠ so + 6 → r ≠ so + 8 → S8.1 r = S3.1 r := fun r q1 q2 q3 q4 q5 => (c5 r q1).trans ((m5 r q2).trans ((w6 r q3).trans (n4 r q4 q5)))
  have J8 : ∀ r, ¬ cU co fo r → ¬ (so + 16 ≤ r ∧ r ≤ so + 18) → S8.2.1 r = S5.2.1 r := fun r q1 q2 => (c6 r (cU_T q1)).trans (m4 r q1 (by omega))
  obtain ⟨g1, g2, g3⟩ := gcha_s c so co fo hs pf bd to (so + 9) (S8.1, S8.2.1, Fb) (d := d) (x := nby (cN c (pM c B0 (sgr c f d pf b bd)))) (y := nby (cN c (pM c B0 (sgs c f)))) (b := b) hpf hbd (by omega) (by omega) (fun i hi => by show S8.1 _ i = _; rw [I8 _ (by omega) (by omega) (by omega) (by omega) (by omega), k4 _ (by omega) (by omega) (by omega) (by omega)]; exact hd i hi) c7 (fun i hi => by show S8.1 _ i = _; rw [I8 _ (by omega) (by omega) (by omega) (by omega) (by omega)]; exact k1 i hi) (fun i hi => by show S8.1 _ i = _; rw [I8 _ (by omega) (by omega) (by omega) (by omega) (by omega), k4 _ (by omega) (by omega) (by omega) (by omega)]; exact hb i hi)
  have g4 : ∀ r, r ≠ so + 6 → r ≠ so + 8 → (gcha_f c so co fo hs pf bd to (so + 9) (S8.1, S8.2.1, Fb)).1 r = S8.1 r := g2
  have g5 : ∀ r, r ≠ hs + 1 → r ≠ hs + 2 → (gcha_f c so co fo hs pf bd to (so + 9) (S8.1, S8.2.1, Fb)).2.1 r = S8.2.1 r := g3
  clear g2 g3
  generalize gcha_f c so co fo hs pf bd to (so + 9) (S8.1, S8.2.1, Fb) = S9 at g1 g4 g5 hT
  have J9 : ∀ r, ¬ cU co fo r → ¬ (so + 16 ≤ r ∧ r ≤ so + 18) → r ≠ hs + 1 → r ≠ hs + 2 → S9.2.1 r = S5.2.1 r := fun r q1 q2 q3 q4 => (g5 r q3 q4).trans (J8 r q1 q2)
  have h1' : SD S9.2.1 (so + 27 + 1) 1 := SD_row ((J9 _ (cu _ (by omega)) (by omega) (by omega) (by omega)).trans (J5 _ (cu _ (by omega)) (by omega) (by omega) (by omega) (by omega))) h1
  have hO' : SD S9.2.1 (so + 27 + 4) (gO c) := SD_row ((J9 _ (cu _ (by omega)) (by omega) (by omega) (by omega)).trans (J5 _ (cu _ (by omega)) (by omega) (by omega) (by omega) (by omega))) hO
  have hr' : SD S9.2.1 (so + 12) (sgr c f d pf b bd) := SD_row (J9 _ (cu _ (by omega)) (by omega) (by omega) (by omega)) s1'
  have hx7 : ∀ i, i < cB c → S9.1 (so + 7) i = xsA c (sgE c f) i := fun i hi => by
    rw [g4 _ (by omega) (by omega), I8 _ (by omega) (by omega) (by omega) (by omega) (by omega)]
    exact k2 i hi
  -- secret modulo the order
  obtain ⟨t1, t2, _⟩ := smul_s c (so + 27) (so + 13) (so + 7) (cB c) (so + 27 + 1) (S9.1, S9.2.1, Fc) (f := 1) (by omega) (by omega) (by omega) (by omega) (BY_cg hx7 (sgs_by c f)) h1' (by omega) hO'
  have t1' : SD (sred_f c (so + 27) (so + 13) (so + 7) (cB c) (S9.1, S9.2.1, Fc)).2.1 (so + 13) (sgs c f % gO c) := by
    have e : bv (S9.1 (so + 7)) (cB c) * 1 % gO c = sgs c f % gO c := by
      rw [Nat.mul_one, bv_cg hx7]
      rfl
    rw [← e]
    exact t1
  have t3 : ∀ r, r ≠ so + 13 → r ≠ so + 27 + 2 → (sred_f c (so + 27) (so + 13) (so + 7) (cB c) (S9.1, S9.2.1, Fc)).2.1 r = S9.2.1 r := t2
  clear t1 t2
  generalize sred_f c (so + 27) (so + 13) (so + 7) (cB c) (S9.1, S9.2.1, Fc) = S10 at t1' t3 hT
  obtain ⟨u1, u2, _⟩ := smul_s c (so + 27) (so + 14) (so + 8) (2 * cB c) (so + 13) (S9.1, S10.2.1, Fc) (f := sgs c f % gO c) (by omega) (by omega) (by omega) (by omega) (BY_cg g1 (dgA_lt c _ _ _ (n2 c))) t1' (Nat.mod_lt _ (by omega)) (SD_row (t3 _ (by omega) (by omega)) hO')
  have u1' : SD (smul_f c (so + 27) (so + 14) (so + 8) (2 * cB c) (so + 13) (S9.1, S10.2.1, Fc)).2.1 (so + 14) (sgk c (nby (cN c (pM c B0 (sgr c f d pf b bd)))) (nby (cN c (pM c B0 (sgs c f)))) d pf b bd * (sgs c f % gO c) % gO c) := by
    have e : bv (S9.1 (so + 8)) (2 * cB c) = sgk c (nby (cN c (pM c B0 (sgr c f d pf b bd)))) (nby (cN c (pM c B0 (sgs c f)))) d pf b bd := bv_cg g1
    rw [← e]
    exact u1
  have u3 : ∀ r, r ≠ so + 14 → r ≠ so + 27 + 2 → (smul_f c (so + 27) (so + 14) (so + 8) (2 * cB c) (so + 13) (S9.1, S10.2.1, Fc)).2.1 r = S10.2.1 r := u2
  clear u1 u2
  generalize smul_f c (so + 27) (so + 14) (so + 8) (2 * cB c) (so + 13) (S9.1, S10.2.1, Fc) = S11 at u1' u3 hT
  obtain ⟨v1, v2, _⟩ := sinc_s c (so + 27) (so + 14) (so + 12) (S9.1, S11.2.1, Fc) (by omega) (by omega) u1' (SD_row ((u3 _ (by omega) (by omega)).trans (t3 _ (by omega) (by omega))) hr') (Nat.mod_lt _ (by omega)) (Nat.mod_lt _ (by omega)) (SD_row ((u3 _ (by omega) (by omega)).trans (t3 _ (by omega) (by omega))) hO')
  rw [sum_m] at v1
  have v3 : ∀ r, r ≠ so + 14 → r ≠ so + 27 + 2 → (sinc_f c (so + 27) (so + 14) (so + 12) (S9.1, S11.2.1, Fc)).2.1 r = S11.2.1 r := v2
  clear v2
  generalize sinc_f c (so + 27) (so + 14) (so + 12) (S9.1, S11.2.1, Fc) = S12 at v1 v3 hT
  obtain ⟨z1, z2, z3, z4⟩ := swrite_s c (so + 27) to (cB c) (so + 14) (S9.1, S12.2.1, Fc) v1
  have z5 : ∀ r, r ≠ to → (swrite_f c (so + 27) to (cB c) (so + 14) (S9.1, S12.2.1, Fc)).1 r = S9.1 r := z2
  have z6 : ∀ j, (j < cB c ∨ cB c + cB c ≤ j) → (swrite_f c (so + 27) to (cB c) (so + 14) (S9.1, S12.2.1, Fc)).1 to j = S9.1 to j := z3
  have z7 : (swrite_f c (so + 27) to (cB c) (so + 14) (S9.1, S12.2.1, Fc)).2.1 = S12.2.1 := z4
  rw [← hT]
  refine ⟨fun i hi => ?_, fun i hi => nby_of (z1 i hi), fun r q1 q2 q3 => ?_, fun r q1 q2 q3 q4 q5 => ?_⟩
  · rw [z6 i (by omega), g4 _ (by omega) (by omega)]
    exact c7 i hi
  · rw [z5 r q1, g4 r (by omega) (by omega), I8 r q1 q3 (by omega) (by omega) (by omega)]
    exact k4 r (by omega) (by omega) (by omega) q3
  · show (swrite_f c (so + 27) to (cB c) (so + 14) (S9.1, S12.2.1, Fc)).2.1 r = _
    rw [z7, v3 r (by omega) (by omega), u3 r (by omega) (by omega), t3 r (by omega) (by omega), J9 r q1 (by omega) q4 q5]
    exact J5 r q1 q2 q3 q4 q5
/-- a signature's bytes -/
def sgF (c : Bool) (B0 : Pt c) (f d : Nat → Int32) (pf : Nat) (b : Nat → Int32) (bd : Nat) : Nat → Int32 := app (nby (cN c (pM c B0 (sgr c f d pf b bd)))) (cB c) (nby (sgT c B0 f d pf b bd))
theorem dmN_le (c ph : Bool) {cx : Nat} (h : cx ≤ 64) : dmN c ph cx ≤ 98 := by
  unfold dmN
  split
  · omega
  · split
    · omega
    · split <;> omega
theorem xsign_r (xo : Nat) (B : (c : Bool) → Pt c) (c ph : Bool) (s4 s2 : Nat) (S : StT) (A : AS) (hv : AV A) (h : RC xo B S A) : RC xo B (xsign_f c xo (A.2.1 0) (A.2.1 1) ph s4 s2 S) (setN (setR A 3 (sgF c (B c) (A.1 0) (dmA c ph (A.2.1 1) (A.1 5)) (dmN c ph (A.2.1 1)) (bdA c ph (A.1 4) (A.2.1 0)) (if ph then 64 else A.2.1 0))) 2 (2 * cB c)) ∧ OX xo (xsign_f c xo (A.2.1 0) (A.2.1 1) ph s4 s2 S) S := by
  have hbN := bN_le c
  have hcB := cB_b c
  have hmg := hv.2.2.2.2.2.2.1
  have hcx := hv.2.2.2.2.2.2.2.1
  obtain ⟨hC, hB, hs1, hsO, _⟩ := h.2.2.2 c
  have hpf := dmN_le c ph hcx
  have hbd : (if ph then 64 else A.2.1 0) ≤ 256 := by split <;> omega
  obtain ⟨a1, a2, a3, a4⟩ := gcho_s c (xo + 143 + 147 * bN c) (xo + 39 + 147 * bN c) (xo + 29 + 147 * bN c) (xo + 23 + 3 * bN c) (xo + 2) (xo + 4) (A.2.1 0) (A.2.1 1) ph s4 s2 S (m := A.1 4) (g := A.1 5) hmg hcx (by omega) (by omega) (by omega) (fun i hi => h.1.2.2.2.2.1 i hi) (fun i hi => h.1.2.2.2.2.2 i hi)
  generalize hT : xsign_f c xo (A.2.1 0) (A.2.1 1) ph s4 s2 S = T
  unfold xsign_f at hT
  dsimp only at hT
  generalize gcho_f c (xo + 143 + 147 * bN c) (xo + 39 + 147 * bN c) (xo + 29 + 147 * bN c) (xo + 23 + 3 * bN c) (xo + 2) (xo + 4) (A.2.1 0) (A.2.1 1) ph s4 s2 S = G at a1 a2 a3 a4 hT
  have cu : ∀ r, kJ xo r → G.2.1 r = S.2.1 r := fun r hr => a4 r (kJ_so c hr).2.2.1 (kJ_so c hr).2.2.2
  have hC1 : CI c (xo + 39 + 147 * bN c) (xo + 29 + 147 * bN c) G.2.1 := CI_fr (fun r hr => a4 r (by omega) (by omega)) hC
  have hB1 : PV c G.2.1 (xo + 39 + 147 * bN c + 20) (B c) := PV_row (a4 _ (by omega) (by omega)) (a4 _ (by omega) (by omega)) (a4 _ (by omega) (by omega)) hB
  generalize hFF : fs (fs S.2.2 (xo + 143 + 147 * bN c + 1) 1 (nI (dmN c ph (A.2.1 1)))) (xo + 143 + 147 * bN c + 3) 1 (nI (if ph then 64 else A.2.1 0)) = FF at hT
  obtain ⟨m1, m2, m3, m4⟩ := gmak_s c (xo + 143 + 147 * bN c) (xo + 39 + 147 * bN c) (xo + 29 + 147 * bN c) (xo + 23 + 3 * bN c) (dmN c ph (A.2.1 1)) (if ph then 64 else A.2.1 0) (xo + 15 + 2 * 3 + 1) (xo + 15 + 2 * 0 + 1) (G.1, G.2.1, FF) (f := A.1 0) (d := dmA c ph (A.2.1 1) (A.1 5)) (b := bdA c ph (A.1 4) (A.2.1 0)) (B0 := B c) (by omega) (by omega) (by omega) (by omega) (by omega) hpf hbd hC1 hB1 (SD_row (a4 _ (by omega) (by omega)) hs1) (SD_row (a4 _ (by omega) (by omega)) hsO) (fun i hi => by show G.1 _ i = _; rw [a3 _ (by omega) (by omega)]; exact h.1.1 i (by omega)) a1 a2
  have m3' : ∀ r, r ≠ xo + 15 + 2 * 3 + 1 → ¬ (xo + 143 + 147 * bN c + 6 ≤ r ∧ r ≤ xo + 143 + 147 * bN c + 11) → r ≠ xo + 39 + 147 * bN c + 6 → (gmak_f c (xo + 143 + 147 * bN c) (xo + 39 + 147 * bN c) (xo + 29 + 147 * bN c) (xo + 23 + 3 * bN c) (dmN c ph (A.2.1 1)) (if ph then 64 else A.2.1 0) (xo + 15 + 2 * 3 + 1) (xo + 15 + 2 * 0 + 1) (G.1, G.2.1, FF)).1 r = G.1 r := m3
  have m4' : ∀ r, ¬ cU (xo + 39 + 147 * bN c) (xo + 29 + 147 * bN c) r → ¬ (xo + 143 + 147 * bN c + 12 ≤ r ∧ r ≤ xo + 143 + 147 * bN c + 18) → r ≠ xo + 143 + 147 * bN c + 29 → r ≠ xo + 23 + 3 * bN c + 1 → r ≠ xo + 23 + 3 * bN c + 2 → (gmak_f c (xo + 143 + 147 * bN c) (xo + 39 + 147 * bN c) (xo + 29 + 147 * bN c) (xo + 23 + 3 * bN c) (dmN c ph (A.2.1 1)) (if ph then 64 else A.2.1 0) (xo + 15 + 2 * 3 + 1) (xo + 15 + 2 * 0 + 1) (G.1, G.2.1, FF)).2.1 r = G.2.1 r := m4
  clear m3 m4
  generalize gmak_f c (xo + 143 + 147 * bN c) (xo + 39 + 147 * bN c) (xo + 29 + 147 * bN c) (xo + 23 + 3 * bN c) (dmN c ph (A.2.1 1)) (if ph then 64 else A.2.1 0) (xo + 15 + 2 * 3 + 1) (xo + 15 + 2 * 0 + 1) (G.1, G.2.1, FF) = M at m1 m2 m3' m4' hT
  rw [← hT]
  have oF : ∀ r, r ≠ xo + 143 + 147 * bN c + 1 → r ≠ xo + 143 + 147 * bN c + 3 → r ≠ xo + 143 + 147 * bN c + 5 → r ≠ xo + 15 + 2 * 3 → fs (fs FF (xo + 143 + 147 * bN c + 5) 1 (nI (0 + dmN c ph (A.2.1 1) + cB c + cB c + (if ph then 64 else A.2.1 0)))) (xo + 15 + 2 * 3) 1 (nI (2 * cB c)) r = S.2.2 r := fun r q1 q2 q3 q4 => by
    rw [← hFF]
    exact (vu_n q4).trans ((vu_n q3).trans ((vu_n q2).trans (vu_n q1)))
  refine ⟨RC_3 h (2 * cB c) _ (fun r hr => ?_) (fun i hi => ?_) (fun r hr => ?_) (fun r h1 h2 => ?_) (fun r hr => oF r ?_ ?_ ?_ ?_) fs_get, fun r hr => ⟨(m3' r (by omega) (by omega) (by omega)).trans (a3 r (by omega) (by omega)), (m4' r (fun q => by have := cU_x c q; omega) (by omega) (by omega) (by omega) (by omega)).trans (a4 r (by omega) (by omega)), oF r (by omega) (by omega) (by omega) (by omega)⟩⟩
  · obtain ⟨q1, q2, q3, _⟩ := kI_so c hr
    have w := fun j (hj : j ≤ 27) => q2 j hj
    have w6 := w 6 (by decide); have w7 := w 7 (by decide); have w8 := w 8 (by decide); have w9 := w 9 (by decide); have w10 := w 10 (by decide); have w11 := w 11 (by decide)
    exact (m3' r (by omega) (by omega) q3).trans (a3 r (q2 2 (by decide)) (q2 4 (by decide)))
  · unfold sgF app
    by_cases e : i < cB c
    · rw [if_pos e]
      exact m1 i e
    · rw [if_neg e]
      have := m2 (i - cB c) (by omega)
      rw [show cB c + (i - cB c) = i from by omega] at this
      exact this
  · obtain ⟨q1, q2, q3, q4⟩ := kJ_so c hr
    have w12 := q1 12 (by decide); have w13 := q1 13 (by decide); have w14 := q1 14 (by decide); have w15 := q1 15 (by decide); have w16 := q1 16 (by decide); have w17 := q1 17 (by decide); have w18 := q1 18 (by decide)
    exact (m4' r (kJ_U c hr) (by omega) q2 q3 q4).trans (a4 r q3 q4)
  · exact (m4' r (fun q => by have := cU_x c q; omega) (by omega) (by omega) (by omega) (by omega)).trans (a4 r (by omega) (by omega))
  · unfold kF at hr; omega
  · unfold kF at hr; omega
  · unfold kF at hr; omega
  · unfold kF at hr; omega
end
