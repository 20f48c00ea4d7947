section
/-! THE SIGNER OF THE CLASS: verify. -/
/-- the equation of a signature x under the key y -/
def Ver (c : Bool) (B0 : Pt c) (x y d : Nat → Int32) (pf : Nat) (b : Nat → Int32) (bd : Nat) : Prop := ∃ PA PR : Pt c, Dec c (bv y (cB c)) PA ∧ Dec c (bv x (cB c)) PR ∧ bv (fun j => x (cB c + j)) (cB c) < gO c ∧ pM c (pA c (pA c (pM c B0 (bv (fun j => x (cB c + j)) (cB c))) (pM c (ed_neg PA) (sgk c x y d pf b bd % gO c))) (ed_neg PR)) (2 ^ vcN c) = (0, 1)
theorem gver_dbl (c : Bool) (so co fo pf bd : Nat) (S : StT) {Q : Pt c} (D1 : fo + 9 < co) (D2 : co + 92 ≤ so) (h : PV c S.2.1 (so + 15) Q) : ∀ n, PV c (gver_l202 c so co fo pf bd S n) (so + 15) (pM c Q (2 ^ n)) ∧ ∀ r, ¬ cT co fo r → ¬ (so + 15 + 1 ≤ r ∧ r ≤ so + 15 + 3) → gver_l202 c so co fo pf bd S n r = S.2.1 r := by
  intro n
  induction n with
  | zero =>
    rw [Nat.pow_zero, pM_1]
    exact ⟨h, fun _ _ _ => rfl⟩
  | succ n ih =>
    obtain ⟨i1, i2⟩ := ih
    have st : gver_l202 c so co fo pf bd S (n + 1) = (ctwice_f c co fo (so + 15) (so + 15) (S.1, gver_l202 c so co fo pf bd S n, fs S.2.2 (so + 5) 1 (nI (0 + pf + cB c + cB c + bd)))).2.1 := by
      dsimp only [gver_l202]
    rw [st]
    obtain ⟨t1, t2⟩ := ctwice_s c co fo (so + 15) (so + 15) (S.1, gver_l202 c so co fo pf bd S n, fs S.2.2 (so + 5) 1 (nI (0 + pf + cB c + cB c + bd))) D1 (by unfold pF; omega) (by unfold pF; omega) i1
    rw [← pM_add h.1, show 2 ^ n + 2 ^ n = 2 ^ (n + 1) from by rw [Nat.pow_succ]; omega] at t1
    exact ⟨t1, fun r q1 q2 => (t2 r q1 q2).trans (i2 r q1 q2)⟩
theorem gver_s (c : Bool) (so co fo hs pf bd sg pk : Nat) (S : StT) {x y d b : Nat → Int32} {B0 : Pt c} (D1 : fo + 9 < co) (D2 : co + 92 ≤ so) (D3 : hs + 2 < fo) (hsg : sg < hs) (hpk : pk < hs) (hpf : pf ≤ 98) (hbd : bd ≤ 256) (hC : CI c co fo S.2.1) (hB : PV c S.2.1 (co + 20) B0) (h1 : SD S.2.1 (so + 27 + 1) 1) (hO : SD S.2.1 (so + 27 + 4) (gO c)) (hOB : ∀ i, i < cB c → uN (S.1 (so + 27 + 5) i) = gO c / 2 ^ (8 * i) % 256) (hx : ∀ i, i < 2 * cB c → S.1 sg i = x i) (hy : ∀ i, i < cB c → S.1 pk i = y i) (hbx : BY x (2 * cB c)) (hby : BY y (cB c)) (hd : ∀ i, i < pf → S.1 (so + 1 + 1) i = d i) (hb : ∀ i, i < bd → S.1 (so + 3 + 1) i = b i) :
    (((gver_f c so co fo hs pf bd sg pk S).1 = nI 1 ∧ Ver c B0 x y d pf b bd) ∨ ((gver_f c so co fo hs pf bd sg pk S).1 = nI 0 ∧ ¬ Ver c B0 x y d pf b bd)) ∧ (∀ r, r ≠ co + 6 → r ≠ co + 7 → ¬ (so + 6 ≤ r ∧ r ≤ so + 11) → (gver_f c so co fo hs pf bd sg pk S).2.1 r = S.1 r) ∧ (∀ r, ¬ cU co fo r → ¬ (so + 14 ≤ r ∧ r ≤ so + 26) → r ≠ so + 29 → r ≠ hs + 1 → r ≠ hs + 2 → (gver_f c so co fo hs pf bd sg pk S).2.2.1 r = S.2.1 r) ∧ ∀ r, r ≠ so + 5 → (gver_f c so co fo hs pf bd sg pk S).2.2.2 r = S.2.2 r := by
  have hcB := cB_b c
  have hG := gO_lt c
  have hGc := gO_cB c
  have cu : ∀ r, so ≤ r → ¬ cU co fo r := fun r hr q => by unfold cU cT at q; omega
  have ciu : ∀ r, (r = fo + 1 ∨ r = fo + 2 ∨ r = co + 19 ∨ r = co + 17 ∨ r = co + 29 ∨ r = co + 30 ∨ r = co + 31 ∨ r = co + 21 ∨ r = co + 22 ∨ r = co + 23) → ¬ cU co fo r := fun r hr q => by unfold cU cT at q; omega
  generalize hT : gver_f c so co fo hs pf bd sg pk S = T
  unfold gver_f at hT
  dsimp only at hT
  -- the key
  obtain ⟨a1, a2⟩ := cdec_s c co fo (so + 19) pk S D1 (by unfold pF; omega) (by omega) (by omega) hC (BY_cg hy hby)
  rw [bv_cg hy] at a1
  generalize cdec_f c co fo (so + 19) pk S = R1 at a1 a2 hT
  rcases a1 with ⟨b1, ⟨PA, b2, b3⟩, b4⟩ | ⟨b1, b2, b4⟩
  case inr =>
    rw [if_pos (b1.trans (by decide))] at hT
    rw [← hT]
    exact ⟨Or.inr ⟨rfl, fun ⟨PA, _, q, _⟩ => b2 PA q⟩, fun r q1 q2 q3 => a2 r q2, fun r q1 q2 q3 q4 q5 => b4 r (cU_T q1), fun _ _ => rfl⟩
  rw [if_neg (by rw [b1]; decide)] at hT
  have hC1 : CI c co fo R1.2.2.1 := CI_fr (fun r hr => b4 r (cU_T (ciu r (by omega))) (by omega)) hC
  have hx1 : ∀ i, i < 2 * cB c → R1.2.1 sg i = x i := fun i hi => by rw [a2 _ (by omega)]; exact hx i hi
  -- the signature's point
  obtain ⟨c1, c2⟩ := cdec_s c co fo (so + 23) sg (R1.2.1, R1.2.2.1, S.2.2) D1 (by unfold pF; omega) (by omega) (by omega) hC1 (BY_cg (fun i hi => hx1 i (by omega)) (fun i hi => hbx i (by omega)))
  have ebx : bv (R1.2.1 sg) (cB c) = bv x (cB c) := bv_cg (fun i hi => hx1 i (by omega))
  have c3 : (((cdec_f c co fo (so + 23) sg (R1.2.1, R1.2.2.1, S.2.2)).1 = nI 1 ∧ (∃ P, Dec c (bv (R1.2.1 sg) (cB c)) P ∧ PV c (cdec_f c co fo (so + 23) sg (R1.2.1, R1.2.2.1, S.2.2)).2.2.1 (so + 23) P) ∧ ∀ r, ¬ cT co fo r → ¬ (so + 23 + 1 ≤ r ∧ r ≤ so + 23 + 3) → (cdec_f c co fo (so + 23) sg (R1.2.1, R1.2.2.1, S.2.2)).2.2.1 r = R1.2.2.1 r) ∨ ((cdec_f c co fo (so + 23) sg (R1.2.1, R1.2.2.1, S.2.2)).1 = nI 0 ∧ (∀ P, ¬ Dec c (bv (R1.2.1 sg) (cB c)) P) ∧ ∀ r, ¬ cT co fo r → (cdec_f c co fo (so + 23) sg (R1.2.1, R1.2.2.1, S.2.2)).2.2.1 r = R1.2.2.1 r)) := c1
  have c4 : ∀ r, r ≠ co + 7 → (cdec_f c co fo (so + 23) sg (R1.2.1, R1.2.2.1, S.2.2)).2.1 r = S.1 r := fun r hr => (c2 r hr).trans (a2 r hr)
  rw [ebx] at c3
  clear c1 c2
  generalize cdec_f c co fo (so + 23) sg (R1.2.1, R1.2.2.1, S.2.2) = R3 at c3 c4 hT
  rcases c3 with ⟨d1, ⟨PR, d2, d3⟩, d4⟩ | ⟨d1, d2, d4⟩
  case inr =>
    rw [if_pos (d1.trans (by decide))] at hT
    rw [← hT]
    exact ⟨Or.inr ⟨rfl, fun ⟨_, PR, _, q, _⟩ => d2 PR q⟩, fun r q1 q2 q3 => c4 r q2, fun r q1 q2 q3 q4 q5 => (d4 r (cU_T q1)).trans (b4 r (cU_T q1) (by omega)), fun _ _ => rfl⟩
  rw [if_neg (by rw [d1]; decide)] at hT
  have J3 : ∀ r, ¬ cT co fo r → ¬ (so + 20 ≤ r ∧ r ≤ so + 26) → R3.2.2.1 r = S.2.1 r := fun r q1 q2 => (d4 r q1 (by omega)).trans (b4 r q1 (by omega))
  have hA3 : PV c R3.2.2.1 (so + 19) PA := PV_row (d4 _ (fun q => cu _ (by omega) (Or.inl q)) (by omega)) (d4 _ (fun q => cu _ (by omega) (Or.inl q)) (by omega)) (d4 _ (fun q => cu _ (by omega) (Or.inl q)) (by omega)) b3
  -- the answer below the order
  have hxs : BY (fun j => x (cB c + j)) (cB c) := fun i hi => hbx (cB c + i) (by omega)
  obtain ⟨s1, _⟩ := sbel_s c (so + 27) sg (cB c) (R3.2.1, R3.2.2.1, S.2.2) (n := bv (fun j => x (cB c + j)) (cB c)) (bv_lt hxs) (fun i hi => by
    show uN (R3.2.1 sg (cB c + i)) = _
    rw [c4 _ (by omega), hx _ (by omega)]
    exact bv_dig hxs hi) (fun i hi => by show uN (R3.2.1 (so + 27 + 5) i) = _; rw [c4 _ (by omega)]; exact hOB i hi)
  rw [s1] at hT
  by_cases hlt : bv (fun j => x (cB c + j)) (cB c) < gO c
  case neg =>
    rw [if_neg hlt, if_neg (by decide)] at hT
    rw [← hT]
    exact ⟨Or.inr ⟨rfl, fun ⟨_, _, _, _, q, _⟩ => hlt q⟩, fun r q1 q2 q3 => c4 r q2, fun r q1 q2 q3 q4 q5 => J3 r (cU_T q1) (by omega), fun _ _ => rfl⟩
  rw [if_pos hlt, if_pos (by decide)] at hT
  generalize hF : fs S.2.2 (so + 5) 1 (nI (0 + pf + cB c + cB c + bd)) = F at hT
  -- the challenge
  obtain ⟨g1, g2, g3⟩ := gcha_s c so co fo hs pf bd sg pk (R3.2.1, R3.2.2.1, S.2.2) (d := d) (x := x) (y := y) (b := b) hpf hbd (by omega) (by omega) (fun i hi => by show R3.2.1 _ i = _; rw [c4 _ (by omega)]; exact hd i hi) (fun i hi => by show R3.2.1 _ i = _; rw [c4 _ (by omega)]; exact hx i (by omega)) (fun i hi => by show R3.2.1 _ i = _; rw [c4 _ (by omega)]; exact hy i hi) (fun i hi => by show R3.2.1 _ i = _; rw [c4 _ (by omega)]; exact hb i hi)
  have g4 : ∀ r, r ≠ so + 6 → r ≠ so + 8 → r ≠ co + 7 → (gcha_f c so co fo hs pf bd sg pk (R3.2.1, R3.2.2.1, S.2.2)).1 r = S.1 r := fun r q1 q2 q3 => (g2 r q1 q2).trans (c4 r q3)
  have g5 : ∀ r, r ≠ hs + 1 → r ≠ hs + 2 → (gcha_f c so co fo hs pf bd sg pk (R3.2.1, R3.2.2.1, S.2.2)).2.1 r = R3.2.2.1 r := g3
  clear g2 g3
  generalize gcha_f c so co fo hs pf bd sg pk (R3.2.1, R3.2.2.1, S.2.2) = S6 at g1 g4 g5 hT
  have J6 : ∀ r, ¬ cT co fo r → ¬ (so + 20 ≤ r ∧ r ≤ so + 26) → r ≠ hs + 1 → r ≠ hs + 2 → S6.2.1 r = S.2.1 r := fun r q1 q2 q3 q4 => (g5 r q3 q4).trans (J3 r q1 q2)
  obtain ⟨u1, u2, _⟩ := smul_s c (so + 27) (so + 14) (so + 8) (2 * cB c) (so + 27 + 1) (S6.1, S6.2.1, F) (f := 1) (by omega) (by omega) (by omega) (by omega) (BY_cg g1 (dgA_lt c _ _ _ (n2 c))) (SD_row (J6 _ (fun q => cu _ (by omega) (Or.inl q)) (by omega) (by omega) (by omega)) h1) (by omega) (SD_row (J6 _ (fun q => cu _ (by omega) (Or.inl q)) (by omega) (by omega) (by omega)) hO)
  have u1' : SD (sred_f c (so + 27) (so + 14) (so + 8) (2 * cB c) (S6.1, S6.2.1, F)).2.1 (so + 14) (sgk c x y d pf b bd % gO c) := by
    have e : bv (S6.1 (so + 8)) (2 * cB c) * 1 % gO c = sgk c x y d pf b bd % gO c := by
      rw [Nat.mul_one, bv_cg g1]
      rfl
    rw [← e]
    exact u1
  have u3 : ∀ r, r ≠ so + 14 → r ≠ so + 27 + 2 → (sred_f c (so + 27) (so + 14) (so + 8) (2 * cB c) (S6.1, S6.2.1, F)).2.1 r = S6.2.1 r := u2
  clear u1 u2
  generalize sred_f c (so + 27) (so + 14) (so + 8) (2 * cB c) (S6.1, S6.2.1, F) = S7 at u1' u3 hT
  have J7 : ∀ r, ¬ cT co fo r → ¬ (so + 14 ≤ r ∧ r ≤ so + 26) → r ≠ so + 29 → r ≠ hs + 1 → r ≠ hs + 2 → S7.2.1 r = S.2.1 r := fun r q1 q2 q3 q4 q5 => (u3 r (by omega) (by omega)).trans (J6 r q1 (by omega) q4 q5)
  obtain ⟨w1, w2, _, w4⟩ := swrite_s c (so + 27) (so + 10) 0 (so + 14) (S6.1, S7.2.1, F) u1'
  have w5 : ∀ i, i < cB c → uN ((swrite_f c (so + 27) (so + 10) 0 (so + 14) (S6.1, S7.2.1, F)).1 (so + 10) i) = sgk c x y d pf b bd % gO c / 2 ^ (8 * i) % 256 := fun i hi => by
    have := w1 i hi
    rw [Nat.zero_add] at this
    exact this
  have w6 : ∀ r, r ≠ so + 10 → (swrite_f c (so + 27) (so + 10) 0 (so + 14) (S6.1, S7.2.1, F)).1 r = S6.1 r := w2
  have w7 : (swrite_f c (so + 27) (so + 10) 0 (so + 14) (S6.1, S7.2.1, F)).2.1 = S7.2.1 := w4
  clear w1 w2 w4
  generalize swrite_f c (so + 27) (so + 10) 0 (so + 14) (S6.1, S7.2.1, F) = S8 at w5 w6 w7 hT
  have hkl : sgk c x y d pf b bd % gO c < 2 ^ (8 * cB c) := Nat.lt_trans (Nat.mod_lt _ (by omega)) hGc
  generalize hI9 : va_up S8.1 (so + 11) (va_cpy (S8.1 sg) (S8.1 (so + 11)) (cB c) 0 (cB c)) = I9 at hT
  have i1 : ∀ r, r ≠ so + 11 → I9 r = S8.1 r := fun r hr => by rw [← hI9]; exact vu_n hr
  have i2 : ∀ i, i < cB c → I9 (so + 11) i = x (cB c + i) := fun i hi => by
    rw [← hI9, vu_s]
    unfold va_cpy
    rw [if_pos ⟨Nat.zero_le _, by omega⟩, Nat.sub_zero, w6 _ (by omega), g4 _ (by omega) (by omega) (by omega)]
    exact hx _ (by omega)
  have i3 : ∀ i, i < cB c → uN (I9 (so + 10) i) = sgk c x y d pf b bd % gO c / 2 ^ (8 * i) % 256 := fun i hi => by rw [i1 _ (by omega)]; exact w5 i hi
  clear hI9
  obtain ⟨b10, y10⟩ := nby_bv hkl i3
  have hA8 : PV c S8.2.1 (so + 19) PA := by
    rw [w7]
    exact PV_row ((u3 _ (by omega) (by omega)).trans (g5 _ (by omega) (by omega))) ((u3 _ (by omega) (by omega)).trans (g5 _ (by omega) (by omega))) ((u3 _ (by omega) (by omega)).trans (g5 _ (by omega) (by omega))) hA3
  have hR8 : PV c S8.2.1 (so + 23) PR := by
    rw [w7]
    exact PV_row ((u3 _ (by omega) (by omega)).trans (g5 _ (by omega) (by omega))) ((u3 _ (by omega) (by omega)).trans (g5 _ (by omega) (by omega))) ((u3 _ (by omega) (by omega)).trans (g5 _ (by omega) (by omega))) d3
  obtain ⟨p1, p2⟩ := cneg_s c co fo (so + 19) (so + 19) (I9, S8.2.1, F) (Or.inl rfl) hA8
  have p3 : ∀ r, ¬ (so + 19 + 1 ≤ r ∧ r ≤ so + 19 + 3) → (cneg_f c co fo (so + 19) (so + 19) (I9, S8.2.1, F)).2.1 r = S8.2.1 r := p2
  generalize cneg_f c co fo (so + 19) (so + 19) (I9, S8.2.1, F) = S9 at p1 p3 hT
  obtain ⟨q1, q2⟩ := cneg_s c co fo (so + 23) (so + 23) (I9, S9.2.1, F) (Or.inl rfl) (PV_row (p3 _ (by omega)) (p3 _ (by omega)) (p3 _ (by omega)) hR8)
  have q3 : ∀ r, ¬ (so + 23 + 1 ≤ r ∧ r ≤ so + 23 + 3) → (cneg_f c co fo (so + 23) (so + 23) (I9, S9.2.1, F)).2.1 r = S9.2.1 r := q2
  generalize cneg_f c co fo (so + 23) (so + 23) (I9, S9.2.1, F) = S10 at q1 q3 hT
  have J10 : ∀ r, ¬ cT co fo r → ¬ (so + 14 ≤ r ∧ r ≤ so + 26) → r ≠ so + 29 → r ≠ hs + 1 → r ≠ hs + 2 → S10.2.1 r = S.2.1 r := fun r z1 z2 z3 z4 z5 => (q3 r (by omega)).trans ((p3 r (by omega)).trans (by rw [w7]; exact J7 r z1 z2 z3 z4 z5))
  have hC10 : CI c co fo S10.2.1 := CI_fr (fun r hr => J10 r (cU_T (ciu r (by omega))) (by omega) (by omega) (by omega) (by omega)) hC
  have hB10 : PV c S10.2.1 (co + 20) B0 := PV_row (J10 _ (cU_T (ciu _ (by omega))) (by omega) (by omega) (by omega) (by omega)) (J10 _ (cU_T (ciu _ (by omega))) (by omega) (by omega) (by omega) (by omega)) (J10 _ (cU_T (ciu _ (by omega))) (by omega) (by omega) (by omega) (by omega)) hB
  have hA10 : PV c S10.2.1 (so + 19) (ed_neg PA) := PV_row (q3 _ (by omega)) (q3 _ (by omega)) (q3 _ (by omega)) p1
  obtain ⟨m1, m2⟩ := cmul2_s c co fo (so + 15) (so + 11) (co + 20) (so + 10) (so + 19) (I9, S10.2.1, F) D1 (by unfold pX; omega) (by unfold pX; omega) (by unfold pX; omega) (by omega) hC10 (BY_cg i2 hxs) y10 hB10 hA10
  have m3 := cmul2_i c co fo (so + 15) (so + 11) (co + 20) (so + 10) (so + 19) (I9, S10.2.1, F)
  have m1' : PV c (cmul2_f c co fo (so + 15) (so + 11) (co + 20) (so + 10) (so + 19) (I9, S10.2.1, F)).2.1 (so + 15) (pA c (pM c B0 (bv (I9 (so + 11)) (cB c))) (pM c (ed_neg PA) (bv (I9 (so + 10)) (cB c)))) := m1
  rw [b10, bv_cg i2] at m1'
  have m4 : ∀ r, ¬ cU co fo r → ¬ (so + 15 + 1 ≤ r ∧ r ≤ so + 15 + 3) → (cmul2_f c co fo (so + 15) (so + 11) (co + 20) (so + 10) (so + 19) (I9, S10.2.1, F)).2.1 r = S10.2.1 r := m2
  have m5 : ∀ r, r ≠ co + 6 → (cmul2_f c co fo (so + 15) (so + 11) (co + 20) (so + 10) (so + 19) (I9, S10.2.1, F)).1 r = I9 r := m3
  clear m1 m2 m3
  generalize cmul2_f c co fo (so + 15) (so + 11) (co + 20) (so + 10) (so + 19) (I9, S10.2.1, F) = S11 at m1' m4 m5 hT
  obtain ⟨z1, z2⟩ := csum_s c co fo (so + 15) (so + 15) (so + 23) (S11.1, S11.2.1, F) D1 (by unfold pF; omega) (by unfold pF; omega) (by unfold pF; omega) (VL_row (m4 _ (ciu _ (by omega)) (by omega)) hC10.2.2.1) m1' (PV_row (m4 _ (cu _ (by omega)) (by omega)) (m4 _ (cu _ (by omega)) (by omega)) (m4 _ (cu _ (by omega)) (by omega)) q1)
  have z3 : ∀ r, ¬ cT co fo r → ¬ (so + 15 + 1 ≤ r ∧ r ≤ so + 15 + 3) → (csum_f c co fo (so + 15) (so + 15) (so + 23) (S11.1, S11.2.1, F)).2.1 r = S11.2.1 r := z2
  generalize csum_f c co fo (so + 15) (so + 15) (so + 23) (S11.1, S11.2.1, F) = S12 at z1 z3 hT
  obtain ⟨l1, l2⟩ := gver_dbl c so co fo pf bd (S11.1, S12.2.1, S.2.2) D1 D2 z1 (vcN c)
  have l3 : ∀ r, ¬ cT co fo r → ¬ (so + 15 + 1 ≤ r ∧ r ≤ so + 15 + 3) → gver_l202 c so co fo pf bd (S11.1, S12.2.1, S.2.2) (vcN c) r = S12.2.1 r := l2
  generalize gver_l202 c so co fo pf bd (S11.1, S12.2.1, S.2.2) (vcN c) = JL at l1 l3 hT
  have J13 : ∀ r, ¬ cU co fo r → ¬ (so + 14 ≤ r ∧ r ≤ so + 26) → r ≠ so + 29 → r ≠ hs + 1 → r ≠ hs + 2 → JL r = S.2.1 r := fun r y1 y2 y3 y4 y5 => (l3 r (cU_T y1) (by omega)).trans ((z3 r (cU_T y1) (by omega)).trans ((m4 r y1 (by omega)).trans (J10 r (cU_T y1) y2 y3 y4 y5)))
  obtain ⟨n1, n3⟩ := cisN_s c co fo (so + 15) (S11.1, JL, F) (by unfold pF; omega) (PrimeAt_row (J13 _ (ciu _ (by omega)) (by omega) (by omega) (by omega) (by omega)) hC.1) l1
  have n4 : ∀ r, ¬ cT co fo r → (cisN_f c co fo (so + 15) (S11.1, JL, F)).2.2.1 r = JL r := n3
  generalize cisN_f c co fo (so + 15) (S11.1, JL, F) = R14 at n1 n4 hT
  rw [← hT]
  have fI : ∀ r, r ≠ co + 6 → r ≠ co + 7 → ¬ (so + 6 ≤ r ∧ r ≤ so + 11) → S11.1 r = S.1 r := fun r y1 y2 y3 => (m5 r y1).trans ((i1 r (by omega)).trans ((w6 r (by omega)).trans (g4 r (by omega) (by omega) y2)))
  have fJ : ∀ r, ¬ cU co fo r → ¬ (so + 14 ≤ r ∧ r ≤ so + 26) → r ≠ so + 29 → r ≠ hs + 1 → r ≠ hs + 2 → R14.2.2.1 r = S.2.1 r := fun r y1 y2 y3 y4 y5 => (n4 r (cU_T y1)).trans (J13 r y1 y2 y3 y4 y5)
  have fF : ∀ r, r ≠ so + 5 → F r = S.2.2 r := fun r hr => by rw [← hF]; exact vu_n hr
  refine ⟨?_, fI, fJ, fF⟩
  by_cases hv : pM c (pA c (pA c (pM c B0 (bv (fun j => x (cB c + j)) (cB c))) (pM c (ed_neg PA) (sgk c x y d pf b bd % gO c))) (ed_neg PR)) (2 ^ vcN c) = (0, 1)
  · rw [if_pos hv] at n1
    exact Or.inl ⟨n1, PA, PR, b2, d2, hlt, hv⟩
  · rw [if_neg hv] at n1
    refine Or.inr ⟨n1, fun ⟨PA', PR', v1, v2, _, v4⟩ => hv ?_⟩
    rw [Dec_uniq v1 b2, Dec_uniq v2 d2] at v4
    exact v4
end
