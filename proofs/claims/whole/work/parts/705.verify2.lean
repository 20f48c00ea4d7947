section
/-! THE CLASS: verify. -/
/-- what verify asks -/
def VerA (B : (c : Bool) → Pt c) (c ph : Bool) (A : AS) : Prop := Ver c (B c) (A.1 2) (A.1 1) (dmA c ph (A.2.1 1) (A.1 5)) (dmN c ph (A.2.1 1)) (bdA c ph (A.1 4) (A.2.1 0)) (if ph then 64 else A.2.1 0)
/-- behind verify: nothing comes out -/
def out0 (A : AS) : AS := setN (setR A 3 (A.1 3)) 2 0
theorem xverify_r (xo : Nat) (B : (c : Bool) → Pt c) (c ph : Bool) (s4 s2 : Nat) (S : StT) (A : AS) (hv : AV A) (h : RC xo B S A) : (((xverify_f c xo (A.2.1 0) (A.2.1 1) ph s4 s2 S).1 = nI 1 ∧ VerA B c ph A) ∨ ((xverify_f c xo (A.2.1 0) (A.2.1 1) ph s4 s2 S).1 = nI 0 ∧ ¬ VerA B c ph A)) ∧ RC xo B (xverify_f c xo (A.2.1 0) (A.2.1 1) ph s4 s2 S).2 (out0 A) ∧ OX xo (xverify_f c xo (A.2.1 0) (A.2.1 1) ph s4 s2 S).2 S := by
  have hbN := bN_le c
  have hcB := cB_b c
  have hmg := hv.2.2.2.2.2.2.1
  have hcx := hv.2.2.2.2.2.2.2.1
  obtain ⟨hC, hB, hs1, hsO, hsB⟩ := h.2.2.2 c
  have hpf := dmN_le c ph hcx
  have hbd : (if ph then 64 else A.2.1 0) ≤ 256 := by split <;> omega
  obtain ⟨a1, a2, a3, a4⟩ := gcho_s c (xo + 143 + 147 * bN c) (xo + 39 + 147 * bN c) (xo + 29 + 147 * bN c) (xo + 23 + 3 * bN c) (xo + 2) (xo + 4) (A.2.1 0) (A.2.1 1) ph s4 s2 (S.1, S.2.1, fs S.2.2 (xo + 15 + 2 * 3) 1 (nI (0))) (m := A.1 4) (g := A.1 5) hmg hcx (by omega) (by omega) (by omega) (fun i hi => h.1.2.2.2.2.1 i hi) (fun i hi => h.1.2.2.2.2.2 i hi)
  have a3' : ∀ r, r ≠ xo + 143 + 147 * bN c + 1 + 1 → r ≠ xo + 143 + 147 * bN c + 3 + 1 → (gcho_f c (xo + 143 + 147 * bN c) (xo + 39 + 147 * bN c) (xo + 29 + 147 * bN c) (xo + 23 + 3 * bN c) (xo + 2) (xo + 4) (A.2.1 0) (A.2.1 1) ph s4 s2 (S.1, S.2.1, fs S.2.2 (xo + 15 + 2 * 3) 1 (nI (0)))).1 r = S.1 r := a3
  have a4' : ∀ r, r ≠ xo + 23 + 3 * bN c + 1 → r ≠ xo + 23 + 3 * bN c + 2 → (gcho_f c (xo + 143 + 147 * bN c) (xo + 39 + 147 * bN c) (xo + 29 + 147 * bN c) (xo + 23 + 3 * bN c) (xo + 2) (xo + 4) (A.2.1 0) (A.2.1 1) ph s4 s2 (S.1, S.2.1, fs S.2.2 (xo + 15 + 2 * 3) 1 (nI (0)))).2.1 r = S.2.1 r := a4
  clear a3 a4
  generalize hT : xverify_f c xo (A.2.1 0) (A.2.1 1) ph s4 s2 S = T
  unfold xverify_f at hT
  dsimp only at hT
  generalize gcho_f c (xo + 143 + 147 * bN c) (xo + 39 + 147 * bN c) (xo + 29 + 147 * bN c) (xo + 23 + 3 * bN c) (xo + 2) (xo + 4) (A.2.1 0) (A.2.1 1) ph s4 s2 (S.1, S.2.1, fs S.2.2 (xo + 15 + 2 * 3) 1 (nI (0))) = G at a1 a2 a3' a4' hT
  have hC1 : CI c (xo + 39 + 147 * bN c) (xo + 29 + 147 * bN c) G.2.1 := CI_fr (fun r hr => a4' r (by omega) (by omega)) hC
  have hB1 : PV c G.2.1 (xo + 39 + 147 * bN c + 20) (B c) := PV_row (a4' _ (by omega) (by omega)) (a4' _ (by omega) (by omega)) (a4' _ (by omega) (by omega)) hB
  generalize hFF : fs (fs (fs S.2.2 (xo + 15 + 2 * 3) 1 (nI (0))) (xo + 143 + 147 * bN c + 1) 1 (nI (dmN c ph (A.2.1 1)))) (xo + 143 + 147 * bN c + 3) 1 (nI (if ph then 64 else A.2.1 0)) = FF at hT
  obtain ⟨m1, m2, m3, m4⟩ := gver_s c (xo + 143 + 147 * bN c) (xo + 39 + 147 * bN c) (xo + 29 + 147 * bN c) (xo + 23 + 3 * bN c) (dmN c ph (A.2.1 1)) (if ph then 64 else A.2.1 0) (xo + 15 + 2 * 2 + 1) (xo + 15 + 2 * 1 + 1) (G.1, G.2.1, FF) (x := A.1 2) (y := A.1 1) (d := dmA c ph (A.2.1 1) (A.1 5)) (b := bdA c ph (A.1 4) (A.2.1 0)) (B0 := B c) (by omega) (by omega) (by omega) (by omega) (by omega) hpf hbd hC1 hB1 (SD_row (a4' _ (by omega) (by omega)) hs1) (SD_row (a4' _ (by omega) (by omega)) hsO) (fun i hi => by show uN (G.1 _ i) = _; rw [a3' _ (by omega) (by omega)]; exact hsB i hi) (fun i hi => by show G.1 _ i = _; rw [a3' _ (by omega) (by omega)]; exact h.1.2.2.1 i (by omega)) (fun i hi => by show G.1 _ i = _; rw [a3' _ (by omega) (by omega)]; exact h.1.2.1 i (by omega)) (fun i hi => hv.2.2.1 i (by omega)) (fun i hi => hv.2.1 i (by omega)) a1 a2
  have m2' : ∀ r, r ≠ xo + 39 + 147 * bN c + 6 → r ≠ xo + 39 + 147 * bN c + 7 → ¬ (xo + 143 + 147 * bN c + 6 ≤ r ∧ r ≤ xo + 143 + 147 * bN c + 11) → (gver_f c (xo + 143 + 147 * bN c) (xo + 39 + 147 * bN c) (xo + 29 + 147 * bN c) (xo + 23 + 3 * bN c) (dmN c ph (A.2.1 1)) (if ph then 64 else A.2.1 0) (xo + 15 + 2 * 2 + 1) (xo + 15 + 2 * 1 + 1) (G.1, G.2.1, FF)).2.1 r = G.1 r := m2
  have m3' : ∀ r, ¬ cU (xo + 39 + 147 * bN c) (xo + 29 + 147 * bN c) r → ¬ (xo + 143 + 147 * bN c + 14 ≤ r ∧ r ≤ xo + 143 + 147 * bN c + 26) → r ≠ xo + 143 + 147 * bN c + 29 → r ≠ xo + 23 + 3 * bN c + 1 → r ≠ xo + 23 + 3 * bN c + 2 → (gver_f c (xo + 143 + 147 * bN c) (xo + 39 + 147 * bN c) (xo + 29 + 147 * bN c) (xo + 23 + 3 * bN c) (dmN c ph (A.2.1 1)) (if ph then 64 else A.2.1 0) (xo + 15 + 2 * 2 + 1) (xo + 15 + 2 * 1 + 1) (G.1, G.2.1, FF)).2.2.1 r = G.2.1 r := m3
  have m4' : ∀ r, r ≠ xo + 143 + 147 * bN c + 5 → (gver_f c (xo + 143 + 147 * bN c) (xo + 39 + 147 * bN c) (xo + 29 + 147 * bN c) (xo + 23 + 3 * bN c) (dmN c ph (A.2.1 1)) (if ph then 64 else A.2.1 0) (xo + 15 + 2 * 2 + 1) (xo + 15 + 2 * 1 + 1) (G.1, G.2.1, FF)).2.2.2 r = FF r := m4
  clear m2 m3 m4
  generalize gver_f c (xo + 143 + 147 * bN c) (xo + 39 + 147 * bN c) (xo + 29 + 147 * bN c) (xo + 23 + 3 * bN c) (dmN c ph (A.2.1 1)) (if ph then 64 else A.2.1 0) (xo + 15 + 2 * 2 + 1) (xo + 15 + 2 * 1 + 1) (G.1, G.2.1, FF) = M at m1 m2' m3' m4' hT
  rw [← hT]
  have oF : ∀ r, r ≠ xo + 143 + 147 * bN c + 1 → r ≠ xo + 143 + 147 * bN c + 3 → r ≠ xo + 143 + 147 * bN c + 5 → r ≠ xo + 15 + 2 * 3 → M.2.2.2 r = S.2.2 r := fun r q1 q2 q3 q4 => by
    rw [m4' r q3, ← hFF]
    exact (vu_n q2).trans ((vu_n q1).trans (vu_n q4))
  have o21 : M.2.2.2 (xo + 21) 1 = nI 0 := by
    rw [m4' _ (by omega), ← hFF, show fs (fs (fs S.2.2 (xo + 15 + 2 * 3) 1 (nI (0))) (xo + 143 + 147 * bN c + 1) 1 (nI (dmN c ph (A.2.1 1)))) (xo + 143 + 147 * bN c + 3) 1 (nI (if ph then 64 else A.2.1 0)) (xo + 21) = fs S.2.2 (xo + 15 + 2 * 3) 1 (nI (0)) (xo + 21) from (vu_n (by omega)).trans (vu_n (by omega))]
    exact fs_get
  refine ⟨m1, RC_3 h 0 (A.1 3) (fun r hr => ?_) (fun i hi => absurd hi (Nat.not_lt_zero _)) (fun r hr => ?_) (fun r h1 h2 => ?_) (fun r hr => oF r ?_ ?_ ?_ ?_) o21, fun r hr => ⟨(m2' r (by omega) (by omega) (by omega)).trans (a3' r (by omega) (by omega)), (m3' r (fun q => by have := cU_x c q; omega) (by omega) (by omega) (by omega) (by omega)).trans (a4' r (by omega) (by omega)), oF r (by omega) (by omega) (by omega) (by omega)⟩⟩
  · obtain ⟨q1, q2, q3, q4⟩ := kI_so c hr
    have w6 := q2 6 (by decide); have w7 := q2 7 (by decide); have w8 := q2 8 (by decide); have w9 := q2 9 (by decide); have w10 := q2 10 (by decide); have w11 := q2 11 (by decide)
    exact (m2' r q3 q4 (by omega)).trans (a3' r (q2 2 (by decide)) (q2 4 (by decide)))
  · obtain ⟨q1, q2, q3, q4⟩ := kJ_so c hr
    have w14 := q1 14 (by decide); have w15 := q1 15 (by decide); have w16 := q1 16 (by decide); have w17 := q1 17 (by decide); have w18 := q1 18 (by decide); have w19 := q1 19 (by decide); have w20 := q1 20 (by decide); have w21 := q1 21 (by decide); have w22 := q1 22 (by decide); have w23 := q1 23 (by decide); have w24 := q1 24 (by decide); have w25 := q1 25 (by decide); have w26 := q1 26 (by decide)
    exact (m3' r (kJ_U c hr) (by omega) q2 q3 q4).trans (a4' r q3 q4)
  · exact (m3' r (fun q => by have := cU_x c q; omega) (by omega) (by omega) (by omega) (by omega)).trans (a4' r (by omega) (by omega))
  · unfold kF at hr; omega
  · unfold kF at hr; omega
  · unfold kF at hr; omega
  · unfold kF at hr; omega
end
