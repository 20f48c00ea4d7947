section
/-! THE SIGNER OF THE CLASS: nonce, challenge, prefix and body. -/
theorem gnon_s (c : Bool) (so co fo hs pf bd : Nat) (S : StT) {d g b : Nat → Int32} (hpf : pf ≤ 98) (hbd : bd ≤ 256) (hd : ∀ i, i < pf → S.1 (so + 1 + 1) i = d i) (hg : ∀ j, j < cB c → S.1 (so + 7) (cB c + j) = g j) (hb : ∀ i, i < bd → S.1 (so + 3 + 1) i = b i) :
    (∀ i, i < 2 * cB c → (gnon_f c so co fo hs pf bd S).1 (so + 8) i = dgA c (app (app d pf g) (pf + cB c) b) (pf + cB c + bd) (2 * cB c) i) ∧ (∀ r, r ≠ so + 6 → r ≠ so + 8 → (gnon_f c so co fo hs pf bd S).1 r = S.1 r) ∧ (∀ r, r ≠ hs + 1 → r ≠ hs + 2 → (gnon_f c so co fo hs pf bd S).2.1 r = S.2.1 r) := by
  have hcB := cB_b c
  generalize hT : gnon_f c so co fo hs pf bd S = T
  unfold gnon_f at hT
  dsimp only at hT
  rw [Nat.zero_add] at hT
  obtain ⟨a1, a2, a3⟩ := rpart_t (so + 5) 0 (so + 1 + 1) 0 pf (S.1, S.2.1, fs S.2.2 (so + 5) 1 (nI 0)) (t := d) (g := d) (by omega) (fun i hi => absurd hi (Nat.not_lt_zero _)) (fun j hj => by rw [Nat.zero_add]; exact hd j hj)
  have a4 : ∀ r, r ≠ so + 5 + 1 → (rpart_f (so + 5) 0 (so + 1 + 1) 0 pf (S.1, S.2.1, fs S.2.2 (so + 5) 1 (nI 0))).1 r = S.1 r := a2
  have a5 : (rpart_f (so + 5) 0 (so + 1 + 1) 0 pf (S.1, S.2.1, fs S.2.2 (so + 5) 1 (nI 0))).2.1 = S.2.1 := a3
  have a6 : ∀ i, i < pf → (rpart_f (so + 5) 0 (so + 1 + 1) 0 pf (S.1, S.2.1, fs S.2.2 (so + 5) 1 (nI 0))).1 (so + 5 + 1) i = d i := fun i hi => by
    rw [a1 i (by omega)]
    unfold app
    rw [if_neg (by omega), Nat.sub_zero]
  clear a1 a2 a3
  generalize rpart_f (so + 5) 0 (so + 1 + 1) 0 pf (S.1, S.2.1, fs S.2.2 (so + 5) 1 (nI 0)) = R1 at a4 a5 a6 hT
  obtain ⟨b1, b2, b3⟩ := rpart_t (so + 5) pf (so + 7) (cB c) (cB c) (R1.1, R1.2.1, fs S.2.2 (so + 5) 1 (nI pf)) (t := d) (g := g) (by omega) a6 (fun j hj => by show R1.1 (so + 7) (cB c + j) = _; rw [a4 _ (by omega)]; exact hg j hj)
  have b4 : ∀ r, r ≠ so + 5 + 1 → (rpart_f (so + 5) pf (so + 7) (cB c) (cB c) (R1.1, R1.2.1, fs S.2.2 (so + 5) 1 (nI pf))).1 r = S.1 r := fun r hr => (b2 r hr).trans (a4 r hr)
  have b5 : (rpart_f (so + 5) pf (so + 7) (cB c) (cB c) (R1.1, R1.2.1, fs S.2.2 (so + 5) 1 (nI pf))).2.1 = S.2.1 := b3.trans a5
  clear b2 b3 a4 a5 a6
  generalize rpart_f (so + 5) pf (so + 7) (cB c) (cB c) (R1.1, R1.2.1, fs S.2.2 (so + 5) 1 (nI pf)) = R2 at b1 b4 b5 hT
  obtain ⟨c1, c2, c3⟩ := rpart_t (so + 5) (pf + cB c) (so + 3 + 1) 0 bd (R2.1, R2.2.1, fs S.2.2 (so + 5) 1 (nI (pf + cB c))) (t := app d pf g) (g := b) (by omega) b1 (fun j hj => by show R2.1 (so + 3 + 1) (0 + j) = _; rw [Nat.zero_add, b4 _ (by omega)]; exact hb j hj)
  have c4 : ∀ r, r ≠ so + 5 + 1 → (rpart_f (so + 5) (pf + cB c) (so + 3 + 1) 0 bd (R2.1, R2.2.1, fs S.2.2 (so + 5) 1 (nI (pf + cB c)))).1 r = S.1 r := fun r hr => (c2 r hr).trans (b4 r hr)
  have c5 : (rpart_f (so + 5) (pf + cB c) (so + 3 + 1) 0 bd (R2.1, R2.2.1, fs S.2.2 (so + 5) 1 (nI (pf + cB c)))).2.1 = S.2.1 := c3.trans b5
  clear c2 c3 b1 b4 b5
  generalize rpart_f (so + 5) (pf + cB c) (so + 3 + 1) 0 bd (R2.1, R2.2.1, fs S.2.2 (so + 5) 1 (nI (pf + cB c))) = R3 at c1 c4 c5 hT
  obtain ⟨d1, _, d3, d4⟩ := dig_A c hs (so + 8) (so + 5) (pf + cB c + bd) (2 * cB c) (R3.1, R3.2.1, fs S.2.2 (so + 5) 1 (nI (pf + cB c + bd))) (f := app (app d pf g) (pf + cB c) b) (by omega) (by omega) (n2 c) c1
  rw [← hT]
  exact ⟨d1, fun r q1 q2 => (d3 r q2).trans (c4 r q1), fun r q1 q2 => (d4 r q1 q2).trans (by show R3.2.1 r = _; rw [c5])⟩
theorem gcha_s (c : Bool) (so co fo hs pf bd ka kb : Nat) (S : StT) {d x y b : Nat → Int32} (hpf : pf ≤ 98) (hbd : bd ≤ 256) (hka : ka ≠ so + 6) (hkb : kb ≠ so + 6) (hd : ∀ i, i < pf → S.1 (so + 1 + 1) i = d i) (hx : ∀ j, j < cB c → S.1 ka j = x j) (hy : ∀ j, j < cB c → S.1 kb j = y j) (hb : ∀ i, i < bd → S.1 (so + 3 + 1) i = b i) :
    (∀ i, i < 2 * cB c → (gcha_f c so co fo hs pf bd ka kb S).1 (so + 8) i = dgA c (app (app (app d pf x) (pf + cB c) y) (pf + cB c + cB c) b) (pf + cB c + cB c + bd) (2 * cB c) i) ∧ (∀ r, r ≠ so + 6 → r ≠ so + 8 → (gcha_f c so co fo hs pf bd ka kb S).1 r = S.1 r) ∧ (∀ r, r ≠ hs + 1 → r ≠ hs + 2 → (gcha_f c so co fo hs pf bd ka kb S).2.1 r = S.2.1 r) := by
  have hcB := cB_b c
  generalize hT : gcha_f c so co fo hs pf bd ka kb S = T
  unfold gcha_f at hT
  dsimp only at hT
  rw [Nat.zero_add] at hT
  obtain ⟨a1, a2, a3⟩ := rpart_t (so + 5) 0 (so + 1 + 1) 0 pf (S.1, S.2.1, fs S.2.2 (so + 5) 1 (nI 0)) (t := d) (g := d) (by omega) (fun i hi => absurd hi (Nat.not_lt_zero _)) (fun j hj => by rw [Nat.zero_add]; exact hd j hj)
  have a4 : ∀ r, r ≠ so + 5 + 1 → (rpart_f (so + 5) 0 (so + 1 + 1) 0 pf (S.1, S.2.1, fs S.2.2 (so + 5) 1 (nI 0))).1 r = S.1 r := a2
  have a5 : (rpart_f (so + 5) 0 (so + 1 + 1) 0 pf (S.1, S.2.1, fs S.2.2 (so + 5) 1 (nI 0))).2.1 = S.2.1 := a3
  have a6 : ∀ i, i < pf → (rpart_f (so + 5) 0 (so + 1 + 1) 0 pf (S.1, S.2.1, fs S.2.2 (so + 5) 1 (nI 0))).1 (so + 5 + 1) i = d i := fun i hi => by
    rw [a1 i (by omega)]
    unfold app
    rw [if_neg (by omega), Nat.sub_zero]
  clear a1 a2 a3
  generalize rpart_f (so + 5) 0 (so + 1 + 1) 0 pf (S.1, S.2.1, fs S.2.2 (so + 5) 1 (nI 0)) = R1 at a4 a5 a6 hT
  obtain ⟨b1, b2, b3⟩ := rpart_t (so + 5) pf ka 0 (cB c) (R1.1, R1.2.1, fs S.2.2 (so + 5) 1 (nI pf)) (t := d) (g := x) (by omega) a6 (fun j hj => by show R1.1 ka (0 + j) = _; rw [Nat.zero_add, a4 _ (by omega)]; exact hx j hj)
  have b4 : ∀ r, r ≠ so + 5 + 1 → (rpart_f (so + 5) pf ka 0 (cB c) (R1.1, R1.2.1, fs S.2.2 (so + 5) 1 (nI pf))).1 r = S.1 r := fun r hr => (b2 r hr).trans (a4 r hr)
  have b5 : (rpart_f (so + 5) pf ka 0 (cB c) (R1.1, R1.2.1, fs S.2.2 (so + 5) 1 (nI pf))).2.1 = S.2.1 := b3.trans a5
  clear b2 b3 a4 a5 a6
  generalize rpart_f (so + 5) pf ka 0 (cB c) (R1.1, R1.2.1, fs S.2.2 (so + 5) 1 (nI pf)) = R2 at b1 b4 b5 hT
  obtain ⟨e1, e2, e3⟩ := rpart_t (so + 5) (pf + cB c) kb 0 (cB c) (R2.1, R2.2.1, fs S.2.2 (so + 5) 1 (nI (pf + cB c))) (t := app d pf x) (g := y) (by omega) b1 (fun j hj => by show R2.1 kb (0 + j) = _; rw [Nat.zero_add, b4 _ (by omega)]; exact hy j hj)
  have e4 : ∀ r, r ≠ so + 5 + 1 → (rpart_f (so + 5) (pf + cB c) kb 0 (cB c) (R2.1, R2.2.1, fs S.2.2 (so + 5) 1 (nI (pf + cB c)))).1 r = S.1 r := fun r hr => (e2 r hr).trans (b4 r hr)
  have e5 : (rpart_f (so + 5) (pf + cB c) kb 0 (cB c) (R2.1, R2.2.1, fs S.2.2 (so + 5) 1 (nI (pf + cB c)))).2.1 = S.2.1 := e3.trans b5
  clear e2 e3 b1 b4 b5
  generalize rpart_f (so + 5) (pf + cB c) kb 0 (cB c) (R2.1, R2.2.1, fs S.2.2 (so + 5) 1 (nI (pf + cB c))) = R4 at e1 e4 e5 hT
  obtain ⟨c1, c2, c3⟩ := rpart_t (so + 5) (pf + cB c + cB c) (so + 3 + 1) 0 bd (R4.1, R4.2.1, fs S.2.2 (so + 5) 1 (nI (pf + cB c + cB c))) (t := app (app d pf x) (pf + cB c) y) (g := b) (by omega) e1 (fun j hj => by show R4.1 (so + 3 + 1) (0 + j) = _; rw [Nat.zero_add, e4 _ (by omega)]; exact hb j hj)
  have c4 : ∀ r, r ≠ so + 5 + 1 → (rpart_f (so + 5) (pf + cB c + cB c) (so + 3 + 1) 0 bd (R4.1, R4.2.1, fs S.2.2 (so + 5) 1 (nI (pf + cB c + cB c)))).1 r = S.1 r := fun r hr => (c2 r hr).trans (e4 r hr)
  have c5 : (rpart_f (so + 5) (pf + cB c + cB c) (so + 3 + 1) 0 bd (R4.1, R4.2.1, fs S.2.2 (so + 5) 1 (nI (pf + cB c + cB c)))).2.1 = S.2.1 := c3.trans e5
  clear c2 c3 e1 e4 e5
  generalize rpart_f (so + 5) (pf + cB c + cB c) (so + 3 + 1) 0 bd (R4.1, R4.2.1, fs S.2.2 (so + 5) 1 (nI (pf + cB c + cB c))) = R3 at c1 c4 c5 hT
  obtain ⟨d1, _, d3, d4⟩ := dig_A c hs (so + 8) (so + 5) (pf + cB c + cB c + bd) (2 * cB c) (R3.1, R3.2.1, fs S.2.2 (so + 5) 1 (nI (pf + cB c + cB c + bd))) (f := app (app (app d pf x) (pf + cB c) y) (pf + cB c + cB c) b) (by omega) (by omega) (n2 c) c1
  rw [← hT]
  exact ⟨d1, fun r q1 q2 => (d3 r q2).trans (c4 r q1), fun r q1 q2 => (d4 r q1 q2).trans (by show R3.2.1 r = _; rw [c5])⟩
theorem rtext_s (ro N : Nat) (f : Nat → Nat) (S : StT) : (∀ i, i < N → (rtext_f ro 0 N f S).1 (ro + 1) i = nI (f i)) ∧ (∀ r, r ≠ ro + 1 → (rtext_f ro 0 N f S).1 r = S.1 r) ∧ (rtext_f ro 0 N f S).2.1 = S.2.1 := by
  have key : ∀ n, (∀ i, i < n → rtext_l ro 0 f S n (ro + 1) i = nI (f i)) ∧ ∀ r, r ≠ ro + 1 → rtext_l ro 0 f S n r = S.1 r := by
    intro n
    induction n with
    | zero => exact ⟨fun i hi => absurd hi (Nat.not_lt_zero _), fun _ _ => rfl⟩
    | succ n ih =>
      obtain ⟨h1, h2⟩ := ih
      unfold rtext_l
      refine ⟨fun i hi => ?_, fun r hr => (vu_n hr).trans (h2 r hr)⟩
      rw [vu_s, Nat.zero_add]
      show (if i = n then nI (f n) else rtext_l ro 0 f S n (ro + 1) i) = _
      by_cases e : i = n
      · rw [if_pos e, e]
      · rw [if_neg e]; exact h1 i (by omega)
  exact ⟨(key N).1, (key N).2, rfl⟩
/-- label, flag, count, context -/
def dmT (N : Nat) (f : Nat → Nat) (x y : Int32) (g : Nat → Int32) : Nat → Int32 := fun i => if i < N then nI (f i) else if i = N then x else if i = N + 1 then y else g (i - (N + 2))
theorem pre_s (so cr N cx : Nat) (f : Nat → Nat) (x y : Int32) (S : StT) (F1 F2 F3 F4 : Nat → Nat → Int32) {g : Nat → Int32} (hcr : cr + 1 ≠ so + 2) (hg : ∀ j, j < cx → S.1 (cr + 1) j = g j) (R1 R2 R3 R4 : StT) (h1 : rtext_f (so + 1) 0 N f (S.1, S.2.1, F1) = R1) (h2 : rapp_f (so + 1) (0 + N) x (R1.1, R1.2.1, F2) = R2) (h3 : rapp_f (so + 1) (0 + N + 1) y (R2.1, R2.2.1, F3) = R3) (h4 : rpart_f (so + 1) (0 + N + 1 + 1) (cr + 1) 0 cx (R3.1, R3.2.1, F4) = R4) :
    (∀ i, i < N + 2 + cx → R4.1 (so + 1 + 1) i = dmT N f x y g i) ∧ (∀ r, r ≠ so + 2 → R4.1 r = S.1 r) ∧ R4.2.1 = S.2.1 := by
  obtain ⟨a1, a2, a3⟩ := rtext_s (so + 1) N f (S.1, S.2.1, F1)
  rw [h1] at a1 a2 a3
  have b1 : ∀ i, R2.1 (so + 1 + 1) i = if i = N then x else R1.1 (so + 1 + 1) i := fun i => by
    rw [← h2, Nat.zero_add]
    show va_up R1.1 (so + 1 + 1) (upd (R1.1 (so + 1 + 1)) N x) (so + 1 + 1) i = _
    rw [vu_s]
    rfl
  have b2 : ∀ r, r ≠ so + 1 + 1 → R2.1 r = R1.1 r := fun r hr => by rw [← h2]; exact vu_n hr
  have b3 : R2.2.1 = R1.2.1 := by rw [← h2]; rfl
  have c1 : ∀ i, R3.1 (so + 1 + 1) i = if i = N + 1 then y else R2.1 (so + 1 + 1) i := fun i => by
    rw [← h3, Nat.zero_add]
    show va_up R2.1 (so + 1 + 1) (upd (R2.1 (so + 1 + 1)) (N + 1) y) (so + 1 + 1) i = _
    rw [vu_s]
    rfl
  have c2 : ∀ r, r ≠ so + 1 + 1 → R3.1 r = R2.1 r := fun r hr => by rw [← h3]; exact vu_n hr
  have c3 : R3.2.1 = R2.2.1 := by rw [← h3]; rfl
  obtain ⟨d1, d2, d3⟩ := rpart_s (so + 1) (0 + N + 1 + 1) (cr + 1) 0 cx (R3.1, R3.2.1, F4) (by omega)
  rw [h4] at d1 d2 d3
  have e : ∀ r, r ≠ so + 1 + 1 → R3.1 r = S.1 r := fun r hr => (c2 r hr).trans ((b2 r hr).trans (a2 r hr))
  refine ⟨fun i hi => ?_, fun r hr => (d2 r (by omega)).trans (e r (by omega)), d3.trans (c3.trans (b3.trans a3))⟩
  rw [d1 i]
  unfold dmT
  by_cases q : i < N
  · rw [if_neg (by omega), if_pos q]
    show R3.1 (so + 1 + 1) i = _
    rw [c1, if_neg (by omega), b1, if_neg (by omega)]
    exact a1 i q
  · rw [if_neg q]
    by_cases q1 : i = N
    · rw [if_neg (by omega), if_pos q1]
      show R3.1 (so + 1 + 1) i = _
      rw [c1, if_neg (by omega), b1, if_pos q1]
    · rw [if_neg q1]
      by_cases q2 : i = N + 1
      · rw [if_neg (by omega), if_pos q2]
        show R3.1 (so + 1 + 1) i = _
        rw [c1, if_pos q2]
      · rw [if_neg q2, if_pos (by omega)]
        show R3.1 (cr + 1) (0 + (i - (0 + N + 1 + 1))) = _
        rw [e _ (by omega), show 0 + (i - (0 + N + 1 + 1)) = i - (N + 2) from by omega]
        exact hg _ (by omega)
/-- the prefix -/
def dmA (c ph : Bool) (cx : Nat) (g : Nat → Int32) : Nat → Int32 := if c then dmT 8 lb4 (nI (if ph then 1 else 0)) (nI cx) g else dmT 32 lb2 (nI (if ph then 1 else 0)) (nI cx) g
/-- the body -/
def bdA (c ph : Bool) (m : Nat → Int32) (mg : Nat) : Nat → Int32 := if ph then dgA c m mg 64 else m
theorem body_s (c : Bool) (so hs mr mg : Nat) (R : StT) (F : Nat → Nat → Int32) {m : Nat → Int32} (hmg : mg ≤ 256) (hmr : mr + 1 ≠ so + 4) (hm : ∀ i, i < mg → R.1 (mr + 1) i = m i) :
    ((∀ i, i < mg → (rpart_f (so + 3) 0 (mr + 1) 0 mg (R.1, R.2.1, F)).1 (so + 3 + 1) i = m i) ∧ (∀ r, r ≠ so + 4 → (rpart_f (so + 3) 0 (mr + 1) 0 mg (R.1, R.2.1, F)).1 r = R.1 r) ∧ (rpart_f (so + 3) 0 (mr + 1) 0 mg (R.1, R.2.1, F)).2.1 = R.2.1) ∧ (∀ i, i < 64 → (dig_f c hs (so + 3 + 1) mr mg 64 (R.1, R.2.1, F)).1 (so + 3 + 1) i = dgA c m mg 64 i) ∧ (∀ r, r ≠ so + 4 → (dig_f c hs (so + 3 + 1) mr mg 64 (R.1, R.2.1, F)).1 r = R.1 r) ∧ (∀ r, r ≠ hs + 1 → r ≠ hs + 2 → (dig_f c hs (so + 3 + 1) mr mg 64 (R.1, R.2.1, F)).2.1 r = R.2.1 r) := by
  obtain ⟨a1, a2, a3⟩ := rpart_s (so + 3) 0 (mr + 1) 0 mg (R.1, R.2.1, F) (by omega)
  obtain ⟨d1, _, d3, d4⟩ := dig_A c hs (so + 3 + 1) mr mg 64 (R.1, R.2.1, F) (f := m) (by omega) (by decide) (fun _ => Nat.le_refl _) hm
  refine ⟨⟨fun i hi => ?_, fun r hr => a2 r (by omega), a3⟩, d1, fun r hr => d3 r (by omega), d4⟩
  rw [a1 i, if_pos (by omega), Nat.zero_add, Nat.sub_zero]
  exact hm i hi
theorem gcho_s (c : Bool) (so co fo hs mr cr mg cx : Nat) (ph : Bool) (s4 s2 : Nat) (S : StT) {m g : Nat → Int32} (hmg : mg ≤ 256) (hcx : cx ≤ 64) (hmr : mr + 1 ≠ so + 4) (hmr2 : mr + 1 ≠ so + 2) (hcr : cr + 1 ≠ so + 2) (hm : ∀ i, i < mg → S.1 (mr + 1) i = m i) (hg : ∀ j, j < cx → S.1 (cr + 1) j = g j) :
    (∀ i, i < dmN c ph cx → (gcho_f c so co fo hs mr cr mg cx ph s4 s2 S).1 (so + 1 + 1) i = dmA c ph cx g i) ∧ (∀ i, i < (if ph then 64 else mg) → (gcho_f c so co fo hs mr cr mg cx ph s4 s2 S).1 (so + 3 + 1) i = bdA c ph m mg i) ∧ (∀ r, r ≠ so + 2 → r ≠ so + 4 → (gcho_f c so co fo hs mr cr mg cx ph s4 s2 S).1 r = S.1 r) ∧ (∀ r, r ≠ hs + 1 → r ≠ hs + 2 → (gcho_f c so co fo hs mr cr mg cx ph s4 s2 S).2.1 r = S.2.1 r) := by
  have fin1 : ∀ (R T : StT) (F : Nat → Nat → Int32) (G : Nat → Nat → Int32), ph = false → (∀ i, i < dmN c ph cx → R.1 (so + 1 + 1) i = dmA c ph cx g i) → (∀ r, r ≠ so + 2 → R.1 r = S.1 r) → R.2.1 = S.2.1 → T = ((rpart_f (so + 3) 0 (mr + 1) 0 mg (R.1, R.2.1, F)).1, (rpart_f (so + 3) 0 (mr + 1) 0 mg (R.1, R.2.1, F)).2.1, G) → (∀ i, i < dmN c ph cx → T.1 (so + 1 + 1) i = dmA c ph cx g i) ∧ (∀ i, i < (if ph then 64 else mg) → T.1 (so + 3 + 1) i = bdA c ph m mg i) ∧ (∀ r, r ≠ so + 2 → r ≠ so + 4 → T.1 r = S.1 r) ∧ (∀ r, r ≠ hs + 1 → r ≠ hs + 2 → T.2.1 r = S.2.1 r) := by
    intro R T F G hph r1 r2 r3 hT
    obtain ⟨⟨b1, b2, b3⟩, _⟩ := body_s c so hs mr mg R F (m := m) hmg hmr (fun i hi => by rw [r2 _ hmr2]; exact hm i hi)
    rw [hT]
    refine ⟨fun i hi => (congrFun (b2 _ (by omega)) i).trans (r1 i hi), fun i hi => ?_, fun r q1 q2 => (b2 r q2).trans (r2 r q1), fun r _ _ => by show (rpart_f (so + 3) 0 (mr + 1) 0 mg (R.1, R.2.1, F)).2.1 r = _; rw [b3, r3]⟩
    rw [hph, if_neg (by decide)] at hi
    unfold bdA
    rw [hph, if_neg (by decide)]
    exact b1 i hi
  have fin2 : ∀ (R T : StT) (F : Nat → Nat → Int32) (G : Nat → Nat → Int32), ph = true → (∀ i, i < dmN c ph cx → R.1 (so + 1 + 1) i = dmA c ph cx g i) → (∀ r, r ≠ so + 2 → R.1 r = S.1 r) → R.2.1 = S.2.1 → T = ((dig_f c hs (so + 3 + 1) mr mg 64 (R.1, R.2.1, F)).1, (dig_f c hs (so + 3 + 1) mr mg 64 (R.1, R.2.1, F)).2.1, G) → (∀ i, i < dmN c ph cx → T.1 (so + 1 + 1) i = dmA c ph cx g i) ∧ (∀ i, i < (if ph then 64 else mg) → T.1 (so + 3 + 1) i = bdA c ph m mg i) ∧ (∀ r, r ≠ so + 2 → r ≠ so + 4 → T.1 r = S.1 r) ∧ (∀ r, r ≠ hs + 1 → r ≠ hs + 2 → T.2.1 r = S.2.1 r) := by
    intro R T F G hph r1 r2 r3 hT
    obtain ⟨_, b1, b2, b3⟩ := body_s c so hs mr mg R F (m := m) hmg hmr (fun i hi => by rw [r2 _ hmr2]; exact hm i hi)
    rw [hT]
    refine ⟨fun i hi => (congrFun (b2 _ (by omega)) i).trans (r1 i hi), fun i hi => ?_, fun r q1 q2 => (b2 r q2).trans (r2 r q1), fun r q1 q2 => (b3 r q1 q2).trans (by rw [r3])⟩
    rw [hph, if_pos rfl] at hi
    unfold bdA
    rw [hph, if_pos rfl]
    exact b1 i hi
  generalize hT : gcho_f c so co fo hs mr cr mg cx ph s4 s2 S = T
  unfold gcho_f at hT
  dsimp only at hT
  cases c with
  | true =>
    rw [if_pos (show bI true ≠ 0 by decide)] at hT
    have pr := pre_s so cr 8 cx lb4 (nI (if bI ph = 0 then 0 else 1)) (nI cx) S (fs S.2.2 (so + 1) 1 (nI (0))) (fs S.2.2 (so + 1) 1 (nI (0 + 8))) (fs S.2.2 (so + 1) 1 (nI (0 + 8 + 1))) (fs S.2.2 (so + 1) 1 (nI (0 + 8 + 1 + 1))) (g := g) hcr hg _ _ _ _ rfl rfl rfl rfl
    have hD : ∀ i, i < dmN true ph cx → i < 8 + 2 + cx := fun i hi => by
      have : dmN true ph cx = 10 + cx := rfl
      omega
    cases ph with
    | false =>
      rw [if_pos (show bI false = 0 by decide)] at hT
      exact fin1 _ T _ _ rfl (fun i hi => pr.1 i (hD i hi)) pr.2.1 pr.2.2 hT.symm
    | true =>
      rw [if_neg (show ¬ (bI true = 0) by decide)] at hT
      exact fin2 _ T _ _ rfl (fun i hi => pr.1 i (hD i hi)) pr.2.1 pr.2.2 hT.symm
  | false =>
    rw [if_neg (show ¬ (bI false ≠ 0) by decide)] at hT
    cases ph with
    | true =>
      rw [if_pos (show bI true ≠ 0 by decide)] at hT
      have pr := pre_s so cr 32 cx lb2 (nI 1) (nI cx) S (fs S.2.2 (so + 1) 1 (nI (0))) (fs S.2.2 (so + 1) 1 (nI (0 + 32))) (fs S.2.2 (so + 1) 1 (nI (0 + 32 + 1))) (fs S.2.2 (so + 1) 1 (nI (0 + 32 + 1 + 1))) (g := g) hcr hg _ _ _ _ rfl rfl rfl rfl
      have hD : ∀ i, i < dmN false true cx → i < 32 + 2 + cx := fun i hi => by
        have : dmN false true cx = 34 + cx := rfl
        omega
      exact fin2 _ T _ _ rfl (fun i hi => pr.1 i (hD i hi)) pr.2.1 pr.2.2 hT.symm
    | false =>
      rw [if_neg (show ¬ (bI false ≠ 0) by decide)] at hT
      by_cases h0 : cx = 0
      · rw [if_pos ((nI_z16 (by omega)).mpr h0)] at hT
        refine fin1 S T _ _ rfl (fun i hi => ?_) (fun _ _ => rfl) rfl hT.symm
        have : dmN false false cx = 0 := by
          unfold dmN
          rw [if_neg (by decide), if_neg (by decide), if_pos h0]
        omega
      · rw [if_neg (fun q => h0 ((nI_z16 (by omega)).mp q))] at hT
        have pr := pre_s so cr 32 cx lb2 (nI 0) (nI cx) S (fs S.2.2 (so + 1) 1 (nI (0))) (fs S.2.2 (so + 1) 1 (nI (0 + 32))) (fs S.2.2 (so + 1) 1 (nI (0 + 32 + 1))) (fs S.2.2 (so + 1) 1 (nI (0 + 32 + 1 + 1))) (g := g) hcr hg _ _ _ _ rfl rfl rfl rfl
        have hD : ∀ i, i < dmN false false cx → i < 32 + 2 + cx := fun i hi => by
          have : dmN false false cx = 34 + cx := by
            unfold dmN
            rw [if_neg (by decide), if_neg (by decide), if_neg h0]
          omega
        exact fin1 _ T _ _ rfl (fun i hi => pr.1 i (hD i hi)) pr.2.1 pr.2.2 hT.symm
end
