section
/-! THE SIGNER OF THE CLASS: texts, the expanded secret, nonce, challenge. -/
theorem rpart_s (ro q a st nn : Nat) (S : StT) (ha : a ≠ ro + 1) : (∀ k, (rpart_f ro q a st nn S).1 (ro + 1) k = if q ≤ k ∧ k < q + nn then S.1 a (st + (k - q)) else S.1 (ro + 1) k) ∧ (∀ r, r ≠ ro + 1 → (rpart_f ro q a st nn S).1 r = S.1 r) ∧ (rpart_f ro q a st nn S).2.1 = S.2.1 := by
  have key : ∀ n, (∀ k, (rpart_l3 ro q a st S n).1 (ro + 1) k = if q ≤ k ∧ k < q + n then S.1 a (st + (k - q)) else S.1 (ro + 1) k) ∧ (∀ r, r ≠ ro + 1 → (rpart_l3 ro q a st S n).1 r = S.1 r) ∧ (rpart_l3 ro q a st S n).2 = S.2.1 := by
    intro n
    induction n with
    | zero => exact ⟨fun k => by rw [if_neg (by omega)]; rfl, fun _ _ => rfl, rfl⟩
    | succ n ih =>
      obtain ⟨h1, h2, h3⟩ := ih
      have hst : rpart_l3 ro q a st S (n + 1) = (va_up (rpart_l3 ro q a st S n).1 (ro + 1) (upd ((rpart_l3 ro q a st S n).1 (ro + 1)) (q + n) ((rpart_l3 ro q a st S n).1 a (st + n))), (rpart_l3 ro q a st S n).2) := rfl
      rw [hst, h2 a ha]
      refine ⟨fun k => ?_, fun r hr => (vu_n hr).trans (h2 r hr), h3⟩
      dsimp only
      rw [vu_s]
      show (if k = q + n then S.1 a _ else (rpart_l3 ro q a _ S n).1 (ro + 1) k) = _
      by_cases e : k = q + n
      · rw [if_pos e, if_pos (by omega), show k - q = n from by omega]
      · rw [if_neg e, h1]
        by_cases z : q ≤ k ∧ k < q + n
        · rw [if_pos z, if_pos (by omega)]
        · rw [if_neg z, if_neg (by omega)]
  exact key nn
/-- text t of q bytes, and g behind it -/
def app (t : Nat → Int32) (q : Nat) (g : Nat → Int32) : Nat → Int32 := fun i => if i < q then t i else g (i - q)
/-- a text grows -/
theorem rpart_t (ro q a st nn : Nat) (S : StT) {t g : Nat → Int32} (ha : a ≠ ro + 1) (ht : ∀ i, i < q → S.1 (ro + 1) i = t i) (hg : ∀ j, j < nn → S.1 a (st + j) = g j) : (∀ i, i < q + nn → (rpart_f ro q a st nn S).1 (ro + 1) i = app t q g i) ∧ (∀ r, r ≠ ro + 1 → (rpart_f ro q a st nn S).1 r = S.1 r) ∧ (rpart_f ro q a st nn S).2.1 = S.2.1 := by
  obtain ⟨h1, h2, h3⟩ := rpart_s ro q a st nn S ha
  refine ⟨fun i hi => ?_, h2, h3⟩
  rw [h1 i]
  unfold app
  by_cases e : i < q
  · rw [if_neg (by omega), if_pos e]
    exact ht i e
  · rw [if_pos (by omega), if_neg e]
    exact hg _ (by omega)
theorem dgA_cg {c : Bool} {f g : Nat → Int32} {q nn : Nat} (hq : q < 700) (hn : nn ≤ 128) (hn0 : c = false → nn ≤ 64) (h : ∀ i, i < q → f i = g i) : ∀ i, i < nn → dgA c f q nn i = dgA c g q nn i := by
  intro i hi
  obtain ⟨a1, _⟩ := dig_A c 100 200 300 q nn (cst f) (f := f) hq hn hn0 (fun _ _ => rfl)
  obtain ⟨b1, _⟩ := dig_A c 100 200 300 q nn (cst f) (f := g) hq hn hn0 h
  rw [← a1 i hi, ← b1 i hi]
/-- the secret scalar's bytes out of the digest -/
def xsA (c : Bool) (E : Nat → Int32) (i : Nat) : Int32 := if c = true ∧ i = 56 then nI 0 else clp c E i
theorem n2 (c : Bool) : c = false → 2 * cB c ≤ 64 := fun h => by rw [h]; decide
theorem cB_b (c : Bool) : cB c ≤ 57 ∧ 32 ≤ cB c := by cases c <;> decide
theorem xsA_by {c : Bool} {E : Nat → Int32} (h : ∀ i, i < cB c → uN (E i) < 256) : BY (xsA c E) (cB c) := by
  intro i hi
  unfold xsA
  split
  · decide
  · rename_i q
    have hf : i < fB c := by
      cases c with
      | false => exact hi
      | true =>
        have h1 : i < 57 := hi
        show i < 56
        have h2 : i ≠ 56 := fun e => q ⟨rfl, e⟩
        omega
    exact clp_by (fun j hj => h j (Nat.lt_of_lt_of_le hj (by cases c <;> decide))) i hf
theorem clamp_s (c : Bool) (so : Nat) (I : Nat → Nat → Int32) (J : Nat → Nat → Int64) (F : Nat → Nat → Int32) (T : StT) (hT : T = (if (bI c) = 0 then (va_up (va_up I (so + 7) (upd (I (so + 7)) (0) ((I (so + 7) (0)) &&& (nI (248))))) (so + 7) (upd ((va_up I (so + 7) (upd (I (so + 7)) (0) ((I (so + 7) (0)) &&& (nI (248))))) (so + 7)) (31) ((((va_up I (so + 7) (upd (I (so + 7)) (0) ((I (so + 7) (0)) &&& (nI (248))))) (so + 7) (31)) &&& (nI (127))) ||| (nI (64)))), J, F) else (va_up (va_up (va_up I (so + 7) (upd (I (so + 7)) (0) ((I (so + 7) (0)) &&& (nI (252))))) (so + 7) (upd ((va_up I (so + 7) (upd (I (so + 7)) (0) ((I (so + 7) (0)) &&& (nI (252))))) (so + 7)) (55) (((va_up I (so + 7) (upd (I (so + 7)) (0) ((I (so + 7) (0)) &&& (nI (252))))) (so + 7) (55)) ||| (nI (128))))) (so + 7) (upd ((va_up (va_up I (so + 7) (upd (I (so + 7)) (0) ((I (so + 7) (0)) &&& (nI (252))))) (so + 7) (upd ((va_up I (so + 7) (upd (I (so + 7)) (0) ((I (so + 7) (0)) &&& (nI (252))))) (so + 7)) (55) (((va_up I (so + 7) (upd (I (so + 7)) (0) ((I (so + 7) (0)) &&& (nI (252))))) (so + 7) (55)) ||| (nI (128))))) (so + 7)) (56) (nI (0))), J, F))) :
    (∀ i, i < cB c → T.1 (so + 7) i = xsA c (I (so + 7)) i) ∧ (∀ i, cB c ≤ i → T.1 (so + 7) i = I (so + 7) i) ∧ (∀ r, r ≠ so + 7 → T.1 r = I r) ∧ T.2.1 = J := by
  cases c with
  | false =>
    rw [if_pos (by decide)] at hT
    rw [hT]
    have e : ∀ i, va_up (va_up I (so + 7) (upd (I (so + 7)) (0) ((I (so + 7) (0)) &&& (nI (248))))) (so + 7) (upd ((va_up I (so + 7) (upd (I (so + 7)) (0) ((I (so + 7) (0)) &&& (nI (248))))) (so + 7)) (31) ((((va_up I (so + 7) (upd (I (so + 7)) (0) ((I (so + 7) (0)) &&& (nI (248))))) (so + 7) (31)) &&& (nI (127))) ||| (nI (64)))) (so + 7) i = if i = 31 then (I (so + 7) 31 &&& nI 127) ||| nI 64 else if i = 0 then I (so + 7) 0 &&& nI 248 else I (so + 7) i := by
      intro i
      rw [vu_s, vu_s]
      rfl
    refine ⟨fun i hi => (e i).trans ?_, fun i hi => (e i).trans ?_, fun r hr => (vu_n hr).trans (vu_n hr), rfl⟩
    · have ex : xsA false (I (so + 7)) i = if i = 0 then I (so + 7) 0 &&& nI 248 else if i = 31 then (I (so + 7) i &&& nI 127) ||| nI 64 else I (so + 7) i := by
        unfold xsA
        rw [if_neg (show ¬ (false = true ∧ i = 56) from fun q => absurd q.1 (by decide))]
        rfl
      rw [ex]
      by_cases h0 : i = 0
      · rw [h0]; rfl
      · by_cases h5 : i = 31
        · rw [h5]; rfl
        · rw [if_neg h5, if_neg h0, if_neg h0, if_neg h5]
    · have hi' : 32 ≤ i := hi
      rw [if_neg (by omega), if_neg (by omega)]
  | true =>
    rw [if_neg (by decide)] at hT
    rw [hT]
    have e : ∀ i, (va_up (va_up (va_up I (so + 7) (upd (I (so + 7)) (0) ((I (so + 7) (0)) &&& (nI (252))))) (so + 7) (upd ((va_up I (so + 7) (upd (I (so + 7)) (0) ((I (so + 7) (0)) &&& (nI (252))))) (so + 7)) (55) (((va_up I (so + 7) (upd (I (so + 7)) (0) ((I (so + 7) (0)) &&& (nI (252))))) (so + 7) (55)) ||| (nI (128))))) (so + 7) (upd ((va_up (va_up I (so + 7) (upd (I (so + 7)) (0) ((I (so + 7) (0)) &&& (nI (252))))) (so + 7) (upd ((va_up I (so + 7) (upd (I (so + 7)) (0) ((I (so + 7) (0)) &&& (nI (252))))) (so + 7)) (55) (((va_up I (so + 7) (upd (I (so + 7)) (0) ((I (so + 7) (0)) &&& (nI (252))))) (so + 7) (55)) ||| (nI (128))))) (so + 7)) (56) (nI (0)))) (so + 7) i = if i = 56 then nI 0 else if i = 55 then I (so + 7) 55 ||| nI 128 else if i = 0 then I (so + 7) 0 &&& nI 252 else I (so + 7) i := by
      intro i
      rw [vu_s, vu_s, vu_s]
      rfl
    refine ⟨fun i hi => (e i).trans ?_, fun i hi => (e i).trans ?_, fun r hr => (vu_n hr).trans ((vu_n hr).trans (vu_n hr)), rfl⟩
    · have ex : i ≠ 56 → xsA true (I (so + 7)) i = if i = 0 then I (so + 7) 0 &&& nI 252 else if i = 55 then I (so + 7) i ||| nI 128 else I (so + 7) i := by
        intro h6
        unfold xsA
        rw [if_neg (show ¬ (true = true ∧ i = 56) from fun q => h6 q.2)]
        rfl
      by_cases h6 : i = 56
      · rw [h6]; rfl
      · rw [ex h6]
        by_cases h0 : i = 0
        · rw [h0]; rfl
        · by_cases h5 : i = 55
          · rw [h5]; rfl
          · rw [if_neg h6, if_neg h5, if_neg h0, if_neg h0, if_neg h5]
    · have hi' : 57 ≤ i := hi
      rw [if_neg (by omega), if_neg (by omega), if_neg (by omega)]
theorem xsA_cg {c : Bool} {f g : Nat → Int32} (h : ∀ i, i < cB c → f i = g i) : ∀ i, i < cB c → xsA c f i = xsA c g i := by
  intro i hi
  unfold xsA
  split
  · rfl
  · unfold clp
    rw [h i hi, h 0 (by omega)]
theorem gexp_s (c : Bool) (so co fo hs sk : Nat) (S : StT) {f : Nat → Int32} (hsk : sk ≠ so + 6) (hf : ∀ i, i < cB c → S.1 sk i = f i) :
    (∀ i, i < cB c → (gexp_f c so co fo hs sk S).1 (so + 7) i = xsA c (dgA c f (cB c) (2 * cB c)) i) ∧ (∀ i, cB c ≤ i → i < 2 * cB c → (gexp_f c so co fo hs sk S).1 (so + 7) i = dgA c f (cB c) (2 * cB c) i) ∧ (∀ r, r ≠ so + 6 → r ≠ so + 7 → (gexp_f c so co fo hs sk S).1 r = S.1 r) ∧ (∀ r, r ≠ hs + 1 → r ≠ hs + 2 → (gexp_f c so co fo hs sk S).2.1 r = S.2.1 r) := by
  have hcB := cB_b c
  obtain ⟨a1, a2, a3⟩ := rpart_s (so + 5) 0 sk 0 (cB c) (S.1, S.2.1, fs S.2.2 (so + 5) 1 (nI 0)) (by omega)
  have a4 : ∀ r, r ≠ so + 5 + 1 → (rpart_f (so + 5) 0 sk 0 (cB c) (S.1, S.2.1, fs S.2.2 (so + 5) 1 (nI 0))).1 r = S.1 r := a2
  have a5 : (rpart_f (so + 5) 0 sk 0 (cB c) (S.1, S.2.1, fs S.2.2 (so + 5) 1 (nI 0))).2.1 = S.2.1 := a3
  have a6 : ∀ i, i < cB c → (rpart_f (so + 5) 0 sk 0 (cB c) (S.1, S.2.1, fs S.2.2 (so + 5) 1 (nI 0))).1 (so + 5 + 1) i = f i := by
    intro i hi
    rw [a1 i, if_pos (by omega), Nat.zero_add, Nat.sub_zero]
    exact hf i hi
  generalize hT : gexp_f c so co fo hs sk S = T
  unfold gexp_f at hT
  dsimp only at hT
  rw [Nat.zero_add] at hT
  generalize rpart_f (so + 5) 0 sk 0 (cB c) (S.1, S.2.1, fs S.2.2 (so + 5) 1 (nI 0)) = R at a4 a5 a6 hT
  obtain ⟨d1, d2, d3, d4⟩ := dig_A c hs (so + 7) (so + 5) (cB c) (2 * cB c) (R.1, R.2.1, fs S.2.2 (so + 5) 1 (nI (cB c))) (f := f) (by omega) (by omega) (n2 c) a6
  generalize dig_f c hs (so + 7) (so + 5) (cB c) (2 * cB c) (R.1, R.2.1, fs S.2.2 (so + 5) 1 (nI (cB c))) = D at d1 d2 d3 d4 hT
  obtain ⟨k1, k2, k3, k4⟩ := clamp_s c so D.1 D.2.1 (fs S.2.2 (so + 5) 1 (nI (cB c))) T hT.symm
  refine ⟨fun i hi => (k1 i hi).trans (xsA_cg (fun j hj => d1 j (by omega)) i hi), fun i h1 h2 => (k2 i h1).trans (d1 i h2), fun r q1 q2 => (k3 r q2).trans ((d3 r q2).trans (a4 r q1)), fun r q1 q2 => ?_⟩
  rw [k4, d4 r q1 q2]
  show R.2.1 r = _
  rw [a5]
end
