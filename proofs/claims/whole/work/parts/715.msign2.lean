section
/-! THE SIGNER OF THE MODEL: the domain's text, the expanded secret, derive. -/
theorem mpre_s (mo N cx : Nat) (f : Nat → Nat) (x y : Int32) (I : Nat → Nat → Int32) (J : Nat → Nat → Int64) (F : Nat → Nat → Int32) {g : Nat → Int32} (hI : ∀ i, i < N → I (mo + 11) i = nI (f i)) (hg : ∀ j, j < cx → I (mo + 6) j = g j) :
    (∀ i, i < N + 2 + cx → (minB_f mo (mo + 6) 0 cx (N + 2) (va_up (va_up I (mo + 11) (upd (I (mo + 11)) N x)) (mo + 11) (upd ((va_up I (mo + 11) (upd (I (mo + 11)) N x)) (mo + 11)) (N + 1) y), J, F)).1 (mo + 11) i = dmT N f x y g i) ∧ (∀ r, r ≠ mo + 11 → (minB_f mo (mo + 6) 0 cx (N + 2) (va_up (va_up I (mo + 11) (upd (I (mo + 11)) N x)) (mo + 11) (upd ((va_up I (mo + 11) (upd (I (mo + 11)) N x)) (mo + 11)) (N + 1) y), J, F)).1 r = I r) ∧ (minB_f mo (mo + 6) 0 cx (N + 2) (va_up (va_up I (mo + 11) (upd (I (mo + 11)) N x)) (mo + 11) (upd ((va_up I (mo + 11) (upd (I (mo + 11)) N x)) (mo + 11)) (N + 1) y), J, F)).2.1 = J := by
  have e : ∀ i, (va_up (va_up I (mo + 11) (upd (I (mo + 11)) N x)) (mo + 11) (upd ((va_up I (mo + 11) (upd (I (mo + 11)) N x)) (mo + 11)) (N + 1) y)) (mo + 11) i = if i = N + 1 then y else if i = N then x else I (mo + 11) i := by
    intro i
    rw [vu_s, vu_s]
    rfl
  have e6 : ∀ r, r ≠ mo + 11 → (va_up (va_up I (mo + 11) (upd (I (mo + 11)) N x)) (mo + 11) (upd ((va_up I (mo + 11) (upd (I (mo + 11)) N x)) (mo + 11)) (N + 1) y)) r = I r := fun r hr => (vu_n hr).trans (vu_n hr)
  generalize va_up (va_up I (mo + 11) (upd (I (mo + 11)) N x)) (mo + 11) (upd ((va_up I (mo + 11) (upd (I (mo + 11)) N x)) (mo + 11)) (N + 1) y) = K at e e6 ⊢
  obtain ⟨a1, a2, a3⟩ := minB_t mo (mo + 6) 0 (N + 2) cx (K, J, F) (t := K (mo + 11)) (g := g) (by omega) (fun _ _ => rfl) (fun j hj => by rw [Nat.zero_add]; show K (mo + 6) j = _; rw [e6 _ (by omega)]; exact hg j hj)
  refine ⟨fun i hi => (a1 i hi).trans ?_, fun r hr => (a2 r hr).trans (e6 r hr), a3⟩
  unfold app dmT
  by_cases h1 : i < N
  · rw [if_pos (by omega), e, if_neg (by omega), if_neg (by omega), if_pos h1]
    exact hI i h1
  · rw [if_neg h1]
    by_cases h2 : i = N
    · rw [if_pos (by omega), e, if_neg (by omega), if_pos h2, if_pos h2]
    · rw [if_neg h2]
      by_cases h3 : i = N + 1
      · rw [if_pos (by omega), e, if_pos h3, if_pos h3]
      · rw [if_neg (by omega), if_neg h3]
/-- the text of Ed25519's domain -/
theorem mtx2 (mo : Nat) (S : StT) (F1 F2 F3 F4 : Nat → Nat → Int32) (R1 R2 R3 R4 : StT) (h1 : minT_f mo 0 6010448725434053941 (S.1, S.2.1, F1) = R1) (h2 : minT_f mo (0 + 8) 3546901840213853540 (R1.1, R1.2.1, F2) = R2) (h3 : minT_f mo (0 + 8 + 8) 3617856361190155119 (R2.1, R2.2.1, F3) = R3) (h4 : minT_f mo (0 + 8 + 8 + 8) 7812735397992033907 (R3.1, R3.2.1, F4) = R4) : (∀ i, i < 32 → R4.1 (mo + 11) i = nI (lb2 i)) ∧ (∀ r, r ≠ mo + 11 → R4.1 r = S.1 r) ∧ R4.2.1 = S.2.1 := by
  obtain ⟨a1, a2, a3⟩ := minT_s mo 0 6010448725434053941 (S.1, S.2.1, F1)
  rw [h1] at a1 a2 a3
  obtain ⟨b1, b2, b3⟩ := minT_s mo (0 + 8) 3546901840213853540 (R1.1, R1.2.1, F2)
  rw [h2] at b1 b2 b3
  obtain ⟨c1, c2, c3⟩ := minT_s mo (0 + 8 + 8) 3617856361190155119 (R2.1, R2.2.1, F3)
  rw [h3] at c1 c2 c3
  obtain ⟨d1, d2, d3⟩ := minT_s mo (0 + 8 + 8 + 8) 7812735397992033907 (R3.1, R3.2.1, F4)
  rw [h4] at d1 d2 d3
  refine ⟨fun i hi => ?_, fun r hr => (d2 r hr).trans ((c2 r hr).trans ((b2 r hr).trans (a2 r hr))), d3.trans (c3.trans (b3.trans a3))⟩
  rw [d1 i]
  by_cases q4 : 0 + 8 + 8 + 8 ≤ i
  · rw [if_pos (by omega)]
    have := tx_23 ⟨i - (0 + 8 + 8 + 8), by omega⟩
    rw [this]
    show nI (lb2 (24 + (i - 24))) = _
    rw [show 24 + (i - 24) = i from by omega]
  · rw [if_neg (by omega)]
    show R3.1 (mo + 11) i = _
    rw [c1 i]
    by_cases q3 : 0 + 8 + 8 ≤ i
    · rw [if_pos (by omega)]
      have := tx_22 ⟨i - (0 + 8 + 8), by omega⟩
      rw [this]
      show nI (lb2 (16 + (i - 16))) = _
      rw [show 16 + (i - 16) = i from by omega]
    · rw [if_neg (by omega)]
      show R2.1 (mo + 11) i = _
      rw [b1 i]
      by_cases q2 : 0 + 8 ≤ i
      · rw [if_pos (by omega)]
        have := tx_21 ⟨i - (0 + 8), by omega⟩
        rw [this]
        show nI (lb2 (8 + (i - 8))) = _
        rw [show 8 + (i - 8) = i from by omega]
      · rw [if_neg (by omega)]
        show R1.1 (mo + 11) i = _
        rw [a1 i, if_pos (by omega), Nat.sub_zero]
        exact tx_20 ⟨i, by omega⟩
theorem mdom_s (c : Bool) (mo : Nat) (ph : Bool) (cx : Nat) (S : StT) {g : Nat → Int32} (hcx : cx ≤ 64) (hg : ∀ j, j < cx → S.1 (mo + 6) j = g j) : (∀ i, i < dmN c ph cx → (mdom_f c mo ph cx S).1 (mo + 11) i = dmA c ph cx g i) ∧ (∀ r, r ≠ mo + 11 → (mdom_f c mo ph cx S).1 r = S.1 r) ∧ (mdom_f c mo ph cx S).2.1 = S.2.1 := by
  have two : ∀ (x : Int32) (F1 F2 F3 F4 F5 G : Nat → Nat → Int32) (R1 R2 R3 R4 T : StT), minT_f mo 0 6010448725434053941 (S.1, S.2.1, F1) = R1 → minT_f mo (0 + 8) 3546901840213853540 (R1.1, R1.2.1, F2) = R2 → minT_f mo (0 + 8 + 8) 3617856361190155119 (R2.1, R2.2.1, F3) = R3 → minT_f mo (0 + 8 + 8 + 8) 7812735397992033907 (R3.1, R3.2.1, F4) = R4 → T = ((minB_f mo (mo + 6) 0 cx (0 + 8 + 8 + 8 + 8 + 2) (va_up (va_up R4.1 (mo + 11) (upd (R4.1 (mo + 11)) (0 + 8 + 8 + 8 + 8) x)) (mo + 11) (upd ((va_up R4.1 (mo + 11) (upd (R4.1 (mo + 11)) (0 + 8 + 8 + 8 + 8) x)) (mo + 11)) (0 + 8 + 8 + 8 + 8 + 1) (nI cx)), R4.2.1, F5)).1, (minB_f mo (mo + 6) 0 cx (0 + 8 + 8 + 8 + 8 + 2) (va_up (va_up R4.1 (mo + 11) (upd (R4.1 (mo + 11)) (0 + 8 + 8 + 8 + 8) x)) (mo + 11) (upd ((va_up R4.1 (mo + 11) (upd (R4.1 (mo + 11)) (0 + 8 + 8 + 8 + 8) x)) (mo + 11)) (0 + 8 + 8 + 8 + 8 + 1) (nI cx)), R4.2.1, F5)).2.1, G) → (∀ i, i < 34 + cx → T.1 (mo + 11) i = dmT 32 lb2 x (nI cx) g i) ∧ (∀ r, r ≠ mo + 11 → T.1 r = S.1 r) ∧ T.2.1 = S.2.1 := by
    intro x F1 F2 F3 F4 F5 G R1 R2 R3 R4 T h1 h2 h3 h4 hT
    obtain ⟨t1, t2, t3⟩ := mtx2 mo S F1 F2 F3 F4 R1 R2 R3 R4 h1 h2 h3 h4
    obtain ⟨p1, p2, p3⟩ := mpre_s mo 32 cx lb2 x (nI cx) R4.1 R4.2.1 F5 (g := g) t1 (fun j hj => by rw [t2 _ (by omega)]; exact hg j hj)
    rw [hT]
    exact ⟨fun i hi => p1 i (by omega), fun r hr => (p2 r hr).trans (t2 r hr), p3.trans t3⟩
  generalize hT : mdom_f c mo ph cx S = T
  unfold mdom_f at hT
  dsimp only at hT
  cases c with
  | true =>
    rw [if_pos (show nI (bN true) ≠ 0 by decide)] at hT
    obtain ⟨a1, a2, a3⟩ := minT_s mo 0 6010448725434184760 (S.1, S.2.1, fs S.2.2 mo 17 (nI 0))
    have a2' : ∀ r, r ≠ mo + 11 → (minT_f mo 0 6010448725434184760 (S.1, S.2.1, fs S.2.2 mo 17 (nI 0))).1 r = S.1 r := a2
    have a3' : (minT_f mo 0 6010448725434184760 (S.1, S.2.1, fs S.2.2 mo 17 (nI 0))).2.1 = S.2.1 := a3
    generalize minT_f mo 0 6010448725434184760 (S.1, S.2.1, fs S.2.2 mo 17 (nI 0)) = R at a1 a2' a3' hT
    have r1 : ∀ i, i < 0 + 8 → R.1 (mo + 11) i = nI (lb4 i) := fun i hi => by
      rw [a1 i, if_pos (by omega), Nat.sub_zero]
      exact tx_4 ⟨i, by omega⟩
    obtain ⟨p1, p2, p3⟩ := mpre_s mo (0 + 8) cx lb4 (nI (if bI ph = 0 then 0 else 1)) (nI cx) R.1 R.2.1 (fs S.2.2 mo 17 (nI (0 + 8 + 2))) (g := g) r1 (fun j hj => by rw [a2' _ (by omega)]; exact hg j hj)
    rw [← hT]
    refine ⟨fun i hi => ?_, fun r hr => (p2 r hr).trans (a2' r hr), p3.trans a3'⟩
    have hd : dmN true ph cx = 10 + cx := rfl
    have q := p1 i (by omega)
    unfold dmA
    rw [if_pos rfl]
    cases ph with
    | false => exact q
    | true => exact q
  | false =>
    rw [if_neg (show ¬ (nI (bN false) ≠ 0) by decide)] at hT
    cases ph with
    | true =>
      rw [if_pos (show bI true ≠ 0 by decide)] at hT
      obtain ⟨w1, w2, w3⟩ := two (nI (if bI true = 0 then 0 else 1)) _ _ _ _ _ _ _ _ _ _ T rfl rfl rfl rfl hT.symm
      refine ⟨fun i hi => ?_, w2, w3⟩
      exact w1 i hi
    | false =>
      rw [if_neg (show ¬ (bI false ≠ 0) by decide)] at hT
      by_cases h0 : cx = 0
      · rw [if_neg (by rw [h0]; decide)] at hT
        rw [← hT]
        refine ⟨fun i hi => ?_, fun _ _ => rfl, rfl⟩
        have : dmN false false cx = 0 := by
          unfold dmN
          rw [if_neg (by decide), if_neg (by decide), if_pos h0]
        omega
      · rw [if_pos (fun q => h0 ((nI_z16 (by omega)).mp (by rw [q]; decide)))] at hT
        obtain ⟨w1, w2, w3⟩ := two (nI (if bI false = 0 then 0 else 1)) _ _ _ _ _ _ _ _ _ _ T rfl rfl rfl rfl hT.symm
        refine ⟨fun i hi => ?_, w2, w3⟩
        have : dmN false false cx = 34 + cx := by
          unfold dmN
          rw [if_neg (by decide), if_neg (by decide), if_neg h0]
        exact w1 i (by omega)
theorem mexp_l26_s (c : Bool) (mo : Nat) (S : StT) : ∀ n, n ≤ 57 → (∀ i, i < n → mexp_l26 c mo S n (mo + 20) i = if i < cB c then S.1 (mo + 12) i else nI 0) ∧ (∀ i, i < n → mexp_l26 c mo S n (mo + 21) i = if i < cB c then S.1 (mo + 12) (cB c + i) else nI 0) ∧ ∀ r, r ≠ mo + 20 → r ≠ mo + 21 → mexp_l26 c mo S n r = S.1 r := by
  have hcB := cB_b c
  intro n
  induction n with
  | zero => exact fun _ => ⟨fun i hi => absurd hi (Nat.not_lt_zero _), fun i hi => absurd hi (Nat.not_lt_zero _), fun _ _ _ => rfl⟩
  | succ n ih =>
    intro hn
    obtain ⟨h1, h2, h3⟩ := ih (by omega)
    unfold mexp_l26
    dsimp only
    rw [show va_up (mexp_l26 c mo S n) (mo + 20) (upd (mexp_l26 c mo S n (mo + 20)) n (if nI (cB c) ≤ nI n then nI 0 else mexp_l26 c mo S n (mo + 12) n)) (mo + 12) = mexp_l26 c mo S n (mo + 12) from vu_n (by omega), h3 (mo + 12) (by omega) (by omega)]
    have v1 : (if nI (cB c) ≤ nI n then nI 0 else S.1 (mo + 12) n) = if n < cB c then S.1 (mo + 12) n else nI 0 := by
      by_cases q : cB c ≤ n
      · rw [if_pos ((nle (by omega) (by omega)).mpr q), if_neg (by omega)]
      · rw [if_neg (fun z => q ((nle (by omega) (by omega)).mp z)), if_pos (by omega)]
    have v2 : (if nI (cB c) ≤ nI n then nI 0 else S.1 (mo + 12) (cB c + n)) = if n < cB c then S.1 (mo + 12) (cB c + n) else nI 0 := by
      by_cases q : cB c ≤ n
      · rw [if_pos ((nle (by omega) (by omega)).mpr q), if_neg (by omega)]
      · rw [if_neg (fun z => q ((nle (by omega) (by omega)).mp z)), if_pos (by omega)]
    rw [v1, v2]
    refine ⟨fun i hi => ?_, fun i hi => ?_, fun r q1 q2 => (vu_n q2).trans ((vu_n q1).trans (h3 r q1 q2))⟩
    · rw [show ∀ u w, va_up (va_up (mexp_l26 c mo S n) (mo + 20) u) (mo + 21) w (mo + 20) = u from fun u w => (vu_n (by omega)).trans vu_s]
      show (if i = n then (if n < cB c then S.1 (mo + 12) n else nI 0) else mexp_l26 c mo S n (mo + 20) i) = _
      by_cases e : i = n
      · rw [if_pos e, e]
      · rw [if_neg e]; exact h1 i (by omega)
    · rw [vu_s, show ∀ u, va_up (mexp_l26 c mo S n) (mo + 20) u (mo + 21) = mexp_l26 c mo S n (mo + 21) from fun u => vu_n (by omega)]
      show (if i = n then (if n < cB c then S.1 (mo + 12) (cB c + n) else nI 0) else mexp_l26 c mo S n (mo + 21) i) = _
      by_cases e : i = n
      · rw [if_pos e, e]
      · rw [if_neg e]; exact h2 i (by omega)
theorem mexp_l198_s (mo : Nat) (S : StT) : ∀ n, (∀ i, i < n → mexp_l198 mo S n (mo + 22) i = S.1 (mo + 27) i) ∧ ∀ r, r ≠ mo + 22 → mexp_l198 mo S n r = S.1 r := by
  intro n
  induction n with
  | zero => exact ⟨fun i hi => absurd hi (Nat.not_lt_zero _), fun _ _ => rfl⟩
  | succ n ih =>
    obtain ⟨h1, h2⟩ := ih
    unfold mexp_l198
    dsimp only
    rw [h2 (mo + 27) (by omega)]
    refine ⟨fun i hi => ?_, fun r hr => (vu_n hr).trans (h2 r hr)⟩
    rw [vu_s]
    show (if i = n then S.1 (mo + 27) n else mexp_l198 mo S n (mo + 22) i) = _
    by_cases e : i = n
    · rw [if_pos e, e]
    · rw [if_neg e]; exact h1 i (by omega)
/-- the secret's bytes, 57 of them -/
def xs57 (c : Bool) (E : Nat → Int32) (i : Nat) : Int32 := if i < cB c then xsA c E i else nI 0
theorem mclamp_s (c : Bool) (mo : Nat) (I : Nat → Nat → Int32) (J : Nat → Nat → Int64) (F : Nat → Nat → Int32) {E : Nat → Int32} (h20 : ∀ i, i < 57 → I (mo + 20) i = if i < cB c then E i else nI 0) (T : StT) (hT : T = (if (nI (bN c)) ≠ 0 then (va_up (va_up (va_up I (mo + 20) (upd (I (mo + 20)) (0) ((I (mo + 20) (0)) &&& (nI (252))))) (mo + 20) (upd ((va_up I (mo + 20) (upd (I (mo + 20)) (0) ((I (mo + 20) (0)) &&& (nI (252))))) (mo + 20)) (56) (nI (0)))) (mo + 20) (upd ((va_up (va_up I (mo + 20) (upd (I (mo + 20)) (0) ((I (mo + 20) (0)) &&& (nI (252))))) (mo + 20) (upd ((va_up I (mo + 20) (upd (I (mo + 20)) (0) ((I (mo + 20) (0)) &&& (nI (252))))) (mo + 20)) (56) (nI (0)))) (mo + 20)) (55) (((va_up (va_up I (mo + 20) (upd (I (mo + 20)) (0) ((I (mo + 20) (0)) &&& (nI (252))))) (mo + 20) (upd ((va_up I (mo + 20) (upd (I (mo + 20)) (0) ((I (mo + 20) (0)) &&& (nI (252))))) (mo + 20)) (56) (nI (0)))) (mo + 20) (55)) ||| (nI (128)))), J, F) else (va_up (va_up I (mo + 20) (upd (I (mo + 20)) (0) ((I (mo + 20) (0)) &&& (nI (248))))) (mo + 20) (upd ((va_up I (mo + 20) (upd (I (mo + 20)) (0) ((I (mo + 20) (0)) &&& (nI (248))))) (mo + 20)) (31) ((((va_up I (mo + 20) (upd (I (mo + 20)) (0) ((I (mo + 20) (0)) &&& (nI (248))))) (mo + 20) (31)) &&& (nI (127))) ||| (nI (64)))), J, F))) : (∀ i, i < 57 → T.1 (mo + 20) i = xs57 c E i) ∧ (∀ r, r ≠ mo + 20 → T.1 r = I r) ∧ T.2.1 = J := by
  have z0 := h20 0 (by decide)
  cases c with
  | false =>
    rw [if_neg (by decide)] at hT
    rw [hT]
    have e : ∀ i, (va_up (va_up I (mo + 20) (upd (I (mo + 20)) (0) ((I (mo + 20) (0)) &&& (nI (248))))) (mo + 20) (upd ((va_up I (mo + 20) (upd (I (mo + 20)) (0) ((I (mo + 20) (0)) &&& (nI (248))))) (mo + 20)) (31) ((((va_up I (mo + 20) (upd (I (mo + 20)) (0) ((I (mo + 20) (0)) &&& (nI (248))))) (mo + 20) (31)) &&& (nI (127))) ||| (nI (64))))) (mo + 20) i = if i = 31 then ((I (mo + 20) 31 &&& nI 127) ||| nI 64) else if i = 0 then I (mo + 20) 0 &&& nI 248 else I (mo + 20) i := by
      intro i
      rw [vu_s, vu_s]
      rfl
    refine ⟨fun i hi => (e i).trans ?_, fun r hr => (vu_n hr).trans (vu_n hr), rfl⟩
    have ex : xsA false E i = if i = 0 then E 0 &&& nI 248 else if i = 31 then (E i &&& nI 127) ||| nI 64 else E i := by
      unfold xsA
      rw [if_neg (show ¬ (false = true ∧ i = 56) from fun q => absurd q.1 (by decide))]
      rfl
    unfold xs57
    rw [ex, z0, h20 31 (by decide), h20 i hi]
    by_cases h5 : i = 31
    · rw [h5]; rfl
    · by_cases h0 : i = 0
      · rw [h0]; rfl
      · rw [if_neg h5, if_neg h0, if_neg h0, if_neg h5]
  | true =>
    rw [if_pos (by decide)] at hT
    rw [hT]
    have e : ∀ i, (va_up (va_up (va_up I (mo + 20) (upd (I (mo + 20)) (0) ((I (mo + 20) (0)) &&& (nI (252))))) (mo + 20) (upd ((va_up I (mo + 20) (upd (I (mo + 20)) (0) ((I (mo + 20) (0)) &&& (nI (252))))) (mo + 20)) (56) (nI (0)))) (mo + 20) (upd ((va_up (va_up I (mo + 20) (upd (I (mo + 20)) (0) ((I (mo + 20) (0)) &&& (nI (252))))) (mo + 20) (upd ((va_up I (mo + 20) (upd (I (mo + 20)) (0) ((I (mo + 20) (0)) &&& (nI (252))))) (mo + 20)) (56) (nI (0)))) (mo + 20)) (55) (((va_up (va_up I (mo + 20) (upd (I (mo + 20)) (0) ((I (mo + 20) (0)) &&& (nI (252))))) (mo + 20) (upd ((va_up I (mo + 20) (upd (I (mo + 20)) (0) ((I (mo + 20) (0)) &&& (nI (252))))) (mo + 20)) (56) (nI (0)))) (mo + 20) (55)) ||| (nI (128))))) (mo + 20) i = if i = 55 then (I (mo + 20) 55 ||| nI 128) else if i = 56 then nI 0 else if i = 0 then I (mo + 20) 0 &&& nI 252 else I (mo + 20) i := by
      intro i
      rw [vu_s, vu_s, vu_s]
      rfl
    refine ⟨fun i hi => (e i).trans ?_, fun r hr => (vu_n hr).trans ((vu_n hr).trans (vu_n hr)), rfl⟩
    have ex : i ≠ 56 → xsA true E i = if i = 0 then E 0 &&& nI 252 else if i = 55 then E i ||| nI 128 else E i := by
      intro h6
      unfold xsA
      rw [if_neg (show ¬ (true = true ∧ i = 56) from fun q => h6 q.2)]
      rfl
    unfold xs57
    by_cases h6 : i = 56
    · rw [h6]; rfl
    · rw [ex h6, z0, h20 55 (by decide), h20 i hi]
      have hc : i < cB true := hi
      by_cases h5 : i = 55
      · rw [h5]; rfl
      · by_cases h0 : i = 0
        · rw [h0]; rfl
        · rw [if_neg h5, if_neg h6, if_neg h0, if_neg h0, if_neg h5]
end
