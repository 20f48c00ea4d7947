section
/-! CODES of points: findX, writeCode, encode, decode; small orders. -/
theorem rne9 {co fo r : Nat} (hfc : fo + 9 < co) (hr : ¬ cT co fo r ∨ r = co + 9) (j : Nat) (hj : 8 ≤ j ∧ j ≤ 15 ∧ j ≠ 9) : r ≠ co + j := by
  rcases hr with h | h
  · exact cT_c h j (by omega)
  · omega
theorem rnf9 {co fo r : Nat} (hfc : fo + 9 < co) (hr : ¬ cT co fo r ∨ r = co + 9) (j : Nat) (hj : 3 ≤ j ∧ j ≤ 9) : r ≠ fo + j := by
  rcases hr with h | h
  · exact cT_f h j hj
  · omega
theorem zp_pp {c : Bool} (w : Zp c) (n : Nat) : (w * w) ^ n = w ^ (2 * n) := by
  have e : w * w = w ^ 2 := by
    have := zp_add w 1 1
    rw [zp_one] at this
    exact this
  rw [e, fp_pow_mul]
def zr (c : Bool) (u : Zp c) : Zp c := u ^ rE c
theorem root_z (c : Bool) (o to a : Nat) (S : StT) {u : Zp c} (q3 : a ≠ o + 3) (q6 : a ≠ o + 6) (q7 : a ≠ o + 7) (ha : VL c S.2.1 a u) : VL c (froot_f c o to a S).2.1 to (zr c u) ∧ ∀ r, r ≠ to → r ≠ o + 3 → r ≠ o + 6 → r ≠ o + 7 → (froot_f c o to a S).2.1 r = S.2.1 r := root_v c o to a S q3 q6 q7 ha
theorem fx_root (c : Bool) {x y u v : Zp c} (hu : u = y * y - 1) (hv : v = fp_d c * (y * y) - fp_a c) (h : pO c (x, y)) {B : Zp c} (hB : B = zr c (u * v) * u) : B * B * v = u ∨ (c = false ∧ -(B * B * v) = u) := by
  unfold zr at hB
  have h1 : x * x * v = u := by rw [hv, hu]; exact (ed_xy (fp_a c) (fp_d c) x y).mp h
  have hv0 : v ≠ 0 := by rw [hv]; exact ed_v0 (fp_K c) y
  clear hv hu h
  by_cases hu0 : u = 0
  · left
    rw [hB, hu0]
    grind
  · have e1 : u * v = (x * v) * (x * v) := by rw [← h1]; grind
    have hw : x * v ≠ 0 := by
      intro e
      rw [e] at e1
      rcases fp_nzd u v (by rw [e1]; grind) with e2 | e2
      · exact hu0 e2
      · exact hv0 e2
    generalize x * v = w at e1 hw
    rw [e1, zp_pp] at hB
    have e3 : B * B * v = w ^ (2 * (2 * rE c) + 2) * u := by
      have e4 : w ^ (2 * (2 * rE c) + 2) = w ^ (2 * rE c) * w ^ (2 * rE c) * (w * w) := by
        rw [zp_sq, ← zp_add w (2 * (2 * rE c)) 2]
        have := zp_add w 1 1
        rw [zp_one] at this
        rw [this]
      rw [e4, hB, ← e1]
      generalize w ^ (2 * rE c) = g
      clear e4 hB e1 hw h1
      grind
    cases c with
    | true =>
      left
      have : w ^ (2 * (2 * rE true) + 2) = 1 := fp_fermat hw
      rw [e3, this]
      clear e3 this e1 hB h1
      grind
    | false =>
      have e5 : w ^ (2 * (2 * rE false) + 2) * w ^ (2 * (2 * rE false) + 2) = 1 := by
        rw [zp_add]
        exact fp_fermat hw
      rw [e3]
      generalize w ^ (2 * (2 * rE false) + 2) = k at e5
      have e6 : (k - 1) * (k + 1) = 0 := by clear e3 e1 hB h1; grind
      rcases fp_nzd _ _ e6 with e7 | e7
      · left
        have : k = 1 := (sub0 k 1).mp e7
        rw [this]
        clear e3 e1 hB h1 e7 e6 e5
        grind
      · right
        refine ⟨rfl, ?_⟩
        clear e3 e1 hB h1 e6 e5
        grind
theorem areEq_v (c : Bool) (o a b : Nat) (S : StT) {u v : Zp c} (hP : PrimeAt c o S.2.1) (ha : VL c S.2.1 a u) (hb : VL c S.2.1 b v) :
    (fareEq_f c o a b S).1 = (if u = v then nI 1 else nI 0) ∧ ∀ r, r ≠ o + 4 → r ≠ o + 5 → r ≠ o + 9 → (fareEq_f c o a b S).2.2.1 r = S.2.1 r := by
  have := areEq_s c o a b S hP ha.1 hb.1
  rw [ha.2, hb.2] at this
  exact this
theorem isZero_v (c : Bool) (o a : Nat) (S : StT) {u : Zp c} (hao : a ≠ o + 4) (hP : PrimeAt c o S.2.1) (ha : VL c S.2.1 a u) :
    (fisZero_f c o a S).1 = (if u = 0 then nI 1 else nI 0) ∧ ∀ r, r ≠ o + 4 → r ≠ o + 5 → (fisZero_f c o a S).2.2.1 r = S.2.1 r := by
  have := isZero_s c o a S hao hP ha.1
  rw [ha.2] at this
  exact this
theorem isOdd_v (c : Bool) (o a : Nat) (S : StT) {u : Zp c} (hao : a ≠ o + 4) (hP : PrimeAt c o S.2.1) (ha : VL c S.2.1 a u) :
    (fisOdd_f c o a S).1 = nI (u.val % 2) ∧ ∀ r, r ≠ o + 4 → r ≠ o + 5 → (fisOdd_f c o a S).2.2.1 r = S.2.1 r := by
  have := isOdd_s c o a S hao hP ha.1
  rw [ha.2] at this
  refine ⟨this.1.trans ?_, this.2⟩
  have h2 := Nat.mod_two_eq_zero_or_one u.val
  rcases h2 with h | h
  · rw [h]; rfl
  · rw [h]; rfl
def cfx_t (c : Bool) (co : Nat) (fo : Nat) (S : StT) (J : Nat → Nat → Int64) : Int32 × StT := (let r13 := fareEq_f c (fo) (co + 12) (co + 10) (S.1, J, S.2.2); (if (r13.1) = 0 then (let S15 := fneg_f c (co + 12) (co + 12) (S.1, r13.2.2.1, S.2.2); (if (bI c) ≠ 0 then (nI (0), (S.1, S15.2.1, S.2.2)) else (let r17 := fareEq_f c (fo) (co + 12) (co + 10) (S.1, S15.2.1, S.2.2); (if (r17.1) ≠ 0 then (let S19 := mul_f c (fo) (co + 8) (co + 8) (co + 17) (S.1, r17.2.2.1, S.2.2); (nI (1), (S.1, S19.2.1, S.2.2))) else (nI (0), (S.1, r17.2.2.1, S.2.2)))))) else (nI (1), (S.1, r13.2.2.1, S.2.2))))
theorem cfx_t_true (co fo : Nat) (S : StT) (J : Nat → Nat → Int64) {y B u v : Zp true} (hfc : fo + 9 < co) (hP : PrimeAt true fo S.2.1) (fr0 : ∀ r, (¬ cT co fo r ∨ r = co + 9) → J r = S.2.1 r) (hB : VL true J (co + 8) B) (hu : VL true J (co + 10) u) (hE : VL true J (co + 12) (B * B * v)) (ru : ∀ x, pO true (x, y) → B * B * v = u ∨ (true = false ∧ -(B * B * v) = u)) (rs : ∀ x, x * x * v = u → pO true (x, y)) :
    (((cfx_t true co fo S J).1 = nI 1 ∧ ∃ x, pO true (x, y) ∧ VL true (cfx_t true co fo S J).2.2.1 (co + 8) x) ∨ ((cfx_t true co fo S J).1 = nI 0 ∧ ∀ x, ¬ pO true (x, y))) ∧ ∀ r, (¬ cT co fo r ∨ r = co + 9) → (cfx_t true co fo S J).2.2.1 r = S.2.1 r := by
  have hp2 : PrimeAt true fo J := PrimeAt_row (fr0 (fo + 2) (Or.inl (by unfold cT; omega))) hP
  unfold cfx_t
  dsimp only
  obtain ⟨i1', i2⟩ := areEq_v true fo (co + 12) (co + 10) (S.1, J, S.2.2) hp2 hE hu
  have i3 : ∀ r, r ≠ fo + 4 → r ≠ fo + 5 → r ≠ fo + 9 → (fareEq_f true fo (co + 12) (co + 10) (S.1, J, S.2.2)).2.2.1 r = J r := i2
  clear i2
  generalize fareEq_f true fo (co + 12) (co + 10) (S.1, J, S.2.2) = R at i1' i3 ⊢
  have fr1 : ∀ r, (¬ cT co fo r ∨ r = co + 9) → R.2.2.1 r = S.2.1 r := fun r hr => (i3 r (rnf9 hfc hr 4 (by decide)) (rnf9 hfc hr 5 (by decide)) (rnf9 hfc hr 9 (by decide))).trans (fr0 r hr)
  by_cases hx : B * B * v = u
  · rw [if_pos hx] at i1'
    rw [if_neg (by rw [i1']; decide)]
    exact ⟨Or.inl ⟨rfl, B, rs B hx, VL_row (i3 _ (cf_ne hfc 8 4 (by decide)) (cf_ne hfc 8 5 (by decide)) (cf_ne hfc 8 9 (by decide))) hB⟩, fr1⟩
  · rw [if_neg hx] at i1'
    rw [if_pos (i1'.trans (by decide))]
    rw [if_pos (show bI true ≠ 0 by decide)]
    have j12 := VL_row (i3 _ (cf_ne hfc 12 4 (by decide)) (cf_ne hfc 12 5 (by decide)) (cf_ne hfc 12 9 (by decide))) hE
    obtain ⟨n1, n2⟩ := neg_v true (co + 12) (co + 12) (S.1, R.2.2.1, S.2.2) j12
    refine ⟨Or.inr ⟨rfl, fun x hh => ?_⟩, fun r hr => (n2 r (rne9 hfc hr 12 (by decide))).trans (fr1 r hr)⟩
    rcases ru x hh with e | e
    · exact hx e
    · exact absurd e.1 (by decide)
theorem cfx_t_false (co fo : Nat) (S : StT) (J : Nat → Nat → Int64) {y B u v : Zp false} (hfc : fo + 9 < co) (hP : PrimeAt false fo S.2.1) (fr0 : ∀ r, (¬ cT co fo r ∨ r = co + 9) → J r = S.2.1 r) (h17 : VL false J (co + 17) (fp_i false)) (hB : VL false J (co + 8) B) (hu : VL false J (co + 10) u) (hE : VL false J (co + 12) (B * B * v)) (ru : ∀ x, pO false (x, y) → B * B * v = u ∨ (false = false ∧ -(B * B * v) = u)) (rs : ∀ x, x * x * v = u → pO false (x, y)) :
    (((cfx_t false co fo S J).1 = nI 1 ∧ ∃ x, pO false (x, y) ∧ VL false (cfx_t false co fo S J).2.2.1 (co + 8) x) ∨ ((cfx_t false co fo S J).1 = nI 0 ∧ ∀ x, ¬ pO false (x, y))) ∧ ∀ r, (¬ cT co fo r ∨ r = co + 9) → (cfx_t false co fo S J).2.2.1 r = S.2.1 r := by
  have hp2 : PrimeAt false fo J := PrimeAt_row (fr0 (fo + 2) (Or.inl (by unfold cT; omega))) hP
  unfold cfx_t
  dsimp only
  obtain ⟨i1', i2⟩ := areEq_v false fo (co + 12) (co + 10) (S.1, J, S.2.2) hp2 hE hu
  have i3 : ∀ r, r ≠ fo + 4 → r ≠ fo + 5 → r ≠ fo + 9 → (fareEq_f false fo (co + 12) (co + 10) (S.1, J, S.2.2)).2.2.1 r = J r := i2
  clear i2
  generalize fareEq_f false fo (co + 12) (co + 10) (S.1, J, S.2.2) = R at i1' i3 ⊢
  have fr1 : ∀ r, (¬ cT co fo r ∨ r = co + 9) → R.2.2.1 r = S.2.1 r := fun r hr => (i3 r (rnf9 hfc hr 4 (by decide)) (rnf9 hfc hr 5 (by decide)) (rnf9 hfc hr 9 (by decide))).trans (fr0 r hr)
  by_cases hx : B * B * v = u
  · rw [if_pos hx] at i1'
    rw [if_neg (by rw [i1']; decide)]
    exact ⟨Or.inl ⟨rfl, B, rs B hx, VL_row (i3 _ (cf_ne hfc 8 4 (by decide)) (cf_ne hfc 8 5 (by decide)) (cf_ne hfc 8 9 (by decide))) hB⟩, fr1⟩
  · rw [if_neg hx] at i1'
    rw [if_pos (i1'.trans (by decide))]
    rw [if_neg (show ¬ (bI false ≠ 0) by decide)]
    have j12 := VL_row (i3 _ (cf_ne hfc 12 4 (by decide)) (cf_ne hfc 12 5 (by decide)) (cf_ne hfc 12 9 (by decide))) hE
    have j10 := VL_row (i3 _ (cf_ne hfc 10 4 (by decide)) (cf_ne hfc 10 5 (by decide)) (cf_ne hfc 10 9 (by decide))) hu
    have j8 := VL_row (i3 _ (cf_ne hfc 8 4 (by decide)) (cf_ne hfc 8 5 (by decide)) (cf_ne hfc 8 9 (by decide))) hB
    have j17 := VL_row (i3 _ (cf_ne hfc 17 4 (by decide)) (cf_ne hfc 17 5 (by decide)) (cf_ne hfc 17 9 (by decide))) h17
    obtain ⟨n1, n2⟩ := neg_v false (co + 12) (co + 12) (S.1, R.2.2.1, S.2.2) j12
    have n3 : ∀ r, r ≠ co + 12 → (fneg_f false (co + 12) (co + 12) (S.1, R.2.2.1, S.2.2)).2.1 r = R.2.2.1 r := n2
    clear n2
    generalize fneg_f false (co + 12) (co + 12) (S.1, R.2.2.1, S.2.2) = N at n1 n3 ⊢
    have fr2 : ∀ r, (¬ cT co fo r ∨ r = co + 9) → N.2.1 r = S.2.1 r := fun r hr => (n3 r (rne9 hfc hr 12 (by decide))).trans (fr1 r hr)
    have m10 := VL_row (n3 _ (ac_ne (by decide))) j10
    have m8 := VL_row (n3 _ (ac_ne (by decide))) j8
    have m17 := VL_row (n3 _ (ac_ne (by decide))) j17
    have hp3 : PrimeAt false fo N.2.1 := PrimeAt_row (fr2 (fo + 2) (Or.inl (by unfold cT; omega))) hP
    obtain ⟨k1', k2⟩ := areEq_v false fo (co + 12) (co + 10) (S.1, N.2.1, S.2.2) hp3 n1 m10
    have k3 : ∀ r, r ≠ fo + 4 → r ≠ fo + 5 → r ≠ fo + 9 → (fareEq_f false fo (co + 12) (co + 10) (S.1, N.2.1, S.2.2)).2.2.1 r = N.2.1 r := k2
    clear k2
    generalize fareEq_f false fo (co + 12) (co + 10) (S.1, N.2.1, S.2.2) = T at k1' k3 ⊢
    have fr3 : ∀ r, (¬ cT co fo r ∨ r = co + 9) → T.2.2.1 r = S.2.1 r := fun r hr => (k3 r (rnf9 hfc hr 4 (by decide)) (rnf9 hfc hr 5 (by decide)) (rnf9 hfc hr 9 (by decide))).trans (fr2 r hr)
    by_cases hz : -(B * B * v) = u
    · rw [if_pos hz] at k1'
      rw [if_pos (by rw [k1']; decide)]
      have q8 := VL_row (k3 _ (cf_ne hfc 8 4 (by decide)) (cf_ne hfc 8 5 (by decide)) (cf_ne hfc 8 9 (by decide))) m8
      have q17 := VL_row (k3 _ (cf_ne hfc 17 4 (by decide)) (cf_ne hfc 17 5 (by decide)) (cf_ne hfc 17 9 (by decide))) m17
      obtain ⟨o1, o2⟩ := mul_v false fo (co + 8) (co + 8) (co + 17) (S.1, T.2.2.1, S.2.2) (cf_ne hfc 8 3 (by decide)) (cf_ne hfc 17 3 (by decide)) q8 q17
      refine ⟨Or.inl ⟨rfl, B * fp_i false, rs _ ?_, o1⟩, fun r hr => (o2 r (rne9 hfc hr 8 (by decide)) (rnf9 hfc hr 3 (by decide))).trans (fr3 r hr)⟩
      have hi2 : fp_i false * fp_i false = -1 := (fp_ia false).trans fa_f
      generalize fp_i false = i at hi2
      clear o1 o2 q8 q17 hE hB hu m8 m10 j8 j10 j12 n1 ru rs
      grind
    · rw [if_neg hz] at k1'
      rw [if_neg (fun h => h (k1'.trans (by decide)))]
      refine ⟨Or.inr ⟨rfl, fun x hh => ?_⟩, fr3⟩
      rcases ru x hh with e | e
      · exact hx e
      · exact hz e.2
theorem ev_false {F : Type} [Lean.Grind.CommRing F] (d y : F) : ((y * y) * d) + 1 = d * (y * y) - (-1) := by grind
theorem ev_true {F : Type} [Lean.Grind.CommRing F] (d y : F) : ((y * y) * d) - 1 = d * (y * y) - 1 := by grind
theorem cfx_en_false (co fo : Nat) (S : StT) : cfx_f false co fo S = cfx_t false co fo S (mul_f false fo (co + 12) (co + 12) (co + 11) (S.1, (sqr_f false fo (co + 12) (co + 8) (S.1, (mul_f false fo (co + 8) (co + 8) (co + 10) (S.1, (froot_f false fo (co + 8) (co + 12) (S.1, (mul_f false fo (co + 12) (co + 10) (co + 11) (S.1, (plus_f false (co + 11) (co + 11) (fo + 1) (S.1, (minus_f false (co + 10) (co + 10) (fo + 1) (S.1, (mul_f false fo (co + 11) (co + 10) (co + 19) (S.1, (sqr_f false fo (co + 10) (co + 9) S).2.1, S.2.2)).2.1, S.2.2)).2.1, S.2.2)).2.1, S.2.2)).2.1, S.2.2)).2.1, S.2.2)).2.1, S.2.2)).2.1, S.2.2)).2.1 := by
  unfold cfx_f cfx_t
  dsimp only
  rw [if_pos (show (bI false = 0) by decide)]
theorem cfx_ch_false (co fo : Nat) (S : StT) {S1 S2 S3 S4 S5 S6 S7 S8 S9 : StT} (h1 : sqr_f false fo (co + 10) (co + 9) S = S1) (h2 : mul_f false fo (co + 11) (co + 10) (co + 19) (S.1, S1.2.1, S.2.2) = S2) (h3 : minus_f false (co + 10) (co + 10) (fo + 1) (S.1, S2.2.1, S.2.2) = S3) (h4 : plus_f false (co + 11) (co + 11) (fo + 1) (S.1, S3.2.1, S.2.2) = S4) (h5 : mul_f false fo (co + 12) (co + 10) (co + 11) (S.1, S4.2.1, S.2.2) = S5) (h6 : froot_f false fo (co + 8) (co + 12) (S.1, S5.2.1, S.2.2) = S6) (h7 : mul_f false fo (co + 8) (co + 8) (co + 10) (S.1, S6.2.1, S.2.2) = S7) (h8 : sqr_f false fo (co + 12) (co + 8) (S.1, S7.2.1, S.2.2) = S8) (h9 : mul_f false fo (co + 12) (co + 12) (co + 11) (S.1, S8.2.1, S.2.2) = S9) : cfx_f false co fo S = cfx_t false co fo S S9.2.1 := by
  subst h1 h2 h3 h4 h5 h6 h7 h8 h9
  exact cfx_en_false co fo S
theorem cfx_en_true (co fo : Nat) (S : StT) : cfx_f true co fo S = cfx_t true co fo S (mul_f true fo (co + 12) (co + 12) (co + 11) (S.1, (sqr_f true fo (co + 12) (co + 8) (S.1, (mul_f true fo (co + 8) (co + 8) (co + 10) (S.1, (froot_f true fo (co + 8) (co + 12) (S.1, (mul_f true fo (co + 12) (co + 10) (co + 11) (S.1, (minus_f true (co + 11) (co + 11) (fo + 1) (S.1, (minus_f true (co + 10) (co + 10) (fo + 1) (S.1, (mul_f true fo (co + 11) (co + 10) (co + 19) (S.1, (sqr_f true fo (co + 10) (co + 9) S).2.1, S.2.2)).2.1, S.2.2)).2.1, S.2.2)).2.1, S.2.2)).2.1, S.2.2)).2.1, S.2.2)).2.1, S.2.2)).2.1, S.2.2)).2.1 := by
  unfold cfx_f cfx_t
  dsimp only
  rw [if_neg (show ¬ (bI true = 0) by decide)]
theorem cfx_ch_true (co fo : Nat) (S : StT) {S1 S2 S3 S4 S5 S6 S7 S8 S9 : StT} (h1 : sqr_f true fo (co + 10) (co + 9) S = S1) (h2 : mul_f true fo (co + 11) (co + 10) (co + 19) (S.1, S1.2.1, S.2.2) = S2) (h3 : minus_f true (co + 10) (co + 10) (fo + 1) (S.1, S2.2.1, S.2.2) = S3) (h4 : minus_f true (co + 11) (co + 11) (fo + 1) (S.1, S3.2.1, S.2.2) = S4) (h5 : mul_f true fo (co + 12) (co + 10) (co + 11) (S.1, S4.2.1, S.2.2) = S5) (h6 : froot_f true fo (co + 8) (co + 12) (S.1, S5.2.1, S.2.2) = S6) (h7 : mul_f true fo (co + 8) (co + 8) (co + 10) (S.1, S6.2.1, S.2.2) = S7) (h8 : sqr_f true fo (co + 12) (co + 8) (S.1, S7.2.1, S.2.2) = S8) (h9 : mul_f true fo (co + 12) (co + 12) (co + 11) (S.1, S8.2.1, S.2.2) = S9) : cfx_f true co fo S = cfx_t true co fo S S9.2.1 := by
  subst h1 h2 h3 h4 h5 h6 h7 h8 h9
  exact cfx_en_true co fo S
theorem cfx_g_false (c : Bool) (co fo : Nat) (S : StT) {y d : Zp c} (hfc : fo + 9 < co) (ho : VL c S.2.1 (fo + 1) 1) (hd : VL c S.2.1 (co + 19) d) (hy : VL c S.2.1 (co + 9) y) :
    ∃ S1 S2 S3 S4 S5 S6 S7 S8 S9 : StT, sqr_f c fo (co + 10) (co + 9) S = S1 ∧ mul_f c fo (co + 11) (co + 10) (co + 19) (S.1, S1.2.1, S.2.2) = S2 ∧ minus_f c (co + 10) (co + 10) (fo + 1) (S.1, S2.2.1, S.2.2) = S3 ∧ plus_f c (co + 11) (co + 11) (fo + 1) (S.1, S3.2.1, S.2.2) = S4 ∧ mul_f c fo (co + 12) (co + 10) (co + 11) (S.1, S4.2.1, S.2.2) = S5 ∧ froot_f c fo (co + 8) (co + 12) (S.1, S5.2.1, S.2.2) = S6 ∧ mul_f c fo (co + 8) (co + 8) (co + 10) (S.1, S6.2.1, S.2.2) = S7 ∧ sqr_f c fo (co + 12) (co + 8) (S.1, S7.2.1, S.2.2) = S8 ∧ mul_f c fo (co + 12) (co + 12) (co + 11) (S.1, S8.2.1, S.2.2) = S9 ∧ VL c S9.2.1 (co + 8) ((zr c (((y * y) - 1) * (((y * y) * d) + 1))) * ((y * y) - 1)) ∧ VL c S9.2.1 (co + 10) ((y * y) - 1) ∧ VL c S9.2.1 (co + 12) ((((zr c (((y * y) - 1) * (((y * y) * d) + 1))) * ((y * y) - 1)) * ((zr c (((y * y) - 1) * (((y * y) * d) + 1))) * ((y * y) - 1))) * (((y * y) * d) + 1)) ∧ (∀ r, (¬ cT co fo r ∨ r = co + 9) → S9.2.1 r = S.2.1 r) := by
  obtain ⟨v1, f1⟩ := sqr_v c fo (co + 10) (co + 9) (S.1, S.2.1, S.2.2) (cf_ne hfc 9 3 (by decide)) hy
  generalize hS1 : sqr_f c fo (co + 10) (co + 9) (S.1, S.2.1, S.2.2) = S1 at v1 f1
  have g1 : ∀ r, r ≠ co + 10 → r ≠ fo + 3 → S1.2.1 r = S.2.1 r := f1
  clear f1
  have w1 := v1
  clear v1
  have hd_1 := VL_row (g1 (co + 19) (ac_ne (by decide)) (cf_ne hfc 19 3 (by decide))) hd
  have ho_1 := VL_row (g1 (fo + 1) ((cf_ne hfc 10 1 (by decide)).symm) (ac_ne (by decide))) ho
  obtain ⟨v2, f2⟩ := mul_v c fo (co + 11) (co + 10) (co + 19) (S.1, S1.2.1, S.2.2) (cf_ne hfc 10 3 (by decide)) (cf_ne hfc 19 3 (by decide)) w1 hd_1
  generalize hS2 : mul_f c fo (co + 11) (co + 10) (co + 19) (S.1, S1.2.1, S.2.2) = S2 at v2 f2
  have g2 : ∀ r, r ≠ co + 11 → r ≠ fo + 3 → S2.2.1 r = S1.2.1 r := f2
  clear f2
  have w2 := v2
  clear v2
  have ho_2 := VL_row (g2 (fo + 1) ((cf_ne hfc 11 1 (by decide)).symm) (ac_ne (by decide))) ho_1
  have w1_2 := VL_row (g2 (co + 10) (ac_ne (by decide)) (cf_ne hfc 10 3 (by decide))) w1
  obtain ⟨v3, f3⟩ := minus_v c (co + 10) (co + 10) (fo + 1) (S.1, S2.2.1, S.2.2)  w1_2 ho_2
  generalize hS3 : minus_f c (co + 10) (co + 10) (fo + 1) (S.1, S2.2.1, S.2.2) = S3 at v3 f3
  have g3 : ∀ r, r ≠ co + 10 → S3.2.1 r = S2.2.1 r := f3
  clear f3
  have w3 := v3
  clear v3
  have ho_3 := VL_row (g3 (fo + 1) ((cf_ne hfc 10 1 (by decide)).symm)) ho_2
  have w2_3 := VL_row (g3 (co + 11) (ac_ne (by decide))) w2
  obtain ⟨v4, f4⟩ := plus_v c (co + 11) (co + 11) (fo + 1) (S.1, S3.2.1, S.2.2)  w2_3 ho_3
  generalize hS4 : plus_f c (co + 11) (co + 11) (fo + 1) (S.1, S3.2.1, S.2.2) = S4 at v4 f4
  have g4 : ∀ r, r ≠ co + 11 → S4.2.1 r = S3.2.1 r := f4
  clear f4
  have w4 := v4
  clear v4
  have w3_4 := VL_row (g4 (co + 10) (ac_ne (by decide))) w3
  obtain ⟨v5, f5⟩ := mul_v c fo (co + 12) (co + 10) (co + 11) (S.1, S4.2.1, S.2.2) (cf_ne hfc 10 3 (by decide)) (cf_ne hfc 11 3 (by decide)) w3_4 w4
  generalize hS5 : mul_f c fo (co + 12) (co + 10) (co + 11) (S.1, S4.2.1, S.2.2) = S5 at v5 f5
  have g5 : ∀ r, r ≠ co + 12 → r ≠ fo + 3 → S5.2.1 r = S4.2.1 r := f5
  clear f5
  have w5 := v5
  clear v5
  have w3_5 := VL_row (g5 (co + 10) (ac_ne (by decide)) (cf_ne hfc 10 3 (by decide))) w3_4
  have w4_5 := VL_row (g5 (co + 11) (ac_ne (by decide)) (cf_ne hfc 11 3 (by decide))) w4
  obtain ⟨v6, f6⟩ := root_z c fo (co + 8) (co + 12) (S.1, S5.2.1, S.2.2) (cf_ne hfc 12 3 (by decide)) (cf_ne hfc 12 6 (by decide)) (cf_ne hfc 12 7 (by decide)) w5
  generalize hS6 : froot_f c fo (co + 8) (co + 12) (S.1, S5.2.1, S.2.2) = S6 at v6 f6
  have g6 : ∀ r, r ≠ co + 8 → r ≠ fo + 3 → r ≠ fo + 6 → r ≠ fo + 7 → S6.2.1 r = S5.2.1 r := f6
  clear f6
  have w6 := v6
  clear v6
  have w3_6 := VL_row (g6 (co + 10) (ac_ne (by decide)) (cf_ne hfc 10 3 (by decide)) (cf_ne hfc 10 6 (by decide)) (cf_ne hfc 10 7 (by decide))) w3_5
  have w4_6 := VL_row (g6 (co + 11) (ac_ne (by decide)) (cf_ne hfc 11 3 (by decide)) (cf_ne hfc 11 6 (by decide)) (cf_ne hfc 11 7 (by decide))) w4_5
  obtain ⟨v7, f7⟩ := mul_v c fo (co + 8) (co + 8) (co + 10) (S.1, S6.2.1, S.2.2) (cf_ne hfc 8 3 (by decide)) (cf_ne hfc 10 3 (by decide)) w6 w3_6
  generalize hS7 : mul_f c fo (co + 8) (co + 8) (co + 10) (S.1, S6.2.1, S.2.2) = S7 at v7 f7
  have g7 : ∀ r, r ≠ co + 8 → r ≠ fo + 3 → S7.2.1 r = S6.2.1 r := f7
  clear f7
  have w7 := v7
  clear v7
  have w3_7 := VL_row (g7 (co + 10) (ac_ne (by decide)) (cf_ne hfc 10 3 (by decide))) w3_6
  have w4_7 := VL_row (g7 (co + 11) (ac_ne (by decide)) (cf_ne hfc 11 3 (by decide))) w4_6
  obtain ⟨v8, f8⟩ := sqr_v c fo (co + 12) (co + 8) (S.1, S7.2.1, S.2.2) (cf_ne hfc 8 3 (by decide)) w7
  generalize hS8 : sqr_f c fo (co + 12) (co + 8) (S.1, S7.2.1, S.2.2) = S8 at v8 f8
  have g8 : ∀ r, r ≠ co + 12 → r ≠ fo + 3 → S8.2.1 r = S7.2.1 r := f8
  clear f8
  have w8 := v8
  clear v8
  have w3_8 := VL_row (g8 (co + 10) (ac_ne (by decide)) (cf_ne hfc 10 3 (by decide))) w3_7
  have w4_8 := VL_row (g8 (co + 11) (ac_ne (by decide)) (cf_ne hfc 11 3 (by decide))) w4_7
  have w7_8 := VL_row (g8 (co + 8) (ac_ne (by decide)) (cf_ne hfc 8 3 (by decide))) w7
  obtain ⟨v9, f9⟩ := mul_v c fo (co + 12) (co + 12) (co + 11) (S.1, S8.2.1, S.2.2) (cf_ne hfc 12 3 (by decide)) (cf_ne hfc 11 3 (by decide)) w8 w4_8
  generalize hS9 : mul_f c fo (co + 12) (co + 12) (co + 11) (S.1, S8.2.1, S.2.2) = S9 at v9 f9
  have g9 : ∀ r, r ≠ co + 12 → r ≠ fo + 3 → S9.2.1 r = S8.2.1 r := f9
  clear f9
  have w9 := v9
  clear v9
  have w3_9 := VL_row (g9 (co + 10) (ac_ne (by decide)) (cf_ne hfc 10 3 (by decide))) w3_8
  have w7_9 := VL_row (g9 (co + 8) (ac_ne (by decide)) (cf_ne hfc 8 3 (by decide))) w7_8
  exact ⟨S1, S2, S3, S4, S5, S6, S7, S8, S9, rfl, hS2, hS3, hS4, hS5, hS6, hS7, hS8, hS9, w7_9, w3_9, w9, fun r hr => ((g9 r (rne9 hfc hr 12 (by decide)) (rnf9 hfc hr 3 (by decide))).trans ((g8 r (rne9 hfc hr 12 (by decide)) (rnf9 hfc hr 3 (by decide))).trans ((g7 r (rne9 hfc hr 8 (by decide)) (rnf9 hfc hr 3 (by decide))).trans ((g6 r (rne9 hfc hr 8 (by decide)) (rnf9 hfc hr 3 (by decide)) (rnf9 hfc hr 6 (by decide)) (rnf9 hfc hr 7 (by decide))).trans ((g5 r (rne9 hfc hr 12 (by decide)) (rnf9 hfc hr 3 (by decide))).trans ((g4 r (rne9 hfc hr 11 (by decide))).trans ((g3 r (rne9 hfc hr 10 (by decide))).trans ((g2 r (rne9 hfc hr 11 (by decide)) (rnf9 hfc hr 3 (by decide))).trans (g1 r (rne9 hfc hr 10 (by decide)) (rnf9 hfc hr 3 (by decide)))))))))))⟩
theorem cfx_g_true (c : Bool) (co fo : Nat) (S : StT) {y d : Zp c} (hfc : fo + 9 < co) (ho : VL c S.2.1 (fo + 1) 1) (hd : VL c S.2.1 (co + 19) d) (hy : VL c S.2.1 (co + 9) y) :
    ∃ S1 S2 S3 S4 S5 S6 S7 S8 S9 : StT, sqr_f c fo (co + 10) (co + 9) S = S1 ∧ mul_f c fo (co + 11) (co + 10) (co + 19) (S.1, S1.2.1, S.2.2) = S2 ∧ minus_f c (co + 10) (co + 10) (fo + 1) (S.1, S2.2.1, S.2.2) = S3 ∧ minus_f c (co + 11) (co + 11) (fo + 1) (S.1, S3.2.1, S.2.2) = S4 ∧ mul_f c fo (co + 12) (co + 10) (co + 11) (S.1, S4.2.1, S.2.2) = S5 ∧ froot_f c fo (co + 8) (co + 12) (S.1, S5.2.1, S.2.2) = S6 ∧ mul_f c fo (co + 8) (co + 8) (co + 10) (S.1, S6.2.1, S.2.2) = S7 ∧ sqr_f c fo (co + 12) (co + 8) (S.1, S7.2.1, S.2.2) = S8 ∧ mul_f c fo (co + 12) (co + 12) (co + 11) (S.1, S8.2.1, S.2.2) = S9 ∧ VL c S9.2.1 (co + 8) ((zr c (((y * y) - 1) * (((y * y) * d) - 1))) * ((y * y) - 1)) ∧ VL c S9.2.1 (co + 10) ((y * y) - 1) ∧ VL c S9.2.1 (co + 12) ((((zr c (((y * y) - 1) * (((y * y) * d) - 1))) * ((y * y) - 1)) * ((zr c (((y * y) - 1) * (((y * y) * d) - 1))) * ((y * y) - 1))) * (((y * y) * d) - 1)) ∧ (∀ r, (¬ cT co fo r ∨ r = co + 9) → S9.2.1 r = S.2.1 r) := by
  obtain ⟨v1, f1⟩ := sqr_v c fo (co + 10) (co + 9) (S.1, S.2.1, S.2.2) (cf_ne hfc 9 3 (by decide)) hy
  generalize hS1 : sqr_f c fo (co + 10) (co + 9) (S.1, S.2.1, S.2.2) = S1 at v1 f1
  have g1 : ∀ r, r ≠ co + 10 → r ≠ fo + 3 → S1.2.1 r = S.2.1 r := f1
  clear f1
  have w1 := v1
  clear v1
  have hd_1 := VL_row (g1 (co + 19) (ac_ne (by decide)) (cf_ne hfc 19 3 (by decide))) hd
  have ho_1 := VL_row (g1 (fo + 1) ((cf_ne hfc 10 1 (by decide)).symm) (ac_ne (by decide))) ho
  obtain ⟨v2, f2⟩ := mul_v c fo (co + 11) (co + 10) (co + 19) (S.1, S1.2.1, S.2.2) (cf_ne hfc 10 3 (by decide)) (cf_ne hfc 19 3 (by decide)) w1 hd_1
  generalize hS2 : mul_f c fo (co + 11) (co + 10) (co + 19) (S.1, S1.2.1, S.2.2) = S2 at v2 f2
  have g2 : ∀ r, r ≠ co + 11 → r ≠ fo + 3 → S2.2.1 r = S1.2.1 r := f2
  clear f2
  have w2 := v2
  clear v2
  have ho_2 := VL_row (g2 (fo + 1) ((cf_ne hfc 11 1 (by decide)).symm) (ac_ne (by decide))) ho_1
  have w1_2 := VL_row (g2 (co + 10) (ac_ne (by decide)) (cf_ne hfc 10 3 (by decide))) w1
  obtain ⟨v3, f3⟩ := minus_v c (co + 10) (co + 10) (fo + 1) (S.1, S2.2.1, S.2.2)  w1_2 ho_2
  generalize hS3 : minus_f c (co + 10) (co + 10) (fo + 1) (S.1, S2.2.1, S.2.2) = S3 at v3 f3
  have g3 : ∀ r, r ≠ co + 10 → S3.2.1 r = S2.2.1 r := f3
  clear f3
  have w3 := v3
  clear v3
  have ho_3 := VL_row (g3 (fo + 1) ((cf_ne hfc 10 1 (by decide)).symm)) ho_2
  have w2_3 := VL_row (g3 (co + 11) (ac_ne (by decide))) w2
  obtain ⟨v4, f4⟩ := minus_v c (co + 11) (co + 11) (fo + 1) (S.1, S3.2.1, S.2.2)  w2_3 ho_3
  generalize hS4 : minus_f c (co + 11) (co + 11) (fo + 1) (S.1, S3.2.1, S.2.2) = S4 at v4 f4
  have g4 : ∀ r, r ≠ co + 11 → S4.2.1 r = S3.2.1 r := f4
  clear f4
  have w4 := v4
  clear v4
  have w3_4 := VL_row (g4 (co + 10) (ac_ne (by decide))) w3
  obtain ⟨v5, f5⟩ := mul_v c fo (co + 12) (co + 10) (co + 11) (S.1, S4.2.1, S.2.2) (cf_ne hfc 10 3 (by decide)) (cf_ne hfc 11 3 (by decide)) w3_4 w4
  generalize hS5 : mul_f c fo (co + 12) (co + 10) (co + 11) (S.1, S4.2.1, S.2.2) = S5 at v5 f5
  have g5 : ∀ r, r ≠ co + 12 → r ≠ fo + 3 → S5.2.1 r = S4.2.1 r := f5
  clear f5
  have w5 := v5
  clear v5
  have w3_5 := VL_row (g5 (co + 10) (ac_ne (by decide)) (cf_ne hfc 10 3 (by decide))) w3_4
  have w4_5 := VL_row (g5 (co + 11) (ac_ne (by decide)) (cf_ne hfc 11 3 (by decide))) w4
  obtain ⟨v6, f6⟩ := root_z c fo (co + 8) (co + 12) (S.1, S5.2.1, S.2.2) (cf_ne hfc 12 3 (by decide)) (cf_ne hfc 12 6 (by decide)) (cf_ne hfc 12 7 (by decide)) w5
  generalize hS6 : froot_f c fo (co + 8) (co + 12) (S.1, S5.2.1, S.2.2) = S6 at v6 f6
  have g6 : ∀ r, r ≠ co + 8 → r ≠ fo + 3 → r ≠ fo + 6 → r ≠ fo + 7 → S6.2.1 r = S5.2.1 r := f6
  clear f6
  have w6 := v6
  clear v6
  have w3_6 := VL_row (g6 (co + 10) (ac_ne (by decide)) (cf_ne hfc 10 3 (by decide)) (cf_ne hfc 10 6 (by decide)) (cf_ne hfc 10 7 (by decide))) w3_5
  have w4_6 := VL_row (g6 (co + 11) (ac_ne (by decide)) (cf_ne hfc 11 3 (by decide)) (cf_ne hfc 11 6 (by decide)) (cf_ne hfc 11 7 (by decide))) w4_5
  obtain ⟨v7, f7⟩ := mul_v c fo (co + 8) (co + 8) (co + 10) (S.1, S6.2.1, S.2.2) (cf_ne hfc 8 3 (by decide)) (cf_ne hfc 10 3 (by decide)) w6 w3_6
  generalize hS7 : mul_f c fo (co + 8) (co + 8) (co + 10) (S.1, S6.2.1, S.2.2) = S7 at v7 f7
  have g7 : ∀ r, r ≠ co + 8 → r ≠ fo + 3 → S7.2.1 r = S6.2.1 r := f7
  clear f7
  have w7 := v7
  clear v7
  have w3_7 := VL_row (g7 (co + 10) (ac_ne (by decide)) (cf_ne hfc 10 3 (by decide))) w3_6
  have w4_7 := VL_row (g7 (co + 11) (ac_ne (by decide)) (cf_ne hfc 11 3 (by decide))) w4_6
  obtain ⟨v8, f8⟩ := sqr_v c fo (co + 12) (co + 8) (S.1, S7.2.1, S.2.2) (cf_ne hfc 8 3 (by decide)) w7
  generalize hS8 : sqr_f c fo (co + 12) (co + 8) (S.1, S7.2.1, S.2.2) = S8 at v8 f8
  have g8 : ∀ r, r ≠ co + 12 → r ≠ fo + 3 → S8.2.1 r = S7.2.1 r := f8
  clear f8
  have w8 := v8
  clear v8
  have w3_8 := VL_row (g8 (co + 10) (ac_ne (by decide)) (cf_ne hfc 10 3 (by decide))) w3_7
  have w4_8 := VL_row (g8 (co + 11) (ac_ne (by decide)) (cf_ne hfc 11 3 (by decide))) w4_7
  have w7_8 := VL_row (g8 (co + 8) (ac_ne (by decide)) (cf_ne hfc 8 3 (by decide))) w7
  obtain ⟨v9, f9⟩ := mul_v c fo (co + 12) (co + 12) (co + 11) (S.1, S8.2.1, S.2.2) (cf_ne hfc 12 3 (by decide)) (cf_ne hfc 11 3 (by decide)) w8 w4_8
  generalize hS9 : mul_f c fo (co + 12) (co + 12) (co + 11) (S.1, S8.2.1, S.2.2) = S9 at v9 f9
  have g9 : ∀ r, r ≠ co + 12 → r ≠ fo + 3 → S9.2.1 r = S8.2.1 r := f9
  clear f9
  have w9 := v9
  clear v9
  have w3_9 := VL_row (g9 (co + 10) (ac_ne (by decide)) (cf_ne hfc 10 3 (by decide))) w3_8
  have w7_9 := VL_row (g9 (co + 8) (ac_ne (by decide)) (cf_ne hfc 8 3 (by decide))) w7_8
  exact ⟨S1, S2, S3, S4, S5, S6, S7, S8, S9, rfl, hS2, hS3, hS4, hS5, hS6, hS7, hS8, hS9, w7_9, w3_9, w9, fun r hr => ((g9 r (rne9 hfc hr 12 (by decide)) (rnf9 hfc hr 3 (by decide))).trans ((g8 r (rne9 hfc hr 12 (by decide)) (rnf9 hfc hr 3 (by decide))).trans ((g7 r (rne9 hfc hr 8 (by decide)) (rnf9 hfc hr 3 (by decide))).trans ((g6 r (rne9 hfc hr 8 (by decide)) (rnf9 hfc hr 3 (by decide)) (rnf9 hfc hr 6 (by decide)) (rnf9 hfc hr 7 (by decide))).trans ((g5 r (rne9 hfc hr 12 (by decide)) (rnf9 hfc hr 3 (by decide))).trans ((g4 r (rne9 hfc hr 11 (by decide))).trans ((g3 r (rne9 hfc hr 10 (by decide))).trans ((g2 r (rne9 hfc hr 11 (by decide)) (rnf9 hfc hr 3 (by decide))).trans (g1 r (rne9 hfc hr 10 (by decide)) (rnf9 hfc hr 3 (by decide)))))))))))⟩
theorem cfx_s_false (co fo : Nat) (S : StT) {y : Zp false} (hfc : fo + 9 < co) (hP : PrimeAt false fo S.2.1) (ho : VL false S.2.1 (fo + 1) 1) (hd : VL false S.2.1 (co + 19) (fp_d false)) (hi : VL false S.2.1 (co + 17) (fp_i false)) (hy : VL false S.2.1 (co + 9) y) :
    (((cfx_f false co fo S).1 = nI 1 ∧ ∃ x, pO false (x, y) ∧ VL false (cfx_f false co fo S).2.2.1 (co + 8) x) ∨ ((cfx_f false co fo S).1 = nI 0 ∧ ∀ x, ¬ pO false (x, y))) ∧ ∀ r, (¬ cT co fo r ∨ r = co + 9) → (cfx_f false co fo S).2.2.1 r = S.2.1 r := by
  obtain ⟨S1, S2, S3, S4, S5, S6, S7, S8, S9, h1, h2, h3, h4, h5, h6, h7, h8, h9, hB, hu, hE, fr0⟩ := cfx_g_false false co fo S hfc ho hd hy
  have en := cfx_ch_false co fo S h1 h2 h3 h4 h5 h6 h7 h8 h9
  clear h1 h2 h3 h4 h5 h6 h7 h8 h9
  have ev : (((y * y) * (fp_d false)) + 1) = fp_d false * (y * y) - fp_a false := by
    rw [fa_f]
    exact ev_false _ _
  rw [en]
  clear en
  generalize hv : (((y * y) * (fp_d false)) + 1) = v at hB hE ev
  generalize hU : (y * y - 1) = u at hB hu hE
  generalize hG : zr false (u * v) * u = B at hB hE
  exact cfx_t_false co fo S S9.2.1 hfc hP fr0 (VL_row (fr0 _ (Or.inl (by unfold cT; omega))) hi) hB hu hE (fun x hx => fx_root false hU.symm ev hx hG.symm) (fun x hx => (ed_xy (fp_a false) (fp_d false) x y).mpr (by rw [← ev, hU]; exact hx))
theorem cfx_s_true (co fo : Nat) (S : StT) {y : Zp true} (hfc : fo + 9 < co) (hP : PrimeAt true fo S.2.1) (ho : VL true S.2.1 (fo + 1) 1) (hd : VL true S.2.1 (co + 19) (fp_d true)) (hy : VL true S.2.1 (co + 9) y) :
    (((cfx_f true co fo S).1 = nI 1 ∧ ∃ x, pO true (x, y) ∧ VL true (cfx_f true co fo S).2.2.1 (co + 8) x) ∨ ((cfx_f true co fo S).1 = nI 0 ∧ ∀ x, ¬ pO true (x, y))) ∧ ∀ r, (¬ cT co fo r ∨ r = co + 9) → (cfx_f true co fo S).2.2.1 r = S.2.1 r := by
  obtain ⟨S1, S2, S3, S4, S5, S6, S7, S8, S9, h1, h2, h3, h4, h5, h6, h7, h8, h9, hB, hu, hE, fr0⟩ := cfx_g_true true co fo S hfc ho hd hy
  have en := cfx_ch_true co fo S h1 h2 h3 h4 h5 h6 h7 h8 h9
  clear h1 h2 h3 h4 h5 h6 h7 h8 h9
  have ev : (((y * y) * (fp_d true)) - 1) = fp_d true * (y * y) - fp_a true := by
    rw [fa_t]
    exact ev_true _ _
  rw [en]
  clear en
  generalize hv : (((y * y) * (fp_d true)) - 1) = v at hB hE ev
  generalize hU : (y * y - 1) = u at hB hu hE
  generalize hG : zr true (u * v) * u = B at hB hE
  exact cfx_t_true co fo S S9.2.1 hfc hP fr0 hB hu hE (fun x hx => fx_root true hU.symm ev hx hG.symm) (fun x hx => (ed_xy (fp_a true) (fp_d true) x y).mpr (by rw [← ev, hU]; exact hx))
theorem cfx_s (c : Bool) (co fo : Nat) (S : StT) {y : Zp c} (hfc : fo + 9 < co) (hC : CI c co fo S.2.1) (hy : VL c S.2.1 (co + 9) y) :
    (((cfx_f c co fo S).1 = nI 1 ∧ ∃ x, pO c (x, y) ∧ VL c (cfx_f c co fo S).2.2.1 (co + 8) x) ∨ ((cfx_f c co fo S).1 = nI 0 ∧ ∀ x, ¬ pO c (x, y))) ∧ ∀ r, (¬ cT co fo r ∨ r = co + 9) → (cfx_f c co fo S).2.2.1 r = S.2.1 r := by
  obtain ⟨c1, c2, c3, c4, c5⟩ := hC
  cases c with
  | true => exact cfx_s_true co fo S hfc c1 c2 c3 hy
  | false => exact cfx_s_false co fo S hfc c1 c2 c3 (c4 rfl) hy
end
