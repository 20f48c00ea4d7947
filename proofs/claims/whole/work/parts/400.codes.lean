section
/-! CODES: writeCode, encode, decode, small orders. -/
theorem zero_val (c : Bool) : ((0 : Zp c)).val = 0 := rfl
theorem uN_or (x y : Int32) : uN (x ||| y) = uN x ||| uN y := by
  unfold uN
  rw [Int32.toBitVec_or, BitVec.toNat_or]
theorem uN_int {x : Int32} (h : uN x < 2 ^ 31) : x.toInt = (uN x : Int) := by
  show x.toBitVec.toInt = _
  rw [BitVec.toInt_eq_toNat_of_lt (by unfold uN at h; omega)]
  rfl
theorem lt128 {x : Int32} (h : uN x < 256) : x < nI 128 ↔ uN x < 128 := by
  rw [Int32.lt_iff_toInt_lt, uN_int (by omega), uN_int (x := nI 128) (by decide)]
  have : uN (nI 128) = 128 := by decide
  rw [this]
  omega
/-- the code's last byte -/
def cK (c : Bool) : Nat := cB c - 1
theorem cK_s (c : Bool) : cB c = cK c + 1 := by cases c <;> rfl
theorem nt_lt (c : Bool) : nt_p c < 2 ^ (8 * cK c + 7) := by
  cases c
  · rw [nt_p0]; decide +kernel
  · rw [nt_p1]; decide +kernel
theorem nt_fW (c : Bool) : nt_p c < 2 ^ fW c := by
  cases c
  · rw [nt_p0]; decide +kernel
  · rw [nt_p1]; decide +kernel
theorem nt_odd (c : Bool) : nt_p c % 2 = 1 := by
  cases c
  · rw [nt_p0]
  · rw [nt_p1]
theorem by_hi {v k i : Nat} (hv : v < 2 ^ (8 * k + 7)) (hi : i ≤ k) : (v + 2 ^ (8 * k + 7)) / 2 ^ (8 * i) % 256 = if i = k then v / 2 ^ (8 * k) % 256 + 128 else v / 2 ^ (8 * i) % 256 := by
  have hp : 0 < 2 ^ (8 * i) := Nat.pow_pos (by decide)
  by_cases h : i = k
  · subst h
    rw [if_pos rfl]
    have e : 2 ^ (8 * i + 7) = 128 * 2 ^ (8 * i) := by
      have := Nat.pow_add 2 (8 * i) 7
      omega
    rw [e] at hv ⊢
    rw [Nat.add_mul_div_right _ _ hp]
    have h2 : v / 2 ^ (8 * i) < 128 := (Nat.div_lt_iff_lt_mul hp).mpr hv
    generalize v / 2 ^ (8 * i) = z at h2 ⊢
    omega
  · rw [if_neg h]
    have e : 2 ^ (8 * k + 7) = 256 * 2 ^ (8 * (k - i - 1) + 7) * 2 ^ (8 * i) := by
      rw [show (256 : Nat) = 2 ^ 8 from rfl, ← Nat.pow_add, ← Nat.pow_add]
      congr 1
      omega
    rw [e, Nat.add_mul_div_right _ _ hp]
    generalize 2 ^ (8 * (k - i - 1) + 7) = w
    generalize v / 2 ^ (8 * i) = z
    omega
theorem lo_7 {v k : Nat} (hv : v < 2 ^ (8 * k + 7)) : v / 2 ^ (8 * k) < 128 := by
  have hp : 0 < 2 ^ (8 * k) := Nat.pow_pos (by decide)
  refine (Nat.div_lt_iff_lt_mul hp).mpr ?_
  have := Nat.pow_add 2 (8 * k) 7
  omega
theorem cwc_s (c : Bool) (co fo to y : Nat) (od : Int32) (S : StT) {v : Zp c} {b : Nat} (hb : b ≤ 1) (hod : od = nI b) (hy : y ≠ fo + 4) (hP : PrimeAt c fo S.2.1) (ha : VL c S.2.1 y v) :
    (∀ i, i < cB c → uN ((cwc_f c co fo to y od S).1 to i) = (v.val + b * 2 ^ (8 * cK c + 7)) / 2 ^ (8 * i) % 256) ∧ (∀ r, r ≠ to → (cwc_f c co fo to y od S).1 r = S.1 r) ∧ (∀ j, cB c ≤ j → (cwc_f c co fo to y od S).1 to j = S.1 to j) ∧ ∀ r, r ≠ fo + 4 → r ≠ fo + 5 → (cwc_f c co fo to y od S).2.1 r = S.2.1 r := by
  obtain ⟨w1, w2, w3, w4⟩ := fwrite_s c fo to y (va_up S.1 to (upd (S.1 to) (cB c - 1) (nI 0)), S.2.1, S.2.2) hy hP ha
  have hT : ∃ T, fwrite_f c fo to y (va_up S.1 to (upd (S.1 to) (cB c - 1) (nI 0)), S.2.1, S.2.2) = T := ⟨_, rfl⟩
  obtain ⟨T, hT⟩ := hT
  rw [hT] at w1 w2 w3 w4
  have hv2 : v.val < 2 ^ (8 * cK c + 7) := Nat.lt_trans (fz_lt v) (nt_lt c)
  have hk := cK_s c
  have a1 : ∀ i, i < cB c → uN (T.1 to i) = v.val / 2 ^ (8 * i) % 256 := by
    intro i hi
    by_cases h : i < fB c
    · exact w1 i h
    · have e : T.1 to i = va_up S.1 to (upd (S.1 to) (cB c - 1) (nI 0)) to i := w3 i (by omega)
      rw [e, vu_s]
      clear e w1 w2 w3 w4 hT ha hk hv2
      cases c with
      | false => exact absurd hi h
      | true =>
        have hi' : i < 57 := hi
        have h' : ¬ i < 56 := h
        have h56 : i = 56 := by omega
        subst h56
        have e1 : upd (S.1 to) (cB true - 1) (nI 0) 56 = nI 0 := if_pos rfl
        have e2 : v.val < 2 ^ (8 * 56) := Nat.lt_trans (fz_lt v) (show nt_p true < 2 ^ (8 * 56) by rw [nt_p1]; decide +kernel)
        rw [e1, Nat.div_eq_of_lt e2]
        decide
  have a3 : ∀ j, cB c ≤ j → T.1 to j = S.1 to j := by
    intro j hj
    have h1 : fB c ≤ j := Nat.le_trans (by cases c <;> decide) hj
    have e : T.1 to j = va_up S.1 to (upd (S.1 to) (cB c - 1) (nI 0)) to j := w3 j h1
    rw [e, vu_s]
    exact if_neg (by omega)
  have a2 : ∀ r, r ≠ to → T.1 r = S.1 r := fun r hr => (w2 r hr).trans (vu_n hr)
  have hb2 : b = 0 ∨ b = 1 := by omega
  unfold cwc_f
  dsimp only
  rw [hT]
  rcases hb2 with rfl | rfl
  · rw [if_pos (hod.trans (by decide))]
    refine ⟨fun i hi => ?_, a2, a3, w4⟩
    rw [Nat.zero_mul, Nat.add_zero]
    exact a1 i hi
  · rw [if_neg (show ¬ od = 0 by rw [hod]; decide)]
    refine ⟨fun i hi => ?_, fun r hr => (vu_n hr).trans (a2 r hr), fun j hj => ?_, w4⟩
    · show uN (va_up T.1 to (upd (T.1 to) (cK c) ((T.1 to (cK c)) ||| nI 128)) to i) = _
      rw [vu_s, Nat.one_mul, by_hi hv2 (by omega)]
      by_cases h : i = cK c
      · rw [if_pos h, h]
        rw [show upd (T.1 to) (cK c) (T.1 to (cK c) ||| nI 128) (cK c) = T.1 to (cK c) ||| nI 128 from if_pos rfl]
        have q := a1 (cK c) (by omega)
        have hs : v.val / 2 ^ (8 * cK c) % 256 < 2 ^ 7 := by
          have := lo_7 hv2
          generalize v.val / 2 ^ (8 * cK c) = z at this ⊢
          omega
        rw [uN_or, q, show uN (nI 128) = 2 ^ 7 * 1 from by decide, or_add hs]
      · rw [if_neg h]
        rw [show upd (T.1 to) (cK c) (T.1 to (cK c) ||| nI 128) i = T.1 to i from if_neg h]
        exact a1 i hi
    · show va_up T.1 to (upd (T.1 to) (cK c) ((T.1 to (cK c)) ||| nI 128)) to j = _
      rw [vu_s]
      exact (if_neg (by omega)).trans (a3 j hj)
/-- the number that a point's code is -/
def cN (c : Bool) (P : Pt c) : Nat := P.2.val + (P.1.val % 2) * 2 ^ (8 * cK c + 7)
theorem cenc_s (c : Bool) (co fo to p : Nat) (S : StT) {P : Pt c} (hfc : fo + 9 < co) (hp : pF co fo p) (hP : PrimeAt c fo S.2.1) (h1 : PV c S.2.1 p P) :
    (∀ i, i < cB c → uN ((cenc_f c co fo to p S).1 to i) = cN c P / 2 ^ (8 * i) % 256) ∧ (∀ r, r ≠ to → (cenc_f c co fo to p S).1 r = S.1 r) ∧ (∀ j, cB c ≤ j → (cenc_f c co fo to p S).1 to j = S.1 to j) ∧ ∀ r, ¬ cT co fo r → (cenc_f c co fo to p S).2.1 r = S.2.1 r := by
  obtain ⟨on1, x, y, z, a1, a2, a3, e1⟩ := h1
  obtain ⟨q1, q2⟩ := ed_rp_enc (fp_K c) e1
  obtain ⟨v1, f1⟩ := inv_v c fo (co + 8) (p + 3) (S.1, S.2.1, S.2.2) (pF_f hp 3 3 (by decide)) (pF_f hp 3 6 (by decide)) (pF_f hp 3 7 (by decide)) (pF_f hp 3 8 (by decide)) a3
  generalize hS1 : finv_f c fo (co + 8) (p + 3) (S.1, S.2.1, S.2.2) = S1 at v1 f1
  have g1 : ∀ r, r ≠ co + 8 → r ≠ fo + 3 → r ≠ fo + 6 → r ≠ fo + 7 → r ≠ fo + 8 → S1.2.1 r = S.2.1 r := f1
  clear f1
  have w1 := v1
  clear v1
  have a1_1 := VL_row (g1 (p + 1) (pF_c hp 1 8 (by decide)) (pF_f hp 1 3 (by decide)) (pF_f hp 1 6 (by decide)) (pF_f hp 1 7 (by decide)) (pF_f hp 1 8 (by decide))) a1
  have a2_1 := VL_row (g1 (p + 2) (pF_c hp 2 8 (by decide)) (pF_f hp 2 3 (by decide)) (pF_f hp 2 6 (by decide)) (pF_f hp 2 7 (by decide)) (pF_f hp 2 8 (by decide))) a2
  obtain ⟨v2, f2⟩ := mul_v c fo (co + 9) (p + 1) (co + 8) (S.1, S1.2.1, S.2.2) (pF_f hp 1 3 (by decide)) (cf_ne hfc 8 3 (by decide)) a1_1 w1
  generalize hS2 : mul_f c fo (co + 9) (p + 1) (co + 8) (S.1, S1.2.1, S.2.2) = S2 at v2 f2
  have g2 : ∀ r, r ≠ co + 9 → r ≠ fo + 3 → S2.2.1 r = S1.2.1 r := f2
  clear f2
  have w2 := v2
  clear v2
  have a2_2 := VL_row (g2 (p + 2) (pF_c hp 2 9 (by decide)) (pF_f hp 2 3 (by decide))) a2_1
  have w1_2 := VL_row (g2 (co + 8) (ac_ne (by decide)) (cf_ne hfc 8 3 (by decide))) w1
  obtain ⟨v3, f3⟩ := mul_v c fo (co + 10) (p + 2) (co + 8) (S.1, S2.2.1, S.2.2) (pF_f hp 2 3 (by decide)) (cf_ne hfc 8 3 (by decide)) a2_2 w1_2
  generalize hS3 : mul_f c fo (co + 10) (p + 2) (co + 8) (S.1, S2.2.1, S.2.2) = S3 at v3 f3
  have g3 : ∀ r, r ≠ co + 10 → r ≠ fo + 3 → S3.2.1 r = S2.2.1 r := f3
  clear f3
  have w3 := v3
  clear v3
  have w2_3 := VL_row (g3 (co + 9) (ac_ne (by decide)) (cf_ne hfc 9 3 (by decide))) w2
  have fr0 : ∀ r, ¬ cT co fo r → S3.2.1 r = S.2.1 r := fun r hr => ((g3 r (cT_c hr 10 (by decide)) (cT_f hr 3 (by decide))).trans ((g2 r (cT_c hr 9 (by decide)) (cT_f hr 3 (by decide))).trans (g1 r (cT_c hr 8 (by decide)) (cT_f hr 3 (by decide)) (cT_f hr 6 (by decide)) (cT_f hr 7 (by decide)) (cT_f hr 8 (by decide)))))
  have v9 := w2_3
  have v10 := w3
  rw [q1] at v9
  rw [q2] at v10
  have hP3 : PrimeAt c fo S3.2.1 := PrimeAt_row (fr0 (fo + 2) (by unfold cT; omega)) hP
  obtain ⟨i1, i2⟩ := isOdd_v c fo (co + 9) (S.1, S3.2.1, S.2.2) (cf_ne hfc 9 4 (by decide)) hP3 v9
  have i3 : ∀ r, r ≠ fo + 4 → r ≠ fo + 5 → (fisOdd_f c fo (co + 9) (S.1, S3.2.1, S.2.2)).2.2.1 r = S3.2.1 r := i2
  clear i2
  generalize hR : fisOdd_f c fo (co + 9) (S.1, S3.2.1, S.2.2) = R at i1 i3
  have hP4 : PrimeAt c fo R.2.2.1 := PrimeAt_row (i3 (fo + 2) (by omega) (by omega)) hP3
  have v10' := VL_row (i3 (co + 10) (by omega) (by omega)) v10
  obtain ⟨t1, t2, t3, t4⟩ := cwc_s c co fo to (co + 10) R.1 (S.1, R.2.2.1, S.2.2) (b := P.1.val % 2) (by omega) i1 (cf_ne hfc 10 4 (by decide)) hP4 v10'
  unfold cenc_f
  dsimp only
  rw [hS1, hS2, hS3, hR]
  refine ⟨t1, t2, t3, fun r hr => ?_⟩
  have e4 := t4 r (cT_f hr 4 (by decide)) (cT_f hr 5 (by decide))
  exact e4.trans ((i3 r (cT_f hr 4 (by decide)) (cT_f hr 5 (by decide))).trans (fr0 r hr))
/-- what a code stands for -/
def Dec (c : Bool) (N : Nat) (P : Pt c) : Prop := pO c P ∧ cN c P = N
theorem nz_val {c : Bool} {x : Zp c} (hx : x ≠ 0) : 0 < x.val := by
  rcases Nat.eq_zero_or_pos x.val with z | z
  · refine absurd ?_ hx
    rw [← fz_val x, z]
    exact fz_0 c
  · exact z
theorem neg_par {c : Bool} {x : Zp c} (hx : x ≠ 0) : (-x).val % 2 = 1 - x.val % 2 := by
  have h0 := nz_val hx
  have hl := fz_lt x
  have ho := nt_odd c
  have hw : ∃ w : Zp c, w = fz c ((nt_p c - x.val : Nat) : Int) := ⟨_, rfl⟩
  obtain ⟨w, hw⟩ := hw
  have v : w.val = nt_p c - x.val := by
    have h := fz_vl c ((nt_p c - x.val : Nat) : Int)
    rw [← hw, Int.emod_eq_of_lt (Int.natCast_nonneg _) (by omega)] at h
    omega
  have e : w + x = 0 := by
    have e1 : x = fz c (x.val : Int) := (fz_val x).symm
    have e2 : w + fz c (x.val : Int) = 0 := by
      rw [hw, ← fz_add, ← fz_0 c]
      refine (fz_eq c _ _).2 ?_
      rw [show ((nt_p c - x.val : Nat) : Int) + (x.val : Int) = (nt_p c : Int) from by omega, Int.emod_self, Int.zero_emod]
    rw [← e1] at e2
    exact e2
  have e3 : -x = w := by
    clear hw v
    grind
  rw [e3, v]
  omega
theorem Dec_val {c : Bool} {N : Nat} {P : Pt c} (h : Dec c N P) : N % 2 ^ (8 * cK c + 7) = P.2.val ∧ N / 2 ^ (8 * cK c + 7) = P.1.val % 2 := by
  obtain ⟨h1, h2⟩ := h
  have hl : P.2.val < 2 ^ (8 * cK c + 7) := Nat.lt_trans (fz_lt P.2) (nt_lt c)
  rw [← h2]
  unfold cN
  have hp : 0 < 2 ^ (8 * cK c + 7) := Nat.pow_pos (by decide)
  constructor
  · rw [Nat.add_mul_mod_self_right, Nat.mod_eq_of_lt hl]
  · rw [Nat.add_mul_div_right _ _ hp, Nat.div_eq_of_lt hl, Nat.zero_add]
theorem x_two {c : Bool} {x x' y : Zp c} (h : pO c (x, y)) (h' : pO c (x', y)) : x = x' ∨ x = -x' := by
  refine ed_two (fp_K c) (ed_v0 (fp_K c) y) (x := x) (x' := x') ?_
  exact ((ed_xy (fp_a c) (fp_d c) x y).mp h).trans ((ed_xy (fp_a c) (fp_d c) x' y).mp h').symm
theorem Dec_uniq {c : Bool} {N : Nat} {P Q : Pt c} (h1 : Dec c N P) (h2 : Dec c N Q) : P = Q := by
  obtain ⟨a1, a2⟩ := Dec_val h1
  obtain ⟨b1, b2⟩ := Dec_val h2
  have e2 : P.2 = Q.2 := Fin.ext (a1.symm.trans b1)
  have e1 : P.1.val % 2 = Q.1.val % 2 := a2.symm.trans b2
  have o1 := h1.1
  have o2 := h2.1
  obtain ⟨x, y⟩ := P
  obtain ⟨x', y'⟩ := Q
  have e2' : y = y' := e2
  subst e2'
  rcases x_two o1 o2 with h | h
  · rw [h]
  · by_cases hz : x' = 0
    · rw [h, hz]
      have : (-0 : Zp c) = 0 := by grind
      rw [this]
    · have := neg_par hz
      rw [← h] at this
      have e1' : x.val % 2 = x'.val % 2 := e1
      omega
theorem bv_dig {f : Nat → Int32} {n : Nat} (h : BY f n) {i : Nat} (hi : i < n) : uN (f i) = bv f n / 2 ^ (8 * i) % 256 := by
  have e : rvN 256 (fun i => uN (f i)) n / 256 ^ i = uN (f i) + 256 * (rvN 256 (fun i => uN (f i)) n / 256 ^ (i + 1)) := rvN_dig 256 (fun i => uN (f i)) (by decide) n h i hi
  have e2 : (256 : Nat) ^ i = 2 ^ (8 * i) := by rw [Nat.pow_mul]
  rw [e2] at e
  unfold bv
  rw [e]
  have := h i hi
  omega
theorem bv_of {f : Nat → Int32} {n M : Nat} (hM : M < 2 ^ (8 * n)) (h : ∀ i, i < n → uN (f i) = M / 2 ^ (8 * i) % 256) : bv f n = M := by
  have e := rvN_dg 8 M n
  rw [Nat.mod_eq_of_lt hM] at e
  refine Eq.trans ?_ e
  show rvN (2 ^ 8) (fun i => uN (f i)) n = _
  exact rvN_congr n (fun j hj => h j hj)
theorem bv_lt {f : Nat → Int32} {n : Nat} (h : BY f n) : bv f n < 2 ^ (8 * n) := by
  have := rvN_lt 256 (fun i => uN (f i)) (by decide) n h
  rw [show (256 : Nat) ^ n = 2 ^ (8 * n) from by rw [Nat.pow_mul]] at this
  exact this
theorem bv_part {f : Nat → Int32} {m n : Nat} (h : BY f n) (hm : m ≤ n) : bv f m = bv f n % 2 ^ (8 * m) := by
  have e := rvN_dg 8 (bv f n) m
  refine Eq.trans ?_ e
  show rvN (2 ^ 8) (fun i => uN (f i)) m = _
  exact rvN_congr m (fun j hj => bv_dig h (Nat.lt_of_lt_of_le hj hm))
theorem read_y (c : Bool) {f : Nat → Int32} (h : BY f (cB c)) : bv f (fB c) % 2 ^ fW c = bv f (cB c) % 2 ^ fW c := by
  rw [bv_part h (show fB c ≤ cB c by cases c <;> decide)]
  exact Nat.mod_mod_of_dvd _ (Nat.pow_dvd_pow 2 (show fW c ≤ 8 * fB c by cases c <;> decide))
theorem Dec_y {c : Bool} {N : Nat} {P : Pt c} (h : Dec c N P) : fz c ((N % 2 ^ fW c : Nat) : Int) = P.2 := by
  have hl : P.2.val < 2 ^ fW c := Nat.lt_trans (fz_lt P.2) (nt_fW c)
  have e : N % 2 ^ fW c = P.2.val := by
    rw [← h.2]
    unfold cN
    have hk : 8 * cK c + 7 = (8 * cK c + 7 - fW c) + fW c := by cases c <;> decide
    rw [hk, Nat.pow_add, ← Nat.mul_assoc, Nat.add_mul_mod_self_right, Nat.mod_eq_of_lt hl]
  rw [e, fz_val]
/-- the sign's bit of a code -/
theorem top_bit (c : Bool) {f : Nat → Int32} (h : BY f (cB c)) : (if f (cB c - 1) < nI 128 then 0 else 1) = bv f (cB c) / 2 ^ (8 * cK c + 7) := by
  have hk := cK_s c
  have hb := bv_dig h (i := cK c) (by omega)
  have hl := h (cK c) (by omega)
  have hN := bv_lt h
  have e : bv f (cB c) / 2 ^ (8 * cK c + 7) = bv f (cB c) / 2 ^ (8 * cK c) / 128 := by
    rw [Nat.pow_add, ← Nat.div_div_eq_div_mul]
  have h2 : bv f (cB c) / 2 ^ (8 * cK c) < 256 := by
    refine (Nat.div_lt_iff_lt_mul (Nat.pow_pos (by decide))).mpr ?_
    rw [show 2 ^ (8 * cB c) = 256 * 2 ^ (8 * cK c) from by rw [hk, Nat.mul_add, Nat.mul_one, Nat.pow_add, Nat.mul_comm]] at hN
    exact hN
  rw [e]
  generalize bv f (cB c) / 2 ^ (8 * cK c) = z at hb h2 ⊢
  show (if f (cK c) < nI 128 then 0 else 1) = _
  by_cases hx : f (cK c) < nI 128
  · rw [if_pos hx]
    have := (lt128 hl).mp hx
    omega
  · rw [if_neg hx]
    have : ¬ uN (f (cK c)) < 128 := fun q => hx ((lt128 hl).mpr q)
    omega
def cpar (c : Bool) (co fo b : Nat) (S : StT) (J : Nat → Nat → Int64) : Nat → Nat → Int64 := (if (fisOdd_f c fo (co + 8) (S.1, J, S.2.2)).1 = nI b then (S.1, (fisOdd_f c fo (co + 8) (S.1, J, S.2.2)).2.2.1, S.2.2) else (S.1, (fneg_f c (co + 8) (co + 8) (S.1, (fisOdd_f c fo (co + 8) (S.1, J, S.2.2)).2.2.1, S.2.2)).2.1, S.2.2)).2.1
def cput (c : Bool) (co fo to : Nat) (S : StT) (J : Nat → Nat → Int64) : Nat → Nat → Int64 := (fcopy_f c (to + 3) (fo + 1) (S.1, (fcopy_f c (to + 2) (co + 9) (S.1, (fcopy_f c (to + 1) (co + 8) (S.1, J, S.2.2)).2.1, S.2.2)).2.1, S.2.2)).2.1
theorem cdec_b (c : Bool) (co fo to nb : Nat) (S3 : StT) (b : Nat) (S : StT) (i : Nat) : cdec_s48 c co fo to nb S3 b S 0 i = (if (cfx_f c co fo S).1 = 0 then (nI 0, (S.1, (cfx_f c co fo S).2.2.1, S.2.2)) else if nI b = 0 then (nI 1, (S.1, cput c co fo to S (cpar c co fo b S (cfx_f c co fo S).2.2.1), S.2.2)) else if (fisZero_f c fo (co + 8) (S.1, (cfx_f c co fo S).2.2.1, S.2.2)).1 = 0 then (nI 1, (S.1, cput c co fo to S (cpar c co fo b S (fisZero_f c fo (co + 8) (S.1, (cfx_f c co fo S).2.2.1, S.2.2)).2.2.1), S.2.2)) else (nI 0, (S.1, (fisZero_f c fo (co + 8) (S.1, (cfx_f c co fo S).2.2.1, S.2.2)).2.2.1, S.2.2))) := by
  unfold cdec_s48 cput cpar
  dsimp only
theorem cpar_s (c : Bool) (co fo b : Nat) (S : StT) (J : Nat → Nat → Int64) {x y : Zp c} (hb : b ≤ 1) (hfc : fo + 9 < co) (hP : PrimeAt c fo J) (h8 : VL c J (co + 8) x) (hxb : x ≠ 0 ∨ b = 0) (on : pO c (x, y)) :
    ∃ x', pO c (x', y) ∧ x'.val % 2 = b ∧ VL c (cpar c co fo b S J) (co + 8) x' ∧ ∀ r, r ≠ fo + 4 → r ≠ fo + 5 → r ≠ co + 8 → cpar c co fo b S J r = J r := by
  obtain ⟨i1, i2⟩ := isOdd_v c fo (co + 8) (S.1, J, S.2.2) (cf_ne hfc 8 4 (by decide)) hP h8
  have i3 : ∀ r, r ≠ fo + 4 → r ≠ fo + 5 → (fisOdd_f c fo (co + 8) (S.1, J, S.2.2)).2.2.1 r = J r := i2
  clear i2
  unfold cpar
  generalize fisOdd_f c fo (co + 8) (S.1, J, S.2.2) = R at i1 i3 ⊢
  have v8 := VL_row (i3 (co + 8) (cf_ne hfc 8 4 (by decide)) (cf_ne hfc 8 5 (by decide))) h8
  by_cases hx : x.val % 2 = b
  · rw [if_pos (by rw [i1, hx])]
    exact ⟨x, on, hx, v8, fun r h4 h5 _ => i3 r h4 h5⟩
  · rw [if_neg (by
      rw [i1]
      intro e
      have e2 := congrArg uN e
      rw [uN_nI (by omega), uN_nI (by omega)] at e2
      exact hx e2)]
    have hx0 : x ≠ 0 := by
      rcases hxb with h | h
      · exact h
      · intro e
        rw [e] at hx
        exact hx h.symm
    obtain ⟨n1, n2⟩ := neg_v c (co + 8) (co + 8) (S.1, R.2.2.1, S.2.2) v8
    refine ⟨-x, ?_, ?_, n1, fun r h4 h5 h6 => (n2 r h6).trans (i3 r h4 h5)⟩
    · exact pN_on on
    · rw [neg_par hx0]
      omega
theorem cput_s (c : Bool) (co fo to : Nat) (S : StT) (J : Nat → Nat → Int64) {x y : Zp c} (hto : pF co fo to) (ht1 : to + 3 < fo + 1 ∨ fo + 1 < to + 1) (on : pO c (x, y)) (h8 : VL c J (co + 8) x) (h9 : VL c J (co + 9) y) (h1 : VL c J (fo + 1) 1) :
    PV c (cput c co fo to S J) to (x, y) ∧ ∀ r, ¬ (to + 1 ≤ r ∧ r ≤ to + 3) → cput c co fo to S J r = J r := by
  unfold cput
  obtain ⟨a1, a2⟩ := copy_v c (to + 1) (co + 8) (S.1, J, S.2.2) h8
  have a3 : ∀ r, r ≠ to + 1 → (fcopy_f c (to + 1) (co + 8) (S.1, J, S.2.2)).2.1 r = J r := a2
  clear a2
  generalize fcopy_f c (to + 1) (co + 8) (S.1, J, S.2.2) = A at a1 a3 ⊢
  have g9 := VL_row (a3 (co + 9) (pF_c hto 1 9 (by decide)).symm) h9
  have g1 := VL_row (a3 (fo + 1) (by omega)) h1
  obtain ⟨b1, b2⟩ := copy_v c (to + 2) (co + 9) (S.1, A.2.1, S.2.2) g9
  have b3 : ∀ r, r ≠ to + 2 → (fcopy_f c (to + 2) (co + 9) (S.1, A.2.1, S.2.2)).2.1 r = A.2.1 r := b2
  clear b2
  generalize fcopy_f c (to + 2) (co + 9) (S.1, A.2.1, S.2.2) = B at b1 b3 ⊢
  have k1 := VL_row (b3 (fo + 1) (by omega)) g1
  obtain ⟨d1, d2⟩ := copy_v c (to + 3) (fo + 1) (S.1, B.2.1, S.2.2) k1
  have d3 : ∀ r, r ≠ to + 3 → (fcopy_f c (to + 3) (fo + 1) (S.1, B.2.1, S.2.2)).2.1 r = B.2.1 r := d2
  clear d2
  generalize fcopy_f c (to + 3) (fo + 1) (S.1, B.2.1, S.2.2) = D at d1 d3 ⊢
  refine ⟨⟨on, x, y, 1, VL_row (d3 _ (ac_ne (by decide))) (VL_row (b3 _ (ac_ne (by decide))) a1), VL_row (d3 _ (ac_ne (by decide))) b1, d1, fp_10 c, ?_, ?_⟩, fun r hr => (d3 r (tT hr 3 (by decide))).trans ((b3 r (tT hr 2 (by decide))).trans (a3 r (tT hr 1 (by decide))))⟩
  · exact (Lean.Grind.Semiring.mul_one x).symm
  · exact (Lean.Grind.Semiring.mul_one y).symm
theorem cdec_lp (c : Bool) (co fo to nb : Nat) (S3 : StT) (b : Nat) (F : Nat → Nat → Int32) : ∀ n i,
    ((∀ j, i ≤ j → j < i + n → S3.1 (co + 7) j = S3.1 nb j) → cdec_s48 c co fo to nb S3 b (S3.1, S3.2.1, F) n i = cdec_s48 c co fo to nb S3 b (S3.1, S3.2.1, F) 0 (i + n)) ∧ (¬ (∀ j, i ≤ j → j < i + n → S3.1 (co + 7) j = S3.1 nb j) → cdec_s48 c co fo to nb S3 b (S3.1, S3.2.1, F) n i = (nI 0, (S3.1, S3.2.1, F))) := by
  intro n
  induction n with
  | zero => exact fun i => ⟨fun _ => rfl, fun h => absurd (fun j h1 h2 => by omega) h⟩
  | succ n ih =>
    intro i
    obtain ⟨i1, i2⟩ := ih (i + 1)
    have st : cdec_s48 c co fo to nb S3 b (S3.1, S3.2.1, F) (n + 1) i = (if S3.1 (co + 7) i = S3.1 nb i then cdec_s48 c co fo to nb S3 b (S3.1, S3.2.1, F) n (i + 1) else (nI 0, (S3.1, S3.2.1, F))) := by
      rw [cdec_s48]
    rw [st]
    constructor
    · intro h
      rw [if_pos (h i (Nat.le_refl _) (by omega)), i1 (fun j h1 h2 => h j (by omega) (by omega)), cdec_b, cdec_b]
    · intro h
      by_cases e : S3.1 (co + 7) i = S3.1 nb i
      · rw [if_pos e]
        refine i2 (fun q => h (fun j h1 h2 => ?_))
        by_cases e2 : j = i
        · rw [e2]; exact e
        · exact q j (by omega) (by omega)
      · rw [if_neg e]
theorem cdec_s (c : Bool) (co fo to nb : Nat) (S : StT) (hfc : fo + 9 < co) (hto : pF co fo to) (ht1 : to + 3 < fo + 1 ∨ fo + 1 < to + 1) (hnb : nb ≠ co + 7) (hC : CI c co fo S.2.1) (hB : BY (S.1 nb) (cB c)) :
    (((cdec_f c co fo to nb S).1 = nI 1 ∧ (∃ P, Dec c (bv (S.1 nb) (cB c)) P ∧ PV c (cdec_f c co fo to nb S).2.2.1 to P) ∧ ∀ r, ¬ cT co fo r → ¬ (to + 1 ≤ r ∧ r ≤ to + 3) → (cdec_f c co fo to nb S).2.2.1 r = S.2.1 r) ∨ ((cdec_f c co fo to nb S).1 = nI 0 ∧ (∀ P, ¬ Dec c (bv (S.1 nb) (cB c)) P) ∧ ∀ r, ¬ cT co fo r → (cdec_f c co fo to nb S).2.2.1 r = S.2.1 r)) ∧ ∀ r, r ≠ co + 7 → (cdec_f c co fo to nb S).2.1 r = S.1 r := by
  have hN := bv_lt hB
  have tb := top_bit c hB
  have hb : (if S.1 nb (cB c - 1) < nI 128 then 0 else 1) ≤ 1 := by split <;> decide
  obtain ⟨r1, r2⟩ := fread_s c (co + 9) nb S (fun i hi => hB i (Nat.lt_of_lt_of_le hi (by cases c <;> decide)))
  rw [read_y c hB] at r1
  have yD : ∀ P, Dec c (bv (S.1 nb) (cB c)) P → fz c ((bv (S.1 nb) (cB c) % 2 ^ fW c : Nat) : Int) = P.2 := fun P => Dec_y
  have bD : ∀ P, Dec c (bv (S.1 nb) (cB c)) P → bv (S.1 nb) (cB c) / 2 ^ (8 * cK c + 7) = P.1.val % 2 := fun P h => (Dec_val h).2
  unfold cdec_f
  dsimp only
  generalize (if S.1 nb (cB c - 1) < nI 128 then 0 else 1) = b at tb hb ⊢
  rw [← tb] at bD
  generalize hS2 : fread_f c (co + 9) nb S = S2 at r1 r2 ⊢
  generalize hy : fz c ((bv (S.1 nb) (cB c) % 2 ^ fW c : Nat) : Int) = y at r1 yD
  have C2 : CI c co fo S2.2.1 := CI_fr (fun r hr => r2 r (by omega)) hC
  obtain ⟨w1, w2, w3, w4⟩ := cwc_s c co fo (co + 7) (co + 9) (nI b) (S.1, S2.2.1, S.2.2) hb rfl (cf_ne hfc 9 4 (by decide)) C2.1 r1
  have w5 : ∀ r, r ≠ fo + 4 → r ≠ fo + 5 → (cwc_f c co fo (co + 7) (co + 9) (nI b) (S.1, S2.2.1, S.2.2)).2.1 r = S2.2.1 r := w4
  have w6 : ∀ r, r ≠ co + 7 → (cwc_f c co fo (co + 7) (co + 9) (nI b) (S.1, S2.2.1, S.2.2)).1 r = S.1 r := w2
  clear w2 w4
  generalize hS3 : cwc_f c co fo (co + 7) (co + 9) (nI b) (S.1, S2.2.1, S.2.2) = S3 at w1 w3 w5 w6 ⊢
  have C3 : CI c co fo S3.2.1 := CI_fr (fun r hr => w5 r (by omega) (by omega)) C2
  have y3 := VL_row (w5 (co + 9) (cf_ne hfc 9 4 (by decide)) (cf_ne hfc 9 5 (by decide))) r1
  have fr3 : ∀ r, ¬ cT co fo r → S3.2.1 r = S.2.1 r := fun r hr => (w5 r (cT_f hr 4 (by decide)) (cT_f hr 5 (by decide))).trans (r2 r (cT_c hr 9 (by decide)))
  have hl : y.val < 2 ^ (8 * cK c + 7) := Nat.lt_trans (fz_lt y) (nt_lt c)
  have hM : y.val + b * 2 ^ (8 * cK c + 7) < 2 ^ (8 * cB c) := by
    have e : 2 ^ (8 * cB c) = 2 * 2 ^ (8 * cK c + 7) := by
      rw [cK_s c, show 8 * (cK c + 1) = (8 * cK c + 7) + 1 from by omega, Nat.pow_succ, Nat.mul_comm]
    rw [e]
    have h3 : b = 0 ∨ b = 1 := by omega
    rcases h3 with h3 | h3 <;> rw [h3] <;> omega
  have same : (∀ j, 0 ≤ j → j < 0 + cB c → S3.1 (co + 7) j = S3.1 nb j) ↔ bv (S.1 nb) (cB c) = y.val + b * 2 ^ (8 * cK c + 7) := by
    have en : S3.1 nb = S.1 nb := w6 nb hnb
    rw [en]
    constructor
    · intro h
      refine bv_of hM (fun i hi => ?_)
      rw [← h i (Nat.zero_le _) (by omega)]
      exact w1 i hi
    · intro h j _ hj
      have hj' : j < cB c := by omega
      exact uN_ext ((w1 j hj').trans ((congrArg (fun z => z / 2 ^ (8 * j) % 256) h).symm.trans (bv_dig hB hj').symm))
  have noD : bv (S.1 nb) (cB c) ≠ y.val + b * 2 ^ (8 * cK c + 7) → ∀ P, ¬ Dec c (bv (S.1 nb) (cB c)) P := by
    intro h P hD
    refine h ?_
    rw [yD P hD, bD P hD]
    exact hD.2.symm
  obtain ⟨l1, l2⟩ := cdec_lp c co fo to nb S3 b S.2.2 (cB c) 0
  have f1 : ∀ r, r ≠ co + 7 → S3.1 r = S.1 r := w6
  by_cases hs : bv (S.1 nb) (cB c) = y.val + b * 2 ^ (8 * cK c + 7)
  · rw [l1 (same.mpr hs), cdec_b]
    clear l1 l2 same noD w1 w3 w6
    obtain ⟨x1, x2⟩ := cfx_s c co fo (S3.1, S3.2.1, S.2.2) hfc C3 y3
    have x3 : ∀ r, (¬ cT co fo r ∨ r = co + 9) → (cfx_f c co fo (S3.1, S3.2.1, S.2.2)).2.2.1 r = S3.2.1 r := x2
    clear x2
    generalize cfx_f c co fo (S3.1, S3.2.1, S.2.2) = X at x1 x3 ⊢
    have frX : ∀ r, ¬ cT co fo r → X.2.2.1 r = S.2.1 r := fun r hr => (x3 r (Or.inl hr)).trans (fr3 r hr)
    rcases x1 with ⟨x1, x, on, v8⟩ | ⟨x1, no⟩
    · rw [if_neg (by rw [x1]; decide)]
      have v9 := VL_row (x3 (co + 9) (Or.inr rfl)) y3
      have one := VL_row (x3 (fo + 1) (Or.inl (by unfold cT; omega))) C3.2.1
      have pr := PrimeAt_row (x3 (fo + 2) (Or.inl (by unfold cT; omega))) C3.1
      have fin : ∀ J : Nat → Nat → Int64, PrimeAt c fo J → VL c J (co + 8) x → VL c J (co + 9) y → VL c J (fo + 1) 1 → (∀ r, ¬ cT co fo r → J r = S.2.1 r) → (x ≠ 0 ∨ b = 0) →
          (∃ P, Dec c (bv (S.1 nb) (cB c)) P ∧ PV c (cput c co fo to (S3.1, S3.2.1, S.2.2) (cpar c co fo b (S3.1, S3.2.1, S.2.2) J)) to P) ∧ ∀ r, ¬ cT co fo r → ¬ (to + 1 ≤ r ∧ r ≤ to + 3) → cput c co fo to (S3.1, S3.2.1, S.2.2) (cpar c co fo b (S3.1, S3.2.1, S.2.2) J) r = S.2.1 r := by
        intro J q1 q2 q3 q4 q5 q6
        obtain ⟨x', on', pa, p8, pf⟩ := cpar_s c co fo b (S3.1, S3.2.1, S.2.2) J hb hfc q1 q2 q6 on
        obtain ⟨u1, u2⟩ := cput_s c co fo to (S3.1, S3.2.1, S.2.2) (cpar c co fo b (S3.1, S3.2.1, S.2.2) J) hto ht1 on' p8 (VL_row (pf (co + 9) (cf_ne hfc 9 4 (by decide)) (cf_ne hfc 9 5 (by decide)) (ac_ne (by decide))) q3) (VL_row (pf (fo + 1) (ac_ne (by decide)) (ac_ne (by decide)) (by omega)) q4)
        refine ⟨⟨(x', y), ⟨on', ?_⟩, u1⟩, fun r h1 h2 => (u2 r h2).trans ((pf r (cT_f h1 4 (by decide)) (cT_f h1 5 (by decide)) (cT_c h1 8 (by decide))).trans (q5 r h1))⟩
        rw [hs]
        unfold cN
        show y.val + x'.val % 2 * 2 ^ (8 * cK c + 7) = _
        rw [pa]
      have h3 : b = 0 ∨ b = 1 := by omega
      rcases h3 with h3 | h3
      · have k0 : nI b = 0 := by rw [h3]; decide
        rw [if_pos k0]
        obtain ⟨g1, g2⟩ := fin X.2.2.1 pr v8 v9 one frX (Or.inr h3)
        exact ⟨Or.inl ⟨rfl, g1, g2⟩, f1⟩
      · have k0 : ¬ nI b = 0 := by rw [h3]; decide
        rw [if_neg k0]
        obtain ⟨z1, z2⟩ := isZero_v c fo (co + 8) (S3.1, X.2.2.1, S.2.2) (cf_ne hfc 8 4 (by decide)) pr v8
        have z3 : ∀ r, r ≠ fo + 4 → r ≠ fo + 5 → (fisZero_f c fo (co + 8) (S3.1, X.2.2.1, S.2.2)).2.2.1 r = X.2.2.1 r := z2
        clear z2
        generalize fisZero_f c fo (co + 8) (S3.1, X.2.2.1, S.2.2) = Z at z1 z3 ⊢
        have frZ : ∀ r, ¬ cT co fo r → Z.2.2.1 r = S.2.1 r := fun r hr => (z3 r (cT_f hr 4 (by decide)) (cT_f hr 5 (by decide))).trans (frX r hr)
        by_cases hx : x = 0
        · rw [if_pos hx] at z1
          rw [if_neg (by rw [z1]; decide)]
          refine ⟨Or.inr ⟨rfl, fun P hD => ?_, frZ⟩, f1⟩
          have e1 := bD P hD
          have e2 := yD P hD
          obtain ⟨px, py⟩ := P
          have e2' : y = py := e2
          subst e2'
          rw [h3] at e1
          have e1' : 1 = px.val % 2 := e1
          rcases x_two hD.1 on with e | e
          · rw [e, hx, zero_val] at e1'
            exact absurd e1' (by decide)
          · rw [e, hx, show (-0 : Zp c) = 0 from by grind, zero_val] at e1'
            exact absurd e1' (by decide)
        · rw [if_neg hx] at z1
          rw [if_pos (z1.trans (by decide))]
          obtain ⟨g1, g2⟩ := fin Z.2.2.1 (PrimeAt_row (z3 (fo + 2) (ac_ne (by decide)) (ac_ne (by decide))) pr) (VL_row (z3 (co + 8) (cf_ne hfc 8 4 (by decide)) (cf_ne hfc 8 5 (by decide))) v8) (VL_row (z3 (co + 9) (cf_ne hfc 9 4 (by decide)) (cf_ne hfc 9 5 (by decide))) v9) (VL_row (z3 (fo + 1) (ac_ne (by decide)) (ac_ne (by decide))) one) frZ (Or.inl hx)
          exact ⟨Or.inl ⟨rfl, g1, g2⟩, f1⟩
    · rw [if_pos (x1.trans (by decide))]
      refine ⟨Or.inr ⟨rfl, fun P hD => ?_, frX⟩, f1⟩
      have e2 := yD P hD
      refine no P.1 ?_
      rw [e2]
      exact hD.1
  · rw [l2 (fun h => hs (same.mp h))]
    exact ⟨Or.inr ⟨rfl, noD hs, fr3⟩, f1⟩
/-- 1, 2, 4, 8, or 0 -/
def ordS (c : Bool) (P : Pt c) : Nat := if P = (0, 1) then 1 else if pA c P P = (0, 1) then 2 else if pA c (pA c P P) (pA c P P) = (0, 1) then 4 else if pA c (pA c (pA c P P) (pA c P P)) (pA c (pA c P P) (pA c P P)) = (0, 1) then 8 else 0
theorem csmall_s (c : Bool) (co fo p : Nat) (S : StT) {P : Pt c} (hfc : fo + 9 < co) (hp : pX co fo p) (hC : CI c co fo S.2.1) (h1 : PV c S.2.1 p P) :
    (csmall_f c co fo p S).1 = nI (ordS c P) ∧ ∀ r, ¬ cU co fo r → (csmall_f c co fo p S).2.2.1 r = S.2.1 r := by
  have h2F : pF co fo (co + 2) := ⟨Or.inr (by omega), Or.inl (by omega)⟩
  obtain ⟨a1, a2⟩ := ccopy_s c co fo (co + 2) p S (by unfold pX at hp; omega) h1
  unfold csmall_f ordS
  dsimp only
  generalize ccopy_f c co fo (co + 2) p S = A at a1 a2 ⊢
  have rd : ∀ {J : Nat → Nat → Int64}, (∀ r, ¬ cU co fo r → J r = S.2.1 r) → PrimeAt c fo J := fun h => PrimeAt_row (h (fo + 2) (by unfold cU cT; omega)) hC.1
  have fA : ∀ r, ¬ cU co fo r → A.2.1 r = S.2.1 r := fun r hr => a2 r (cU_4 hr)
  have step : ∀ (J : Nat → Nat → Int64) (Q : Pt c), PV c J (co + 2) Q → (∀ r, ¬ cU co fo r → J r = S.2.1 r) →
      (cisN_f c co fo (co + 2) (S.1, J, S.2.2)).1 = (if Q = (0, 1) then nI 1 else nI 0) ∧ (∀ r, ¬ cU co fo r → (cisN_f c co fo (co + 2) (S.1, J, S.2.2)).2.2.1 r = S.2.1 r) ∧ PV c (ctwice_f c co fo (co + 2) (co + 2) (S.1, (cisN_f c co fo (co + 2) (S.1, J, S.2.2)).2.2.1, S.2.2)).2.1 (co + 2) (pA c Q Q) ∧ ∀ r, ¬ cU co fo r → (ctwice_f c co fo (co + 2) (co + 2) (S.1, (cisN_f c co fo (co + 2) (S.1, J, S.2.2)).2.2.1, S.2.2)).2.1 r = S.2.1 r := by
    intro J Q hQ hJ
    obtain ⟨n1, n2⟩ := cisN_s c co fo (co + 2) (S.1, J, S.2.2) h2F (rd hJ) hQ
    have n3 : ∀ r, ¬ cT co fo r → (cisN_f c co fo (co + 2) (S.1, J, S.2.2)).2.2.1 r = J r := n2
    clear n2
    generalize cisN_f c co fo (co + 2) (S.1, J, S.2.2) = N at n1 n3 ⊢
    have hQ2 : PV c N.2.2.1 (co + 2) Q := PV_row (n3 _ (by unfold cT; omega)) (n3 _ (by unfold cT; omega)) (n3 _ (by unfold cT; omega)) hQ
    obtain ⟨t1, t2⟩ := ctwice_s c co fo (co + 2) (co + 2) (S.1, N.2.2.1, S.2.2) hfc h2F h2F hQ2
    exact ⟨n1, fun r hr => (n3 r (cU_T hr)).trans (hJ r hr), t1, fun r hr => (t2 r (cU_T hr) (cU_4 hr)).trans ((n3 r (cU_T hr)).trans (hJ r hr))⟩
  have dbl : ∀ (J : Nat → Nat → Int64) (Q : Pt c), PV c J (co + 2) Q → ∃ z, pA c Q Q = z := fun _ _ _ => ⟨_, rfl⟩
  obtain ⟨s1, s2, s3, s4⟩ := step A.2.1 P a1 fA
  by_cases e1 : P = (0, 1)
  · rw [if_pos e1] at s1
    rw [if_neg (by rw [s1]; decide), if_pos e1]
    exact ⟨rfl, s2⟩
  rw [if_neg e1] at s1
  rw [if_pos (s1.trans (by decide)), if_neg e1]
  generalize cisN_f c co fo (co + 2) (S.1, A.2.1, S.2.2) = N1 at s3 s4 ⊢
  generalize ctwice_f c co fo (co + 2) (co + 2) (S.1, N1.2.2.1, S.2.2) = T1 at s3 s4 ⊢
  generalize pA c P P = P2 at s3 ⊢
  obtain ⟨u1, u2, u3, u4⟩ := step T1.2.1 P2 s3 s4
  by_cases e2 : P2 = (0, 1)
  · rw [if_pos e2] at u1
    rw [if_neg (by rw [u1]; decide), if_pos e2]
    exact ⟨rfl, u2⟩
  rw [if_neg e2] at u1
  rw [if_pos (u1.trans (by decide)), if_neg e2]
  generalize cisN_f c co fo (co + 2) (S.1, T1.2.1, S.2.2) = N2 at u3 u4 ⊢
  generalize ctwice_f c co fo (co + 2) (co + 2) (S.1, N2.2.2.1, S.2.2) = T2 at u3 u4 ⊢
  generalize pA c P2 P2 = P4 at u3 ⊢
  obtain ⟨v1, v2, v3, v4⟩ := step T2.2.1 P4 u3 u4
  by_cases e3 : P4 = (0, 1)
  · rw [if_pos e3] at v1
    rw [if_neg (by rw [v1]; decide), if_pos e3]
    exact ⟨rfl, v2⟩
  rw [if_neg e3] at v1
  rw [if_pos (v1.trans (by decide)), if_neg e3]
  generalize cisN_f c co fo (co + 2) (S.1, T2.2.1, S.2.2) = N3 at v3 v4 ⊢
  generalize ctwice_f c co fo (co + 2) (co + 2) (S.1, N3.2.2.1, S.2.2) = T3 at v3 v4 ⊢
  generalize pA c P4 P4 = P8 at v3 ⊢
  obtain ⟨x1, x2, x3, x4⟩ := step T3.2.1 P8 v3 v4
  by_cases e4 : P8 = (0, 1)
  · rw [if_pos e4] at x1
    rw [if_neg (by rw [x1]; decide), if_pos e4]
    exact ⟨rfl, x2⟩
  rw [if_neg e4] at x1
  rw [if_pos (x1.trans (by decide)), if_neg e4]
  exact ⟨rfl, x4⟩
end
