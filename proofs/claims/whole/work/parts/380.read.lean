section
/-! BYTES into limbs; reading and writing of the field's numbers. -/
theorem rvN_dg (b V : Nat) : ∀ n, rvN (2 ^ b) (fun j => V / 2 ^ (b * j) % 2 ^ b) n = V % 2 ^ (b * n) := by
  intro n
  induction n with
  | zero => rw [Nat.mul_zero, Nat.pow_zero, Nat.mod_one]; rfl
  | succ n ih =>
    show rvN (2 ^ b) (fun j => V / 2 ^ (b * j) % 2 ^ b) n + V / 2 ^ (b * n) % 2 ^ b * (2 ^ b) ^ n = _
    rw [ih, ← Nat.pow_mul, Nat.mul_add, Nat.mul_one, Nat.pow_add, Nat.mod_mul, Nat.mul_comm (2 ^ (b * n))]
theorem rv_nat {b : Nat} {f : Nat → Int} {g : Nat → Nat} : ∀ n, (∀ i, i < n → f i = (g i : Int)) → rv b f n = (rvN (2 ^ b) g n : Int) := by
  intro n
  induction n with
  | zero => intro _; rfl
  | succ n ih =>
    intro h
    show rv b f n + f n * 2 ^ (b * n) = ((rvN (2 ^ b) g n + g n * (2 ^ b) ^ n : Nat) : Int)
    rw [ih (fun i hi => h i (by omega)), h n (by omega), ← Nat.pow_mul]
    push_cast
    rfl
theorem lfrom_lp (to bits by_ : Nat) (S : StT) (hb : 8 ≤ bits ∧ bits ≤ 40) (n : Nat) (hn : n ≤ 100) (hB : BY (S.1 by_) n) (hz : ∀ j, j < 16 → S.2.1 to j = 0) :
    ∀ i, i ≤ n → (∀ j, j < 16 → uL (lfrom_l21 to bits by_ S i to j) = bv (S.1 by_) i / 2 ^ (bits * j) % 2 ^ bits) ∧ ∀ r, r ≠ to → lfrom_l21 to bits by_ S i r = S.2.1 r := by
  have hbb : (2 : Nat) ^ bits ≤ 2 ^ 40 := Nat.pow_le_pow_right (by decide) hb.2
  intro i
  induction i with
  | zero =>
    intro _
    refine ⟨fun j hj => ?_, fun _ _ => rfl⟩
    show uL (S.2.1 to j) = 0 / _ % _
    rw [hz j hj, Nat.zero_div, Nat.zero_mod]
    rfl
  | succ i ih =>
    intro hi
    obtain ⟨i1, i2⟩ := ih (by omega)
    have hx := hB i (by omega)
    have hV : bv (S.1 by_) i < 2 ^ (8 * i) := by
      have := rvN_lt 256 (fun i => uN (S.1 by_ i)) (by decide) i (fun k hk => hB k (by omega))
      rw [Nat.pow_mul]
      exact this
    have hVs : bv (S.1 by_) (i + 1) = bv (S.1 by_) i + uN (S.1 by_ i) * 2 ^ (8 * i) := by
      rw [Nat.pow_mul]
      rfl
    rw [hVs]
    generalize bv (S.1 by_) i = V at i1 hV
    have hmod := Nat.mod_lt (8 * i) (show bits > 0 by omega)
    have hdm := Nat.mod_add_div (8 * i) bits
    have hq0 : 8 * i / bits ≤ 8 * i := Nat.div_le_self _ _
    have pt : uL (((S.1 by_ i).toInt64) <<< ((nI (8 * i % bits)).toInt64 &&& 63)) = uN (S.1 by_ i) * 2 ^ (8 * i % bits) ∧ uN (S.1 by_ i) * 2 ^ (8 * i % bits) < 2 ^ 63 := by
      have a1 : 2 ^ (8 * i % bits) ≤ 2 ^ 40 := Nat.pow_le_pow_right (by decide) (by omega)
      have a2 := Nat.mul_le_mul (Nat.le_of_lt hx) a1
      have a4 : (256 : Nat) * 2 ^ 40 < 2 ^ 63 := by decide
      rw [uL_shl _ (by omega), uL_of32 (by omega)]
      exact ⟨Nat.mod_eq_of_lt (by omega), by omega⟩
    unfold lfrom_l21
    dsimp only
    generalize uN (S.1 by_ i) = x at hx pt ⊢
    generalize ((S.1 by_ i).toInt64) <<< ((nI (8 * i % bits)).toInt64 &&& 63) = part at pt ⊢
    obtain ⟨p1, p2⟩ := pt
    generalize hqq : 8 * i / bits = q at *
    generalize hss : 8 * i % bits = s at *
    have hpw : (2 : Nat) ^ (8 * i) = 2 ^ (bits * q) * 2 ^ s := by rw [← Nat.pow_add, show bits * q + s = 8 * i by omega]
    have hmask : uL (((1 : Int64) <<< ((nI bits).toInt64 &&& 63)) - 1) = 2 ^ bits - 1 := by
      have : ∀ k : Fin 41, 8 ≤ k.val → uL (((1 : Int64) <<< ((nI k.val).toInt64 &&& 63)) - 1) = 2 ^ k.val - 1 := by decide
      exact this ⟨bits, by omega⟩ hb.1
    have hs2 : (2 : Nat) ^ bits = 2 ^ s * 2 ^ (bits - s) := by rw [← Nat.pow_add, show s + (bits - s) = bits by omega]
    -- the digits of the new number
    have dlo : ∀ j, j < q → (V + x * 2 ^ (8 * i)) / 2 ^ (bits * j) % 2 ^ bits = V / 2 ^ (bits * j) % 2 ^ bits := by
      intro j hj
      obtain ⟨t, ht⟩ : ∃ t, q = j + 1 + t := ⟨q - j - 1, by omega⟩
      have : x * 2 ^ (8 * i) = 2 ^ (bits * j) * (2 ^ bits * (x * 2 ^ (bits * t + s))) := by
        have e : 8 * i = bits * j + (bits + (bits * t + s)) := by
          have e2 : bits * q = bits * j + bits + bits * t := by rw [ht, Nat.mul_add, Nat.mul_add, Nat.mul_one]
          omega
        rw [e, Nat.pow_add, Nat.pow_add]
        rw [Nat.mul_left_comm x, Nat.mul_left_comm x]
      rw [this, Nat.add_mul_div_left _ _ (Nat.two_pow_pos _), Nat.add_mul_mod_self_left]
    have vq : V / 2 ^ (bits * q) < 2 ^ s := by
      refine Nat.div_lt_of_lt_mul ?_
      rw [← hpw]
      exact hV
    have dq0 : (V + x * 2 ^ (8 * i)) / 2 ^ (bits * q) = V / 2 ^ (bits * q) + 2 ^ s * x := by
      rw [hpw, Nat.mul_left_comm, Nat.add_mul_div_left _ _ (Nat.two_pow_pos _), Nat.mul_comm x]
    have hvs : V / 2 ^ (bits * q) % 2 ^ bits = V / 2 ^ (bits * q) := Nat.mod_eq_of_lt (by
      have : (2 : Nat) ^ s ≤ 2 ^ bits := Nat.pow_le_pow_right (by decide) (by omega)
      omega)
    have dq : (V + x * 2 ^ (8 * i)) / 2 ^ (bits * q) % 2 ^ bits = V / 2 ^ (bits * q) + x * 2 ^ s % 2 ^ bits := by
      rw [dq0, hs2, Nat.mul_comm x, Nat.mul_mod_mul_left, Nat.mod_mul, Nat.add_mul_mod_self_left, Nat.add_mul_div_left _ _ (Nat.two_pow_pos _), Nat.mod_eq_of_lt vq, Nat.div_eq_of_lt vq, Nat.zero_add]
    have up1 : ∀ W : Nat, W / 2 ^ (bits * (q + 1)) = W / 2 ^ (bits * q) / 2 ^ bits := by
      intro W
      rw [Nat.mul_add, Nat.mul_one, Nat.pow_add, Nat.div_div_eq_div_mul]
    have dq1 : (V + x * 2 ^ (8 * i)) / 2 ^ (bits * (q + 1)) = x * 2 ^ s / 2 ^ bits := by
      rw [up1, dq0, hs2, ← Nat.div_div_eq_div_mul, Nat.add_mul_div_left _ _ (Nat.two_pow_pos _), Nat.div_eq_of_lt vq, Nat.zero_add, Nat.mul_comm x, ← Nat.div_div_eq_div_mul, Nat.mul_comm (2 ^ s), Nat.mul_div_cancel _ (Nat.two_pow_pos _)]
    have xs : x * 2 ^ s < 2 ^ (s + 8) := by
      rw [Nat.pow_add, Nat.mul_comm]
      exact Nat.mul_lt_mul_of_pos_left hx (Nat.two_pow_pos _)
    have xq : x * 2 ^ s / 2 ^ bits < 256 := by
      refine Nat.div_lt_of_lt_mul ?_
      rw [Nat.mul_comm]
      have : (2 : Nat) ^ s ≤ 2 ^ bits := Nat.pow_le_pow_right (by decide) (by omega)
      have h1 := Nat.mul_le_mul_right x this
      have h2 : 2 ^ bits * x < 2 ^ bits * 256 := Nat.mul_lt_mul_of_pos_left hx (Nat.two_pow_pos _)
      omega
    have dhi : ∀ j, q + 2 ≤ j → (V + x * 2 ^ (8 * i)) / 2 ^ (bits * j) = 0 := by
      intro j hj
      obtain ⟨t, ht⟩ : ∃ t, j = q + 1 + (t + 1) := ⟨j - q - 2, by omega⟩
      rw [ht, Nat.mul_add bits (q + 1), Nat.pow_add, ← Nat.div_div_eq_div_mul, dq1]
      refine Nat.div_eq_of_lt (Nat.lt_of_lt_of_le xq ?_)
      rw [show (256 : Nat) = 2 ^ 8 from rfl]
      refine Nat.pow_le_pow_right (by decide) ?_
      have : bits * (t + 1) = bits * t + bits := by rw [Nat.mul_add, Nat.mul_one]
      omega
    have ohi : ∀ j, q + 1 ≤ j → V / 2 ^ (bits * j) = 0 := by
      intro j hj
      refine Nat.div_eq_of_lt (Nat.lt_of_lt_of_le hV (Nat.pow_le_pow_right (by decide) ?_))
      have e1 : bits * (q + 1) ≤ bits * j := Nat.mul_le_mul_left _ hj
      rw [Nat.mul_add, Nat.mul_one] at e1
      omega
    have xqm : x * 2 ^ s / 2 ^ bits % 2 ^ bits = x * 2 ^ s / 2 ^ bits := Nat.mod_eq_of_lt (Nat.lt_of_lt_of_le xq (by
      rw [show (256 : Nat) = 2 ^ 8 from rfl]
      exact Nat.pow_le_pow_right (by decide) hb.1))
    generalize lfrom_l21 to bits by_ S i = y at i1 i2 ⊢
    by_cases hq16 : 16 ≤ q
    · rw [if_pos ((nI_leI (by decide) (by omega)).mpr hq16)]
      have fin : (∀ j, j < 16 → uL (y to j) = (V + x * 2 ^ (8 * i)) / 2 ^ (bits * j) % 2 ^ bits) ∧ ∀ r, r ≠ to → y r = S.2.1 r := ⟨fun j hj => by rw [dlo j (by omega)]; exact i1 j hj, i2⟩
      split
      · exact fin
      · rw [if_pos ((nI_leI (by decide) (by omega)).mpr (by omega))]
        exact fin
    · rw [if_neg (fun h => hq16 ((nI_leI (by decide) (by omega)).mp h))]
      have hor : uL (y to q ||| (part &&& (((1 : Int64) <<< ((nI bits).toInt64 &&& 63)) - 1))) = V / 2 ^ (bits * q) + x * 2 ^ s % 2 ^ bits := by
        rw [uL_or, uL_and hmask, p1, i1 q (by omega), hvs, hs2, Nat.mul_comm x, Nat.mul_mod_mul_left, or_add vq]
      generalize (y to q ||| (part &&& (((1 : Int64) <<< ((nI bits).toInt64 &&& 63)) - 1))) = w at hor ⊢
      have j6 : ∀ j, va_up y to (vp_updL (y to) q w) to j = if j = q then w else y to j := fun j => by rw [vu_s]; rfl
      have f6 : ∀ r, r ≠ to → va_up y to (vp_updL (y to) q w) r = S.2.1 r := fun r hr => (vu_n hr).trans (i2 r hr)
      generalize va_up y to (vp_updL (y to) q w) = y6 at j6 f6 ⊢
      have lo6 : ∀ j, j < 16 → j ≤ q → uL (y6 to j) = (V + x * 2 ^ (8 * i)) / 2 ^ (bits * j) % 2 ^ bits := by
        intro j hj hjq
        rw [j6]
        by_cases e : j = q
        · rw [if_pos e, e, dq, hor]
        · rw [if_neg e, dlo j (by omega)]
          exact i1 j hj
      have hi6 : ∀ j, j < 16 → q < j → uL (y6 to j) = 0 := by
        intro j hj hjq
        rw [j6, if_neg (by omega), i1 j hj, ohi j (by omega), Nat.zero_mod]
      by_cases hs8 : s + 8 < bits
      · rw [if_pos ((nI_ltI (by omega) (by omega)).mpr hs8)]
        refine ⟨fun j hj => ?_, f6⟩
        by_cases hjq : j ≤ q
        · exact lo6 j hj hjq
        · rw [hi6 j hj (by omega)]
          by_cases e : j = q + 1
          · rw [e, dq1, Nat.div_eq_of_lt (Nat.lt_of_lt_of_le xs (Nat.pow_le_pow_right (by decide) (by omega))), Nat.zero_mod]
          · rw [dhi j (by omega), Nat.zero_mod]
      · rw [if_neg (fun h => hs8 ((nI_ltI (by omega) (by omega)).mp h))]
        by_cases hq1 : 16 ≤ q + 1
        · rw [if_pos ((nI_leI (by decide) (by omega)).mpr hq1)]
          exact ⟨fun j hj => lo6 j hj (by omega), f6⟩
        · rw [if_neg (fun h => hq1 ((nI_leI (by decide) (by omega)).mp h))]
          have hsh : uL (part >>> ((nI bits).toInt64 &&& 63)) = x * 2 ^ s / 2 ^ bits := by rw [uL_shr (by omega) (by omega), p1]
          generalize part >>> ((nI bits).toInt64 &&& 63) = w9 at hsh ⊢
          refine ⟨fun j hj => ?_, fun r hr => (vu_n hr).trans (f6 r hr)⟩
          rw [vu_s]
          show uL (if j = q + 1 then w9 else y6 to j) = _
          by_cases e : j = q + 1
          · rw [if_pos e, e, dq1, hsh, xqm]
          · rw [if_neg e]
            by_cases hjq : j ≤ q
            · exact lo6 j hj hjq
            · rw [hi6 j hj (by omega), dhi j (by omega), Nat.zero_mod]
theorem lfrom_s (to bits by_ n : Nat) (S : StT) (hb : 8 ≤ bits ∧ bits ≤ 40) (hn : n ≤ 100) (hB : BY (S.1 by_) n) :
    (∀ j, j < 16 → uL ((lfrom_f to bits by_ n S).2.1 to j) = bv (S.1 by_) n / 2 ^ (bits * j) % 2 ^ bits) ∧ ∀ r, r ≠ to → (lfrom_f to bits by_ n S).2.1 r = S.2.1 r := by
  obtain ⟨f1, f2⟩ := fill_s to 16 S
  obtain ⟨l1, l2⟩ := lfrom_lp to bits by_ (S.1, (fill_f to 16 0 S).2.1, S.2.2) hb n hn hB f1 n (Nat.le_refl _)
  exact ⟨l1, fun r hr => (l2 r hr).trans (f2 r hr)⟩
/-- the bits of a field's numbers -/
def fW (c : Bool) : Nat := fb c * (fL c - 1) + ft c
theorem fW_v (c : Bool) : fW c = if c then 448 else 255 := by cases c <;> rfl
theorem uL_lt63 {x : Int64} {b : Nat} (h : uL x < 2 ^ b) (hb : b ≤ 63) : uL x < 2 ^ 63 := Nat.lt_of_lt_of_le h (Nat.pow_le_pow_right (by decide) hb)
theorem fread_s (c : Bool) (to fr : Nat) (S : StT) (hB : BY (S.1 fr) (fB c)) :
    VL c (fread_f c to fr S).2.1 to (fz c ((bv (S.1 fr) (fB c) % 2 ^ fW c : Nat) : Int)) ∧ ∀ r, r ≠ to → (fread_f c to fr S).2.1 r = S.2.1 r := by
  have hL := fL_le c
  have hfb := fb_le c
  have hft := ft_le c
  obtain ⟨l1, l2⟩ := lfrom_s to (fb c) fr (fB c) S (by omega) (by cases c <;> decide) hB
  generalize hT : lfrom_f to (fb c) fr (fB c) S = T at l1 l2
  generalize bv (S.1 fr) (fB c) = V at l1 ⊢
  have en : (fread_f c to fr S).2.1 = va_up T.2.1 to (vp_updL (T.2.1 to) (fL c - 1) (T.2.1 to (fL c - 1) &&& fN c)) := by
    unfold fread_f
    rw [hT]
  rw [en]
  refine ⟨?_, fun r hr => (vu_n hr).trans (l2 r hr)⟩
  have hN : uL (fN c) = 2 ^ ft c - 1 := by cases c <;> decide
  have dg : ∀ j, j < fL c → uL (va_up T.2.1 to (vp_updL (T.2.1 to) (fL c - 1) (T.2.1 to (fL c - 1) &&& fN c)) to j) = if j = fL c - 1 then V / 2 ^ (fb c * (fL c - 1)) % 2 ^ ft c else V / 2 ^ (fb c * j) % 2 ^ fb c := by
    intro j hj
    rw [vu_s]
    show uL (if j = fL c - 1 then _ else _) = _
    by_cases e : j = fL c - 1
    · rw [if_pos e, if_pos e, uL_and hN, l1 _ (by omega)]
      exact Nat.mod_mod_of_dvd _ (Nat.pow_dvd_pow 2 (by cases c <;> decide))
    · rw [if_neg e, if_neg e, l1 _ (by omega)]
  have lt : ∀ j, j < fL c → uL (va_up T.2.1 to (vp_updL (T.2.1 to) (fL c - 1) (T.2.1 to (fL c - 1) &&& fN c)) to j) < 2 ^ fw c j := by
    intro j hj
    rw [dg j hj]
    unfold fw
    by_cases e : j = fL c - 1
    · rw [if_pos e, if_pos e]
      exact Nat.mod_lt _ (Nat.two_pow_pos _)
    · rw [if_neg e, if_neg e]
      exact Nat.mod_lt _ (Nat.two_pow_pos _)
  have hfw : ∀ j, fw c j ≤ 63 := by
    intro j
    unfold fw
    split <;> omega
  have hi : ∀ j, j < fL c → ri (va_up T.2.1 to (vp_updL (T.2.1 to) (fL c - 1) (T.2.1 to (fL c - 1) &&& fN c))) to j = ((if j = fL c - 1 then V / 2 ^ (fb c * (fL c - 1)) % 2 ^ ft c else V / 2 ^ (fb c * j) % 2 ^ fb c : Nat) : Int) := by
    intro j hj
    unfold ri
    rw [uL_int (uL_lt63 (lt j hj) (hfw j)), dg j hj]
  refine ⟨fun j hj => ?_, ?_⟩
  · have e1 := lt j hj
    unfold ri
    rw [uL_int (uL_lt63 e1 (hfw j))]
    have e2 : ((uL (va_up T.2.1 to (vp_updL (T.2.1 to) (fL c - 1) (T.2.1 to (fL c - 1) &&& fN c)) to j) : Nat) : Int) < ((2 ^ fw c j : Nat) : Int) := Int.ofNat_lt.mpr e1
    have e3 : ((2 ^ fw c j : Nat) : Int) = 2 ^ fw c j := by push_cast; rfl
    omega
  · unfold FV fvl
    rw [rv_nat (fL c) hi]
    congr 1
    congr 1
    obtain ⟨m, hm⟩ : ∃ m, fL c = m + 1 := ⟨fL c - 1, by omega⟩
    unfold fW
    rw [hm, Nat.add_sub_cancel]
    show rvN (2 ^ fb c) _ m + (if m = m then _ else _) * (2 ^ fb c) ^ m = _
    rw [if_pos rfl, rvN_congr (g := fun j => V / 2 ^ (fb c * j) % 2 ^ fb c) m (fun j hj => if_neg (by omega)), rvN_dg, ← Nat.pow_mul, Nat.pow_add, Nat.mod_mul, Nat.mul_comm (2 ^ (fb c * m))]
theorem fwrite_s (c : Bool) (o to a : Nat) (S : StT) {v : Zp c} (hao : a ≠ o + 4) (hP : PrimeAt c o S.2.1) (ha : VL c S.2.1 a v) :
    (∀ i, i < fB c → uN ((fwrite_f c o to a S).1 to i) = v.val / 2 ^ (8 * i) % 256) ∧ (∀ r, r ≠ to → (fwrite_f c o to a S).1 r = S.1 r) ∧ (∀ j, fB c ≤ j → (fwrite_f c o to a S).1 to j = S.1 to j) ∧ ∀ r, r ≠ o + 4 → r ≠ o + 5 → (fwrite_f c o to a S).2.1 r = S.2.1 r := by
  obtain ⟨z1, z2, z3⟩ := freeze_s c o a S hao hP ha.1
  generalize hT : freeze_f c o a S = T at z1 z2 z3
  have hfb := fb_le c
  have lm : ∀ j, j < fL c → uL (T.2.1 (o + 4) j) < 2 ^ fb c := by
    intro j hj
    obtain ⟨e1, e2⟩ := z1 j hj
    obtain ⟨u1, u2⟩ := uL_of_int (x := T.2.1 (o + 4) j) e1
    have e2' : (T.2.1 (o + 4) j).toInt < 2 ^ fb c := e2
    rw [← u1] at e2'
    have e3 : ((2 ^ fb c : Nat) : Int) = 2 ^ fb c := by push_cast; rfl
    rw [← e3] at e2'
    exact Int.ofNat_lt.mp e2'
  have hv : rvN (2 ^ fb c) (fun j => uL (T.2.1 (o + 4) j)) (fL c) = v.val := by
    have e : fvl c (ri T.2.1 (o + 4)) = (rvN (2 ^ fb c) (fun j => uL (T.2.1 (o + 4) j)) (fL c) : Int) := rv_nat (fL c) (fun j hj => (uL_of_int (z1 j hj).1).1.symm)
    rw [z2, ha.2] at e
    exact (Int.ofNat_inj.mp e).symm
  obtain ⟨w1, w2, w3⟩ := lto_s to 0 (fB c) (o + 4) (fb c) (fL c) (S.1, T.2.1, S.2.2) (by omega) (fL_le c).2 lm (Or.inr (by cases c <;> decide)) (by cases c <;> decide)
  rw [hv] at w1
  have en : (fwrite_f c o to a S) = ((lto_f to 0 (fB c) (o + 4) (fb c) (S.1, T.2.1, S.2.2)).1, T.2.1, S.2.2) := by
    unfold fwrite_f
    rw [hT]
    rfl
  rw [en]
  refine ⟨fun i hi => ?_, w2, fun j hj => w3 j (by omega), z3⟩
  have := w1 i hi
  rw [Nat.zero_add] at this
  exact this
end
