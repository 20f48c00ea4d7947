section
/-! SHA-512: the same digest. -/
theorem l27_lp (mo q : Nat) (S : StT) : ∀ n, (∀ k, q + 1 ≤ k → k < q + 1 + n → msha_l27 mo q S n (mo + 11) k = nI 0) ∧ (∀ k, (k < q + 1 ∨ q + 1 + n ≤ k) → msha_l27 mo q S n (mo + 11) k = S.1 (mo + 11) k) ∧ ∀ r, r ≠ mo + 11 → msha_l27 mo q S n r = S.1 r := by
  intro n
  induction n with
  | zero => exact ⟨fun k h1 h2 => by omega, fun _ _ => rfl, fun _ _ => rfl⟩
  | succ n ih =>
    obtain ⟨h1, h2, h3⟩ := ih
    unfold msha_l27
    dsimp only
    refine ⟨fun k hk1 hk2 => ?_, fun k hk => ?_, fun r hr => (vu_n hr).trans (h3 r hr)⟩
    · rw [vu_s]
      show (if k = q + 1 + n then nI 0 else _) = nI 0
      split
      · rfl
      · exact h1 k hk1 (by omega)
    · rw [vu_s]
      exact (if_neg (by omega)).trans (h2 k (by omega))
def l66v (q i : Nat) : Int32 := if (nI (4)) ≤ (nI (16 - 1 - i)) then nI (0) else ((nI (8 * q)) >>> ((nI (8 * (16 - 1 - i))) &&& 31)) &&& (nI (255))
theorem l66_lp (mo q : Nat) (S : StT) : ∀ n, (∀ i, i < n → msha_l66 mo q S n (mo + 11) (q + 1 + shN q + i) = l66v q i) ∧ (∀ k, k < q + 1 + shN q → msha_l66 mo q S n (mo + 11) k = S.1 (mo + 11) k) ∧ ∀ r, r ≠ mo + 11 → msha_l66 mo q S n r = S.1 r := by
  intro n
  induction n with
  | zero => exact ⟨fun i hi => absurd hi (Nat.not_lt_zero _), fun _ _ => rfl, fun _ _ => rfl⟩
  | succ n ih =>
    obtain ⟨h1, h2, h3⟩ := ih
    have st : msha_l66 mo q S (n + 1) = va_up (msha_l66 mo q S n) (mo + 11) (upd (msha_l66 mo q S n (mo + 11)) (q + 1 + shN q + n) (l66v q n)) := rfl
    rw [st]
    refine ⟨fun i hi => ?_, fun k hk => ?_, fun r hr => (vu_n hr).trans (h3 r hr)⟩
    · rw [vu_s]
      show (if q + 1 + shN q + i = q + 1 + shN q + n then l66v q n else _) = _
      by_cases e : i = n
      · rw [if_pos (by omega), e]
      · rw [if_neg (by omega)]
        exact h1 i (by omega)
    · rw [vu_s]
      exact (if_neg (by omega)).trans (h2 k hk)
theorem shN_pd (q : Nat) : q + 1 + shN q + 16 = ((q + 16) / 128 + 1) * 128 := by
  unfold shN
  omega
theorem l66v_v {q i : Nat} (hq : q < 8000) (hi : i < 16) : l66v q i = nI (if i = 15 then (8 * q) % 2 ^ 8 else if i = 14 then ((8 * q) / 2 ^ 8) % 2 ^ 8 else 0) := by
  unfold l66v
  by_cases h : 4 ≤ 16 - 1 - i
  · rw [if_pos ((nle (by omega) (by omega)).mpr h), if_neg (by omega), if_neg (by omega)]
  · rw [if_neg (fun z => h ((nle (by omega) (by omega)).mp z))]
    refine uN_ext ?_
    have e1 : uN (((nI (8 * q)) >>> ((nI (8 * (16 - 1 - i))) &&& 31)) &&& nI (2 ^ 8 - 1)) = uN ((nI (8 * q)) >>> ((nI (8 * (16 - 1 - i))) &&& 31)) % 2 ^ 8 := uN_and (by decide)
    have e2 := uN_nI (m := 8 * q) (by omega)
    rw [sh_nat (by rw [e2]; omega) (by omega), e2] at e1
    refine Eq.trans e1 ?_
    have hc : i = 15 ∨ i = 14 ∨ i = 13 ∨ i = 12 := by omega
    rcases hc with h | h | h | h
    · rw [h, if_pos rfl, uN_nI (by omega)]
      omega
    · rw [h, if_neg (by decide), if_pos rfl, uN_nI (by omega)]
    · rw [h, if_neg (by decide), if_neg (by decide), uN_nI (by decide)]
      omega
    · rw [h, if_neg (by decide), if_neg (by decide), uN_nI (by decide)]
      omega
/-- the padded bytes of the model -/
def mpd (mo q : Nat) (S : StT) : Nat → Nat → Int32 := msha_l66 mo q ((msha_l27 mo q (va_up S.1 (mo + 11) (upd (S.1 (mo + 11)) (q) (nI (128))), S.2.1, S.2.2) (shN q)), S.2.1, S.2.2) 16
theorem mpd_row (mo q : Nat) (S : StT) : ∀ r, r ≠ mo + 11 → mpd mo q S r = S.1 r := by
  intro r hr
  unfold mpd
  rw [(l66_lp mo q _ 16).2.2 r hr]
  exact ((l27_lp mo q _ (shN q)).2.2 r hr).trans (vu_n hr)
theorem pad_eq (mo ro q : Nat) (S M : StT) (hq : q < 700) (h : ∀ i, i < q → S.1 (ro + 1) i = M.1 (mo + 11) i) : ∀ k, k < ((q + 16) / 128 + 1) * 128 → (hpad_f ro q k (((q + 16) / 128 + 1) * 128) S).1 = mpd mo q M (mo + 11) k := by
  intro k hk
  have hpd := shN_pd q
  obtain ⟨a1, a2, a3⟩ := l27_lp mo q (va_up M.1 (mo + 11) (upd (M.1 (mo + 11)) q (nI 128)), M.2.1, M.2.2) (shN q)
  obtain ⟨b1, b2, _⟩ := l66_lp mo q ((msha_l27 mo q (va_up M.1 (mo + 11) (upd (M.1 (mo + 11)) (q) (nI (128))), M.2.1, M.2.2) (shN q)), M.2.1, M.2.2) 16
  have em : ∀ j, va_up M.1 (mo + 11) (upd (M.1 (mo + 11)) q (nI 128)) (mo + 11) j = if j = q then nI 128 else M.1 (mo + 11) j := fun j => by rw [vu_s]; rfl
  have hsh : shN q < 128 := by unfold shN; omega
  unfold mpd hpad_f
  rcases Nat.lt_or_ge k q with h1 | h1
  · rw [if_neg (fun z => by have := (nle (by omega) (by omega)).mp z; omega)]
    rw [b2 k (by omega)]
    show S.1 (ro + 1) k = msha_l27 mo q (va_up M.1 (mo + 11) (upd (M.1 (mo + 11)) q (nI 128)), M.2.1, M.2.2) (shN q) (mo + 11) k
    rw [a2 k (by omega)]
    show _ = va_up M.1 (mo + 11) (upd (M.1 (mo + 11)) q (nI 128)) (mo + 11) k
    rw [em, if_neg (by omega), h k h1]
  · rw [if_pos ((nle (by omega) (by omega)).mpr h1)]
    have neq : ∀ {a b : Nat}, a < 2 ^ 16 → b < 2 ^ 16 → a ≠ b → nI a ≠ nI b := by
      intro a b ha hb hab e
      have e2 := congrArg uN e
      rw [uN_nI (by omega), uN_nI (by omega)] at e2
      exact hab e2
    rcases Nat.eq_or_lt_of_le h1 with h2 | h2
    · subst h2
      rw [if_neg (fun z => z rfl), b2 q (by omega)]
      show nI 128 = msha_l27 mo q (va_up M.1 (mo + 11) (upd (M.1 (mo + 11)) q (nI 128)), M.2.1, M.2.2) (shN q) (mo + 11) q
      rw [a2 q (by omega)]
      show _ = va_up M.1 (mo + 11) (upd (M.1 (mo + 11)) q (nI 128)) (mo + 11) q
      rw [em, if_pos rfl]
    · rw [if_pos (neq (by omega) (by omega) (by omega))]
      rcases Nat.lt_or_ge k (q + 1 + shN q) with h3 | h3
      · rw [if_pos (neq (by omega) (by decide) (by omega)), if_pos (neq (by omega) (by decide) (by omega)), b2 k h3]
        exact (a1 k (by omega) h3).symm
      · obtain ⟨i, hi⟩ : ∃ i, k = q + 1 + shN q + i := ⟨k - (q + 1 + shN q), by omega⟩
        have hi16 : i < 16 := by omega
        rw [hi, b1 i hi16, l66v_v (by omega) hi16]
        rw [show ((q + 16) / 128 + 1) * 128 - (q + 1 + shN q + i) = 16 - i from by omega]
        by_cases e15 : i = 15
        · rw [e15, if_neg (fun z => z rfl), if_pos rfl]
        · rw [if_pos (neq (by omega) (by decide) (by omega)), if_neg e15]
          by_cases e14 : i = 14
          · rw [e14, if_neg (fun z => z rfl), if_pos rfl]
          · rw [if_pos (neq (by omega) (by decide) (by omega)), if_neg e14]
set_option maxRecDepth 100000 in
theorem hdig_st (so ro q : Nat) (S : StT) (n : Nat) : hdig_l35 so ro q S (n + 1) = (hcomp_f so (S.1, (hload_f so ro q (n * 128) (((q + 16) / 128 + 1) * 128) (S.1, hdig_l35 so ro q S n, S.2.2)).2.1, S.2.2)).2.1 := by
  dsimp only [hdig_l35]
set_option maxRecDepth 100000 in
theorem msha_st (mo q : Nat) (S : StT) (n : Nat) : msha_l145 mo q S (n + 1) = ((mshaB_f mo (128 * n) ((msha_l145 mo q S n).1, (msha_l145 mo q S n).2, fs S.2.2 mo 17 (nI (q + 1 + shN q + 16)))).1, (mshaB_f mo (128 * n) ((msha_l145 mo q S n).1, (msha_l145 mo q S n).2, fs S.2.2 mo 17 (nI (q + 1 + shN q + 16)))).2.1) := by
  dsimp only [msha_l145]
theorem sh_blocks (so ro mo q : Nat) (S M : StT) (Y0 : Nat → Nat → Int64) (I0 : Nat → Nat → Int32) (K0 : Nat → Nat → Int64) (F0 : Nat → Nat → Int32) (hq : q < 700)
    (hp : ∀ k, k < ((q + 16) / 128 + 1) * 128 → (hpad_f ro q k (((q + 16) / 128 + 1) * 128) S).1 = I0 (mo + 11) k) (hk : ∀ i, i < 80 → K0 (mo + 15) i = hkF i) (hh : ∀ i, i < 8 → Y0 (so + 1) i = K0 (mo + 13) i) : ∀ n, n ≤ (q + 16) / 128 + 1 →
    (∀ i, i < 8 → hdig_l35 so ro q (S.1, Y0, S.2.2) n (so + 1) i = (msha_l145 mo q (I0, K0, F0) n).2 (mo + 13) i) ∧ (∀ r, r ≠ so + 1 → r ≠ so + 2 → hdig_l35 so ro q (S.1, Y0, S.2.2) n r = Y0 r) ∧ (∀ r, r ≠ mo + 13 → r ≠ mo + 16 → (msha_l145 mo q (I0, K0, F0) n).2 r = K0 r) ∧ (msha_l145 mo q (I0, K0, F0) n).1 = I0 := by
  intro n
  induction n with
  | zero => exact fun _ => ⟨hh, fun _ _ _ => rfl, fun _ _ _ => rfl, rfl⟩
  | succ n ih =>
    intro hn
    obtain ⟨h1, h2, h3, h4⟩ := ih (by omega)
    have st := hdig_st so ro q (S.1, Y0, S.2.2) n
    dsimp only at st
    have sm := msha_st mo q (I0, K0, F0) n
    dsimp only at sm
    rw [st, sm, h4]
    clear st sm
    generalize hdig_l35 so ro q (S.1, Y0, S.2.2) n = Y at h1 h2 ⊢
    generalize (msha_l145 mo q (I0, K0, F0) n).2 = K at h1 h3 ⊢
    obtain ⟨l1, l2⟩ := hload_s so ro q (n * 128) (((q + 16) / 128 + 1) * 128) (S.1, Y, S.2.2)
    have l3 : ∀ r, r ≠ so + 2 → (hload_f so ro q (n * 128) (((q + 16) / 128 + 1) * 128) (S.1, Y, S.2.2)).2.1 r = Y r := l2
    generalize hload_f so ro q (n * 128) (((q + 16) / 128 + 1) * 128) (S.1, Y, S.2.2) = L at l1 l3 ⊢
    obtain ⟨c1, c2⟩ := hcomp_s so (S.1, L.2.1, S.2.2)
    obtain ⟨W, w1, w2, w3, w4, _⟩ := mshaB_s mo (128 * n) (I0, K, fs F0 mo 17 (nI (q + 1 + shN q + 16)))
    have hb : ∀ i, i < 16 → w8 (fun j => (hpad_f ro q (n * 128 + (8 * i) + j) (((q + 16) / 128 + 1) * 128) (S.1, Y, S.2.2)).1) 8 = w8 (fun j => I0 (mo + 11) (128 * n + (8 * i) + j)) 8 := by
      intro i hi
      refine w8_congr 8 (fun j hj => ?_)
      rw [hpad_I ro q _ _ S.1 Y S.2.1 S.2.2 S.2.2]
      have := hp (n * 128 + 8 * i + j) (by omega)
      rw [show 128 * n + 8 * i + j = n * 128 + 8 * i + j from by omega]
      exact this
    have hW := SW_uniq hb l1 w1 80
    have eL : ∀ i, L.2.1 (so + 1) i = Y (so + 1) i := fun i => by rw [l3 (so + 1) (by omega)]
    have eK : K (mo + 15) = K0 (mo + 15) := h3 (mo + 15) (by omega) (by omega)
    have key : sRn hkF (L.2.1 (so + 2)) (L.2.1 (so + 1) 0, L.2.1 (so + 1) 1, L.2.1 (so + 1) 2, L.2.1 (so + 1) 3, L.2.1 (so + 1) 4, L.2.1 (so + 1) 5, L.2.1 (so + 1) 6, L.2.1 (so + 1) 7) 80 = sRn (K (mo + 15)) W (K (mo + 13) 0, K (mo + 13) 1, K (mo + 13) 2, K (mo + 13) 3, K (mo + 13) 4, K (mo + 13) 5, K (mo + 13) 6, K (mo + 13) 7) 80 := by
      rw [eL, eL, eL, eL, eL, eL, eL, eL, h1 0 (by decide), h1 1 (by decide), h1 2 (by decide), h1 3 (by decide), h1 4 (by decide), h1 5 (by decide), h1 6 (by decide), h1 7 (by decide)]
      exact sRn_congr _ 80 (fun i hi => ⟨by rw [eK]; exact (hk i hi).symm, hW i hi hi⟩)
    refine ⟨fun i hi => ?_, fun r q1 q2 => (c2 r q1).trans ((l3 r q2).trans (h2 r q1 q2)), fun r q1 q2 => (w3 r q1 q2).trans (h3 r q1 q2), w4⟩
    have e1 := c1 i hi
    have e2 := w2 i hi
    have e1' : (hcomp_f so (S.1, L.2.1, S.2.2)).2.1 (so + 1) i = L.2.1 (so + 1) i + x8 (sRn hkF (L.2.1 (so + 2)) (L.2.1 (so + 1) 0, L.2.1 (so + 1) 1, L.2.1 (so + 1) 2, L.2.1 (so + 1) 3, L.2.1 (so + 1) 4, L.2.1 (so + 1) 5, L.2.1 (so + 1) 6, L.2.1 (so + 1) 7) 80) i := e1
    have e2' : (mshaB_f mo (128 * n) (I0, K, fs F0 mo 17 (nI (q + 1 + shN q + 16)))).2.1 (mo + 13) i = K (mo + 13) i + x8 (sRn (K (mo + 15)) W (K (mo + 13) 0, K (mo + 13) 1, K (mo + 13) 2, K (mo + 13) 3, K (mo + 13) 4, K (mo + 13) 5, K (mo + 13) 6, K (mo + 13) 7) 80) i := e2
    show (hcomp_f so (S.1, L.2.1, S.2.2)).2.1 (so + 1) i = (mshaB_f mo (128 * n) (I0, K, fs F0 mo 17 (nI (q + 1 + shN q + 16)))).2.1 (mo + 13) i
    rw [e1', e2', key, eL, h1 i hi]
theorem uL_ushr (x : Int64) {s : Nat} (hs : s < 64) : uL ((x.toUInt64 >>> ((nI s).toInt64.toUInt64 &&& Int64.toUInt64 63)).toInt64) = uL x / 2 ^ s := by
  have e : ∀ s : Fin 64, ((nI s.val).toInt64.toUInt64 &&& Int64.toUInt64 63).toNat % 64 = s.val := by decide
  show (x.toUInt64 >>> ((nI s).toInt64.toUInt64 &&& Int64.toUInt64 63)).toNat = x.toUInt64.toNat / 2 ^ s
  rw [UInt64.toNat_shiftRight, Nat.shiftRight_eq_div_pow, e ⟨s, hs⟩]
/-- a byte of a word, by either shift -/
theorem by64 (x : Int64) {s : Nat} (hs : s ≤ 56) : ((x >>> ((nI s).toInt64 &&& 63)).toInt32 &&& nI 255) = (((x.toUInt64 >>> ((nI s).toInt64.toUInt64 &&& Int64.toUInt64 63)).toInt64).toInt32 &&& nI 255) := by
  refine uN_ext ?_
  rw [by8, by8, uN_of64, uN_of64, uL_ushr x (by omega)]
  have h1 := w_shr x ((nI s).toInt64 &&& 63) s (s63 (by omega))
  have h2 : ((uL (x >>> ((nI s).toInt64 &&& 63)) % 2 ^ 8 : Nat) : Int) = (x >>> ((nI s).toInt64 &&& 63)).toInt % 2 ^ 8 := (w_emod (by decide)).symm
  have hx : x.toInt = if 2 * uL x < 2 ^ 64 then (uL x : Int) else (uL x : Int) - (2 ^ 64 : Nat) := BitVec.toInt_eq_toNat_cond x.toBitVec
  rw [h1] at h2
  have hl := uL_lt x
  have key : x.toInt / 2 ^ s % 2 ^ 8 = ((uL x / 2 ^ s % 2 ^ 8 : Nat) : Int) := by
    by_cases hc : 2 * uL x < 2 ^ 64
    · rw [if_pos hc] at hx
      rw [hx, Int.natCast_emod, Int.natCast_ediv, Int.natCast_pow, Int.natCast_pow]
      rfl
    · rw [if_neg hc] at hx
      have e : (uL x : Int) - ((2 ^ 64 : Nat) : Int) = (uL x : Int) + (-(2 ^ (56 - s)) * 2 ^ 8) * 2 ^ s := by
        have e2 : (2 : Int) ^ 64 = 2 ^ (56 - s) * 2 ^ 8 * 2 ^ s := by
          rw [← Int.pow_add, ← Int.pow_add, show 56 - s + 8 + s = 64 from by omega]
        rw [show ((2 ^ 64 : Nat) : Int) = (2 : Int) ^ 64 from by rw [Int.natCast_pow]; rfl, e2, Int.neg_mul, Int.neg_mul]
        rfl
      rw [hx, e, Int.add_mul_ediv_right _ _ (Int.ne_of_gt (Int.pow_pos (by decide))), Int.add_mul_emod_self_right, Int.natCast_emod, Int.natCast_ediv, Int.natCast_pow, Int.natCast_pow]
      rfl
  rw [key] at h2
  omega
set_option maxRecDepth 100000 in
theorem sha_eq (so to ro mo q nn : Nat) (S M : StT) (hq : q < 700) (hn : nn ≤ 64) (h : ∀ i, i < q → S.1 (ro + 1) i = M.1 (mo + 11) i) (h14 : ∀ i, i < 8 → M.2.1 (mo + 14) i = hsF i) (h15 : ∀ i, i < 80 → M.2.1 (mo + 15) i = hkF i) :
    (∀ i, i < nn → (hdig_f so to ro q nn S).1 to i = (msha_f mo q M).1 (mo + 12) i) ∧ (∀ i, nn ≤ i → (hdig_f so to ro q nn S).1 to i = S.1 to i) ∧ (∀ r, r ≠ to → (hdig_f so to ro q nn S).1 r = S.1 r) ∧ (∀ r, r ≠ so + 1 → r ≠ so + 2 → (hdig_f so to ro q nn S).2.1 r = S.2.1 r) ∧ (∀ r, r ≠ mo + 11 → r ≠ mo + 12 → (msha_f mo q M).1 r = M.1 r) ∧ (∀ i, 64 ≤ i → (msha_f mo q M).1 (mo + 12) i = M.1 (mo + 12) i) ∧ (∀ r, r ≠ mo + 13 → r ≠ mo + 16 → (msha_f mo q M).2.1 r = M.2.1 r) ∧ (msha_f mo q M).2.2 = fs M.2.2 mo 17 (nI (q + 1 + shN q + 16)) := by
  have hpd := shN_pd q
  have hblk : (q + 1 + shN q + 16) / 128 = (q + 16) / 128 + 1 := by rw [hpd]; omega
  have en : msha_f mo q M = ((msha_l169 mo ((msha_l145 mo q (mpd mo q M, msha_l119 mo (mpd mo q M, M.2.1, M.2.2) 8, M.2.2) ((q + 16) / 128 + 1)).1, (msha_l145 mo q (mpd mo q M, msha_l119 mo (mpd mo q M, M.2.1, M.2.2) 8, M.2.2) ((q + 16) / 128 + 1)).2, M.2.2) 64), (msha_l145 mo q (mpd mo q M, msha_l119 mo (mpd mo q M, M.2.1, M.2.2) 8, M.2.2) ((q + 16) / 128 + 1)).2, fs M.2.2 (mo) 17 (nI (q + 1 + shN q + 16))) := by
    unfold msha_f
    rw [hblk]
    rfl
  have l119 : ∀ n, (∀ i, i < n → msha_l119 mo (mpd mo q M, M.2.1, M.2.2) n (mo + 13) i = M.2.1 (mo + 14) i) ∧ ∀ r, r ≠ mo + 13 → msha_l119 mo (mpd mo q M, M.2.1, M.2.2) n r = M.2.1 r := by
    intro n
    induction n with
    | zero => exact ⟨fun i hi => absurd hi (Nat.not_lt_zero _), fun _ _ => rfl⟩
    | succ n ih =>
      obtain ⟨h1, h2⟩ := ih
      unfold msha_l119
      dsimp only
      refine ⟨fun i hi => ?_, fun r hr => (vu_n hr).trans (h2 r hr)⟩
      rw [vu_s]
      by_cases e : i = n
      · rw [e, pk_uLs, h2 (mo + 14) (by omega)]
      · rw [pk_uLn e]
        exact h1 i (by omega)
  obtain ⟨k1, k2⟩ := l119 8
  have hp := pad_eq mo ro q S M hq h
  have hpr := mpd_row mo q M
  unfold hdig_f
  rw [en]
  clear en
  generalize mpd mo q M = I0 at hp hpr k1 k2 ⊢
  generalize msha_l119 mo (I0, M.2.1, M.2.2) 8 = K0 at k1 k2 ⊢
  obtain ⟨b1, b2, b3, b4⟩ := sh_blocks so ro mo q S M (va_up S.2.1 (so + 1) (va_cpy hsF (S.2.1 (so + 1)) 0 0 8)) I0 K0 M.2.2 hq hp (fun i hi => by rw [k2 (mo + 15) (by omega)]; exact h15 i hi) (fun i hi => by
    rw [k1 i hi, h14 i hi, vu_s]
    unfold va_cpy
    rw [if_pos ⟨Nat.zero_le _, by omega⟩, Nat.zero_add, Nat.sub_zero]) ((q + 16) / 128 + 1) (Nat.le_refl _)
  generalize hdig_l35 so ro q (S.1, va_up S.2.1 (so + 1) (va_cpy hsF (S.2.1 (so + 1)) 0 0 8), S.2.2) ((q + 16) / 128 + 1) = Y at b1 b2 ⊢
  rw [b4]
  generalize (msha_l145 mo q (I0, K0, M.2.2) ((q + 16) / 128 + 1)).2 = K at b1 b3 ⊢
  have o1 : ∀ n, (∀ i, i < n → hdig_l72 so to (S.1, Y, S.2.2) n to i = ((((Y (so + 1) (i / 2 ^ 3)).toUInt64 >>> ((nI (56 - (8 * (i % 2 ^ 3)))).toInt64.toUInt64 &&& Int64.toUInt64 63)).toInt64).toInt32) &&& (nI (255))) ∧ (∀ i, n ≤ i → hdig_l72 so to (S.1, Y, S.2.2) n to i = S.1 to i) ∧ ∀ r, r ≠ to → hdig_l72 so to (S.1, Y, S.2.2) n r = S.1 r := by
    intro n
    induction n with
    | zero => exact ⟨fun i hi => absurd hi (Nat.not_lt_zero _), fun _ _ => rfl, fun _ _ => rfl⟩
    | succ n ih =>
      obtain ⟨h1, h2, h3⟩ := ih
      unfold hdig_l72
      dsimp only
      refine ⟨fun i hi => ?_, fun i hi => ?_, fun r hr => (vu_n hr).trans (h3 r hr)⟩
      · rw [vu_s]
        show (if i = n then _ else _) = _
        by_cases e : i = n
        · rw [if_pos e, e]
        · rw [if_neg e]; exact h1 i (by omega)
      · rw [vu_s]
        exact (if_neg (by omega)).trans (h2 i (by omega))
  have o2 : ∀ n, (∀ i, i < n → msha_l169 mo (I0, K, M.2.2) n (mo + 12) i = (((K (mo + 13) (i / 2 ^ 3)) >>> ((nI (56 - (8 * (i % 2 ^ 3)))).toInt64 &&& 63)).toInt32) &&& (nI (255))) ∧ (∀ i, n ≤ i → msha_l169 mo (I0, K, M.2.2) n (mo + 12) i = I0 (mo + 12) i) ∧ ∀ r, r ≠ mo + 12 → msha_l169 mo (I0, K, M.2.2) n r = I0 r := by
    intro n
    induction n with
    | zero => exact ⟨fun i hi => absurd hi (Nat.not_lt_zero _), fun _ _ => rfl, fun _ _ => rfl⟩
    | succ n ih =>
      obtain ⟨h1, h2, h3⟩ := ih
      unfold msha_l169
      dsimp only
      refine ⟨fun i hi => ?_, fun i hi => ?_, fun r hr => (vu_n hr).trans (h3 r hr)⟩
      · rw [vu_s]
        show (if i = n then _ else _) = _
        by_cases e : i = n
        · rw [if_pos e, e]
        · rw [if_neg e]; exact h1 i (by omega)
      · rw [vu_s]
        exact (if_neg (by omega)).trans (h2 i (by omega))
  obtain ⟨p1, p2, p3⟩ := o1 nn
  obtain ⟨r1, r2, r3⟩ := o2 64
  refine ⟨fun i hi => ?_, p2, p3, fun r q1 q2 => (b2 r q1 q2).trans (vu_n q1), fun r q1 q2 => (r3 r q2).trans (hpr r q1), fun i hi => (r2 i hi).trans (by rw [hpr (mo + 12) (by omega)]), fun r q1 q2 => (b3 r q1 q2).trans (k2 r q1), rfl⟩
  · refine (p1 i hi).trans (Eq.trans ?_ (r1 i (by omega)).symm)
    rw [by64 _ (by omega), b1 (i / 2 ^ 3) (by omega)]
end
