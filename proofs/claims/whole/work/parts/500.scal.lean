section
/-! SCALARS OF THE CLASS: limbs of 28 bits below the order. -/
/-- the order of the base point -/
def gO (c : Bool) : Nat := if c then 0x3fffffffffffffffffffffffffffffffffffffffffffffffffffffff7cca23e9c44edb49aed63690216cc2728dc58f552378c292ab5844f3 else 0x1000000000000000000000000000000014def9dea2f79cd65812631a5cf5d3ed
/-- row r holds n -/
def SD (J : Nat → Nat → Int64) (r n : Nat) : Prop := n < 2 ^ 448 ∧ ∀ i, i < 16 → uL (J r i) = n / 2 ^ (28 * i) % 2 ^ 28
theorem SD_row {J K : Nat → Nat → Int64} {r n : Nat} (h : J r = K r) (hk : SD K r n) : SD J r n := ⟨hk.1, fun i hi => by rw [h]; exact hk.2 i hi⟩
theorem SD_lt {J : Nat → Nat → Int64} {r n : Nat} (h : SD J r n) {i : Nat} (hi : i < 16) : uL (J r i) < 2 ^ 28 := by
  rw [h.2 i hi]
  exact Nat.mod_lt _ (by decide)
theorem SD_ri {J : Nat → Nat → Int64} {r n : Nat} (h : SD J r n) {i : Nat} (hi : i < 16) : ri J r i = (uL (J r i) : Int) := uL_int (by have := SD_lt h hi; omega)
theorem SD_rv {J : Nat → Nat → Int64} {r n : Nat} (h : SD J r n) {m : Nat} (hm : m ≤ 16) : rv 28 (ri J r) m = ((n % 2 ^ (28 * m) : Nat) : Int) := by
  rw [rv_nat (b := 28) (g := fun i => n / 2 ^ (28 * i) % 2 ^ 28) m (fun i hi => by rw [SD_ri h (by omega), h.2 i (by omega)]), rvN_dg]
theorem SD_of {J : Nat → Nat → Int64} {r L : Nat} (hL : L ≤ 16) (h1 : ∀ i, i < L → 0 ≤ ri J r i ∧ ri J r i < 2 ^ 28) (h2 : ∀ i, L ≤ i → i < 16 → uL (J r i) = 0) : ∃ n, SD J r n ∧ (n : Int) = rv 28 (ri J r) L := by
  have hu : ∀ i, i < L → (uL (J r i) : Int) = ri J r i := fun i hi => (uL_of_int (h1 i hi).1).1
  have e : rv 28 (ri J r) L = (rvN (2 ^ 28) (fun i => uL (J r i)) L : Int) := rv_nat L (fun i hi => (hu i hi).symm)
  have hd : ∀ i, i < L → uL (J r i) < 2 ^ 28 := fun i hi => by have := h1 i hi; have := hu i hi; omega
  have hl := rvN_lt (2 ^ 28) (fun i => uL (J r i)) (by decide) L hd
  rw [← Nat.pow_mul] at hl
  refine ⟨rvN (2 ^ 28) (fun i => uL (J r i)) L, ⟨Nat.lt_of_lt_of_le hl (Nat.pow_le_pow_right (by decide) (by omega)), fun i hi => ?_⟩, e.symm⟩
  by_cases h : i < L
  · have q := rvN_dig (2 ^ 28) (fun i => uL (J r i)) (by decide) L hd i h
    rw [← Nat.pow_mul] at q
    rw [q]
    have := hd i h
    generalize rvN (2 ^ 28) (fun i => uL (J r i)) L / (2 ^ 28) ^ (i + 1) = z
    show uL (J r i) = (uL (J r i) + 2 ^ 28 * z) % 2 ^ 28
    omega
  · rw [h2 i (by omega) hi, Nat.div_eq_of_lt (Nat.lt_of_lt_of_le hl (Nat.pow_le_pow_right (by decide) (by omega)))]
theorem mk28 : (268435455 : Int64).toBitVec.toNat = 2 ^ 28 - 1 := by decide
theorem sh28 : (((nI 28).toInt64 &&& 63).toBitVec.smod 64).toNat = 28 := by decide
theorem sadd_lp (c : Bool) (so to by_ : Nat) (S : StT) (ha : ∀ i, i < 16 → 0 ≤ ri S.2.1 to i ∧ ri S.2.1 to i < 2 ^ 28) (hb : ∀ i, i < 16 → 0 ≤ ri S.2.1 by_ i ∧ ri S.2.1 by_ i < 2 ^ 28) : ∀ n, n ≤ 16 →
    (sinc_l5 c so to by_ S 0 n).1.toInt = cy 28 (fun i => ri S.2.1 to i + ri S.2.1 by_ i) n ∧ (∀ k, k < n → ri (sinc_l5 c so to by_ S 0 n).2 to k = (ri S.2.1 to k + ri S.2.1 by_ k + cy 28 (fun i => ri S.2.1 to i + ri S.2.1 by_ i) k) % 2 ^ 28) ∧ (∀ k, n ≤ k → (sinc_l5 c so to by_ S 0 n).2 to k = S.2.1 to k) ∧ ∀ r, r ≠ to → (sinc_l5 c so to by_ S 0 n).2 r = S.2.1 r := by
  intro n
  induction n with
  | zero => exact fun _ => ⟨rfl, fun k hk => absurd hk (Nat.not_lt_zero _), fun _ _ => rfl, fun _ _ => rfl⟩
  | succ n ih =>
    intro hn
    obtain ⟨h1, h2, h3, h4⟩ := ih (by omega)
    have hbd := cy_bd 28 (fun i => ri S.2.1 to i + ri S.2.1 by_ i) (2 ^ 29) (by decide) (by decide) n (fun j hj => by have := ha j (by omega); have := hb j (by omega); omega)
    have a1 := ha n (by omega)
    have b1 := hb n (by omega)
    have eby : (sinc_l5 c so to by_ S 0 n).2 by_ n = S.2.1 by_ n := by
      by_cases q : by_ = to
      · have q2 := h3 n (Nat.le_refl _)
        rw [← q] at q2
        rw [← q]
        exact q2
      · rw [h4 by_ q]
    have eto : (sinc_l5 c so to by_ S 0 n).2 to n = S.2.1 to n := h3 n (Nat.le_refl _)
    have st : sinc_l5 c so to by_ S 0 (n + 1) = ((((sinc_l5 c so to by_ S 0 n).2 to n + (sinc_l5 c so to by_ S 0 n).2 by_ n) + (sinc_l5 c so to by_ S 0 n).1) >>> ((nI (28)).toInt64 &&& 63), va_up (sinc_l5 c so to by_ S 0 n).2 to (vp_updL ((sinc_l5 c so to by_ S 0 n).2 to) n ((((sinc_l5 c so to by_ S 0 n).2 to n + (sinc_l5 c so to by_ S 0 n).2 by_ n) + (sinc_l5 c so to by_ S 0 n).1) &&& 268435455))) := rfl
    rw [eby, eto] at st
    rw [st]
    clear st
    have t1 : (S.2.1 to n + S.2.1 by_ n).toInt = ri S.2.1 to n + ri S.2.1 by_ n := by
      rw [w_add]
      · rfl
      · show -2 ^ 63 ≤ ri S.2.1 to n + ri S.2.1 by_ n; omega
      · show ri S.2.1 to n + ri S.2.1 by_ n < 2 ^ 63; omega
    have t2 : (S.2.1 to n + S.2.1 by_ n + (sinc_l5 c so to by_ S 0 n).1).toInt = ri S.2.1 to n + ri S.2.1 by_ n + cy 28 (fun i => ri S.2.1 to i + ri S.2.1 by_ i) n := by
      rw [w_add, t1, h1]
      · rw [t1, h1]; omega
      · rw [t1, h1]; omega
    generalize S.2.1 to n + S.2.1 by_ n + (sinc_l5 c so to by_ S 0 n).1 = w at t2 ⊢
    generalize (sinc_l5 c so to by_ S 0 n).2 = Y at h2 h3 h4 ⊢
    refine ⟨?_, fun k hk => ?_, fun k hk => ?_, fun r hr => (vu_n hr).trans (h4 r hr)⟩
    · show (w >>> ((nI 28).toInt64 &&& 63)).toInt = (ri S.2.1 to n + ri S.2.1 by_ n + cy 28 (fun i => ri S.2.1 to i + ri S.2.1 by_ i) n) / 2 ^ 28
      rw [w_shr _ _ 28 sh28, t2]
    · show (va_up Y to (vp_updL (Y to) n (w &&& 268435455)) to k).toInt = _
      rw [vu_s]
      by_cases e : k = n
      · subst e
        rw [pk_uLs, w_and _ _ 28 (by decide) mk28, t2]
      · rw [pk_uLn e]
        exact h2 k (by omega)
    · show va_up Y to (vp_updL (Y to) n (w &&& 268435455)) to k = _
      rw [vu_s, pk_uLn (by omega)]
      exact h3 k (by omega)
theorem ssub_lp (c : Bool) (so to by_ : Nat) (S : StT) (h2t : to ≠ so + 2) (ha : ∀ i, i < 16 → 0 ≤ ri S.2.1 to i ∧ ri S.2.1 to i < 2 ^ 28) (hb : ∀ i, i < 16 → 0 ≤ ri S.2.1 (so + 4) i ∧ ri S.2.1 (so + 4) i < 2 ^ 28) : ∀ n, n ≤ 16 →
    (sinc_l54 c so to by_ S 0 n).1.toInt = cy 28 (fun i => ri S.2.1 to i - ri S.2.1 (so + 4) i) n ∧ (∀ k, k < n → ri (sinc_l54 c so to by_ S 0 n).2 (so + 2) k = (ri S.2.1 to k - ri S.2.1 (so + 4) k + cy 28 (fun i => ri S.2.1 to i - ri S.2.1 (so + 4) i) k) % 2 ^ 28) ∧ ∀ r, r ≠ so + 2 → (sinc_l54 c so to by_ S 0 n).2 r = S.2.1 r := by
  intro n
  induction n with
  | zero => exact fun _ => ⟨rfl, fun k hk => absurd hk (Nat.not_lt_zero _), fun _ _ => rfl⟩
  | succ n ih =>
    intro hn
    obtain ⟨h1, h2, h4⟩ := ih (by omega)
    have hbd := cy_bd 28 (fun i => ri S.2.1 to i - ri S.2.1 (so + 4) i) (2 ^ 28) (by decide) (by decide) n (fun j hj => by have := ha j (by omega); have := hb j (by omega); omega)
    have a1 := ha n (by omega)
    have b1 := hb n (by omega)
    have st : sinc_l54 c so to by_ S 0 (n + 1) = ((((sinc_l54 c so to by_ S 0 n).2 to n - (sinc_l54 c so to by_ S 0 n).2 (so + 4) n) + (sinc_l54 c so to by_ S 0 n).1) >>> ((nI (28)).toInt64 &&& 63), va_up (sinc_l54 c so to by_ S 0 n).2 (so + 2) (vp_updL ((sinc_l54 c so to by_ S 0 n).2 (so + 2)) n ((((sinc_l54 c so to by_ S 0 n).2 to n - (sinc_l54 c so to by_ S 0 n).2 (so + 4) n) + (sinc_l54 c so to by_ S 0 n).1) &&& 268435455))) := rfl
    rw [h4 to h2t, h4 (so + 4) (by omega)] at st
    rw [st]
    clear st
    have t1 : (S.2.1 to n - S.2.1 (so + 4) n).toInt = ri S.2.1 to n - ri S.2.1 (so + 4) n := by
      rw [w_sub]
      · rfl
      · show -2 ^ 63 ≤ ri S.2.1 to n - ri S.2.1 (so + 4) n; omega
      · show ri S.2.1 to n - ri S.2.1 (so + 4) n < 2 ^ 63; omega
    have t2 : (S.2.1 to n - S.2.1 (so + 4) n + (sinc_l54 c so to by_ S 0 n).1).toInt = ri S.2.1 to n - ri S.2.1 (so + 4) n + cy 28 (fun i => ri S.2.1 to i - ri S.2.1 (so + 4) i) n := by
      rw [w_add, t1, h1]
      · rw [t1, h1]; omega
      · rw [t1, h1]; omega
    generalize S.2.1 to n - S.2.1 (so + 4) n + (sinc_l54 c so to by_ S 0 n).1 = w at t2 ⊢
    generalize (sinc_l54 c so to by_ S 0 n).2 = Y at h2 h4 ⊢
    refine ⟨?_, fun k hk => ?_, fun r hr => (vu_n hr).trans (h4 r hr)⟩
    · show (w >>> ((nI 28).toInt64 &&& 63)).toInt = (ri S.2.1 to n - ri S.2.1 (so + 4) n + cy 28 (fun i => ri S.2.1 to i - ri S.2.1 (so + 4) i) n) / 2 ^ 28
      rw [w_shr _ _ 28 sh28, t2]
    · show (va_up Y (so + 2) (vp_updL (Y (so + 2)) n (w &&& 268435455)) (so + 2) k).toInt = _
      rw [vu_s]
      by_cases e : k = n
      · subst e
        rw [pk_uLs, w_and _ _ 28 (by decide) mk28, t2]
      · rw [pk_uLn e]
        exact h2 k (by omega)
theorem gO_lt (c : Bool) : 2 * gO c ≤ 2 ^ (28 * sL c) ∧ 1 < gO c := by cases c <;> decide +kernel
theorem sinc_s (c : Bool) (so to by_ : Nat) (S : StT) {a b : Nat} (h2 : to ≠ so + 2) (h4 : to ≠ so + 4) (ha : SD S.2.1 to a) (hb : SD S.2.1 by_ b) (ha2 : a < gO c) (hb2 : b < gO c) (hO : SD S.2.1 (so + 4) (gO c)) :
    SD (sinc_f c so to by_ S).2.1 to ((a + b) % gO c) ∧ (∀ r, r ≠ to → r ≠ so + 2 → (sinc_f c so to by_ S).2.1 r = S.2.1 r) ∧ (sinc_f c so to by_ S).1 = S.1 := by
  have hL := sL_le c
  have hG := gO_lt c
  have bd : ∀ {J : Nat → Nat → Int64} {r n : Nat}, SD J r n → ∀ i, i < 16 → 0 ≤ ri J r i ∧ ri J r i < 2 ^ 28 := fun h i hi => by
    have q1 := SD_ri h hi
    have q2 := SD_lt h hi
    omega
  obtain ⟨s1, s2, s3, s4⟩ := sadd_lp c so to by_ S (bd ha) (bd hb) (sL c) hL.2
  have hs := cy_sum 28 (fun i => ri S.2.1 to i + ri S.2.1 by_ i) (sL c)
  have hp : ((2 ^ (28 * sL c) : Nat) : Int) = (2 : Int) ^ (28 * sL c) := by rw [Int.natCast_pow]; rfl
  rw [rv_add 28 (ri S.2.1 to) (ri S.2.1 by_) (sL c), SD_rv ha hL.2, SD_rv hb hL.2, Nat.mod_eq_of_lt (by omega), Nat.mod_eq_of_lt (by omega)] at hs
  have hz : ∀ {n : Nat} {r : Nat} {J : Nat → Nat → Int64}, SD J r n → n < gO c → ∀ i, sL c ≤ i → i < 16 → uL (J r i) = 0 := by
    intro n r J h hn i h5 h6
    rw [h.2 i h6, Nat.div_eq_of_lt (Nat.lt_of_lt_of_le hn (Nat.le_trans (by omega) (Nat.pow_le_pow_right (by decide) (show 28 * sL c ≤ 28 * i by omega))))]
  obtain ⟨T, hT, hTv⟩ := SD_of (J := (sinc_l5 c so to by_ S 0 (sL c)).2) (r := to) hL.2 (fun i hi => by
    rw [s2 i hi]
    exact ⟨Int.emod_nonneg _ (by decide), Int.emod_lt_of_pos _ (by decide)⟩) (fun i h5 h6 => by rw [s3 i h5]; exact hz ha ha2 i h5 h6)
  have e1 : rv 28 (ri (sinc_l5 c so to by_ S 0 (sL c)).2 to) (sL c) = rv 28 (fun i => (ri S.2.1 to i + ri S.2.1 by_ i + cy 28 (fun i => ri S.2.1 to i + ri S.2.1 by_ i) i) % 2 ^ 28) (sL c) := rv_congr _ s2
  have hTl : (T : Int) < 2 ^ (28 * sL c) := by
    rw [hTv]
    exact (rv_b0 _ 28 (sL c) (fun i hi => by
      rw [s2 i hi]
      exact ⟨Int.emod_nonneg _ (by decide), Int.emod_lt_of_pos _ (by decide)⟩)).2
  rw [← e1, ← hTv] at hs
  have hTab : T = a + b := by
    generalize cy 28 (fun i => ri S.2.1 to i + ri S.2.1 by_ i) (sL c) = z at hs
    rw [← hp] at hs hTl
    generalize 2 ^ (28 * sL c) = P at hs hTl hG
    rcases i_lg z 0 with q | q
    · have q2 : (z + 1) * (P : Int) ≤ 0 := Int.mul_nonpos_of_nonpos_of_nonneg (by omega) (by omega)
      rw [Int.add_mul, Int.one_mul] at q2
      omega
    · rcases i_lg z 1 with q3 | q3
      · have : z = 0 := by omega
        rw [this] at hs
        omega
      · have q2 : 1 * (P : Int) ≤ z * (P : Int) := Int.mul_le_mul_of_nonneg_right q3 (by omega)
        omega
  subst hTab
  have hO1 : SD (sinc_l5 c so to by_ S 0 (sL c)).2 (so + 4) (gO c) := SD_row (s4 (so + 4) (Ne.symm h4)) hO
  obtain ⟨u1, u2, u3⟩ := ssub_lp c so to by_ (S.1, (sinc_l5 c so to by_ S 0 (sL c)).2, S.2.2) h2 (bd hT) (bd hO1) (sL c) hL.2
  have ht := cy_sum 28 (fun i => ri (sinc_l5 c so to by_ S 0 (sL c)).2 to i - ri (sinc_l5 c so to by_ S 0 (sL c)).2 (so + 4) i) (sL c)
  rw [rv_sub 28 (ri (sinc_l5 c so to by_ S 0 (sL c)).2 to) (ri (sinc_l5 c so to by_ S 0 (sL c)).2 (so + 4)) (sL c), SD_rv hT hL.2, SD_rv hO1 hL.2, Nat.mod_eq_of_lt (by omega), Nat.mod_eq_of_lt (by omega)] at ht
  have k1 : ∀ k, k < sL c → ri (sinc_l54 c so to by_ (S.1, (sinc_l5 c so to by_ S 0 (sL c)).2, S.2.2) 0 (sL c)).2 (so + 2) k = (ri (sinc_l5 c so to by_ S 0 (sL c)).2 to k - ri (sinc_l5 c so to by_ S 0 (sL c)).2 (so + 4) k + cy 28 (fun i => ri (sinc_l5 c so to by_ S 0 (sL c)).2 to i - ri (sinc_l5 c so to by_ S 0 (sL c)).2 (so + 4) i) k) % 2 ^ 28 := u2
  have k2 : (sinc_l54 c so to by_ (S.1, (sinc_l5 c so to by_ S 0 (sL c)).2, S.2.2) 0 (sL c)).1.toInt = cy 28 (fun i => ri (sinc_l5 c so to by_ S 0 (sL c)).2 to i - ri (sinc_l5 c so to by_ S 0 (sL c)).2 (so + 4) i) (sL c) := u1
  have k3 : ∀ r, r ≠ so + 2 → (sinc_l54 c so to by_ (S.1, (sinc_l5 c so to by_ S 0 (sL c)).2, S.2.2) 0 (sL c)).2 r = (sinc_l5 c so to by_ S 0 (sL c)).2 r := u3
  have e2 : rv 28 (ri (sinc_l54 c so to by_ (S.1, (sinc_l5 c so to by_ S 0 (sL c)).2, S.2.2) 0 (sL c)).2 (so + 2)) (sL c) = rv 28 (fun i => (ri (sinc_l5 c so to by_ S 0 (sL c)).2 to i - ri (sinc_l5 c so to by_ S 0 (sL c)).2 (so + 4) i + cy 28 (fun i => ri (sinc_l5 c so to by_ S 0 (sL c)).2 to i - ri (sinc_l5 c so to by_ S 0 (sL c)).2 (so + 4) i) i) % 2 ^ 28) (sL c) := rv_congr _ k1
  have hR := rv_b0 (ri (sinc_l54 c so to by_ (S.1, (sinc_l5 c so to by_ S 0 (sL c)).2, S.2.2) 0 (sL c)).2 (so + 2)) 28 (sL c) (fun i hi => by
    rw [k1 i hi]
    exact ⟨Int.emod_nonneg _ (by decide), Int.emod_lt_of_pos _ (by decide)⟩)
  rw [← e2, ← k2] at ht
  clear hz
  unfold sinc_f
  dsimp only
  generalize sinc_l54 c so to by_ (S.1, (sinc_l5 c so to by_ S 0 (sL c)).2, S.2.2) 0 (sL c) = U at k1 k2 k3 ht hR ⊢
  clear e1 e2 u1 u2 u3
  generalize hX : (sinc_l5 c so to by_ S 0 (sL c)).2 = X at *
  have kf : ∀ r, r ≠ to → r ≠ so + 2 → U.2 r = S.2.1 r := fun r q1 q2 => (k3 r q2).trans (s4 r q1)
  have hcase : U.1.toInt = 0 ∧ gO c ≤ a + b ∨ U.1.toInt = -1 ∧ a + b < gO c := by
    generalize U.1.toInt = z at ht
    generalize rv 28 (ri U.2 (so + 2)) (sL c) = R at ht hR
    rw [← hp] at ht hR
    generalize 2 ^ (28 * sL c) = P at ht hR hG
    rcases i_lg z 0 with q | q
    · rcases i_lg z (-1) with q3 | q3
      · have q2 : (z + 2) * (P : Int) ≤ 0 := Int.mul_nonpos_of_nonpos_of_nonneg (by omega) (by omega)
        rw [Int.add_mul] at q2
        omega
      · have : z = -1 := by omega
        rw [this] at ht
        right
        omega
    · rcases i_lg z 1 with q3 | q3
      · have : z = 0 := by omega
        rw [this] at ht
        left
        omega
      · have q2 : 1 * (P : Int) ≤ z * (P : Int) := Int.mul_le_mul_of_nonneg_right q3 (by omega)
        omega
  rcases hcase with ⟨z0, hge⟩ | ⟨z1, hlt⟩
  · have e0 : U.1 = 0 := Int64.toInt_inj.mp (z0.trans (by decide))
    rw [if_neg (fun h => h ((lgc0 U.1 0).mpr e0))]
    have hrow : ∀ i, va_up U.2 to (va_cpy (U.2 (so + 2)) (U.2 to) 0 0 (sL c)) to i = if i < sL c then U.2 (so + 2) i else U.2 to i := by
      intro i
      rw [vu_s]
      unfold va_cpy
      by_cases q : i < sL c
      · rw [if_pos ⟨Nat.zero_le _, by omega⟩, if_pos q, Nat.zero_add, Nat.sub_zero]
      · rw [if_neg (fun z => q (by omega)), if_neg q]
    obtain ⟨V, hV, hVv⟩ := SD_of (J := va_up U.2 to (va_cpy (U.2 (so + 2)) (U.2 to) 0 0 (sL c))) (r := to) hL.2 (fun i hi => by
      unfold ri
      rw [hrow i, if_pos hi]
      have := k1 i hi
      show 0 ≤ ri U.2 (so + 2) i ∧ ri U.2 (so + 2) i < 2 ^ 28
      rw [this]
      exact ⟨Int.emod_nonneg _ (by decide), Int.emod_lt_of_pos _ (by decide)⟩) (fun i h5 h6 => by
      rw [hrow i, if_neg (by omega), k3 to h2]
      rw [hT.2 i h6, Nat.div_eq_of_lt (Nat.lt_of_lt_of_le (show a + b < 2 ^ (28 * sL c) by omega) (Nat.pow_le_pow_right (by decide) (by omega)))])
    have hVe : (V : Int) = rv 28 (ri U.2 (so + 2)) (sL c) := by
      rw [hVv]
      exact rv_congr _ (fun i hi => by unfold ri; rw [hrow i, if_pos hi])
    rw [z0, Int.zero_mul, ← hVe] at ht
    have : V = (a + b) % gO c := by
      rw [Nat.mod_eq_sub_mod hge, Nat.mod_eq_of_lt (by omega)]
      omega
    rw [this] at hV
    exact ⟨hV, fun r q1 q2 => (vu_n q1).trans (kf r q1 q2), rfl⟩
  · have e0 : U.1 ≠ 0 := by
      intro q
      rw [q] at z1
      exact absurd z1 (by decide)
    rw [if_pos (fun h => e0 ((lgc0 U.1 0).mp h))]
    rw [Nat.mod_eq_of_lt hlt]
    exact ⟨SD_row (k3 to h2) hT, kf, rfl⟩
theorem SD_0 {J : Nat → Nat → Int64} {r : Nat} (h : ∀ j, j < 16 → J r j = 0) : SD J r 0 := by
  refine ⟨Nat.pow_pos (by decide), fun i hi => ?_⟩
  rw [h i hi, Nat.zero_div]
  decide
theorem smul_s (c : Bool) (so to nb nn fa : Nat) (S : StT) {f : Nat} (h2 : to ≠ so + 2) (h4 : to ≠ so + 4) (hf2 : fa ≠ so + 2) (hft : fa ≠ to) (hB : BY (S.1 nb) nn) (hf : SD S.2.1 fa f) (hfl : f < gO c) (hO : SD S.2.1 (so + 4) (gO c)) :
    SD (smul_f c so to nb nn fa S).2.1 to (bv (S.1 nb) nn * f % gO c) ∧ (∀ r, r ≠ to → r ≠ so + 2 → (smul_f c so to nb nn fa S).2.1 r = S.2.1 r) ∧ (smul_f c so to nb nn fa S).1 = S.1 := by
  have hG := (gO_lt c).2
  obtain ⟨f1, f2⟩ := fill_s to 16 S
  have hN := bv_lt hB
  have key : ∀ i, i ≤ 8 * nn → SD (smul_l13 c so to nb nn fa (fill_f to 16 0 S) i).2.1 to (bv (S.1 nb) nn / 2 ^ (8 * nn - i) * f % gO c) ∧ (∀ r, r ≠ to → r ≠ so + 2 → (smul_l13 c so to nb nn fa (fill_f to 16 0 S) i).2.1 r = S.2.1 r) ∧ (smul_l13 c so to nb nn fa (fill_f to 16 0 S) i).1 = S.1 := by
    intro i
    induction i with
    | zero =>
      intro _
      rw [Nat.sub_zero, Nat.div_eq_of_lt hN, Nat.zero_mul, Nat.zero_mod]
      exact ⟨SD_0 f1, fun r q1 _ => f2 r q1, rfl⟩
    | succ i ih =>
      intro hi
      obtain ⟨i1, i2, i3⟩ := ih (by omega)
      have st : smul_l13 c so to nb nn fa (fill_f to 16 0 S) (i + 1) = (if ((((sinc_f c (so) (to) (to) (smul_l13 c so to nb nn fa (fill_f to 16 0 S) i)).1 (nb) (((8 * nn) - 1 - i) / 2 ^ 3)) >>> ((nI (((8 * nn) - 1 - i) % 2 ^ 3)) &&& 31)) &&& (nI (1))) ≠ (nI (1)) then sinc_f c (so) (to) (to) (smul_l13 c so to nb nn fa (fill_f to 16 0 S) i) else sinc_f c (so) (to) (fa) (sinc_f c (so) (to) (to) (smul_l13 c so to nb nn fa (fill_f to 16 0 S) i))) := rfl
      rw [st]
      clear st
      generalize smul_l13 c so to nb nn fa (fill_f to 16 0 S) i = Y at i1 i2 i3 ⊢
      have ml : ∀ x, x % gO c < gO c := fun x => Nat.mod_lt _ (by omega)
      obtain ⟨m1, m2, m3⟩ := sinc_s c so to to Y h2 h4 i1 i1 (ml _) (ml _) (SD_row (i2 (so + 4) (Ne.symm h4) (by omega)) hO)
      have n2 : ∀ r, r ≠ to → r ≠ so + 2 → (sinc_f c so to to Y).2.1 r = S.2.1 r := fun r q1 q2 => (m2 r q1 q2).trans (i2 r q1 q2)
      have n3 : (sinc_f c so to to Y).1 = S.1 := m3.trans i3
      clear m2 m3
      generalize sinc_f c so to to Y = Z at m1 n2 n3 ⊢
      rw [n3]
      have hbit := bit8 (N := bv (S.1 nb) nn) (j := 8 * nn - 1 - i) (bv_dig hB (i := (8 * nn - 1 - i) / 8) (by omega))
      have e2 : bv (S.1 nb) nn / 2 ^ (8 * nn - i) = bv (S.1 nb) nn / 2 ^ (8 * nn - 1 - i) / 2 := by
        rw [show 8 * nn - i = (8 * nn - 1 - i) + 1 from by omega, Nat.pow_succ, Nat.div_div_eq_div_mul]
      rw [e2, ← Nat.add_mod] at m1
      rw [show 8 * nn - (i + 1) = 8 * nn - 1 - i from by omega]
      generalize bv (S.1 nb) nn / 2 ^ (8 * nn - 1 - i) = n at m1 hbit ⊢
      rw [← Nat.add_mul] at m1
      by_cases q : n % 2 = 0
      · rw [if_pos (hbit.mpr q)]
        rw [show n / 2 + n / 2 = n from by omega] at m1
        exact ⟨m1, n2, n3⟩
      · rw [if_neg (fun h => q (hbit.mp h))]
        obtain ⟨p1, p2, p3⟩ := sinc_s c so to fa Z h2 h4 m1 (SD_row (n2 fa hft hf2) hf) (ml _) hfl (SD_row (n2 (so + 4) (Ne.symm h4) (by omega)) hO)
        have e3 : ((n / 2 + n / 2) * f % gO c + f) % gO c = n * f % gO c := by
          rw [Nat.mod_add_mod, ← Nat.succ_mul]
          congr 2
          omega
        rw [e3] at p1
        exact ⟨p1, fun r q1 q2 => (p2 r q1 q2).trans (n2 r q1 q2), p3.trans n3⟩
  obtain ⟨k1, k2, k3⟩ := key (8 * nn) (Nat.le_refl _)
  rw [Nat.sub_self, Nat.pow_zero, Nat.div_one] at k1
  exact ⟨k1, k2, k3⟩
theorem swrite_s (c : Bool) (so to fr x : Nat) (S : StT) {n : Nat} (h : SD S.2.1 x n) :
    (∀ i, i < cB c → uN ((swrite_f c so to fr x S).1 to (fr + i)) = n / 2 ^ (8 * i) % 256) ∧ (∀ r, r ≠ to → (swrite_f c so to fr x S).1 r = S.1 r) ∧ (∀ j, (j < fr ∨ fr + cB c ≤ j) → (swrite_f c so to fr x S).1 to j = S.1 to j) ∧ (swrite_f c so to fr x S).2.1 = S.2.1 := by
  obtain ⟨w1, w2, w3⟩ := lto_s to fr (cB c) x 28 16 S (by decide) (by decide) (fun j hj => SD_lt h hj) (Or.inl rfl) (by cases c <;> decide)
  have e : rvN (2 ^ 28) (fun j => uL (S.2.1 x j)) 16 = n := by
    rw [rvN_congr 16 (fun j hj => h.2 j hj), rvN_dg]
    exact Nat.mod_eq_of_lt h.1
  rw [e] at w1
  unfold swrite_f
  exact ⟨w1, w2, w3, rfl⟩
theorem sbel_s (c : Bool) (so nb fr : Nat) (S : StT) {n : Nat} (hn : n < 2 ^ (8 * cB c)) (hB : ∀ i, i < cB c → uN (S.1 nb (fr + i)) = n / 2 ^ (8 * i) % 256) (hO : ∀ i, i < cB c → uN (S.1 (so + 5) i) = gO c / 2 ^ (8 * i) % 256) :
    (sbel_f c so nb fr S).1 = (if n < gO c then nI 1 else nI 0) ∧ (sbel_f c so nb fr S).2 = S := by
  have hGl : gO c < 2 ^ (8 * cB c) := by cases c <;> decide +kernel
  have hcB : cB c ≤ 57 := by cases c <;> decide
  have dg8 : ∀ n f, n / 2 ^ (8 * f) = (n / 2 ^ (8 * (f + 1))) * 256 + n / 2 ^ (8 * f) % 256 := by
    intro n f
    have e : n / 2 ^ (8 * (f + 1)) = n / 2 ^ (8 * f) / 256 := by
      rw [Nat.mul_add, Nat.mul_one, Nat.pow_add, Nat.div_div_eq_div_mul]
    rw [e]
    generalize n / 2 ^ (8 * f) = z
    omega
  have key : ∀ f i, f + i = cB c → n / 2 ^ (8 * f) = gO c / 2 ^ (8 * f) → (sbel_s7 c so nb fr S f i).1 = (if n < gO c then nI 1 else nI 0) ∧ (sbel_s7 c so nb fr S f i).2 = S := by
    intro f
    induction f with
    | zero =>
      intro i _ h
      rw [Nat.mul_zero, Nat.pow_zero, Nat.div_one, Nat.div_one] at h
      rw [if_neg (by omega)]
      exact ⟨rfl, rfl⟩
    | succ f ih =>
      intro i hi h
      have ea := dg8 n f
      have eb := dg8 (gO c) f
      have da := hB f (by omega)
      have db := hO f (by omega)
      rw [h] at ea
      have hmono : ∀ {x y : Nat}, x ≤ y → x / 2 ^ (8 * f) ≤ y / 2 ^ (8 * f) := fun hxy => Nat.div_le_div_right hxy
      unfold sbel_s7
      rw [show cB c - 1 - i = f from by omega]
      generalize gO c / 2 ^ (8 * (f + 1)) = t at ea eb
      have la : uN (S.1 nb (fr + f)) < 2 ^ 16 := by rw [da]; omega
      have lb : uN (S.1 (so + 5) f) < 2 ^ 16 := by rw [db]; omega
      by_cases e : S.1 nb (fr + f) = S.1 (so + 5) f
      · rw [if_pos e]
        refine ih (i + 1) (by omega) ?_
        rw [e] at da
        rw [ea, eb, ← da, ← db]
      · rw [if_neg e]
        have ne : uN (S.1 nb (fr + f)) ≠ uN (S.1 (so + 5) f) := fun q => e (uN_ext q)
        by_cases l : S.1 (so + 5) f ≤ S.1 nb (fr + f)
        · rw [if_pos l]
          have l2 := (i_le lb la).mp l
          have : ¬ n < gO c := by
            intro q
            have q2 := hmono (Nat.le_of_lt q)
            generalize n / 2 ^ (8 * f) = x at ea da q2
            generalize gO c / 2 ^ (8 * f) = y at eb db q2
            omega
          rw [if_neg this]
          exact ⟨rfl, rfl⟩
        · rw [if_neg l]
          have l2 : ¬ uN (S.1 (so + 5) f) ≤ uN (S.1 nb (fr + f)) := fun q => l ((i_le lb la).mpr q)
          have : n < gO c := by
            rcases Nat.lt_or_ge n (gO c) with q | q
            · exact q
            · have q2 := hmono q
              generalize n / 2 ^ (8 * f) = x at ea da q2
              generalize gO c / 2 ^ (8 * f) = y at eb db q2
              omega
          rw [if_pos this]
          exact ⟨rfl, rfl⟩
  exact key (cB c) 0 rfl (by rw [Nat.div_eq_of_lt hn, Nat.div_eq_of_lt hGl])
end
