section
/-! THE MODEL'S FOLD: a wide row modulo the prime. -/
theorem i_lg (a b : Int) : a < b ∨ b ≤ a := by omega
theorem mfd_0 (mo d : Nat) (S : StT) (B : Int) (hB : 0 ≤ B) (hB2 : 39 * B ≤ 2 ^ 62) (hb : ∀ k, k < 32 → 0 ≤ ri S.2.1 (mo + 8) k ∧ ri S.2.1 (mo + 8) k ≤ B) :
    ∀ i : Nat, i ≤ 16 → (∀ k, (k + i < 16 ∨ (16 ≤ k ∧ k + i < 32)) → ri (mfold_l11 false mo d S i) (mo + 8) k = ri S.2.1 (mo + 8) k) ∧ (∀ k, k < 16 → 16 ≤ k + i → 0 ≤ ri (mfold_l11 false mo d S i) (mo + 8) k ∧ ri (mfold_l11 false mo d S i) (mo + 8) k ≤ 39 * B) ∧ fz false (rv 16 (ri (mfold_l11 false mo d S i) (mo + 8)) (32 - i)) = fz false (rv 16 (ri S.2.1 (mo + 8)) 32) ∧ ∀ r, r ≠ mo + 8 → mfold_l11 false mo d S i r = S.2.1 r := by
  intro i
  induction i with
  | zero => exact fun _ => ⟨fun _ _ => rfl, fun k h1 h2 => by omega, rfl, fun _ _ => rfl⟩
  | succ i ih =>
    intro hi
    obtain ⟨h0, h1, h2, h3⟩ := ih (by omega)
    generalize hy : mfold_l11 false mo d S i = y at h0 h1 h2 h3
    have hx := hb (31 - i) (by omega)
    rw [← h0 (31 - i) (by omega)] at hx
    have hp1 := hb (31 - i - 16) (by omega)
    rw [← h0 (31 - i - 16) (by omega)] at hp1
    have eX : (y (mo + 8) (31 - i)).toInt = ri y (mo + 8) (31 - i) := rfl
    generalize hX : ri y (mo + 8) (31 - i) = x at hx eX
    have e1 : ((38 : Int64) * y (mo + 8) (31 - i)).toInt = 38 * x := by
      rw [w_mul]
      · rw [eX]; rfl
      · rw [eX]; show -2 ^ 63 ≤ 38 * x; omega
      · rw [eX]; show 38 * x < 2 ^ 63; omega
    have hnew : ∀ k, k ≠ 31 - i → ri (mfold_l11 false mo d S (i + 1)) (mo + 8) k = (if k = 31 - i - 16 then ri y (mo + 8) k + 38 * x else ri y (mo + 8) k) := by
      intro k hk
      have en : mfold_l11 false mo d S (i + 1) = va_up (va_up y (mo + 8) (vp_updL (y (mo + 8)) (31 - i) 0)) (mo + 8) (vp_updL (va_up y (mo + 8) (vp_updL (y (mo + 8)) (31 - i) 0) (mo + 8)) (31 - i - 16) (va_up y (mo + 8) (vp_updL (y (mo + 8)) (31 - i) 0) (mo + 8) (31 - i - 16) + 38 * y (mo + 8) (31 - i))) := by rw [← hy]; rfl
      rw [en]
      unfold ri
      rw [vu_s, vu_s]
      by_cases q : k = 31 - i - 16
      · subst q
        have a1 : (y (mo + 8) (31 - i - 16)).toInt = ri y (mo + 8) (31 - i - 16) := rfl
        rw [if_pos rfl, pk_uLs, pk_uLn hk, w_add (by rw [e1, a1]; omega) (by rw [e1, a1]; omega), e1]
      · rw [if_neg q, pk_uLn q, pk_uLn hk]
    refine ⟨fun k hk => ?_, fun k hk1 hk2 => ?_, ?_, fun r hr => ?_⟩
    · rw [hnew k (by omega), if_neg (by omega)]
      exact h0 k (by omega)
    · rw [hnew k (by omega)]
      by_cases q : k = 31 - i - 16
      · rw [if_pos q, q]; omega
      · rw [if_neg q]; exact h1 k hk1 (by omega)
    · rw [← h2, show 32 - (i + 1) = 31 - i from by omega, show 32 - i = (31 - i) + 1 from by omega]
      have er : rv 16 (ri (mfold_l11 false mo d S (i + 1)) (mo + 8)) (31 - i) = rv 16 (ri y (mo + 8)) (31 - i) + 38 * x * 2 ^ (16 * (31 - i - 16)) := by
        rw [rv_congr (31 - i) (fun k hk => hnew k (by omega)), rv_at 16 (ri y (mo + 8)) (31 - i - 16) (38 * x) (31 - i) (by omega)]
      refine fz_of (u := 2 * x * 2 ^ (16 * (31 - i - 16))) ?_
      rw [er]
      show _ = rv 16 (ri y (mo + 8)) (31 - i) + ri y (mo + 8) (31 - i) * 2 ^ (16 * (31 - i)) - _
      rw [hX, show 16 * (31 - i) = 16 * (31 - i - 16) + 256 from by omega, Int.pow_add, nt_p0]
      generalize rv 16 (ri y (mo + 8)) (31 - i) = A
      generalize (2 : Int) ^ (16 * (31 - i - 16)) = P
      clear hnew er hp1 hx hX eX e1 h0 h1 h2 h3 hy hb hB hB2
      grind
    · obtain ⟨v1, v2, en⟩ : ∃ v1 v2, mfold_l11 false mo d S (i + 1) = va_up (va_up y (mo + 8) v1) (mo + 8) v2 := ⟨_, _, by rw [← hy]; rfl⟩
      rw [en, vu_n hr, vu_n hr, h3 r hr]
/-- how often a column may be counted -/
def mcn : Nat → Nat → Nat
  | 0, _ => 1
  | i + 1, k => mcn i k + (if k = 55 - i - 28 then mcn i (55 - i) else 0) + (if k = 55 - i - 14 then mcn i (55 - i) else 0)
theorem mcn_le : ∀ i, i < 29 → ∀ k, k < 56 → mcn i k ≤ 6 := by decide +kernel
theorem mfd_1 (mo d : Nat) (S : StT) (B : Int) (hB : 0 ≤ B) (hB4 : 6 * B ≤ 2 ^ 62) (hb : ∀ k, k < 56 → 0 ≤ ri S.2.1 (mo + 8) k ∧ ri S.2.1 (mo + 8) k ≤ B) :
    ∀ i : Nat, i ≤ 28 → (∀ k, k + i < 56 → 0 ≤ ri (mfold_l11 true mo d S i) (mo + 8) k ∧ ri (mfold_l11 true mo d S i) (mo + 8) k ≤ (mcn i k : Int) * B) ∧ fz true (rv 16 (ri (mfold_l11 true mo d S i) (mo + 8)) (56 - i)) = fz true (rv 16 (ri S.2.1 (mo + 8)) 56) ∧ ∀ r, r ≠ mo + 8 → mfold_l11 true mo d S i r = S.2.1 r := by
  have hcb : ∀ i, i < 29 → ∀ k, k < 56 → (mcn i k : Int) * B ≤ 2 ^ 62 := fun i hi k hk => by
    have h1 := mcn_le i hi k hk
    have h2 : (mcn i k : Int) * B ≤ 6 * B := Int.mul_le_mul_of_nonneg_right (by omega) hB
    omega
  intro i
  induction i with
  | zero =>
    intro _
    refine ⟨fun k hk => ?_, rfl, fun _ _ => rfl⟩
    have := hb k hk
    show 0 ≤ ri S.2.1 (mo + 8) k ∧ ri S.2.1 (mo + 8) k ≤ ((1 : Nat) : Int) * B
    omega
  | succ i ih =>
    intro hi
    obtain ⟨h1, h2, h3⟩ := ih (by omega)
    generalize hy : mfold_l11 true mo d S i = y at h1 h2 h3
    have hx := h1 (55 - i) (by omega)
    have hp1 := h1 (55 - i - 28) (by omega)
    have hp2 := h1 (55 - i - 14) (by omega)
    have hc0 := hcb i (by omega) (55 - i) (by omega)
    have hc1 := hcb (i + 1) (by omega) (55 - i - 28) (by omega)
    have hc2 := hcb (i + 1) (by omega) (55 - i - 14) (by omega)
    have x1 : (mcn (i + 1) (55 - i - 28) : Int) * B = (mcn i (55 - i - 28) : Int) * B + (mcn i (55 - i) : Int) * B := by
      show ((mcn i (55 - i - 28) + (if 55 - i - 28 = 55 - i - 28 then mcn i (55 - i) else 0) + (if 55 - i - 28 = 55 - i - 14 then mcn i (55 - i) else 0) : Nat) : Int) * B = _
      rw [if_pos rfl, if_neg (by omega), Nat.add_zero, Int.natCast_add, Int.add_mul]
    have x2 : (mcn (i + 1) (55 - i - 14) : Int) * B = (mcn i (55 - i - 14) : Int) * B + (mcn i (55 - i) : Int) * B := by
      show ((mcn i (55 - i - 14) + (if 55 - i - 14 = 55 - i - 28 then mcn i (55 - i) else 0) + (if 55 - i - 14 = 55 - i - 14 then mcn i (55 - i) else 0) : Nat) : Int) * B = _
      rw [if_neg (by omega), if_pos rfl, Nat.add_zero, Int.natCast_add, Int.add_mul]
    have eX : (y (mo + 8) (55 - i)).toInt = ri y (mo + 8) (55 - i) := rfl
    generalize hX : ri y (mo + 8) (55 - i) = x at hx eX
    have hnew : ∀ k, k ≠ 55 - i → ri (mfold_l11 true mo d S (i + 1)) (mo + 8) k = (if k = 55 - i - 14 then (if k = 55 - i - 28 then ri y (mo + 8) k + x else ri y (mo + 8) k) + x else (if k = 55 - i - 28 then ri y (mo + 8) k + x else ri y (mo + 8) k)) := by
      intro k hk
      obtain ⟨Y, hY⟩ : ∃ Y, Y = va_up y (mo + 8) (vp_updL (y (mo + 8)) (55 - i) 0) := ⟨_, rfl⟩
      have en : mfold_l11 true mo d S (i + 1) = va_up (va_up Y (mo + 8) (vp_updL (Y (mo + 8)) (55 - i - 28) (Y (mo + 8) (55 - i - 28) + y (mo + 8) (55 - i)))) (mo + 8) (vp_updL (va_up Y (mo + 8) (vp_updL (Y (mo + 8)) (55 - i - 28) (Y (mo + 8) (55 - i - 28) + y (mo + 8) (55 - i))) (mo + 8)) (55 - i - 14) (va_up Y (mo + 8) (vp_updL (Y (mo + 8)) (55 - i - 28) (Y (mo + 8) (55 - i - 28) + y (mo + 8) (55 - i))) (mo + 8) (55 - i - 14) + y (mo + 8) (55 - i))) := by rw [hY, ← hy]; rfl
      have eY : ∀ k, k ≠ 55 - i → Y (mo + 8) k = y (mo + 8) k := fun k hk => by rw [hY, vu_s, pk_uLn hk]
      rw [en]
      unfold ri
      rw [vu_s, vu_s]
      by_cases q : k = 55 - i - 14
      · subst q
        rw [if_pos rfl, if_neg (by omega), pk_uLs, pk_uLn (by omega), eY _ (by omega)]
        have a2 : (y (mo + 8) (55 - i - 14)).toInt = ri y (mo + 8) (55 - i - 14) := rfl
        rw [w_add (by rw [eX, a2]; omega) (by rw [eX, a2]; omega), eX]
      · rw [if_neg q, pk_uLn q]
        by_cases q2 : k = 55 - i - 28
        · subst q2
          have a1 : (y (mo + 8) (55 - i - 28)).toInt = ri y (mo + 8) (55 - i - 28) := rfl
          rw [if_pos rfl, pk_uLs, eY _ (by omega), w_add (by rw [eX, a1]; omega) (by rw [eX, a1]; omega), eX]
        · rw [if_neg q2, pk_uLn q2, eY _ hk]
    refine ⟨fun k hk => ?_, ?_, fun r hr => ?_⟩
    · rw [hnew k (by omega)]
      by_cases q1 : k = 55 - i - 14
      · subst q1
        rw [if_pos rfl, if_neg (by omega), x2]; omega
      · rw [if_neg q1]
        by_cases q2 : k = 55 - i - 28
        · subst q2
          rw [if_pos rfl, x1]; omega
        · rw [if_neg q2]
          have q := h1 k (by omega)
          have x3 : (mcn (i + 1) k : Int) * B = (mcn i k : Int) * B := by
            show ((mcn i k + (if k = 55 - i - 28 then mcn i (55 - i) else 0) + (if k = 55 - i - 14 then mcn i (55 - i) else 0) : Nat) : Int) * B = _
            rw [if_neg q2, if_neg q1, Nat.add_zero]
          rw [x3]
          exact q
    · rw [← h2, show 56 - (i + 1) = 55 - i from by omega, show 56 - i = (55 - i) + 1 from by omega]
      have er := rv_at2 16 (ri y (mo + 8)) (ri (mfold_l11 true mo d S (i + 1)) (mo + 8)) (55 - i - 28) (55 - i - 14) x x (55 - i) (by omega) (by omega) (by omega) (fun k hk => hnew k (by omega))
      refine fz_of (u := x * 2 ^ (16 * (55 - i - 28))) ?_
      rw [er]
      show _ = rv 16 (ri y (mo + 8)) (55 - i) + ri y (mo + 8) (55 - i) * 2 ^ (16 * (55 - i)) - _
      rw [hX, show 16 * (55 - i) = 16 * (55 - i - 28) + 448 from by omega, show 16 * (55 - i - 14) = 16 * (55 - i - 28) + 224 from by omega, Int.pow_add, Int.pow_add, nt_p1]
      generalize rv 16 (ri y (mo + 8)) (55 - i) = A
      generalize (2 : Int) ^ (16 * (55 - i - 28)) = P
      clear hnew er hp1 hp2 hx hX eX h1 h2 h3 hy hb hc0 hc1 hc2 x1 x2 hcb hB hB4
      grind
    · obtain ⟨v0, v1, v2, en⟩ : ∃ v0 v1 v2, mfold_l11 true mo d S (i + 1) = va_up (va_up (va_up y (mo + 8) v0) (mo + 8) v1) (mo + 8) v2 := ⟨_, _, _, by rw [← hy]; rfl⟩
      rw [en, vu_n hr, vu_n hr, vu_n hr, h3 r hr]
/-- the upper half comes down -/
theorem mdown (c : Bool) (mo d : Nat) (S : StT) (hb : ∀ k, k < 2 * pN c → 0 ≤ ri S.2.1 (mo + 8) k ∧ ri S.2.1 (mo + 8) k ≤ 2 ^ 38) :
    (∀ k, k < pN c → 0 ≤ ri (mfold_l11 c mo d S (pN c)) (mo + 8) k ∧ ri (mfold_l11 c mo d S (pN c)) (mo + 8) k ≤ 2 ^ 44) ∧ fz c (rv 16 (ri (mfold_l11 c mo d S (pN c)) (mo + 8)) (pN c)) = fz c (rv 16 (ri S.2.1 (mo + 8)) (2 * pN c)) ∧ ∀ r, r ≠ mo + 8 → mfold_l11 c mo d S (pN c) r = S.2.1 r := by
  cases c with
  | false =>
    obtain ⟨_, h1, h2, h3⟩ := mfd_0 mo d S (2 ^ 38) (by decide) (by decide) hb 16 (Nat.le_refl _)
    exact ⟨fun k hk => ⟨(h1 k hk (by omega)).1, Int.le_trans (h1 k hk (by omega)).2 (by decide)⟩, h2, h3⟩
  | true =>
    obtain ⟨h1, h2, h3⟩ := mfd_1 mo d S (2 ^ 38) (by decide) (by decide) hb 28 (Nat.le_refl _)
    refine ⟨fun k hk => ?_, h2, h3⟩
    have hk2 : k < 28 := hk
    obtain ⟨q1, q2⟩ := h1 k (by omega)
    have q3 := mcn_le 28 (by decide) k (by omega)
    have q4 : (mcn 28 k : Int) * 2 ^ 38 ≤ 6 * 2 ^ 38 := Int.mul_le_mul_of_nonneg_right (by omega) (by decide)
    exact ⟨q1, Int.le_trans q2 (Int.le_trans q4 (by decide))⟩
theorem mk65 : (65535 : Int64).toBitVec.toNat = 2 ^ 16 - 1 := by decide
theorem sh16 : (((nI 16).toInt64 &&& 63).toBitVec.smod 64).toNat = 16 := by decide
theorem mcar_lp (c : Bool) (mo d t : Nat) (y0 : Int64) (y1 : Nat → Nat → Int64) (S : StT) (M : Int) (hM : 0 ≤ M) (hM2 : M ≤ 2 ^ 50) (n : Nat) (hf : ∀ i, i < n → 0 ≤ ri S.2.1 (mo + 8) i ∧ ri S.2.1 (mo + 8) i ≤ M) :
    ∀ i, i ≤ n → (mfold_l116 c mo d t y0 y1 S 0 i).1.toInt = cy 16 (ri S.2.1 (mo + 8)) i ∧ (∀ j, j < i → ri (mfold_l116 c mo d t y0 y1 S 0 i).2 (mo + 8) j = (ri S.2.1 (mo + 8) j + cy 16 (ri S.2.1 (mo + 8)) j) % 2 ^ 16) ∧ (∀ j, i ≤ j → (mfold_l116 c mo d t y0 y1 S 0 i).2 (mo + 8) j = S.2.1 (mo + 8) j) ∧ ∀ r, r ≠ mo + 8 → (mfold_l116 c mo d t y0 y1 S 0 i).2 r = S.2.1 r := by
  intro i
  induction i with
  | zero => intro _; exact ⟨rfl, fun j hj => absurd hj (Nat.not_lt_zero _), fun _ _ => rfl, fun _ _ => rfl⟩
  | succ i ih =>
    intro hi
    obtain ⟨h1, h2, h3, h5⟩ := ih (by omega)
    have hb := cy_bd 16 (ri S.2.1 (mo + 8)) M (by decide) hM i (fun j hj => by have := hf j (by omega); omega)
    have hfi := hf i (by omega)
    have hs : ((mfold_l116 c mo d t y0 y1 S 0 i).1 + (mfold_l116 c mo d t y0 y1 S 0 i).2 (mo + 8) i).toInt = ri S.2.1 (mo + 8) i + cy 16 (ri S.2.1 (mo + 8)) i := by
      rw [w_add]
      · rw [h1, h3 i (Nat.le_refl _), Int.add_comm]; rfl
      · rw [h1, h3 i (Nat.le_refl _)]; show _ ≤ _ + ri S.2.1 (mo + 8) i; omega
      · rw [h1, h3 i (Nat.le_refl _)]; show _ + ri S.2.1 (mo + 8) i < _; omega
    refine ⟨?_, fun j hj => ?_, fun j hj => ?_, fun r hr => ?_⟩
    · show (((mfold_l116 c mo d t y0 y1 S 0 i).1 + (mfold_l116 c mo d t y0 y1 S 0 i).2 (mo + 8) i) >>> ((nI 16).toInt64 &&& 63)).toInt = (ri S.2.1 (mo + 8) i + cy 16 (ri S.2.1 (mo + 8)) i) / 2 ^ 16
      rw [w_shr _ _ 16 sh16, hs]
    · show (va_up (mfold_l116 c mo d t y0 y1 S 0 i).2 (mo + 8) (vp_updL ((mfold_l116 c mo d t y0 y1 S 0 i).2 (mo + 8)) i (((mfold_l116 c mo d t y0 y1 S 0 i).1 + (mfold_l116 c mo d t y0 y1 S 0 i).2 (mo + 8) i) &&& 65535)) (mo + 8) j).toInt = _
      rw [vu_s]
      by_cases e : j = i
      · subst e
        rw [pk_uLs, w_and _ _ 16 (by decide) mk65, hs]
      · rw [pk_uLn e]
        exact h2 j (by omega)
    · show va_up (mfold_l116 c mo d t y0 y1 S 0 i).2 (mo + 8) (vp_updL _ i _) (mo + 8) j = _
      rw [vu_s, pk_uLn (by omega)]
      exact h3 j (by omega)
    · show va_up (mfold_l116 c mo d t y0 y1 S 0 i).2 (mo + 8) _ r = _
      rw [vu_n hr]
      exact h5 r hr
def mK (c : Bool) : Int := if c then 1 + 2 ^ 224 else 38
def mU (c : Bool) : Int := if c then 1 else 2
theorem mK_p (c : Bool) : (2 : Int) ^ (16 * pN c) = mK c + mU c * (nt_p c : Int) := by
  cases c
  · rw [nt_p0]; decide +kernel
  · rw [nt_p1]; decide +kernel
theorem mK_s (c : Bool) : 0 < mK c ∧ (2 ^ 31 + 2) * mK c < 2 ^ (16 * pN c) := by cases c <;> decide +kernel
/-- what is added when the carry z comes back from the top -/
def mbk (c : Bool) (mo : Nat) (z : Int64) (J : Nat → Nat → Int64) : Nat → Nat → Int64 := if nI (bN c) ≠ 0 then va_up (va_up J (mo + 8) (vp_updL (J (mo + 8)) 0 (J (mo + 8) 0 + z))) (mo + 8) (vp_updL (va_up J (mo + 8) (vp_updL (J (mo + 8)) 0 (J (mo + 8) 0 + z)) (mo + 8)) 14 (va_up J (mo + 8) (vp_updL (J (mo + 8)) 0 (J (mo + 8) 0 + z)) (mo + 8) 14 + z)) else va_up J (mo + 8) (vp_updL (J (mo + 8)) 0 (J (mo + 8) 0 + 38 * z))
theorem mbk_s (c : Bool) (mo : Nat) (z : Int64) (J : Nat → Nat → Int64) (hz : 0 ≤ z.toInt ∧ z.toInt ≤ 2 ^ 40) (hJ : ∀ k, k < pN c → 0 ≤ ri J (mo + 8) k ∧ ri J (mo + 8) k < 2 ^ 16) :
    (∀ k, k < pN c → 0 ≤ ri (mbk c mo z J) (mo + 8) k ∧ ri (mbk c mo z J) (mo + 8) k < 2 ^ 16 + 38 * z.toInt) ∧ rv 16 (ri (mbk c mo z J) (mo + 8)) (pN c) = rv 16 (ri J (mo + 8)) (pN c) + z.toInt * mK c ∧ ∀ r, r ≠ mo + 8 → mbk c mo z J r = J r := by
  cases c with
  | false =>
    have h0 : 0 ≤ ri J (mo + 8) 0 ∧ ri J (mo + 8) 0 < 2 ^ 16 := hJ 0 (by decide)
    have a0 : (J (mo + 8) 0).toInt = ri J (mo + 8) 0 := rfl
    have e1 : ((38 : Int64) * z).toInt = 38 * z.toInt := by
      rw [w_mul]
      · rfl
      · show -2 ^ 63 ≤ 38 * z.toInt; omega
      · show 38 * z.toInt < 2 ^ 63; omega
    have en : mbk false mo z J = va_up J (mo + 8) (vp_updL (J (mo + 8)) 0 (J (mo + 8) 0 + 38 * z)) := if_neg (by decide)
    rw [en]
    have hnew : ∀ k, ri (va_up J (mo + 8) (vp_updL (J (mo + 8)) 0 (J (mo + 8) 0 + 38 * z))) (mo + 8) k = if k = 0 then ri J (mo + 8) k + 38 * z.toInt else ri J (mo + 8) k := by
      intro k
      unfold ri
      rw [vu_s]
      by_cases q : k = 0
      · subst q
        rw [if_pos rfl, pk_uLs, w_add (by rw [e1, a0]; omega) (by rw [e1, a0]; omega), e1]
      · rw [if_neg q, pk_uLn q]
    refine ⟨fun k hk => ?_, ?_, fun r hr => vu_n hr⟩
    · have := hJ k hk
      rw [hnew k]
      split <;> omega
    · rw [rv_congr _ (fun k _ => hnew k), rv_at 16 (ri J (mo + 8)) 0 (38 * z.toInt) _ (by decide)]
      show _ + 38 * z.toInt * 2 ^ (16 * 0) = _ + z.toInt * 38
      rw [Nat.mul_zero, Int.pow_zero]
      omega
  | true =>
    have h0 : 0 ≤ ri J (mo + 8) 0 ∧ ri J (mo + 8) 0 < 2 ^ 16 := hJ 0 (by decide)
    have h14 : 0 ≤ ri J (mo + 8) 14 ∧ ri J (mo + 8) 14 < 2 ^ 16 := hJ 14 (by decide)
    have a0 : (J (mo + 8) 0).toInt = ri J (mo + 8) 0 := rfl
    have a14 : (J (mo + 8) 14).toInt = ri J (mo + 8) 14 := rfl
    have en : mbk true mo z J = va_up (va_up J (mo + 8) (vp_updL (J (mo + 8)) 0 (J (mo + 8) 0 + z))) (mo + 8) (vp_updL (va_up J (mo + 8) (vp_updL (J (mo + 8)) 0 (J (mo + 8) 0 + z)) (mo + 8)) 14 (va_up J (mo + 8) (vp_updL (J (mo + 8)) 0 (J (mo + 8) 0 + z)) (mo + 8) 14 + z)) := if_pos (by decide)
    rw [en]
    have hnew : ∀ k, ri (va_up (va_up J (mo + 8) (vp_updL (J (mo + 8)) 0 (J (mo + 8) 0 + z))) (mo + 8) (vp_updL (va_up J (mo + 8) (vp_updL (J (mo + 8)) 0 (J (mo + 8) 0 + z)) (mo + 8)) 14 (va_up J (mo + 8) (vp_updL (J (mo + 8)) 0 (J (mo + 8) 0 + z)) (mo + 8) 14 + z))) (mo + 8) k = (if k = 14 then (if k = 0 then ri J (mo + 8) k + z.toInt else ri J (mo + 8) k) + z.toInt else (if k = 0 then ri J (mo + 8) k + z.toInt else ri J (mo + 8) k)) := by
      intro k
      unfold ri
      rw [vu_s, vu_s]
      by_cases q : k = 14
      · subst q
        rw [if_pos rfl, if_neg (by decide), pk_uLs, pk_uLn (by decide), w_add (by rw [a14]; omega) (by rw [a14]; omega)]
      · rw [if_neg q, pk_uLn q]
        by_cases q2 : k = 0
        · subst q2
          rw [if_pos rfl, pk_uLs, w_add (by rw [a0]; omega) (by rw [a0]; omega)]
        · rw [if_neg q2, pk_uLn q2]
    refine ⟨fun k hk => ?_, ?_, fun r hr => by rw [vu_n hr, vu_n hr]⟩
    · have := hJ k hk
      rw [hnew k]
      by_cases q : k = 14
      · rw [if_pos q, if_neg (by omega)]; omega
      · rw [if_neg q]
        split <;> omega
    · have er := rv_at2 16 (ri J (mo + 8)) _ 0 14 z.toInt z.toInt 28 (by decide) (by decide) (by decide) (fun k _ => hnew k)
      refine er.trans ?_
      show _ = rv 16 (ri J (mo + 8)) 28 + z.toInt * (1 + 2 ^ 224)
      rw [Nat.mul_zero, Int.pow_zero, show 16 * 14 = 224 from rfl, Int.mul_add]
      omega
theorem rv_b1 (f : Nat → Int) (b : Nat) : ∀ n, (∀ i, i < n → 0 ≤ f i) → 0 ≤ rv b f n := by
  intro n
  induction n with
  | zero => exact fun _ => Int.le_refl _
  | succ n ih =>
    intro h
    have h1 := ih (fun i hi => h i (by omega))
    have h2 : 0 ≤ f n * 2 ^ (b * n) := Int.mul_nonneg (h n (by omega)) (Int.le_of_lt (Int.pow_pos (by decide)))
    show 0 ≤ rv b f n + f n * 2 ^ (b * n)
    omega
/-- one turn of the carries -/
theorem mturn (c : Bool) (mo d t : Nat) (y0 : Int64) (y1 : Nat → Nat → Int64) (S : StT) (M : Int) (hM : 0 ≤ M) (hM2 : M ≤ 2 ^ 45) (hy : lg_cmp y0 0 ≠ 0) (hf : ∀ i, i < pN c → 0 ≤ ri y1 (mo + 8) i ∧ ri y1 (mo + 8) i ≤ M) :
    ∃ (z : Int64) (K : Nat → Nat → Int64) (R : Int), (∀ f, mfold_w98 c mo d S (f + 1) t (y0, y1) = mfold_w98 c mo d S f (t + 1) (z, K)) ∧ rv 16 (ri y1 (mo + 8)) (pN c) = R + z.toInt * 2 ^ (16 * pN c) ∧ 0 ≤ R ∧ R < 2 ^ (16 * pN c) ∧ 0 ≤ z.toInt ∧ z.toInt ≤ 2 ^ 31 ∧ rv 16 (ri K (mo + 8)) (pN c) = R + z.toInt * mK c ∧ (∀ k, k < pN c → 0 ≤ ri K (mo + 8) k ∧ ri K (mo + 8) k < 2 ^ 16 + 38 * z.toInt) ∧ ∀ r, r ≠ mo + 8 → K r = y1 r := by
  obtain ⟨h1, h2, _, h4⟩ := mcar_lp c mo d t y0 y1 (S.1, y1, S.2.2) M hM (by omega) (pN c) hf (pN c) (Nat.le_refl _)
  have h5 : ∀ r, r ≠ mo + 8 → (mfold_l116 c mo d t y0 y1 (S.1, y1, S.2.2) 0 (pN c)).2 r = y1 r := h4
  have st : ∀ f, mfold_w98 c mo d S (f + 1) t (y0, y1) = mfold_w98 c mo d S f (t + 1) ((mfold_l116 c mo d t y0 y1 (S.1, y1, S.2.2) 0 (pN c)).1, mbk c mo (mfold_l116 c mo d t y0 y1 (S.1, y1, S.2.2) 0 (pN c)).1 (mfold_l116 c mo d t y0 y1 (S.1, y1, S.2.2) 0 (pN c)).2) := by
    intro f
    rw [mfold_w98]
    dsimp only
    rw [if_neg hy]
    unfold mbk
    split <;> rfl
  have hs := cy_sum 16 (ri y1 (mo + 8)) (pN c)
  have hb := cy_bd 16 (ri y1 (mo + 8)) M (by decide) hM (pN c) (fun j hj => by have := hf j hj; omega)
  have hd : ∀ k, k < pN c → 0 ≤ ri (mfold_l116 c mo d t y0 y1 (S.1, y1, S.2.2) 0 (pN c)).2 (mo + 8) k ∧ ri (mfold_l116 c mo d t y0 y1 (S.1, y1, S.2.2) 0 (pN c)).2 (mo + 8) k < 2 ^ 16 := by
    intro k hk
    rw [h2 k hk]
    exact ⟨Int.emod_nonneg _ (by decide), Int.emod_lt_of_pos _ (by decide)⟩
  have hr : rv 16 (ri (mfold_l116 c mo d t y0 y1 (S.1, y1, S.2.2) 0 (pN c)).2 (mo + 8)) (pN c) = rv 16 (fun i => (ri y1 (mo + 8) i + cy 16 (ri y1 (mo + 8)) i) % 2 ^ 16) (pN c) := rv_congr _ h2
  have hR := rv_b0 (ri (mfold_l116 c mo d t y0 y1 (S.1, y1, S.2.2) 0 (pN c)).2 (mo + 8)) 16 (pN c) hd
  rw [← hr] at hs
  have hcz : (mfold_l116 c mo d t y0 y1 (S.1, y1, S.2.2) 0 (pN c)).1.toInt = cy 16 (ri y1 (mo + 8)) (pN c) := h1
  rw [← hcz] at hs hb
  generalize (mfold_l116 c mo d t y0 y1 (S.1, y1, S.2.2) 0 (pN c)).1 = z at hs hb st
  generalize (mfold_l116 c mo d t y0 y1 (S.1, y1, S.2.2) 0 (pN c)).2 = J at hs hd hR h5 st
  have hz0 : 0 ≤ z.toInt := by
    have hT := rv_b1 (ri y1 (mo + 8)) 16 (pN c) (fun i hi => (hf i hi).1)
    have hp : (0 : Int) < 2 ^ (16 * pN c) := Int.pow_pos (by decide)
    rcases i_lg z.toInt 0 with q | q
    · have q2 : (z.toInt + 1) * 2 ^ (16 * pN c) ≤ 0 := Int.mul_nonpos_of_nonpos_of_nonneg (by omega) (by omega)
      rw [Int.add_mul, Int.one_mul] at q2
      omega
    · exact q
  obtain ⟨k1, k2, k3⟩ := mbk_s c mo z J ⟨hz0, by omega⟩ hd
  exact ⟨z, mbk c mo z J, rv 16 (ri J (mo + 8)) (pN c), st, hs.symm, hR.1, hR.2, hz0, by omega, k2, k1, fun r hr => (k3 r hr).trans (h5 r hr)⟩
theorem w98_stop (c : Bool) (mo d t f : Nat) (S : StT) (z : Int64) (K : Nat → Nat → Int64) (hz : z.toInt = 0) : mfold_w98 c mo d S (f + 1) t (z, K) = (z, K) := by
  have e : z = 0 := Int64.toInt_inj.mp (hz.trans (by decide))
  rw [mfold_w98]
  dsimp only
  rw [if_pos ((lgc0 z 0).mpr e)]
theorem nz_cmp {z : Int64} (h : z.toInt ≠ 0) : lg_cmp z 0 ≠ 0 := fun q => h (by rw [(lgc0 z 0).mp q]; rfl)
theorem mcarry (c : Bool) (mo d : Nat) (S : StT) (J : Nat → Nat → Int64) (hf : ∀ i, i < pN c → 0 ≤ ri J (mo + 8) i ∧ ri J (mo + 8) i ≤ 2 ^ 44) :
    (∀ k, k < pN c → 0 ≤ ri (mfold_w98 c mo d S 10 0 (1, J)).2 (mo + 8) k ∧ ri (mfold_w98 c mo d S 10 0 (1, J)).2 (mo + 8) k < 2 ^ 16) ∧ fz c (rv 16 (ri (mfold_w98 c mo d S 10 0 (1, J)).2 (mo + 8)) (pN c)) = fz c (rv 16 (ri J (mo + 8)) (pN c)) ∧ ∀ r, r ≠ mo + 8 → (mfold_w98 c mo d S 10 0 (1, J)).2 r = J r := by
  have hK := mK_s c
  have hp := mK_p c
  have turn : ∀ (R z T V : Int), T = R + z * 2 ^ (16 * pN c) → V = R + z * mK c → fz c V = fz c T := by
    intro R z T V h1 h2
    refine fz_of (u := z * mU c) ?_
    rw [h1, h2, hp]
    generalize mK c = a
    generalize mU c = b
    generalize (nt_p c : Int) = q
    clear h1 h2 hK hp hf
    grind
  obtain ⟨z1, K1, R1, st1, e1, r1, r1', p1, p1', v1, b1, f1⟩ := mturn c mo d 0 1 J S (2 ^ 44) (by decide) (by decide) (by decide) hf
  rw [st1 9]
  have t1 := turn _ _ _ _ e1 v1
  by_cases hz1 : z1.toInt = 0
  · rw [w98_stop c mo d 1 8 S z1 K1 hz1]
    exact ⟨fun k hk => by have := b1 k hk; rw [hz1] at this; show 0 ≤ ri K1 (mo + 8) k ∧ ri K1 (mo + 8) k < 2 ^ 16; omega, t1, f1⟩
  · obtain ⟨z2, K2, R2, st2, e2, r2, r2', p2, p2', v2, b2, f2⟩ := mturn c mo d 1 z1 K1 S (2 ^ 44) (by decide) (by decide) (nz_cmp hz1) (fun k hk => by have := b1 k hk; omega)
    rw [st2 8]
    have t2 := turn _ _ _ _ e2 v2
    have hzK : z1.toInt * mK c ≤ 2 ^ 31 * mK c := Int.mul_le_mul_of_nonneg_right p1' (by omega)
    have ex : ((2 : Int) ^ 31 + 2) * mK c = 2 ^ 31 * mK c + 2 * mK c := Int.add_mul _ _ _
    rw [v1] at e2
    generalize hP : (2 : Int) ^ (16 * pN c) = P at *
    by_cases hz2 : z2.toInt = 0
    · rw [w98_stop c mo d 2 7 S z2 K2 hz2]
      exact ⟨fun k hk => by have := b2 k hk; rw [hz2] at this; show 0 ≤ ri K2 (mo + 8) k ∧ ri K2 (mo + 8) k < 2 ^ 16; omega, t2.trans t1, fun r hr => (f2 r hr).trans (f1 r hr)⟩
    · have hz2' : z2.toInt = 1 := by
        rcases i_lg z2.toInt 2 with q | q
        · omega
        · have q2 : 2 * P ≤ z2.toInt * P := Int.mul_le_mul_of_nonneg_right q (by omega)
          omega
      obtain ⟨z3, K3, R3, st3, e3, r3, r3', p3, p3', v3, b3, f3⟩ := mturn c mo d 2 z2 K2 S (2 ^ 44) (by decide) (by decide) (nz_cmp hz2) (fun k hk => by have := b2 k hk; omega)
      rw [st3 7]
      rw [hP] at e3
      have t3 := turn _ _ _ _ e3 v3
      rw [v2, hz2', Int.one_mul] at e3
      rw [hz2', Int.one_mul] at e2
      have hz3 : z3.toInt = 0 := by
        rcases i_lg z3.toInt 1 with q | q
        · omega
        · have q2 : 1 * P ≤ z3.toInt * P := Int.mul_le_mul_of_nonneg_right q (by omega)
          omega
      rw [w98_stop c mo d 3 6 S z3 K3 hz3]
      exact ⟨fun k hk => by have := b3 k hk; rw [hz3] at this; show 0 ≤ ri K3 (mo + 8) k ∧ ri K3 (mo + 8) k < 2 ^ 16; omega, t3.trans (t2.trans t1), fun r hr => (f3 r hr).trans ((f2 r hr).trans (f1 r hr))⟩
end
