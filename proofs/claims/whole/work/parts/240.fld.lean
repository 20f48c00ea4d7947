section
/-! THE CLASS'S FIELD. Its rows as numbers modulo the prime: what carry does. -/
/-- a row's limbs as numbers -/
def ri (J : Nat → Nat → Int64) (r : Nat) : Nat → Int := fun i => (J r i).toInt
theorem sh_fb (c : Bool) : (((nI (fb c)).toInt64 &&& 63).toBitVec.smod 64).toNat = fb c := by cases c <;> decide
theorem sh_ft (c : Bool) : (((nI (ft c)).toInt64 &&& 63).toBitVec.smod 64).toNat = ft c := by cases c <;> decide
theorem mk_fM (c : Bool) : (fM c).toBitVec.toNat = 2 ^ fb c - 1 := by cases c <;> decide
theorem mk_fN (c : Bool) : (fN c).toBitVec.toNat = 2 ^ ft c - 1 := by cases c <;> decide
theorem fb_le (c : Bool) : 28 ≤ fb c ∧ fb c ≤ 29 := by cases c <;> decide
theorem ft_le (c : Bool) : 23 ≤ ft c ∧ ft c ≤ 28 := by cases c <;> decide
theorem pw_fb (c : Bool) : (2 : Int) ^ 28 ≤ 2 ^ fb c ∧ (2 : Int) ^ fb c ≤ 2 ^ 29 := by cases c <;> decide
theorem pw_ft (c : Bool) : (2 : Int) ^ 23 ≤ 2 ^ ft c ∧ (2 : Int) ^ ft c ≤ 2 ^ 28 := by cases c <;> decide
/-- the loop of carry: what it has written, what it still reads, what goes up -/
theorem carry_lp (c : Bool) (to fr : Nat) (S : StT) (M : Int) (hM : 0 ≤ M) (hM2 : M ≤ 5 * 2 ^ 60) (n : Nat) (hf : ∀ i, i < n → -M ≤ ri S.2.1 fr i ∧ ri S.2.1 fr i ≤ M) :
    ∀ i, i ≤ n → (carry_l13 c to fr S 0 i).1.toInt = cy (fb c) (ri S.2.1 fr) i ∧ (∀ j, j < i → ri (carry_l13 c to fr S 0 i).2 to j = (ri S.2.1 fr j + cy (fb c) (ri S.2.1 fr) j) % 2 ^ fb c) ∧ (∀ j, i ≤ j → (carry_l13 c to fr S 0 i).2 fr j = S.2.1 fr j) ∧ (∀ j, i ≤ j → (carry_l13 c to fr S 0 i).2 to j = S.2.1 to j) ∧ ∀ r, r ≠ to → (carry_l13 c to fr S 0 i).2 r = S.2.1 r := by
  intro i
  induction i with
  | zero => intro _; exact ⟨rfl, fun j hj => absurd hj (Nat.not_lt_zero _), fun _ _ => rfl, fun _ _ => rfl, fun _ _ => rfl⟩
  | succ i ih =>
    intro hi
    obtain ⟨h1, h2, h3, h4, h5⟩ := ih (by omega)
    have hb := cy_bd (fb c) (ri S.2.1 fr) M (by have := fb_le c; omega) hM i (fun j hj => hf j (by omega))
    have hfi := hf i (by omega)
    have hq : M / 2 ^ fb c ≤ M := Int.ediv_le_self _ hM
    have hq0 : 0 ≤ M / 2 ^ fb c := Int.ediv_nonneg hM (by have := pw_fb c; omega)
    have hq2 : M / 2 ^ fb c ≤ 2 ^ 35 := by
      have := pw_fb c
      refine Int.le_trans (Int.ediv_le_ediv (by omega) hM2) ?_
      cases c <;> decide
    have hs : ((carry_l13 c to fr S 0 i).2 fr i + (carry_l13 c to fr S 0 i).1).toInt = ri S.2.1 fr i + cy (fb c) (ri S.2.1 fr) i := by
      rw [w_add]
      · rw [h1, h3 i (Nat.le_refl _)]; rfl
      · rw [h1, h3 i (Nat.le_refl _)]; show _ ≤ ri S.2.1 fr i + _; omega
      · rw [h1, h3 i (Nat.le_refl _)]; show ri S.2.1 fr i + _ < _; omega
    have hv : ri (va_up (carry_l13 c to fr S 0 i).2 to (vp_updL ((carry_l13 c to fr S 0 i).2 to) i (((carry_l13 c to fr S 0 i).2 fr i + (carry_l13 c to fr S 0 i).1) &&& fM c))) to i = (ri S.2.1 fr i + cy (fb c) (ri S.2.1 fr) i) % 2 ^ fb c := by
      unfold ri
      rw [vu_s, pk_uLs, w_and _ _ (fb c) (by have := fb_le c; omega) (mk_fM c), hs]
      rfl
    refine ⟨?_, fun j hj => ?_, fun j hj => ?_, fun j hj => ?_, fun r hr => ?_⟩
    · show ((((carry_l13 c to fr S 0 i).2 fr i) + (carry_l13 c to fr S 0 i).1) >>> ((nI (fb c)).toInt64 &&& 63)).toInt = (ri S.2.1 fr i + cy (fb c) (ri S.2.1 fr) i) / 2 ^ fb c
      rw [w_shr _ _ (fb c) (sh_fb c), hs]
    · by_cases e : j = i
      · subst e; exact hv
      · have := h2 j (by omega)
        rw [← this]
        unfold ri
        show (va_up _ to (vp_updL _ i _) to j).toInt = _
        rw [vu_s, pk_uLn e]
    · show va_up _ to (vp_updL _ i _) fr j = _
      by_cases e : fr = to
      · subst e
        rw [vu_s, pk_uLn (by omega)]
        exact h3 j (by omega)
      · rw [vu_n e]
        exact h3 j (by omega)
    · show va_up _ to (vp_updL _ i _) to j = _
      rw [vu_s, pk_uLn (by omega)]
      exact h4 j (by omega)
    · show va_up _ to (vp_updL _ i _) r = _
      rw [vu_n hr]
      exact h5 r hr
end
