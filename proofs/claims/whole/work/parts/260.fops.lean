section
/-! SUMS AND DIFFERENCES in the class's field. -/
/-- the field's element that a row stands for; its limbs are in order -/
def FV (c : Bool) (J : Nat → Nat → Int64) (r : Nat) : Zp c := fz c (fvl c (ri J r))
def FK (c : Bool) (J : Nat → Nat → Int64) (r : Nat) : Prop := fok c (ri J r)
theorem pw_fw (c : Bool) (i : Nat) : (2 : Int) ^ 23 ≤ 2 ^ fw c i ∧ (2 : Int) ^ fw c i ≤ 2 ^ 29 := by
  unfold fw
  have h1 := pw_fb c
  have h2 := pw_ft c
  split <;> omega
theorem fw_lo (c : Bool) (i : Nat) (h : i < fL c - 1) : fw c i = fb c := if_neg (by omega)
theorem fw_hi (c : Bool) : fw c (fL c - 1) = ft c := if_pos rfl
/-- a row that was only added to or taken from: one carry brings it in order -/
theorem carry1 (c : Bool) (to fr : Nat) (S : StT) (h : ∀ i, i < fL c → -(2 ^ fw c i + 128) ≤ ri S.2.1 fr i ∧ ri S.2.1 fr i ≤ 2 * 2 ^ fw c i + 128) :
    FK c (carry_f c to fr S).2.1 to ∧ FV c (carry_f c to fr S).2.1 to = fz c (fvl c (ri S.2.1 fr)) ∧ ∀ r, r ≠ to → (carry_f c to fr S).2.1 r = S.2.1 r := by
  have hL := fL_le c
  have hpf := pw_fb c
  have hpt := pw_ft c
  obtain ⟨m, u, hu, hm, hs, hg, hr⟩ := carry_s c to fr S 2 2 2 2 (by decide) (by decide) (by decide) (by decide) (by decide) (by decide)
    (fun i hi => by
      have := h i (by omega)
      rw [fw_lo c i hi] at this
      omega)
    (by
      have := h (fL c - 1) (by omega)
      rw [fw_hi c] at this
      omega)
  exact ⟨ok_of (by omega) hm hg, fz_of (val_of hs hg), hr⟩
/-- a row of large numbers: two carries -/
theorem carry2 (c : Bool) (to fr : Nat) (S : StT) (h : ∀ i, i < fL c → -(5 * 2 ^ 60) ≤ ri S.2.1 fr i ∧ ri S.2.1 fr i ≤ 5 * 2 ^ 60) :
    FK c (carry_f c to to (carry_f c to fr S)).2.1 to ∧ FV c (carry_f c to to (carry_f c to fr S)).2.1 to = fz c (fvl c (ri S.2.1 fr)) ∧ ∀ r, r ≠ to → (carry_f c to to (carry_f c to fr S)).2.1 r = S.2.1 r := by
  have hL := fL_le c
  have hpf := pw_fb c
  have hpt := pw_ft c
  obtain ⟨m, u, hu, hm, hs, hg, hr⟩ := carry_s c to fr S (2 ^ 35) (2 ^ 35) (2 ^ 40) (2 ^ 40) (by decide) (by decide) (by decide) (by decide) (by decide) (by decide)
    (fun i hi => by
      have := h i (by omega)
      omega)
    (by
      have := h (fL c - 1) (by omega)
      omega)
  have hb : ∀ i, i < fL c → -(19 * 2 ^ 40) ≤ ri (carry_f c to fr S).2.1 to i ∧ ri (carry_f c to fr S).2.1 to i ≤ 2 ^ 29 + 19 * 2 ^ 40 := by
    intro i hi
    rw [hg i hi]
    have h1 := hm i hi
    have h2 := fa_bd c i
    have h3 := pw_fw c i
    generalize fa c i = a at h2
    have q1 : -2 ^ 40 * a ≤ u * a := Int.mul_le_mul_of_nonneg_right hu.1 h2.1
    have q2 : u * a ≤ 2 ^ 40 * a := Int.mul_le_mul_of_nonneg_right hu.2 h2.1
    omega
  have ht : 0 ≤ ri (carry_f c to fr S).2.1 to (fL c - 1) ∧ ri (carry_f c to fr S).2.1 to (fL c - 1) < 2 ^ ft c := by
    rw [hg _ (by omega)]
    have h1 := hm (fL c - 1) (by omega)
    rw [fw_hi c] at h1
    have : fa c (fL c - 1) = 0 := by cases c <;> rfl
    rw [this]
    omega
  obtain ⟨m', u', hu', hm', hs', hg', hr'⟩ := carry_s c to to (carry_f c to fr S) (2 ^ 17) (2 ^ 17) 1 1 (by decide) (by decide) (by decide) (by decide) (by decide) (by decide)
    (fun i hi => by
      have := hb i (by omega)
      omega)
    (by omega)
  refine ⟨ok_of (by omega) hm' hg', (fz_of (val_of hs' hg')).trans (fz_of (val_of hs hg)), fun r h1 => (hr' r h1).trans (hr r h1)⟩
/-- a loop that writes one limb after the other out of limbs at the same place -/
theorem pw_loop {S0 : Nat → Nat → Int64} {lp : Nat → Nat → Nat → Int64} {to : Nat} {F : (Nat → Nat → Int64) → Nat → Int64} (h0 : lp 0 = S0) (hs : ∀ i, lp (i + 1) = va_up (lp i) to (vp_updL (lp i to) i (F (lp i) i))) (hF : ∀ y i, (∀ r, y r i = S0 r i) → F y i = F S0 i) :
    ∀ i, (∀ j, j < i → lp i to j = F S0 j) ∧ ∀ r j, (r ≠ to ∨ i ≤ j) → lp i r j = S0 r j := by
  intro i
  induction i with
  | zero => exact ⟨fun j hj => absurd hj (Nat.not_lt_zero _), fun r j _ => by rw [h0]⟩
  | succ i ih =>
    obtain ⟨i1, i2⟩ := ih
    refine ⟨fun j hj => ?_, fun r j hrj => ?_⟩
    · rw [hs i, vu_s]
      by_cases e : j = i
      · subst e
        rw [pk_uLs]
        exact hF _ _ (fun r => i2 r j (Or.inr (Nat.le_refl _)))
      · rw [pk_uLn e]
        exact i1 j (by omega)
    · rw [hs i]
      by_cases e : r = to
      · subst e
        rw [vu_s, pk_uLn (by rcases hrj with q | q; exact absurd rfl q; omega)]
        exact i2 r j (by rcases hrj with q | q; exact absurd rfl q; exact Or.inr (by omega))
      · rw [vu_n e]
        exact i2 r j (Or.inl e)
theorem row_ext {J K : Nat → Nat → Int64} {r : Nat} (h : ∀ j, J r j = K r j) : J r = K r := funext h
theorem plus_s (c : Bool) (to a b : Nat) (S : StT) (ha : FK c S.2.1 a) (hb : FK c S.2.1 b) :
    FK c (plus_f c to a b S).2.1 to ∧ FV c (plus_f c to a b S).2.1 to = FV c S.2.1 a + FV c S.2.1 b ∧ ∀ r, r ≠ to → (plus_f c to a b S).2.1 r = S.2.1 r := by
  obtain ⟨p1, p2⟩ := pw_loop (S0 := S.2.1) (lp := plus_l3 c to a b S) (to := to) (F := fun y i => y a i + y b i) rfl (fun i => rfl) (fun y i h => by show y a i + y b i = _; rw [h a, h b]) (fL c)
  have hv : ∀ i, i < fL c → ri (plus_l3 c to a b S (fL c)) to i = ri S.2.1 a i + ri S.2.1 b i := by
    intro i hi
    have h1 := ha i hi
    have h2 := hb i hi
    have h3 := pw_fw c i
    show (plus_l3 c to a b S (fL c) to i).toInt = _
    rw [p1 i hi]
    refine w_add ?_ ?_
    · show _ ≤ ri S.2.1 a i + ri S.2.1 b i; omega
    · show ri S.2.1 a i + ri S.2.1 b i < _; omega
  obtain ⟨q1, q2, q3⟩ := carry1 c to to (S.1, plus_l3 c to a b S (fL c), S.2.2) (fun i hi => by
    show _ ≤ ri (plus_l3 c to a b S (fL c)) to i ∧ ri (plus_l3 c to a b S (fL c)) to i ≤ _
    rw [hv i hi]
    have h1 := ha i hi
    have h2 := hb i hi
    have h3 := pw_fw c i
    omega)
  refine ⟨q1, q2.trans ?_, fun r hr => (q3 r hr).trans (row_ext (fun j => p2 r j (Or.inl hr)))⟩
  show fz c (rv (fb c) (ri (plus_l3 c to a b S (fL c)) to) (fL c)) = _
  rw [rv_congr (g := fun i => ri S.2.1 a i + ri S.2.1 b i) (fL c) hv, rv_add, fz_add]
  rfl
theorem minus_s (c : Bool) (to a b : Nat) (S : StT) (ha : FK c S.2.1 a) (hb : FK c S.2.1 b) :
    FK c (minus_f c to a b S).2.1 to ∧ FV c (minus_f c to a b S).2.1 to = FV c S.2.1 a - FV c S.2.1 b ∧ ∀ r, r ≠ to → (minus_f c to a b S).2.1 r = S.2.1 r := by
  obtain ⟨p1, p2⟩ := pw_loop (S0 := S.2.1) (lp := minus_l3 c to a b S) (to := to) (F := fun y i => y a i - y b i) rfl (fun i => rfl) (fun y i h => by show y a i - y b i = _; rw [h a, h b]) (fL c)
  have hv : ∀ i, i < fL c → ri (minus_l3 c to a b S (fL c)) to i = ri S.2.1 a i + -1 * ri S.2.1 b i := by
    intro i hi
    have h1 := ha i hi
    have h2 := hb i hi
    have h3 := pw_fw c i
    show (minus_l3 c to a b S (fL c) to i).toInt = _
    rw [p1 i hi]
    have e : (S.2.1 a i - S.2.1 b i).toInt = ri S.2.1 a i - ri S.2.1 b i := by
      refine w_sub ?_ ?_
      · show _ ≤ ri S.2.1 a i - ri S.2.1 b i; omega
      · show ri S.2.1 a i - ri S.2.1 b i < _; omega
    exact e.trans (by omega)
  obtain ⟨q1, q2, q3⟩ := carry1 c to to (S.1, minus_l3 c to a b S (fL c), S.2.2) (fun i hi => by
    show _ ≤ ri (minus_l3 c to a b S (fL c)) to i ∧ ri (minus_l3 c to a b S (fL c)) to i ≤ _
    rw [hv i hi]
    have h1 := ha i hi
    have h2 := hb i hi
    have h3 := pw_fw c i
    omega)
  refine ⟨q1, q2.trans ?_, fun r hr => (q3 r hr).trans (row_ext (fun j => p2 r j (Or.inl hr)))⟩
  show fz c (rv (fb c) (ri (minus_l3 c to a b S (fL c)) to) (fL c)) = _
  rw [rv_congr (g := fun i => ri S.2.1 a i + -1 * ri S.2.1 b i) (fL c) hv, rv_add, rv_smul, show rv (fb c) (ri S.2.1 a) (fL c) + -1 * rv (fb c) (ri S.2.1 b) (fL c) = rv (fb c) (ri S.2.1 a) (fL c) - rv (fb c) (ri S.2.1 b) (fL c) from by omega, fz_sub]
  rfl
theorem neg_s (c : Bool) (to a : Nat) (S : StT) (ha : FK c S.2.1 a) :
    FK c (fneg_f c to a S).2.1 to ∧ FV c (fneg_f c to a S).2.1 to = -FV c S.2.1 a ∧ ∀ r, r ≠ to → (fneg_f c to a S).2.1 r = S.2.1 r := by
  obtain ⟨p1, p2⟩ := pw_loop (S0 := S.2.1) (lp := fneg_l2 c to a S) (to := to) (F := fun y i => -y a i) rfl (fun i => rfl) (fun y i h => by show -y a i = _; rw [h a]) (fL c)
  have hv : ∀ i, i < fL c → ri (fneg_l2 c to a S (fL c)) to i = -1 * ri S.2.1 a i := by
    intro i hi
    have h1 := ha i hi
    have h3 := pw_fw c i
    show (fneg_l2 c to a S (fL c) to i).toInt = _
    rw [p1 i hi]
    have e : (-S.2.1 a i).toInt = -ri S.2.1 a i := by
      refine w_neg ?_ ?_
      · show _ ≤ -ri S.2.1 a i; omega
      · show -ri S.2.1 a i < _; omega
    exact e.trans (by omega)
  obtain ⟨q1, q2, q3⟩ := carry1 c to to (S.1, fneg_l2 c to a S (fL c), S.2.2) (fun i hi => by
    show _ ≤ ri (fneg_l2 c to a S (fL c)) to i ∧ ri (fneg_l2 c to a S (fL c)) to i ≤ _
    rw [hv i hi]
    have h1 := ha i hi
    have h3 := pw_fw c i
    omega)
  refine ⟨q1, q2.trans ?_, fun r hr => (q3 r hr).trans (row_ext (fun j => p2 r j (Or.inl hr)))⟩
  show fz c (rv (fb c) (ri (fneg_l2 c to a S (fL c)) to) (fL c)) = _
  rw [rv_congr (g := fun i => -1 * ri S.2.1 a i) (fL c) hv, rv_smul, show -1 * rv (fb c) (ri S.2.1 a) (fL c) = -rv (fb c) (ri S.2.1 a) (fL c) from by omega, fz_neg]
  rfl
end
