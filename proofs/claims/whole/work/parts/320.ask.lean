section
/-! QUESTIONS about the field's rows. -/
theorem rv_eq0 (b : Nat) (f : Nat → Int) : ∀ n, (∀ i, i < n → 0 ≤ f i) → (rv b f n = 0 ↔ ∀ i, i < n → f i = 0) := by
  have nn : ∀ n, (∀ i, i < n → 0 ≤ f i) → 0 ≤ rv b f n := by
    intro n
    induction n with
    | zero => intro _; exact Int.le_refl _
    | succ n ih =>
      intro h
      have h1 := ih (fun i hi => h i (by omega))
      have h2 : 0 ≤ f n * 2 ^ (b * n) := Int.mul_nonneg (h n (by omega)) (Int.le_of_lt (Int.pow_pos (by decide)))
      show 0 ≤ rv b f n + f n * 2 ^ (b * n)
      omega
  intro n
  induction n with
  | zero => intro _; exact ⟨fun _ i hi => absurd hi (Nat.not_lt_zero _), fun _ => rfl⟩
  | succ n ih =>
    intro h
    have h1 := nn n (fun i hi => h i (by omega))
    have hP : (0 : Int) < 2 ^ (b * n) := Int.pow_pos (by decide)
    have h2 : 0 ≤ f n * 2 ^ (b * n) := Int.mul_nonneg (h n (by omega)) (Int.le_of_lt hP)
    have ih' := ih (fun i hi => h i (by omega))
    show rv b f n + f n * 2 ^ (b * n) = 0 ↔ _
    constructor
    · intro e i hi
      have e1 : rv b f n = 0 := by omega
      have e2 : f n * 2 ^ (b * n) = 0 := by omega
      by_cases q : i = n
      · subst q
        rcases Int.mul_eq_zero.mp e2 with z | z
        · exact z
        · omega
      · exact ih'.1 e1 i (by omega)
    · intro e
      rw [ih'.2 (fun i hi => e i (by omega)), e n (by omega), Int.zero_mul]
      rfl
theorem l4_zero (c : Bool) (o : Nat) (S : StT) : ∀ n, isFZ_l4 c o S 0 n = 0 ↔ ∀ i, i < n → S.2.1 (o + 4) i = 0 := by
  intro n
  induction n with
  | zero => exact ⟨fun _ i hi => absurd hi (Nat.not_lt_zero _), fun _ => rfl⟩
  | succ n ih =>
    have e : isFZ_l4 c o S 0 (n + 1) = isFZ_l4 c o S 0 n ||| S.2.1 (o + 4) n := rfl
    rw [e, Int64.or_eq_zero_iff, ih]
    constructor
    · rintro ⟨h1, h2⟩ i hi
      by_cases q : i = n
      · subst q; exact h2
      · exact h1 i (by omega)
    · intro h
      exact ⟨fun i hi => h i (by omega), h n (by omega)⟩
theorem zv_0 {c : Bool} (u : Zp c) : (u.val : Int) = 0 ↔ u = 0 := by
  constructor
  · intro h
    rw [← fz_val u, h]
    exact fz_0 c
  · intro h
    have e := fz_vl c 0
    rw [fz_0, Int.zero_emod] at e
    rw [h]
    exact e
theorem isFZ_s (c : Bool) (o : Nat) (S : StT) (u : Zp c) (h1 : ∀ i, i < fL c → 0 ≤ ri S.2.1 (o + 4) i) (h2 : fvl c (ri S.2.1 (o + 4)) = (u.val : Int)) : (isFZ_f c o S).1 = if u = 0 then nI 1 else nI 0 := by
  have hz : isFZ_l4 c o S 0 (fL c) = 0 ↔ u = 0 := by
    rw [l4_zero, ← zv_0, ← h2]
    refine Iff.trans ?_ (rv_eq0 (fb c) (ri S.2.1 (o + 4)) (fL c) h1).symm
    exact ⟨fun h i hi => by show (S.2.1 (o + 4) i).toInt = 0; rw [h i hi]; rfl, fun h i hi => (l0_toInt _).2 (h i hi)⟩
  unfold isFZ_f
  by_cases q : u = 0
  · rw [if_neg (fun z => z ((lgc0 _ _).2 (hz.2 q))), if_pos q]
  · rw [if_pos (fun z => q (hz.1 ((lgc0 _ _).1 z))), if_neg q]
theorem isZero_s (c : Bool) (o a : Nat) (S : StT) (hao : a ≠ o + 4) (hP : PrimeAt c o S.2.1) (ha : FK c S.2.1 a) :
    (fisZero_f c o a S).1 = (if FV c S.2.1 a = 0 then nI 1 else nI 0) ∧ ∀ r, r ≠ o + 4 → r ≠ o + 5 → (fisZero_f c o a S).2.2.1 r = S.2.1 r := by
  obtain ⟨h1, h2, h3⟩ := freeze_s c o a S hao hP ha
  exact ⟨isFZ_s c o (freeze_f c o a S) _ (fun i hi => (h1 i hi).1) h2, h3⟩
theorem sub0 {c : Bool} (u v : Zp c) : u - v = 0 ↔ u = v := by
  constructor
  · intro h
    have e : u = (u - v) + v := by grind
    rw [e, h]
    grind
  · intro h
    subst h
    grind
theorem areEq_s (c : Bool) (o a b : Nat) (S : StT) (hP : PrimeAt c o S.2.1) (ha : FK c S.2.1 a) (hb : FK c S.2.1 b) :
    (fareEq_f c o a b S).1 = (if FV c S.2.1 a = FV c S.2.1 b then nI 1 else nI 0) ∧ ∀ r, r ≠ o + 4 → r ≠ o + 5 → r ≠ o + 9 → (fareEq_f c o a b S).2.2.1 r = S.2.1 r := by
  obtain ⟨m1, m2, m3⟩ := minus_s c (o + 9) a b S ha hb
  have hP' : PrimeAt c o (minus_f c (o + 9) a b S).2.1 := fun i hi => by
    show ((minus_f c (o + 9) a b S).2.1 (o + 2) i).toInt = _
    rw [m3 (o + 2) (by omega)]
    exact hP i hi
  obtain ⟨h1, h2, h3⟩ := freeze_s c o (o + 9) (minus_f c (o + 9) a b S) (by omega) hP' m1
  refine ⟨?_, fun r q1 q2 q3 => (h3 r q1 q2).trans (m3 r q3)⟩
  have e := isFZ_s c o (freeze_f c o (o + 9) (minus_f c (o + 9) a b S)) _ (fun i hi => (h1 i hi).1) h2
  rw [m2] at e
  refine e.trans ?_
  by_cases q : FV c S.2.1 a = FV c S.2.1 b
  · rw [if_pos q, if_pos ((sub0 _ _).2 q)]
  · rw [if_neg q, if_neg (fun z => q ((sub0 _ _).1 z))]
theorem rv_odd (b : Nat) (hb : 1 ≤ b) (f : Nat → Int) : ∀ n, 1 ≤ n → rv b f n % 2 = f 0 % 2 := by
  intro n
  induction n with
  | zero => intro h; omega
  | succ n ih =>
    intro _
    show (rv b f n + f n * 2 ^ (b * n)) % 2 = _
    by_cases e : n = 0
    · subst e
      show (0 + f 0 * 2 ^ (b * 0)) % 2 = _
      rw [Nat.mul_zero]
      show (0 + f 0 * 1) % 2 = _
      omega
    · have h1 := ih (by omega)
      have : b * n = (b * n - 1) + 1 := by have := Nat.mul_le_mul hb (show 1 ≤ n by omega); omega
      rw [this, Int.pow_succ, ← Int.mul_assoc]
      generalize f n * 2 ^ (b * n - 1) = z
      omega
theorem isOdd_s (c : Bool) (o a : Nat) (S : StT) (hao : a ≠ o + 4) (hP : PrimeAt c o S.2.1) (ha : FK c S.2.1 a) :
    (fisOdd_f c o a S).1 = (if (FV c S.2.1 a).val % 2 = 1 then nI 1 else nI 0) ∧ ∀ r, r ≠ o + 4 → r ≠ o + 5 → (fisOdd_f c o a S).2.2.1 r = S.2.1 r := by
  obtain ⟨h1, h2, h3⟩ := freeze_s c o a S hao hP ha
  have hL := fL_le c
  have hod : ((FV c S.2.1 a).val : Int) % 2 = ri (freeze_f c o a S).2.1 (o + 4) 0 % 2 := by
    rw [← h2]
    exact rv_odd (fb c) (by have := fb_le c; omega) _ (fL c) (by omega)
  have ea : ((freeze_f c o a S).2.1 (o + 4) 0 &&& 1).toInt = ri (freeze_f c o a S).2.1 (o + 4) 0 % 2 := w_and _ 1 1 (by decide) (by decide)
  have hc : lg_cmp ((freeze_f c o a S).2.1 (o + 4) 0 &&& 1) 1 = 0 ↔ (FV c S.2.1 a).val % 2 = 1 := by
    rw [lgc0]
    have e2 : (freeze_f c o a S).2.1 (o + 4) 0 &&& 1 = 1 ↔ ((freeze_f c o a S).2.1 (o + 4) 0 &&& 1).toInt = 1 := by
      constructor
      · intro q; rw [q]; rfl
      · intro q; exact Int64.toInt_inj.mp (by rw [q]; rfl)
    rw [e2, ea, ← hod]
    omega
  unfold fisOdd_f
  by_cases q : (FV c S.2.1 a).val % 2 = 1
  · rw [if_neg (fun z => z (hc.2 q)), if_pos q]
    exact ⟨rfl, h3⟩
  · rw [if_pos (fun z => q (hc.1 z)), if_neg q]
    exact ⟨rfl, h3⟩
end
