section
/-! PRODUCTS in the class's field. -/
theorem rv_zero (b : Nat) (f : Nat → Int) (m : Nat) : ∀ n, (∀ k, m ≤ k → k < n → f k = 0) → m ≤ n → rv b f n = rv b f m := by
  intro n
  induction n with
  | zero => intro _ h; rw [show m = 0 from by omega]
  | succ n ih =>
    intro h hm
    by_cases e : m = n + 1
    · rw [e]
    · show rv b f n + f n * 2 ^ (b * n) = _
      rw [h n (by omega) (by omega), ih (fun k h1 h2 => h k h1 (by omega)) (by omega), Int.zero_mul, Int.add_zero]
theorem prod_fin (c : Bool) (o to : Nat) (S : StT) (hb : ∀ k, k < 32 → -((fL c : Int) * pb c) ≤ ri S.2.1 (o + 3) k ∧ ri S.2.1 (o + 3) k ≤ (fL c : Int) * pb c) (hz : ∀ k, 2 * fL c - 1 ≤ k → k < 32 → ri S.2.1 (o + 3) k = 0) :
    FK c (carry_f c to to (carry_f c to (o + 3) (ffold_f c o S))).2.1 to ∧ FV c (carry_f c to to (carry_f c to (o + 3) (ffold_f c o S))).2.1 to = fz c (rv (fb c) (ri S.2.1 (o + 3)) 32) ∧ ∀ r, r ≠ to → r ≠ o + 3 → (carry_f c to to (carry_f c to (o + 3) (ffold_f c o S))).2.1 r = S.2.1 r := by
  have hp := pb_le c
  cases c with
  | false =>
    have hp1 : ((fL false : Nat) : Int) * pb false ≤ 2 ^ 62 - 2 ^ 60 := hp.2.1
    obtain ⟨f1, f2, f3⟩ := fold_0 o S (fun k hk => by have := hb k hk; omega) 8 (by decide)
    obtain ⟨q1, q2, q3⟩ := carry2 false to (o + 3) (ffold_f false o S) (fun i hi => by
      have := f1 i (by have : i < 9 := hi; omega)
      show _ ≤ ri (ffold_l9 false o S 8) (o + 3) i ∧ ri (ffold_l9 false o S 8) (o + 3) i ≤ _
      omega)
    refine ⟨q1, q2.trans (f2.trans ?_), fun r h1 h2 => (q3 r h1).trans (f3 r h2)⟩
    show _ = fz false (rv 29 (ri S.2.1 (o + 3)) 32)
    rw [rv_zero 29 (ri S.2.1 (o + 3)) 17 32 (fun k h1 h2 => hz k h1 h2) (by decide)]
  | true =>
    have hp0 : 0 ≤ ((fL true : Nat) : Int) * pb true := Int.mul_nonneg (by decide) hp.1
    have hp1 : 4 * (((fL true : Nat) : Int) * pb true) ≤ 5 * 2 ^ 60 := hp.2.2 rfl
    obtain ⟨f1, f2, f3⟩ := fold_1 o S (((fL true : Nat) : Int) * pb true) hp0 hp1 hb 15 (by decide)
    obtain ⟨q1, q2, q3⟩ := carry2 true to (o + 3) (ffold_f true o S) (fun i hi => by
      have h16 : i < 16 := hi
      have := f1 i (by omega)
      have h4 := cn_le 15 (by decide) i (by omega)
      have h5 : (cn 15 i : Int) * (((fL true : Nat) : Int) * pb true) ≤ 4 * (((fL true : Nat) : Int) * pb true) := Int.mul_le_mul_of_nonneg_right (by omega) hp0
      show _ ≤ ri (ffold_l9 true o S 15) (o + 3) i ∧ ri (ffold_l9 true o S 15) (o + 3) i ≤ _
      omega)
    refine ⟨q1, q2.trans (f2.trans ?_), fun r h1 h2 => (q3 r h1).trans (f3 r h2)⟩
    show _ = fz true (rv 28 (ri S.2.1 (o + 3)) 32)
    rw [rv_zero 28 (ri S.2.1 (o + 3)) 31 32 (fun k h1 h2 => hz k h1 h2) (by decide)]
theorem FK_row {c : Bool} {J K : Nat → Nat → Int64} {r : Nat} (h : J r = K r) (hk : FK c K r) : FK c J r := by
  unfold FK ri at hk ⊢
  rw [h]
  exact hk
theorem FV_row {c : Bool} {J K : Nat → Nat → Int64} {r : Nat} (h : J r = K r) : FV c J r = FV c K r := by
  unfold FV ri
  rw [h]
theorem mul_s (c : Bool) (o to a b : Nat) (S : StT) (hao : a ≠ o + 3) (hbo : b ≠ o + 3) (ha : FK c S.2.1 a) (hb : FK c S.2.1 b) :
    FK c (mul_f c o to a b S).2.1 to ∧ FV c (mul_f c o to a b S).2.1 to = FV c S.2.1 a * FV c S.2.1 b ∧ ∀ r, r ≠ to → r ≠ o + 3 → (mul_f c o to a b S).2.1 r = S.2.1 r := by
  obtain ⟨f1, f2⟩ := fill_s (o + 3) 32 S
  obtain ⟨m1, m2, m3, m4⟩ := mul_out c o to a b (fill_f (o + 3) 32 0 S) hao hbo f1 (FK_row (f2 a hao) ha) (FK_row (f2 b hbo) hb) (fL c) (Nat.le_refl _)
  obtain ⟨q1, q2, q3⟩ := prod_fin c o to ((fill_f (o + 3) 32 0 S).1, mul_l21 c o to a b (fill_f (o + 3) 32 0 S) (fL c), (fill_f (o + 3) 32 0 S).2.2) m1 m2
  refine ⟨q1, q2.trans ?_, fun r h1 h2 => (q3 r h1 h2).trans ((m4 r h2).trans (f2 r h2))⟩
  show fz c (rv (fb c) (ri (mul_l21 c o to a b (fill_f (o + 3) 32 0 S) (fL c)) (o + 3)) 32) = _
  rw [m3, fz_mul]
  have ea : ri (fill_f (o + 3) 32 0 S).2.1 a = ri S.2.1 a := by unfold ri; rw [f2 a hao]
  have eb : ri (fill_f (o + 3) 32 0 S).2.1 b = ri S.2.1 b := by unfold ri; rw [f2 b hbo]
  rw [ea, eb]
  rfl
/-- a row times a small number -/
theorem mulS_s (c : Bool) (to a : Nat) (z : Int32) (S : StT) (hz : -2 ^ 17 ≤ z.toInt ∧ z.toInt ≤ 2 ^ 17) (ha : FK c S.2.1 a) :
    FK c (mulS_f c to a z S).2.1 to ∧ FV c (mulS_f c to a z S).2.1 to = fz c z.toInt * FV c S.2.1 a ∧ ∀ r, r ≠ to → (mulS_f c to a z S).2.1 r = S.2.1 r := by
  obtain ⟨p1, p2⟩ := pw_loop (S0 := S.2.1) (lp := mulS_l3 c to a z S) (to := to) (F := fun y i => z.toInt64 * y a i) rfl (fun i => rfl) (fun y i h => by show z.toInt64 * y a i = _; rw [h a]) (fL c)
  have hbd : ∀ i, i < fL c → -2 ^ 54 ≤ z.toInt * ri S.2.1 a i ∧ z.toInt * ri S.2.1 a i ≤ 2 ^ 54 := by
    intro i hi
    have h1 := lim_bd ha hi
    have h3 := pw_fb c
    have h4 := abs_mul (x := z.toInt * 2 ^ 7) (y := ri S.2.1 a i) (w := 2 ^ 30) (by omega) (by omega)
    have h5 : z.toInt * 2 ^ 7 * ri S.2.1 a i = 2 ^ 7 * (z.toInt * ri S.2.1 a i) := by rw [Int.mul_comm z.toInt, Int.mul_assoc]
    rw [h5] at h4
    generalize z.toInt * ri S.2.1 a i = q at h4 ⊢
    omega
  have ez : (z.toInt64).toInt = z.toInt := Int32.toInt_toInt64 z
  have hv : ∀ i, i < fL c → ri (mulS_l3 c to a z S (fL c)) to i = z.toInt * ri S.2.1 a i := by
    intro i hi
    have h1 := hbd i hi
    show (mulS_l3 c to a z S (fL c) to i).toInt = _
    rw [p1 i hi]
    have e : (z.toInt64 * S.2.1 a i).toInt = z.toInt64.toInt * ri S.2.1 a i := by
      refine w_mul ?_ ?_
      · rw [ez]; show _ ≤ z.toInt * ri S.2.1 a i; omega
      · rw [ez]; show z.toInt * ri S.2.1 a i < _; omega
    rw [ez] at e
    exact e
  obtain ⟨q1, q2, q3⟩ := carry2 c to to (S.1, mulS_l3 c to a z S (fL c), S.2.2) (fun i hi => by
    show _ ≤ ri (mulS_l3 c to a z S (fL c)) to i ∧ ri (mulS_l3 c to a z S (fL c)) to i ≤ _
    rw [hv i hi]
    have h1 := hbd i hi
    omega)
  refine ⟨q1, q2.trans ?_, fun r hr => (q3 r hr).trans (row_ext (fun j => p2 r j (Or.inl hr)))⟩
  show fz c (rv (fb c) (ri (mulS_l3 c to a z S (fL c)) to) (fL c)) = _
  rw [rv_congr (g := fun i => z.toInt * ri S.2.1 a i) (fL c) hv, rv_smul, fz_mul]
  rfl
theorem copy_s (c : Bool) (to a : Nat) (S : StT) (ha : FK c S.2.1 a) :
    FK c (fcopy_f c to a S).2.1 to ∧ FV c (fcopy_f c to a S).2.1 to = FV c S.2.1 a ∧ ∀ r, r ≠ to → (fcopy_f c to a S).2.1 r = S.2.1 r := by
  have hv : ∀ i, i < fL c → ri (fcopy_f c to a S).2.1 to i = ri S.2.1 a i := by
    intro i hi
    show (va_up S.2.1 to (va_cpy (S.2.1 a) (S.2.1 to) 0 0 (fL c)) to i).toInt = _
    rw [vu_s, pk_cpy_in (Nat.zero_le _) (by omega)]
    show (S.2.1 a (0 + (i - 0))).toInt = _
    rw [Nat.sub_zero, Nat.zero_add]
    rfl
  refine ⟨fun i hi => by rw [hv i hi]; exact ha i hi, ?_, fun r hr => vu_n hr⟩
  unfold FV fvl
  rw [rv_congr (fL c) hv]
end
