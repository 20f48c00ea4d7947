section
/-! FREEZE as a whole; what is asked of a frozen row. -/
theorem lgc0 (x y : Int64) : lg_cmp x y = 0 ↔ x = y := by
  unfold lg_cmp
  by_cases h1 : x > y
  · rw [if_pos h1]
    constructor
    · intro q; exact absurd q (by decide)
    · intro q; subst q; exact absurd h1 (Int64.lt_irrefl)
  · rw [if_neg h1]
    by_cases h2 : x = y
    · rw [if_pos h2]; exact ⟨fun _ => h2, fun _ => rfl⟩
    · rw [if_neg h2]
      constructor
      · intro q; exact absurd q (by decide)
      · intro q; exact absurd q h2
theorem l0_toInt (x : Int64) : x = 0 ↔ x.toInt = 0 := by
  constructor
  · intro h; subst h; rfl
  · intro h
    refine Int64.toInt_inj.mp ?_
    rw [h]
    rfl
/-- the loop that takes the prime off -/
theorem frz_lp (c : Bool) (o a : Nat) (S1 S : StT) (hf : ∀ i, i < fL c → -2 ^ 31 ≤ ri S.2.1 (o + 4) i - ri S.2.1 (o + 2) i ∧ ri S.2.1 (o + 4) i - ri S.2.1 (o + 2) i ≤ 2 ^ 31) :
    ∀ i, i ≤ fL c → (freeze_l73 c o a S1 S 0 i).1.toInt = cy (fb c) (fun j => ri S.2.1 (o + 4) j - ri S.2.1 (o + 2) j) i ∧ (∀ j, j < i → ri (freeze_l73 c o a S1 S 0 i).2 (o + 5) j = (ri S.2.1 (o + 4) j - ri S.2.1 (o + 2) j + cy (fb c) (fun j => ri S.2.1 (o + 4) j - ri S.2.1 (o + 2) j) j) % 2 ^ fb c) ∧ ∀ r, r ≠ o + 5 → (freeze_l73 c o a S1 S 0 i).2 r = S.2.1 r := by
  intro i
  induction i with
  | zero => intro _; exact ⟨rfl, fun j hj => absurd hj (Nat.not_lt_zero _), fun _ _ => rfl⟩
  | succ i ih =>
    intro hi
    obtain ⟨h1, h2, h3⟩ := ih (by omega)
    have hb := cy_bd (fb c) (fun j => ri S.2.1 (o + 4) j - ri S.2.1 (o + 2) j) (2 ^ 31) (by have := fb_le c; omega) (by decide) i (fun j hj => hf j (by omega))
    have hfi := hf i (by omega)
    have hq : (2 : Int) ^ 31 / 2 ^ fb c ≤ 2 ^ 31 := Int.ediv_le_self _ (by decide)
    have e4 : (freeze_l73 c o a S1 S 0 i).2 (o + 4) = S.2.1 (o + 4) := h3 _ (by omega)
    have e2 : (freeze_l73 c o a S1 S 0 i).2 (o + 2) = S.2.1 (o + 2) := h3 _ (by omega)
    have hd : (S.2.1 (o + 4) i - S.2.1 (o + 2) i).toInt = ri S.2.1 (o + 4) i - ri S.2.1 (o + 2) i := by
      refine w_sub ?_ ?_
      · show _ ≤ ri S.2.1 (o + 4) i - ri S.2.1 (o + 2) i; omega
      · show ri S.2.1 (o + 4) i - ri S.2.1 (o + 2) i < _; omega
    have hs : ((freeze_l73 c o a S1 S 0 i).2 (o + 4) i - (freeze_l73 c o a S1 S 0 i).2 (o + 2) i + (freeze_l73 c o a S1 S 0 i).1).toInt = ri S.2.1 (o + 4) i - ri S.2.1 (o + 2) i + cy (fb c) (fun j => ri S.2.1 (o + 4) j - ri S.2.1 (o + 2) j) i := by
      rw [e4, e2, w_add, hd, h1]
      · rw [hd, h1]; omega
      · rw [hd, h1]; omega
    refine ⟨?_, fun j hj => ?_, fun r hr => ?_⟩
    · show (((freeze_l73 c o a S1 S 0 i).2 (o + 4) i - (freeze_l73 c o a S1 S 0 i).2 (o + 2) i + (freeze_l73 c o a S1 S 0 i).1) >>> ((nI (fb c)).toInt64 &&& 63)).toInt = (ri S.2.1 (o + 4) i - ri S.2.1 (o + 2) i + cy (fb c) (fun j => ri S.2.1 (o + 4) j - ri S.2.1 (o + 2) j) i) / 2 ^ fb c
      rw [w_shr _ _ (fb c) (sh_fb c), hs]
    · show (va_up (freeze_l73 c o a S1 S 0 i).2 (o + 5) (vp_updL ((freeze_l73 c o a S1 S 0 i).2 (o + 5)) i (((freeze_l73 c o a S1 S 0 i).2 (o + 4) i - (freeze_l73 c o a S1 S 0 i).2 (o + 2) i + (freeze_l73 c o a S1 S 0 i).1) &&& fM c)) (o + 5) j).toInt = _
      rw [vu_s]
      by_cases e : j = i
      · subst e
        rw [pk_uLs, w_and _ _ (fb c) (by have := fb_le c; omega) (mk_fM c), hs]
      · rw [pk_uLn e]
        exact h2 j (by omega)
    · show va_up (freeze_l73 c o a S1 S 0 i).2 (o + 5) _ r = _
      rw [vu_n hr, h3 r hr]
/-- what a Field holds besides: its prime -/
def PrimeAt (c : Bool) (o : Nat) (J : Nat → Nat → Int64) : Prop := ∀ i, i < fL c → ri J (o + 2) i = pl c i
theorem freeze_s (c : Bool) (o a : Nat) (S : StT) (hao : a ≠ o + 4) (hP : PrimeAt c o S.2.1) (ha : FK c S.2.1 a) :
    (∀ i, i < fL c → 0 ≤ ri (freeze_f c o a S).2.1 (o + 4) i ∧ ri (freeze_f c o a S).2.1 (o + 4) i < 2 ^ fb c) ∧ fvl c (ri (freeze_f c o a S).2.1 (o + 4)) = ((FV c S.2.1 a).val : Int) ∧ ∀ r, r ≠ o + 4 → r ≠ o + 5 → (freeze_f c o a S).2.1 r = S.2.1 r := by
  have hL := fL_le c
  have hpf := pw_fb c
  obtain ⟨p1, p2⟩ := pw_loop (S0 := S.2.1) (lp := freeze_l2 c o a S) (to := o + 4) (F := fun y i => y a i + y (o + 2) i) rfl (fun i => rfl) (fun y i h => by show y a i + y (o + 2) i = _; rw [h a, h (o + 2)]) (fL c)
  have hv : ∀ i, i < fL c → ri (freeze_l2 c o a S (fL c)) (o + 4) i = ri S.2.1 a i + pl c i := by
    intro i hi
    have h1 := ha i hi
    have h2 := pl_bd c i
    have h3 := pw_fw c i
    have hPi := hP i hi
    show (freeze_l2 c o a S (fL c) (o + 4) i).toInt = _
    rw [p1 i hi]
    show (S.2.1 a i + S.2.1 (o + 2) i).toInt = _
    have e : (S.2.1 (o + 2) i).toInt = pl c i := hPi
    have e2 : (S.2.1 a i).toInt = ri S.2.1 a i := rfl
    rw [w_add, e, e2]
    · rw [e, e2]; omega
    · rw [e, e2]; omega
  have hval : fvl c (ri (freeze_l2 c o a S (fL c)) (o + 4)) = fvl c (ri S.2.1 a) + (nt_p c : Int) := by
    unfold fvl
    rw [rv_congr (g := fun i => ri S.2.1 a i + pl c i) (fL c) hv, rv_add, pl_val]
  have hlow := rv_low c (ri S.2.1 a) ha
  obtain ⟨c1, c2, c3⟩ := carry3 c (o + 4) (S.1, freeze_l2 c o a S (fL c), S.2.2)
    (fun i hi => by
      show _ ≤ ri (freeze_l2 c o a S (fL c)) (o + 4) i ∧ ri (freeze_l2 c o a S (fL c)) (o + 4) i ≤ _
      rw [hv i hi]
      have h1 := ha i hi
      have h2 := pl_bd c i
      have h3 := pw_fw c i
      omega)
    (by show 0 ≤ fvl c (ri (freeze_l2 c o a S (fL c)) (o + 4)); rw [hval]; omega)
  have hfz : fz c (fvl c (ri (freeze_l2 c o a S (fL c)) (o + 4))) = FV c S.2.1 a := by
    rw [hval]
    exact fz_of (u := -1) (by omega)
  unfold freeze_f
  dsimp only
  generalize hS2 : carry_f c (o + 4) (o + 4) (carry_f c (o + 4) (o + 4) (S.1, freeze_l2 c o a S (fL c), S.2.2)) = S2 at c1 c2 c3 ⊢
  generalize hS3 : carry_f c (o + 4) (o + 4) S2 = S3 at c1 c2 c3 ⊢
  have e2 : S3.2.1 (o + 2) = S.2.1 (o + 2) := by
    rw [c3 (o + 2) (by omega)]
    exact row_ext (fun j => p2 (o + 2) j (Or.inl (by omega)))
  have hP3 : ∀ i, i < fL c → ri S3.2.1 (o + 2) i = pl c i := fun i hi => by show (S3.2.1 (o + 2) i).toInt = _; rw [e2]; exact hP i hi
  obtain ⟨z1, z2, z3⟩ := frz_lp c o a S2 S3 (fun i hi => by
    have h1 := c1 i hi
    have h2 := pl_bd c i
    have h3 := pw_fw c i
    rw [hP3 i hi]
    omega) (fL c) (Nat.le_refl _)
  have hsum := cy_sum (fb c) (fun j => ri S3.2.1 (o + 4) j - ri S3.2.1 (o + 2) j) (fL c)
  have hdv : rv (fb c) (fun j => ri S3.2.1 (o + 4) j - ri S3.2.1 (o + 2) j) (fL c) = fvl c (ri S3.2.1 (o + 4)) - (nt_p c : Int) := by
    rw [rv_congr (g := fun j => ri S3.2.1 (o + 4) j + -1 * pl c j) (fL c) (fun j hj => by show ri S3.2.1 (o + 4) j - ri S3.2.1 (o + 2) j = _; rw [hP3 j hj]; omega), rv_add, rv_smul, pl_val]
    unfold fvl
    omega
  have hR := rv_range c (ri S3.2.1 (o + 4)) c1
  have hRn := rv_nn (fb c) (fun j => (ri S3.2.1 (o + 4) j - ri S3.2.1 (o + 2) j + cy (fb c) (fun j => ri S3.2.1 (o + 4) j - ri S3.2.1 (o + 2) j) j) % 2 ^ fb c) (fL c) (fun j _ => ⟨Int.emod_nonneg _ (by omega), Int.emod_lt_of_pos _ (by omega)⟩)
  have hTop : (2 : Int) ^ (fb c * (fL c - 1) + ft c) < 2 * (nt_p c : Int) ∧ (2 : Int) ^ (fb c * (fL c - 1) + ft c) ≤ 2 ^ (fb c * fL c) := by
    cases c
    · rw [nt_p0]; decide +kernel
    · rw [nt_p1]; decide +kernel
  have hp0 := (nt_pp c).1.1
  have hFe : fz c (fvl c (ri S3.2.1 (o + 4))) = FV c S.2.1 a := c2.trans hfz
  have hcan : ∀ x : Int, 0 ≤ x → x < (nt_p c : Int) → fz c x = FV c S.2.1 a → x = ((FV c S.2.1 a).val : Int) := by
    intro x h1 h2 h3
    rw [← h3, fz_vl, Int.emod_eq_of_lt h1 h2]
  have fwfb : ∀ i, (2 : Int) ^ fw c i ≤ 2 ^ fb c := fun i => by
    unfold fw
    split
    · cases c <;> decide
    · exact Int.le_refl _
  rw [hdv] at hsum
  have hB : (0 : Int) < 2 ^ (fb c * fL c) := Int.pow_pos (by decide)
  have hR' : 0 ≤ fvl c (ri S3.2.1 (o + 4)) ∧ fvl c (ri S3.2.1 (o + 4)) < 2 ^ (fb c * (fL c - 1) + ft c) := hR
  by_cases hz : (freeze_l73 c o a S2 S3 0 (fL c)).1 = 0
  · rw [if_neg (fun q => q ((lgc0 _ _).2 hz))]
    have hz' : cy (fb c) (fun j => ri S3.2.1 (o + 4) j - ri S3.2.1 (o + 2) j) (fL c) = 0 := by rw [← z1]; exact (l0_toInt _).1 hz
    rw [hz', Int.zero_mul, Int.add_zero] at hsum
    have hcp : ∀ i, i < fL c → ri (fcopy_f c (o + 4) (o + 5) (S3.1, (freeze_l73 c o a S2 S3 0 (fL c)).2, S3.2.2)).2.1 (o + 4) i = (ri S3.2.1 (o + 4) i - ri S3.2.1 (o + 2) i + cy (fb c) (fun j => ri S3.2.1 (o + 4) j - ri S3.2.1 (o + 2) j) i) % 2 ^ fb c := by
      intro i hi
      rw [← z2 i hi]
      show (va_up (freeze_l73 c o a S2 S3 0 (fL c)).2 (o + 4) (va_cpy ((freeze_l73 c o a S2 S3 0 (fL c)).2 (o + 5)) ((freeze_l73 c o a S2 S3 0 (fL c)).2 (o + 4)) 0 0 (fL c)) (o + 4) i).toInt = _
      rw [vu_s, pk_cpy_in (Nat.zero_le _) (by omega), Nat.sub_zero, Nat.zero_add]
      rfl
    refine ⟨fun i hi => ?_, ?_, fun r h1 h2 => ?_⟩
    · rw [hcp i hi]
      exact ⟨Int.emod_nonneg _ (by omega), Int.emod_lt_of_pos _ (by omega)⟩
    · have ev : fvl c (ri (fcopy_f c (o + 4) (o + 5) (S3.1, (freeze_l73 c o a S2 S3 0 (fL c)).2, S3.2.2)).2.1 (o + 4)) = fvl c (ri S3.2.1 (o + 4)) - (nt_p c : Int) := by
        unfold fvl
        rw [rv_congr (fL c) hcp]
        exact hsum
      rw [ev]
      refine hcan _ (by rw [← hsum]; exact hRn.1) (by omega) ?_
      rw [← hFe]
      exact fz_of (u := 1) (by omega)
    · show va_up (freeze_l73 c o a S2 S3 0 (fL c)).2 (o + 4) _ r = _
      rw [vu_n h1, z3 r h2, c3 r h1]
      exact row_ext (fun j => p2 r j (Or.inl h1))
  · rw [if_pos (fun q => hz ((lgc0 _ _).1 q))]
    have hz' : cy (fb c) (fun j => ri S3.2.1 (o + 4) j - ri S3.2.1 (o + 2) j) (fL c) ≠ 0 := fun q => hz ((l0_toInt _).2 (by rw [z1]; exact q))
    have hlt : fvl c (ri S3.2.1 (o + 4)) < (nt_p c : Int) := by
      refine Decidable.byContradiction (fun q => hz' ?_)
      generalize cy (fb c) (fun j => ri S3.2.1 (o + 4) j - ri S3.2.1 (o + 2) j) (fL c) = u at hsum ⊢
      by_cases h1 : 1 ≤ u
      · have : 1 * 2 ^ (fb c * fL c) ≤ u * 2 ^ (fb c * fL c) := Int.mul_le_mul_of_nonneg_right h1 (by omega)
        omega
      · by_cases h2 : u ≤ -1
        · have : u * 2 ^ (fb c * fL c) ≤ -1 * 2 ^ (fb c * fL c) := Int.mul_le_mul_of_nonneg_right h2 (by omega)
          omega
        · omega
    have e4 : (freeze_l73 c o a S2 S3 0 (fL c)).2 (o + 4) = S3.2.1 (o + 4) := z3 _ (by omega)
    have er : ri (freeze_l73 c o a S2 S3 0 (fL c)).2 (o + 4) = ri S3.2.1 (o + 4) := by unfold ri; rw [e4]
    refine ⟨fun i hi => ?_, ?_, fun r h1 h2 => ?_⟩
    · show 0 ≤ ri (freeze_l73 c o a S2 S3 0 (fL c)).2 (o + 4) i ∧ ri (freeze_l73 c o a S2 S3 0 (fL c)).2 (o + 4) i < _
      rw [er]
      have h1 := c1 i hi
      have h2 := fwfb i
      omega
    · show fvl c (ri (freeze_l73 c o a S2 S3 0 (fL c)).2 (o + 4)) = _
      rw [er]
      exact hcan _ hR'.1 hlt hFe
    · show (freeze_l73 c o a S2 S3 0 (fL c)).2 r = _
      rw [z3 r h2, c3 r h1]
      exact row_ext (fun j => p2 r j (Or.inl h1))
end
