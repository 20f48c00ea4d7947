section
/-! CARRY as a whole. -/
theorem cy_in (b : Nat) (f : Nat → Int) (k1 k2 : Int) (h1 : 0 ≤ k1) (h2 : 0 ≤ k2) : ∀ n, (∀ i, i < n → -k1 * 2 ^ b ≤ f i - k1 ∧ f i + k2 < (k2 + 1) * 2 ^ b) → -k1 ≤ cy b f n ∧ cy b f n ≤ k2 := by
  have hw : (0 : Int) < 2 ^ b := Int.pow_pos (by decide)
  intro n
  induction n with
  | zero => intro _; show -k1 ≤ 0 ∧ 0 ≤ k2; omega
  | succ n ih =>
    intro h
    have i1 := ih (fun i hi => h i (by omega))
    have i2 := h n (by omega)
    show -k1 ≤ (f n + cy b f n) / 2 ^ b ∧ (f n + cy b f n) / 2 ^ b ≤ k2
    generalize (2 : Int) ^ b = w at hw i2 ⊢
    generalize cy b f n = z at i1 ⊢
    generalize f n = x at i2 ⊢
    refine ⟨(Int.le_ediv_iff_mul_le hw).mpr (by omega), Int.lt_add_one_iff.mp ((Int.ediv_lt_iff_lt_mul hw).mpr (by omega))⟩
/-- what comes back from the top: to limb 0, and on the larger curve to limb 8 -/
def fa (c : Bool) (i : Nat) : Int := if i = 0 then (if c then 1 else 19) else if c = true ∧ i = 8 then 1 else 0
/-- a limb's bits -/
def fw (c : Bool) (i : Nat) : Nat := if i = fL c - 1 then ft c else fb c
theorem rv_fa (c : Bool) : rv (fb c) (fa c) (fL c) + (nt_p c : Int) = 2 ^ (fb c * (fL c - 1) + ft c) := by
  cases c
  · rw [nt_p0]; decide +kernel
  · rw [nt_p1]; decide +kernel
theorem rv_top (b : Nat) (f : Nat → Int) (n : Nat) (h : 0 < n) : rv b f n = rv b f (n - 1) + f (n - 1) * 2 ^ (b * (n - 1)) := by
  cases n with
  | zero => omega
  | succ n => rfl
theorem carry_s (c : Bool) (to fr : Nat) (S : StT) (k1 k2 j1 j2 : Int) (hk1 : 0 ≤ k1) (hk1' : k1 ≤ 2 ^ 40) (hk2 : 0 ≤ k2) (hk2' : k2 ≤ 2 ^ 40) (hj1 : j1 ≤ 2 ^ 41) (hj2 : j2 ≤ 2 ^ 41)
    (hf : ∀ i, i < fL c - 1 → (-(5 * 2 ^ 60) ≤ ri S.2.1 fr i ∧ ri S.2.1 fr i ≤ 5 * 2 ^ 60) ∧ -k1 * 2 ^ fb c ≤ ri S.2.1 fr i - k1 ∧ ri S.2.1 fr i + k2 < (k2 + 1) * 2 ^ fb c)
    (ht : (-(5 * 2 ^ 60) ≤ ri S.2.1 fr (fL c - 1) ∧ ri S.2.1 fr (fL c - 1) ≤ 5 * 2 ^ 60) ∧ -j1 * 2 ^ ft c ≤ ri S.2.1 fr (fL c - 1) - k1 ∧ ri S.2.1 fr (fL c - 1) + k2 < (j2 + 1) * 2 ^ ft c) :
    ∃ (m : Nat → Int) (u : Int), (-j1 ≤ u ∧ u ≤ j2) ∧ (∀ i, i < fL c → 0 ≤ m i ∧ m i < 2 ^ fw c i) ∧ rv (fb c) m (fL c) + u * 2 ^ (fb c * (fL c - 1) + ft c) = rv (fb c) (ri S.2.1 fr) (fL c) ∧ (∀ i, i < fL c → ri (carry_f c to fr S).2.1 to i = m i + u * fa c i) ∧ ∀ r, r ≠ to → (carry_f c to fr S).2.1 r = S.2.1 r := by
  have hL := fL_le c
  obtain ⟨h1, h2, h3, h4, h5⟩ := carry_lp c to fr S (5 * 2 ^ 60) (by decide) (by decide) (fL c - 1) (fun i hi => (hf i hi).1) (fL c - 1) (Nat.le_refl _)
  have hcy := cy_in (fb c) (ri S.2.1 fr) k1 k2 hk1 hk2 (fL c - 1) (fun i hi => (hf i hi).2)
  have hsum := cy_sum (fb c) (ri S.2.1 fr) (fL c - 1)
  have hw : (0 : Int) < 2 ^ ft c := Int.pow_pos (by decide)
  have hwb : (0 : Int) < 2 ^ fb c := Int.pow_pos (by decide)
  have hv : ((carry_l13 c to fr S 0 (fL c - 1)).2 fr (fL c - 1) + (carry_l13 c to fr S 0 (fL c - 1)).1).toInt = ri S.2.1 fr (fL c - 1) + cy (fb c) (ri S.2.1 fr) (fL c - 1) := by
    rw [w_add]
    · rw [h1, h3 _ (Nat.le_refl _)]; rfl
    · rw [h1, h3 _ (Nat.le_refl _)]; show _ ≤ ri S.2.1 fr (fL c - 1) + _; omega
    · rw [h1, h3 _ (Nat.le_refl _)]; show ri S.2.1 fr (fL c - 1) + _ < _; omega
  generalize hv1 : (carry_l13 c to fr S 0 (fL c - 1)).2 fr (fL c - 1) + (carry_l13 c to fr S 0 (fL c - 1)).1 = v1 at hv
  have hu : (v1 >>> ((nI (ft c)).toInt64 &&& 63)).toInt = (ri S.2.1 fr (fL c - 1) + cy (fb c) (ri S.2.1 fr) (fL c - 1)) / 2 ^ ft c := by rw [w_shr _ _ (ft c) (sh_ft c), hv]
  have hm : (v1 &&& fN c).toInt = (ri S.2.1 fr (fL c - 1) + cy (fb c) (ri S.2.1 fr) (fL c - 1)) % 2 ^ ft c := by rw [w_and _ _ (ft c) (by have := ft_le c; omega) (mk_fN c), hv]
  have hub : -j1 ≤ (ri S.2.1 fr (fL c - 1) + cy (fb c) (ri S.2.1 fr) (fL c - 1)) / 2 ^ ft c ∧ (ri S.2.1 fr (fL c - 1) + cy (fb c) (ri S.2.1 fr) (fL c - 1)) / 2 ^ ft c ≤ j2 :=
    ⟨(Int.le_ediv_iff_mul_le hw).mpr (by omega), Int.lt_add_one_iff.mp ((Int.ediv_lt_iff_lt_mul hw).mpr (by omega))⟩
  have hdm := Int.emod_add_mul_ediv (ri S.2.1 fr (fL c - 1) + cy (fb c) (ri S.2.1 fr) (fL c - 1)) (2 ^ ft c)
  have hm0 := Int.emod_nonneg (ri S.2.1 fr (fL c - 1) + cy (fb c) (ri S.2.1 fr) (fL c - 1)) (show (2 : Int) ^ ft c ≠ 0 by omega)
  have hm1 := Int.emod_lt_of_pos (ri S.2.1 fr (fL c - 1) + cy (fb c) (ri S.2.1 fr) (fL c - 1)) hw
  generalize hU : (ri S.2.1 fr (fL c - 1) + cy (fb c) (ri S.2.1 fr) (fL c - 1)) / 2 ^ ft c = u at hu hub hdm
  generalize hMM : (ri S.2.1 fr (fL c - 1) + cy (fb c) (ri S.2.1 fr) (fL c - 1)) % 2 ^ ft c = mt at hm hdm hm0 hm1
  have hpf := pw_fb c
  have hpt := pw_ft c
  refine ⟨fun i => if i = fL c - 1 then mt else (ri S.2.1 fr i + cy (fb c) (ri S.2.1 fr) i) % 2 ^ fb c, u, hub, fun i hi => ?_, ?_, fun i hi => ?_, fun r hr => ?_⟩
  · show 0 ≤ (if i = fL c - 1 then mt else _) ∧ (if i = fL c - 1 then mt else _) < 2 ^ fw c i
    unfold fw
    by_cases e : i = fL c - 1
    · rw [if_pos e, if_pos e]; exact ⟨hm0, hm1⟩
    · rw [if_neg e, if_neg e]; exact ⟨Int.emod_nonneg _ (by omega), Int.emod_lt_of_pos _ hwb⟩
  · rw [rv_top (fb c) _ (fL c) (by omega), rv_top (fb c) (ri S.2.1 fr) (fL c) (by omega), rv_congr (f := fun i => if i = fL c - 1 then mt else (ri S.2.1 fr i + cy (fb c) (ri S.2.1 fr) i) % 2 ^ fb c) (g := fun i => (ri S.2.1 fr i + cy (fb c) (ri S.2.1 fr) i) % 2 ^ fb c) (fL c - 1) (fun i hi => if_neg (by omega)), Int.pow_add, ← hsum]
    show _ + (if fL c - 1 = fL c - 1 then mt else _) * _ + _ = _
    rw [if_pos rfl]
    generalize rv (fb c) (fun i => (ri S.2.1 fr i + cy (fb c) (ri S.2.1 fr) i) % 2 ^ fb c) (fL c - 1) = A
    generalize (2 : Int) ^ (fb c * (fL c - 1)) = B
    generalize (2 : Int) ^ ft c = W at hdm
    generalize ri S.2.1 fr (fL c - 1) = x at hdm
    generalize cy (fb c) (ri S.2.1 fr) (fL c - 1) = z at hdm
    clear hf ht h1 h2 h3 h4 h5 hsum hv hu hm hU hMM hcy hub hm0 hm1 hpf hpt hw hwb hL
    grind
  · show ri (carry_f c to fr S).2.1 to i = (if i = fL c - 1 then mt else (ri S.2.1 fr i + cy (fb c) (ri S.2.1 fr) i) % 2 ^ fb c) + u * fa c i
    have hJ2 : ∀ i, i < fL c → (va_up (carry_l13 c to fr S 0 (fL c - 1)).2 to (vp_updL ((carry_l13 c to fr S 0 (fL c - 1)).2 to) (fL c - 1) (v1 &&& fN c)) to i).toInt = (if i = fL c - 1 then mt else (ri S.2.1 fr i + cy (fb c) (ri S.2.1 fr) i) % 2 ^ fb c) := by
      intro i hi
      rw [vu_s]
      by_cases e : i = fL c - 1
      · rw [if_pos e, e, pk_uLs]; exact hm
      · rw [if_neg e, pk_uLn e]; exact h2 i (by omega)
    have hbd : ∀ i, i < fL c → 0 ≤ (if i = fL c - 1 then mt else (ri S.2.1 fr i + cy (fb c) (ri S.2.1 fr) i) % 2 ^ fb c) ∧ (if i = fL c - 1 then mt else (ri S.2.1 fr i + cy (fb c) (ri S.2.1 fr) i) % 2 ^ fb c) < 2 ^ 29 := by
      intro i hi
      by_cases e : i = fL c - 1
      · rw [if_pos e]; omega
      · rw [if_neg e]
        have q1 := Int.emod_nonneg (ri S.2.1 fr i + cy (fb c) (ri S.2.1 fr) i) (show (2 : Int) ^ fb c ≠ 0 by omega)
        have q2 := Int.emod_lt_of_pos (ri S.2.1 fr i + cy (fb c) (ri S.2.1 fr) i) hwb
        omega
    obtain ⟨M, hMd⟩ : ∃ M : Nat → Int, ∀ i, M i = (if i = fL c - 1 then mt else (ri S.2.1 fr i + cy (fb c) (ri S.2.1 fr) i) % 2 ^ fb c) := ⟨_, fun _ => rfl⟩
    rw [← hMd]
    have hJM : ∀ i, i < fL c → (va_up (carry_l13 c to fr S 0 (fL c - 1)).2 to (vp_updL ((carry_l13 c to fr S 0 (fL c - 1)).2 to) (fL c - 1) (v1 &&& fN c)) to i).toInt = M i := fun i hi => by rw [hMd]; exact hJ2 i hi
    have hMb : ∀ i, i < fL c → 0 ≤ M i ∧ M i < 2 ^ 29 := fun i hi => by rw [hMd]; exact hbd i hi
    unfold carry_f
    rw [hv1]
    dsimp only
    generalize va_up (carry_l13 c to fr S 0 (fL c - 1)).2 to (vp_updL ((carry_l13 c to fr S 0 (fL c - 1)).2 to) (fL c - 1) (v1 &&& fN c)) = J2 at hJM ⊢
    generalize v1 >>> ((nI (ft c)).toInt64 &&& 63) = w64 at hu ⊢
    clear hf ht h1 h2 h3 h4 h5 hsum hv hm hU hMM hcy hm0 hm1 hdm hMd hJ2 hbd hv1
    have m0 := hMb 0 (by omega)
    have a0 := hJM 0 (by omega)
    cases c with
    | false =>
      have e19 : ((19 : Int64) * w64).toInt = 19 * u := by
        rw [w_mul]
        · rw [hu]; rfl
        · rw [hu]; show -2 ^ 63 ≤ 19 * u; omega
        · rw [hu]; show 19 * u < 2 ^ 63; omega
      show (va_up J2 to (vp_updL (J2 to) 0 (J2 to 0 + 19 * w64)) to i).toInt = M i + u * fa false i
      rw [vu_s]
      by_cases e : i = 0
      · subst e
        rw [pk_uLs, w_add (by rw [e19, a0]; omega) (by rw [e19, a0]; omega), e19, a0]
        show M 0 + 19 * u = M 0 + u * 19
        omega
      · rw [pk_uLn e, hJM i hi]
        have : fa false i = 0 := by unfold fa; rw [if_neg e]; exact if_neg (fun q => by cases q.1)
        rw [this]
        omega
    | true =>
      have m8 := hMb 8 (by decide)
      have a8 := hJM 8 (by decide)
      show (va_up (va_up J2 to (vp_updL (J2 to) 0 (J2 to 0 + w64))) to (vp_updL (va_up J2 to (vp_updL (J2 to) 0 (J2 to 0 + w64)) to) 8 (va_up J2 to (vp_updL (J2 to) 0 (J2 to 0 + w64)) to 8 + w64)) to i).toInt = M i + u * fa true i
      rw [vu_s, vu_s]
      by_cases e : i = 8
      · subst e
        rw [pk_uLs, pk_uLn (by decide), w_add (by rw [hu, a8]; omega) (by rw [hu, a8]; omega), hu, a8]
        show M 8 + u = M 8 + u * 1
        omega
      · rw [pk_uLn e]
        by_cases e0 : i = 0
        · subst e0
          rw [pk_uLs, w_add (by rw [hu, a0]; omega) (by rw [hu, a0]; omega), hu, a0]
          show M 0 + u = M 0 + u * 1
          omega
        · rw [pk_uLn e0, hJM i hi]
          have : fa true i = 0 := by unfold fa; rw [if_neg e0]; exact if_neg (fun q => e q.2)
          rw [this]
          omega
  · unfold carry_f
    rw [hv1]
    dsimp only
    split
    · show va_up (va_up (carry_l13 c to fr S 0 (fL c - 1)).2 to _) to _ r = _
      rw [vu_n hr, vu_n hr, h5 r hr]
    · show va_up (va_up (va_up (carry_l13 c to fr S 0 (fL c - 1)).2 to _) to _) to _ r = _
      rw [vu_n hr, vu_n hr, vu_n hr, h5 r hr]
/-- limbs between calls: a little outside their bits -/
def fok (c : Bool) (f : Nat → Int) : Prop := ∀ i, i < fL c → -64 < f i ∧ f i < 2 ^ fw c i + 64
theorem fa_bd (c : Bool) (i : Nat) : 0 ≤ fa c i ∧ fa c i ≤ 19 := by
  unfold fa
  (repeat' split) <;> omega
theorem ok_of {c : Bool} {g m : Nat → Int} {u : Int} (hu : -3 ≤ u ∧ u ≤ 3) (hm : ∀ i, i < fL c → 0 ≤ m i ∧ m i < 2 ^ fw c i) (hg : ∀ i, i < fL c → g i = m i + u * fa c i) : fok c g := by
  intro i hi
  have h1 := hm i hi
  have h2 := fa_bd c i
  rw [hg i hi]
  generalize fa c i = a at h2
  have q1 : -57 ≤ u * a := by
    have : -3 * a ≤ u * a := Int.mul_le_mul_of_nonneg_right hu.1 h2.1
    omega
  have q2 : u * a ≤ 57 := by
    have : u * a ≤ 3 * a := Int.mul_le_mul_of_nonneg_right hu.2 h2.1
    omega
  omega
/-- the number that a row of the field stands for -/
def fvl (c : Bool) (f : Nat → Int) : Int := rv (fb c) f (fL c)
theorem val_of {c : Bool} {f g m : Nat → Int} {u : Int} (hs : rv (fb c) m (fL c) + u * 2 ^ (fb c * (fL c - 1) + ft c) = fvl c f) (hg : ∀ i, i < fL c → g i = m i + u * fa c i) : fvl c g = fvl c f - u * (nt_p c : Int) := by
  have e1 : fvl c g = rv (fb c) m (fL c) + u * rv (fb c) (fa c) (fL c) := by
    unfold fvl
    rw [rv_congr (g := fun i => m i + u * fa c i) (fL c) hg, rv_add, rv_smul]
  have e2 := rv_fa c
  rw [e1, ← hs, ← e2]
  generalize rv (fb c) m (fL c) = A
  generalize rv (fb c) (fa c) (fL c) = B
  generalize (nt_p c : Int) = p
  clear hs hg e1 e2
  grind
theorem fz_of {c : Bool} {x y u : Int} (h : x = y - u * (nt_p c : Int)) : fz c x = fz c y := by
  refine (fz_eq c _ _).2 ?_
  rw [h]
  exact Int.sub_mul_emod_self_right y u _
end
