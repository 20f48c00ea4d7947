section
/-! THE SUITE: agree. -/
def agO (c bs : Bool) (A : AS) : Zp c := ldo c (mx1 c bs (A.1 1)) (clp c (A.1 0))
theorem mx1_cg {c bs : Bool} {f g : Nat → Int32} (h : ∀ i, i < fB c → f i = g i) : mx1 c bs f = mx1 c bs g := by
  unfold mx1
  rw [bv_cg h]
theorem xagree_r {c bs : Bool} (xo : Nat) (B : (c : Bool) → Pt c) (S : StT) (A : AS) (J : Nat → Nat → Int64) (hv : AV A) (h : RC xo B S A) (hs1 : VL c J (xo + 131 + 147 * bN c + 2) (mx1 c bs (A.1 1))) (hs2 : ∀ r, r ≠ xo + 131 + 147 * bN c + 2 → J r = S.2.1 r) :
    (aclimb_f c (xo + 131 + 147 * bN c) (xo + 29 + 147 * bN c) (xo + 15 + 2 * 3 + 1) (xo + 15 + 2 * 0 + 1) (S.1, J, fs S.2.2 (xo + 15 + 2 * 3) 1 (nI (fB c)))).1 = (if agO c bs A = 0 then nI 0 else nI 1) ∧ RC xo B ((aclimb_f c (xo + 131 + 147 * bN c) (xo + 29 + 147 * bN c) (xo + 15 + 2 * 3 + 1) (xo + 15 + 2 * 0 + 1) (S.1, J, fs S.2.2 (xo + 15 + 2 * 3) 1 (nI (fB c)))).2.1, (aclimb_f c (xo + 131 + 147 * bN c) (xo + 29 + 147 * bN c) (xo + 15 + 2 * 3 + 1) (xo + 15 + 2 * 0 + 1) (S.1, J, fs S.2.2 (xo + 15 + 2 * 3) 1 (nI (fB c)))).2.2.1, fs S.2.2 (xo + 15 + 2 * 3) 1 (nI (fB c))) (setN (setR A 3 (nby (agO c bs A).val)) 2 (fB c)) ∧ OX xo ((aclimb_f c (xo + 131 + 147 * bN c) (xo + 29 + 147 * bN c) (xo + 15 + 2 * 3 + 1) (xo + 15 + 2 * 0 + 1) (S.1, J, fs S.2.2 (xo + 15 + 2 * 3) 1 (nI (fB c)))).2.1, (aclimb_f c (xo + 131 + 147 * bN c) (xo + 29 + 147 * bN c) (xo + 15 + 2 * 3 + 1) (xo + 15 + 2 * 0 + 1) (S.1, J, fs S.2.2 (xo + 15 + 2 * 3) 1 (nI (fB c)))).2.2.1, fs S.2.2 (xo + 15 + 2 * 3) 1 (nI (fB c))) S := by
  have hbN := bN_le c
  have hfB : fB c ≤ 56 := by cases c <;> decide
  obtain ⟨⟨c1, c2, _⟩, _⟩ := h.2.2.2 c
  obtain ⟨e1, e2, e3, _, e5⟩ := aclimb_s c (xo + 131 + 147 * bN c) (xo + 29 + 147 * bN c) (xo + 15 + 2 * 3 + 1) (xo + 15 + 2 * 0 + 1) (S.1, J, fs S.2.2 (xo + 15 + 2 * 3) 1 (nI (fB c))) (x1 := mx1 c bs (A.1 1)) (by omega) (fun i hi => by show uN (S.1 (xo + 15 + 2 * 0 + 1) i) < 256; rw [h.1.1 i (by omega)]; exact hv.1 i (by omega)) (PrimeAt_row (hs2 _ (by omega)) c1) (VL_row (hs2 _ (by omega)) c2) hs1
  have eo : ldo c (mx1 c bs (A.1 1)) (clp c (S.1 (xo + 15 + 2 * 0 + 1))) = agO c bs A := ldo_congr (clp_congr (fun j hj => h.1.1 j (by omega)))
  have e1' : (aclimb_f c (xo + 131 + 147 * bN c) (xo + 29 + 147 * bN c) (xo + 15 + 2 * 3 + 1) (xo + 15 + 2 * 0 + 1) (S.1, J, fs S.2.2 (xo + 15 + 2 * 3) 1 (nI (fB c)))).1 = (if ldo c (mx1 c bs (A.1 1)) (clp c (S.1 (xo + 15 + 2 * 0 + 1))) = 0 then nI 0 else nI 1) := e1
  have e2' : ∀ i, i < fB c → uN ((aclimb_f c (xo + 131 + 147 * bN c) (xo + 29 + 147 * bN c) (xo + 15 + 2 * 3 + 1) (xo + 15 + 2 * 0 + 1) (S.1, J, fs S.2.2 (xo + 15 + 2 * 3) 1 (nI (fB c)))).2.1 (xo + 15 + 2 * 3 + 1) i) = (ldo c (mx1 c bs (A.1 1)) (clp c (S.1 (xo + 15 + 2 * 0 + 1)))).val / 2 ^ (8 * i) % 256 := e2
  rw [eo] at e1' e2'
  have e5' : ∀ r, ¬ aT (xo + 131 + 147 * bN c) (xo + 29 + 147 * bN c) r → (aclimb_f c (xo + 131 + 147 * bN c) (xo + 29 + 147 * bN c) (xo + 15 + 2 * 3 + 1) (xo + 15 + 2 * 0 + 1) (S.1, J, fs S.2.2 (xo + 15 + 2 * 3) 1 (nI (fB c)))).2.2.1 r = J r := e5
  have e3' : ∀ r, r ≠ xo + 15 + 2 * 3 + 1 → r ≠ xo + 131 + 147 * bN c + 1 → (aclimb_f c (xo + 131 + 147 * bN c) (xo + 29 + 147 * bN c) (xo + 15 + 2 * 3 + 1) (xo + 15 + 2 * 0 + 1) (S.1, J, fs S.2.2 (xo + 15 + 2 * 3) 1 (nI (fB c)))).2.1 r = S.1 r := e3
  clear e1 e2 e3 e5 eo
  generalize aclimb_f c (xo + 131 + 147 * bN c) (xo + 29 + 147 * bN c) (xo + 15 + 2 * 3 + 1) (xo + 15 + 2 * 0 + 1) (S.1, J, fs S.2.2 (xo + 15 + 2 * 3) 1 (nI (fB c))) = R at e1' e2' e3' e5' ⊢
  have ax : ∀ r, aT (xo + 131 + 147 * bN c) (xo + 29 + 147 * bN c) r → xo ≤ r ∧ r < xo + 323 := fun r q => by unfold aT at q; omega
  refine ⟨e1', RC_3 h (fB c) _ (fun r hr => e3' r (fun q => ?_) (fun q => ?_)) (fun i hi => nby_of (e2' i hi)) (fun r hr => (e5' r (kJ_A c hr).1).trans (hs2 r (kJ_A c hr).2)) (fun r h1 h2 => (e5' r (fun q => by have := ax r q; omega)).trans (hs2 r (by omega))) (fun r hr => vu_n (fun q => ?_)) fs_get, fun r hr => ⟨e3' r (by omega) (by omega), (e5' r (fun q => by have := ax r q; omega)).trans (hs2 r (by omega)), vu_n (by omega)⟩⟩
  · unfold kI at hr
    rcases hr with z | z | z | z | z | z | ⟨b, hb, z⟩ <;> omega
  · by_cases h10 : r = xo + 10
    · omega
    · exact (kI_ne (Or.inl hr) h10 c).2.2 q
  · unfold kF at hr
    omega
theorem xagreeB_r (xo : Nat) (B : (c : Bool) → Pt c) (c : Bool) (S : StT) (A : AS) (hv : AV A) (h : RC xo B S A) : (xagreeB_f c xo S).1 = (if agO c true A = 0 then nI 0 else nI 1) ∧ RC xo B (xagreeB_f c xo S).2 (setN (setR A 3 (nby (agO c true A).val)) 2 (fB c)) ∧ OX xo (xagreeB_f c xo S).2 S := by
  obtain ⟨a1, a2, _⟩ := abase_s c (xo + 131 + 147 * bN c) (xo + 29 + 147 * bN c) S
  have e : fz c (bsN c : Int) = mx1 c true (A.1 1) := by
    unfold mx1
    rw [if_pos rfl]
  rw [e] at a1
  have en : xagreeB_f c xo S = (let R := aclimb_f c (xo + 131 + 147 * bN c) (xo + 29 + 147 * bN c) (xo + 15 + 2 * 3 + 1) (xo + 15 + 2 * 0 + 1) (S.1, (abase_f c (xo + 131 + 147 * bN c) (xo + 29 + 147 * bN c) S).2.1, fs S.2.2 (xo + 15 + 2 * 3) 1 (nI (fB c))); (R.1, (R.2.1, R.2.2.1, fs S.2.2 (xo + 15 + 2 * 3) 1 (nI (fB c))))) := by
    dsimp only [xagreeB_f]
  rw [en]
  exact xagree_r (bs := true) xo B S A _ hv h a1 a2
theorem xagreeP_r (xo : Nat) (B : (c : Bool) → Pt c) (c : Bool) (S : StT) (A : AS) (hv : AV A) (h : RC xo B S A) : (xagreeP_f c xo S).1 = (if agO c false A = 0 then nI 0 else nI 1) ∧ RC xo B (xagreeP_f c xo S).2 (setN (setR A 3 (nby (agO c false A).val)) 2 (fB c)) ∧ OX xo (xagreeP_f c xo S).2 S := by
  have hfB : fB c ≤ 56 := by cases c <;> decide
  obtain ⟨a1, a2, _⟩ := astart_s c (xo + 131 + 147 * bN c) (xo + 29 + 147 * bN c) (xo + 15 + 2 * 1 + 1) S (fun i hi => by rw [h.1.2.1 i (by omega)]; exact hv.2.1 i (by omega))
  have e : fz c ((bv (S.1 (xo + 15 + 2 * 1 + 1)) (fB c) % 2 ^ fW c : Nat) : Int) = mx1 c false (A.1 1) := by
    rw [bv_cg (fun i hi => h.1.2.1 i (by omega))]
    unfold mx1
    rw [if_neg (by decide)]
  rw [e] at a1
  have en : xagreeP_f c xo S = (let R := aclimb_f c (xo + 131 + 147 * bN c) (xo + 29 + 147 * bN c) (xo + 15 + 2 * 3 + 1) (xo + 15 + 2 * 0 + 1) (S.1, (astart_f c (xo + 131 + 147 * bN c) (xo + 29 + 147 * bN c) (xo + 15 + 2 * 1 + 1) S).2.1, fs S.2.2 (xo + 15 + 2 * 3) 1 (nI (fB c))); (R.1, (R.2.1, R.2.2.1, fs S.2.2 (xo + 15 + 2 * 3) 1 (nI (fB c))))) := by
    dsimp only [xagreeP_f]
  rw [en]
  exact xagree_r (bs := false) xo B S A _ hv h a1 a2
theorem ag_v {A : AS} (c bs : Bool) (h : AV A) : AV (setN (setR A 3 (nby (agO c bs A).val)) 2 (fB c)) := out_v h (by cases c <;> decide) (fun i _ => nby_lt _ i)
theorem magree_scan (c : Bool) (mo : Nat) (S2 : StT) (F : Nat → Nat → Int32) : ∀ f i, ((∀ j, i ≤ j → j < i + f → S2.1 (mo + 4) j = 0) → magree_s17 c mo S2 (S2.1, S2.2.1, F) f i = (nI 0, (S2.1, S2.2.1, fs (fC c mo F) mo 5 (nI (fB c))))) ∧ (¬ (∀ j, i ≤ j → j < i + f → S2.1 (mo + 4) j = 0) → magree_s17 c mo S2 (S2.1, S2.2.1, F) f i = (nI 1, (S2.1, S2.2.1, fs (fC c mo F) mo 5 (nI (fB c))))) := by
  intro f
  induction f with
  | zero => exact fun i => ⟨fun _ => rfl, fun h => absurd (fun j h1 h2 => by omega) h⟩
  | succ f ih =>
    intro i
    obtain ⟨i1, i2⟩ := ih (i + 1)
    have st : magree_s17 c mo S2 (S2.1, S2.2.1, F) (f + 1) i = (if S2.1 (mo + 4) i = 0 then magree_s17 c mo S2 (S2.1, S2.2.1, F) f (i + 1) else (nI 1, (S2.1, S2.2.1, fs (fC c mo F) mo 5 (nI (fB c))))) := rfl
    rw [st]
    constructor
    · intro h
      rw [if_pos (h i (Nat.le_refl _) (by omega))]
      exact i1 (fun j h1 h2 => h j (by omega) (by omega))
    · intro h
      by_cases e : S2.1 (mo + 4) i = 0
      · rw [if_pos e]
        refine i2 (fun q => h (fun j h1 h2 => ?_))
        by_cases e2 : j = i
        · rw [e2]; exact e
        · exact q j (by omega) (by omega)
      · rw [if_neg e]
theorem magree_r (mo : Nat) (B : (c : Bool) → Pt c) (c bs : Bool) (S : StT) (A : AS) (hv : AV A) (h : RM mo B S A) : (magree_f c mo bs S).1 = (if agO c bs A = 0 then nI 0 else nI 1) ∧ RM mo B (magree_f c mo bs S).2 (setN (setR A 3 (nby (agO c bs A).val)) 2 (fB c)) ∧ OM mo (magree_f c mo bs S).2 S := by
  have hbN := bN_le c
  have hfB : fB c ≤ 56 := by cases c <;> decide
  obtain ⟨e1, _, e3, e4, e5, _⟩ := mlad_m c mo bs (S.1, S.2.1, fC c mo S.2.2) (h.2.2.2.1 c).1 (fun i hi => by show uN (S.1 (mo + 1) i) < 256; rw [h.1.1 i (by omega)]; exact hv.1 i (by omega)) (fun _ i hi => by show uN (S.1 (mo + 2) i) < 256; rw [h.1.2.1 i (by omega)]; exact hv.2.1 i (by omega))
  have eo : ldo c (mx1 c bs (S.1 (mo + 2))) (clp c (S.1 (mo + 1))) = agO c bs A := by
    rw [mx1_cg (fun i hi => h.1.2.1 i (by omega))]
    exact ldo_congr (clp_congr (fun j hj => h.1.1 j (by omega)))
  have e1' : ∀ i, i < fB c → uN ((mlad_f c mo bs (S.1, S.2.1, fC c mo S.2.2)).1 (mo + 4) i) = (ldo c (mx1 c bs (S.1 (mo + 2))) (clp c (S.1 (mo + 1)))).val / 2 ^ (8 * i) % 256 := e1
  rw [eo] at e1'
  have en : magree_f c mo bs S = magree_s17 c mo (mlad_f c mo bs (S.1, S.2.1, fC c mo S.2.2)) ((mlad_f c mo bs (S.1, S.2.1, fC c mo S.2.2)).1, (mlad_f c mo bs (S.1, S.2.1, fC c mo S.2.2)).2.1, S.2.2) (fB c) 0 := by
    dsimp only [magree_f, mnoC_f, mcho_f, fC]
  rw [en]
  clear en e1 eo
  generalize mlad_f c mo bs (S.1, S.2.1, fC c mo S.2.2) = T at e1' e3 e4 e5 ⊢
  obtain ⟨s1, s2⟩ := magree_scan c mo T S.2.2 (fB c) 0
  have hz : (∀ j, 0 ≤ j → j < 0 + fB c → T.1 (mo + 4) j = 0) ↔ agO c bs A = 0 := by
    constructor
    · intro q
      have hN : (agO c bs A).val < 2 ^ (8 * fB c) := Nat.lt_of_lt_of_le (Nat.lt_trans (fz_lt _) (nt_fW c)) (Nat.pow_le_pow_right (by decide) (by cases c <;> decide))
      have e : bv (T.1 (mo + 4)) (fB c) = (agO c bs A).val := bv_of hN (fun i hi => e1' i hi)
      have e0 : bv (T.1 (mo + 4)) (fB c) = 0 := bv_of (Nat.pow_pos (by decide)) (fun i hi => by rw [q i (Nat.zero_le _) (by omega), Nat.zero_div]; rfl)
      exact val0.mp (e.symm.trans e0)
    · intro q j _ hj
      refine uN_ext ?_
      rw [e1' j (by omega), q, zero_val, Nat.zero_div]
      rfl
  have fin : RM mo B (T.1, T.2.1, fs (fC c mo S.2.2) mo 5 (nI (fB c))) (setN (setR A 3 (nby (agO c bs A).val)) 2 (fB c)) ∧ OM mo (T.1, T.2.1, fs (fC c mo S.2.2) mo 5 (nI (fB c))) S := by
    refine ⟨RM_3 h (fB c) _ (fun r hr => e3 r (by omega) (by omega) (by omega) (by omega)) (fun i hi => nby_of (e1' i hi)) (fun x hx => e4 x (by unfold mlD; omega)) (e5 _ (by omega)) (e5 _ (by omega)) ⟨(fs_oth (by decide)).trans fC_F.1, (fs_oth (by decide)).trans fC_F.2.1, fs_get⟩, fun r hr => ⟨e3 r (by omega) (by omega) (by omega) (by omega), e5 r (by omega), (vu_n (by omega)).trans (fC_o c mo S.2.2 (by omega))⟩⟩
  by_cases hO : agO c bs A = 0
  · rw [s1 (hz.mpr hO), if_pos hO]
    exact ⟨rfl, fin⟩
  · rw [s2 (fun q => hO (hz.mp q)), if_neg hO]
    exact ⟨rfl, fin⟩
end
