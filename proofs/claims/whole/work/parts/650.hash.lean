section
/-! THE SUITE: hash, agree. -/
/-- a state of the model that holds f and the constants of SHA-512 -/
def cst (f : Nat → Int32) : StT := (fun _ => f, (fun r => if r = 14 then hsF else hkF), fun _ _ => 0)
/-- the digest of q bytes -/
def dgA (c : Bool) (f : Nat → Int32) (q nn : Nat) : Nat → Int32 := if c then (mshake_f 0 nn q (cst f)).1 (0 + 12) else (msha_f 0 q (cst f)).1 (0 + 12)
theorem cst14 (f : Nat → Int32) : ∀ i, i < 8 → (cst f).2.1 (0 + 14) i = hsF i := fun _ _ => rfl
theorem cst15 (f : Nat → Int32) : ∀ i, i < 80 → (cst f).2.1 (0 + 15) i = hkF i := fun _ _ => rfl
theorem dgA_f (f : Nat → Int32) (q nn : Nat) : dgA false f q nn = (msha_f 0 q (cst f)).1 (0 + 12) := by
  unfold dgA
  rw [if_neg (by decide)]
theorem dgA_t (f : Nat → Int32) (q nn : Nat) : dgA true f q nn = (mshake_f 0 nn q (cst f)).1 (0 + 12) := by
  unfold dgA
  rw [if_pos rfl]
theorem dig_ff (hs to ro q nn : Nat) (S : StT) : dig_f false hs to ro q nn S = hdig_f hs to ro q nn S := by
  unfold dig_f
  rw [if_neg (by decide)]
theorem dig_tt (hs to ro q nn : Nat) (S : StT) : dig_f true hs to ro q nn S = sdig_f hs to ro q nn S := by
  unfold dig_f
  rw [if_pos rfl]
/-- the class's digest -/
theorem dig_A (c : Bool) (hs to ro q nn : Nat) (S : StT) {f : Nat → Int32} (hq : q < 700) (hn : nn ≤ 128) (hn0 : c = false → nn ≤ 64) (h : ∀ i, i < q → S.1 (ro + 1) i = f i) :
    (∀ i, i < nn → (dig_f c hs to ro q nn S).1 to i = dgA c f q nn i) ∧ (∀ i, nn ≤ i → (dig_f c hs to ro q nn S).1 to i = S.1 to i) ∧ (∀ r, r ≠ to → (dig_f c hs to ro q nn S).1 r = S.1 r) ∧ (∀ r, r ≠ hs + 1 → r ≠ hs + 2 → (dig_f c hs to ro q nn S).2.1 r = S.2.1 r) := by
  cases c with
  | false =>
    obtain ⟨h1, h2, h3, h4, _⟩ := sha_eq hs to ro 0 q nn S (cst f) hq (hn0 rfl) h (cst14 f) (cst15 f)
    rw [dig_ff, dgA_f]
    exact ⟨h1, h2, h3, h4⟩
  | true =>
    obtain ⟨h1, h2, h3, h4, _⟩ := shake_eq hs to ro 0 q nn S (cst f) hn h
    rw [dig_tt, dgA_t]
    exact ⟨h1, h2, h3, h4⟩
theorem msha_A (mo q : Nat) (M : StT) {f : Nat → Int32} (nn : Nat) (hq : q < 700) (h : ∀ i, i < q → M.1 (mo + 11) i = f i) (h14 : ∀ i, i < 8 → M.2.1 (mo + 14) i = hsF i) (h15 : ∀ i, i < 80 → M.2.1 (mo + 15) i = hkF i) :
    (∀ i, i < 64 → (msha_f mo q M).1 (mo + 12) i = dgA false f q nn i) ∧ (∀ r, r ≠ mo + 11 → r ≠ mo + 12 → (msha_f mo q M).1 r = M.1 r) ∧ (∀ i, 64 ≤ i → (msha_f mo q M).1 (mo + 12) i = M.1 (mo + 12) i) ∧ (∀ r, r ≠ mo + 13 → r ≠ mo + 16 → (msha_f mo q M).2.1 r = M.2.1 r) := by
  obtain ⟨a1, _, _, _, a5, a6, a7, _⟩ := sha_eq 100 200 300 mo q 64 (cst f) M hq (Nat.le_refl _) (fun i hi => (h i hi).symm) h14 h15
  obtain ⟨b1, _⟩ := sha_eq 100 200 300 0 q 64 (cst f) (cst f) hq (Nat.le_refl _) (fun i hi => rfl) (cst14 f) (cst15 f)
  rw [dgA_f]
  exact ⟨fun i hi => (a1 i hi).symm.trans (b1 i hi), a5, a6, a7⟩
theorem mshake_A (mo q nn : Nat) (M : StT) {f : Nat → Int32} (hn : nn ≤ 128) (h : ∀ i, i < q → M.1 (mo + 11) i = f i) :
    (∀ i, i < nn → (mshake_f mo nn q M).1 (mo + 12) i = dgA true f q nn i) ∧ (∀ r, r ≠ mo + 11 → r ≠ mo + 12 → (mshake_f mo nn q M).1 r = M.1 r) ∧ (∀ i, nn ≤ i → (mshake_f mo nn q M).1 (mo + 12) i = M.1 (mo + 12) i) ∧ (∀ r, r ≠ mo + 17 → r ≠ mo + 18 → r ≠ mo + 19 → (mshake_f mo nn q M).2.1 r = M.2.1 r) := by
  obtain ⟨a1, _, _, _, a5, a6, a7, _⟩ := shake_eq 100 200 300 mo q nn (cst f) M hn (fun i hi => (h i hi).symm)
  obtain ⟨b1, _⟩ := shake_eq 100 200 300 0 q nn (cst f) (cst f) hn (fun i hi => rfl)
  rw [dgA_t]
  exact ⟨fun i hi => (a1 i hi).symm.trans (b1 i hi), a5, a6, a7⟩
theorem and255 (x : Int32) : uN (x &&& nI 255) < 256 := by
  rw [by8]
  omega
theorem l169_lt (mo : Nat) (S : StT) : ∀ n, ∀ i, i < n → uN (msha_l169 mo S n (mo + 12) i) < 256 := by
  intro n
  induction n with
  | zero => exact fun i hi => absurd hi (Nat.not_lt_zero _)
  | succ n ih =>
    intro i hi
    unfold msha_l169
    dsimp only
    rw [vu_s]
    show uN (if i = n then _ else msha_l169 mo S n (mo + 12) i) < 256
    split
    · exact and255 _
    · exact ih i (by omega)
theorem l176_lt (mo : Nat) (S : StT) : ∀ n, ∀ i, i < n → uN (mshake_l176 mo S n (mo + 12) i) < 256 := by
  intro n
  induction n with
  | zero => exact fun i hi => absurd hi (Nat.not_lt_zero _)
  | succ n ih =>
    intro i hi
    unfold mshake_l176
    dsimp only
    rw [vu_s]
    show uN (if i = n then _ else mshake_l176 mo S n (mo + 12) i) < 256
    split
    · exact and255 _
    · exact ih i (by omega)
theorem msha_v1 (mo q : Nat) (S : StT) : ∃ T, (msha_f mo q S).1 = msha_l169 mo T 64 := ⟨_, rfl⟩
theorem mshk_v1 (mo nn q : Nat) (S : StT) : ∃ T, (mshake_f mo nn q S).1 = mshake_l176 mo T nn := by
  rw [mshk_v]
  exact ⟨_, rfl⟩
theorem dgA_lt (c : Bool) (f : Nat → Int32) (q nn : Nat) (hn0 : c = false → nn ≤ 64) : ∀ i, i < nn → uN (dgA c f q nn i) < 256 := by
  intro i hi
  cases c with
  | false =>
    rw [dgA_f]
    obtain ⟨T, hT⟩ := msha_v1 0 q (cst f)
    rw [hT]
    exact l169_lt 0 T 64 i (Nat.lt_of_lt_of_le hi (hn0 rfl))
  | true =>
    rw [dgA_t]
    obtain ⟨T, hT⟩ := mshk_v1 0 nn q (cst f)
    rw [hT]
    exact l176_lt 0 T nn i hi
theorem minB_lp (mo a at_ q : Nat) (S : StT) (ha : a ≠ mo + 11) : ∀ n, (∀ k, minB_l3 mo a at_ q S n (mo + 11) k = if q ≤ k ∧ k < q + n then S.1 a (at_ + (k - q)) else S.1 (mo + 11) k) ∧ ∀ r, r ≠ mo + 11 → minB_l3 mo a at_ q S n r = S.1 r := by
  intro n
  induction n with
  | zero => exact ⟨fun k => by rw [if_neg (by omega)]; rfl, fun _ _ => rfl⟩
  | succ n ih =>
    obtain ⟨h1, h2⟩ := ih
    unfold minB_l3
    dsimp only
    rw [h2 a ha]
    refine ⟨fun k => ?_, fun r hr => (vu_n hr).trans (h2 r hr)⟩
    rw [vu_s]
    show (if k = q + n then S.1 a (at_ + n) else minB_l3 mo a at_ q S n (mo + 11) k) = _
    by_cases e : k = q + n
    · rw [if_pos e, if_pos (by omega), show k - q = n from by omega]
    · rw [if_neg e, h1]
      by_cases z : q ≤ k ∧ k < q + n
      · rw [if_pos z, if_pos (by omega)]
      · rw [if_neg z, if_neg (by omega)]
/-- hash -/
theorem xhash_r {c : Bool} (xo : Nat) (B : (c : Bool) → Pt c) (hs nn : Nat) (S : StT) (A : AS) (hv : AV A) (hhs : hs = xo + 23 ∨ hs = xo + 26) (hn : nn ≤ 114) (hn0 : c = false → nn ≤ 64) (h : RC xo B S A) : RC xo B ((dig_f c hs (xo + 15 + 2 * 3 + 1) (xo + 2) (A.2.1 0) nn (S.1, S.2.1, fs S.2.2 (xo + 15 + 2 * 3) 1 (nI nn))).1, (dig_f c hs (xo + 15 + 2 * 3 + 1) (xo + 2) (A.2.1 0) nn (S.1, S.2.1, fs S.2.2 (xo + 15 + 2 * 3) 1 (nI nn))).2.1, fs S.2.2 (xo + 15 + 2 * 3) 1 (nI nn)) (setN (setR A 3 (dgA c (A.1 4) (A.2.1 0) nn)) 2 nn) ∧ OX xo ((dig_f c hs (xo + 15 + 2 * 3 + 1) (xo + 2) (A.2.1 0) nn (S.1, S.2.1, fs S.2.2 (xo + 15 + 2 * 3) 1 (nI nn))).1, (dig_f c hs (xo + 15 + 2 * 3 + 1) (xo + 2) (A.2.1 0) nn (S.1, S.2.1, fs S.2.2 (xo + 15 + 2 * 3) 1 (nI nn))).2.1, fs S.2.2 (xo + 15 + 2 * 3) 1 (nI nn)) S := by
  have hmg := hv.2.2.2.2.2.2.1
  obtain ⟨e1, _, e3, e4⟩ := dig_A c hs (xo + 15 + 2 * 3 + 1) (xo + 2) (A.2.1 0) nn (S.1, S.2.1, fs S.2.2 (xo + 15 + 2 * 3) 1 (nI nn)) (f := A.1 4) (by omega) (by omega) hn0 (fun i hi => h.1.2.2.2.2.1 i hi)
  generalize dig_f c hs (xo + 15 + 2 * 3 + 1) (xo + 2) (A.2.1 0) nn (S.1, S.2.1, fs S.2.2 (xo + 15 + 2 * 3) 1 (nI nn)) = T at e1 e3 e4 ⊢
  refine ⟨RC_3 h nn _ (fun r hr => e3 r (fun q => ?_)) (fun i hi => e1 i hi) (fun r hr => e4 r (fun q => ?_) (fun q => ?_)) (fun r h1 h2 => e4 r (by omega) (by omega)) (fun r hr => vu_n (fun q => ?_)) fs_get, fun r hr => ⟨e3 r (by omega), e4 r (by omega) (by omega), vu_n (by omega)⟩⟩
  · unfold kI at hr
    rcases hr with z | z | z | z | z | z | ⟨b, hb, z⟩ <;> omega
  · obtain ⟨b, hb, hr⟩ := hr
    omega
  · obtain ⟨b, hb, hr⟩ := hr
    omega
  · unfold kF at hr
    omega
theorem mhash_fin {mo : Nat} {B : (c : Bool) → Pt c} {S T : StT} {A : AS} {nn : Nat} {g : Nat → Int32} {F : Nat → Nat → Int32} {I : Nat → Nat → Int32} (h : RM mo B S A) (l1 : ∀ i, i < nn → I (mo + 4) i = T.1 (mo + 12) i) (l2 : ∀ r, r ≠ mo + 4 → I r = T.1 r) (e1 : ∀ i, i < nn → T.1 (mo + 12) i = g i) (e2 : ∀ r, r ≠ mo + 11 → r ≠ mo + 12 → T.1 r = S.1 r) (e3 : ∀ r, (r < mo + 13 ∨ r = mo + 14 ∨ r = mo + 15 ∨ mo + 20 ≤ r) → T.2.1 r = S.2.1 r) (hF : F mo 7 = S.2.2 mo 7 ∧ F mo 9 = S.2.2 mo 9 ∧ F mo 5 = nI nn) (hFo : ∀ r, r ≠ mo → F r = S.2.2 r) : RM mo B (I, T.2.1, F) (setN (setR A 3 g) 2 nn) ∧ OM mo (I, T.2.1, F) S := by
  refine ⟨RM_3 h nn g (fun r hr => (l2 r (by omega)).trans (e2 r (by omega) (by omega))) (fun i hi => (l1 i hi).trans (e1 i hi)) (fun x hx i hi => ?_) (e3 _ (by omega)) (e3 _ (by omega)) hF, fun r hr => ⟨(l2 r (by omega)).trans (e2 r (by omega) (by omega)), e3 r (by omega), hFo r (by omega)⟩⟩
  show I (mo + 7) (32 * x + i) = _
  rw [l2 (mo + 7) (by omega), e2 (mo + 7) (by omega) (by omega)]
theorem mhash0_lp (mo : Nat) (S : StT) : ∀ n, (∀ i, i < n → mhash0_l81 mo S n (mo + 4) i = S.1 (mo + 12) i) ∧ ∀ r, r ≠ mo + 4 → mhash0_l81 mo S n r = S.1 r := by
  intro n
  induction n with
  | zero => exact ⟨fun i hi => absurd hi (Nat.not_lt_zero _), fun _ _ => rfl⟩
  | succ n ih =>
    obtain ⟨h1, h2⟩ := ih
    unfold mhash0_l81
    dsimp only
    rw [h2 (mo + 12) (by omega)]
    refine ⟨fun i hi => ?_, fun r hr => (vu_n hr).trans (h2 r hr)⟩
    rw [vu_s]
    show (if i = n then S.1 (mo + 12) n else mhash0_l81 mo S n (mo + 4) i) = _
    by_cases e : i = n
    · rw [if_pos e, e]
    · rw [if_neg e]; exact h1 i (by omega)
theorem mhash1_lp (mo : Nat) (S : StT) : ∀ n, (∀ i, i < n → mhash1_l81 mo S n (mo + 4) i = S.1 (mo + 12) i) ∧ ∀ r, r ≠ mo + 4 → mhash1_l81 mo S n r = S.1 r := by
  intro n
  induction n with
  | zero => exact ⟨fun i hi => absurd hi (Nat.not_lt_zero _), fun _ _ => rfl⟩
  | succ n ih =>
    obtain ⟨h1, h2⟩ := ih
    unfold mhash1_l81
    dsimp only
    rw [h2 (mo + 12) (by omega)]
    refine ⟨fun i hi => ?_, fun r hr => (vu_n hr).trans (h2 r hr)⟩
    rw [vu_s]
    show (if i = n then S.1 (mo + 12) n else mhash1_l81 mo S n (mo + 4) i) = _
    by_cases e : i = n
    · rw [if_pos e, e]
    · rw [if_neg e]; exact h1 i (by omega)
theorem mhash0_r (mo : Nat) (B : (c : Bool) → Pt c) (n_ : Int32) (S : StT) (A : AS) (hv : AV A) (h : RM mo B S A) : RM mo B (mhash0_f mo (A.2.1 0) n_ S) (setN (setR A 3 (dgA false (A.1 4) (A.2.1 0) 64)) 2 64) ∧ OM mo (mhash0_f mo (A.2.1 0) n_ S) S := by
  have hmg := hv.2.2.2.2.2.2.1
  obtain ⟨b1, b2⟩ := minB_lp mo (mo + 5) 0 0 (S.1, S.2.1, fs (fs S.2.2 mo 0 (nI 0)) mo 17 (nI 0)) (by omega) (A.2.1 0)
  have en : mhash0_f mo (A.2.1 0) n_ S = (mhash0_l81 mo ((msha_f mo (A.2.1 0) (minB_l3 mo (mo + 5) 0 0 (S.1, S.2.1, fs (fs S.2.2 mo 0 (nI 0)) mo 17 (nI 0)) (A.2.1 0), S.2.1, fs (fs S.2.2 mo 0 (nI 0)) mo 17 (nI (A.2.1 0)))).1, (msha_f mo (A.2.1 0) (minB_l3 mo (mo + 5) 0 0 (S.1, S.2.1, fs (fs S.2.2 mo 0 (nI 0)) mo 17 (nI 0)) (A.2.1 0), S.2.1, fs (fs S.2.2 mo 0 (nI 0)) mo 17 (nI (A.2.1 0)))).2.1, S.2.2) 64, (msha_f mo (A.2.1 0) (minB_l3 mo (mo + 5) 0 0 (S.1, S.2.1, fs (fs S.2.2 mo 0 (nI 0)) mo 17 (nI 0)) (A.2.1 0), S.2.1, fs (fs S.2.2 mo 0 (nI 0)) mo 17 (nI (A.2.1 0)))).2.1, fs (fs (fs S.2.2 mo 0 (nI 0)) mo 17 (nI (A.2.1 0 + 1 + shN (A.2.1 0) + 16))) mo 5 (nI 64)) := by
    dsimp only [mhash0_f, minB_f]
    rw [Nat.zero_add]
  rw [en]
  clear en
  have c1 : ∀ i, i < A.2.1 0 → minB_l3 mo (mo + 5) 0 0 (S.1, S.2.1, fs (fs S.2.2 mo 0 (nI 0)) mo 17 (nI 0)) (A.2.1 0) (mo + 11) i = A.1 4 i := by
    intro i hi
    rw [b1 i, if_pos (by omega), Nat.zero_add, Nat.sub_zero]
    exact h.1.2.2.2.2.1 i hi
  have c2 : ∀ r, r ≠ mo + 11 → minB_l3 mo (mo + 5) 0 0 (S.1, S.2.1, fs (fs S.2.2 mo 0 (nI 0)) mo 17 (nI 0)) (A.2.1 0) r = S.1 r := b2
  generalize minB_l3 mo (mo + 5) 0 0 (S.1, S.2.1, fs (fs S.2.2 mo 0 (nI 0)) mo 17 (nI 0)) (A.2.1 0) = I1 at c1 c2 ⊢
  obtain ⟨m1, m2, _, m4⟩ := msha_A mo (A.2.1 0) (I1, S.2.1, fs (fs S.2.2 mo 0 (nI 0)) mo 17 (nI (A.2.1 0))) 64 (by omega) c1 h.2.2.2.2.1 h.2.2.2.2.2
  generalize msha_f mo (A.2.1 0) (I1, S.2.1, fs (fs S.2.2 mo 0 (nI 0)) mo 17 (nI (A.2.1 0))) = T at m1 m2 m4 ⊢
  obtain ⟨l1, l2⟩ := mhash0_lp mo (T.1, T.2.1, S.2.2) 64
  exact mhash_fin h l1 l2 m1 (fun r q1 q2 => (m2 r q1 q2).trans (c2 r q1)) (fun r hr => m4 r (by omega) (by omega)) ⟨(fs_oth (by decide)).trans ((fs_oth (by decide)).trans (fs_oth (by decide))), (fs_oth (by decide)).trans ((fs_oth (by decide)).trans (fs_oth (by decide))), fs_get⟩ (fun r hr => (vu_n hr).trans ((vu_n hr).trans (vu_n hr)))
theorem mhash1_r (mo : Nat) (B : (c : Bool) → Pt c) (nn : Nat) (S : StT) (A : AS) (hv : AV A) (hn : nn ≤ 114) (h : RM mo B S A) : RM mo B (mhash1_f mo (A.2.1 0) nn S) (setN (setR A 3 (dgA true (A.1 4) (A.2.1 0) nn)) 2 nn) ∧ OM mo (mhash1_f mo (A.2.1 0) nn S) S := by
  have hmg := hv.2.2.2.2.2.2.1
  obtain ⟨b1, b2⟩ := minB_lp mo (mo + 5) 0 0 (S.1, S.2.1, fs (fs S.2.2 mo 0 (nI 0)) mo 17 (nI 0)) (by omega) (A.2.1 0)
  have en : mhash1_f mo (A.2.1 0) nn S = (mhash1_l81 mo ((mshake_f mo nn (A.2.1 0) (minB_l3 mo (mo + 5) 0 0 (S.1, S.2.1, fs (fs S.2.2 mo 0 (nI 0)) mo 17 (nI 0)) (A.2.1 0), S.2.1, fs (fs S.2.2 mo 0 (nI 0)) mo 17 (nI (A.2.1 0)))).1, (mshake_f mo nn (A.2.1 0) (minB_l3 mo (mo + 5) 0 0 (S.1, S.2.1, fs (fs S.2.2 mo 0 (nI 0)) mo 17 (nI 0)) (A.2.1 0), S.2.1, fs (fs S.2.2 mo 0 (nI 0)) mo 17 (nI (A.2.1 0)))).2.1, S.2.2) nn, (mshake_f mo nn (A.2.1 0) (minB_l3 mo (mo + 5) 0 0 (S.1, S.2.1, fs (fs S.2.2 mo 0 (nI 0)) mo 17 (nI 0)) (A.2.1 0), S.2.1, fs (fs S.2.2 mo 0 (nI 0)) mo 17 (nI (A.2.1 0)))).2.1, fs (fs (fs S.2.2 mo 0 (nI 0)) mo 17 (nI (A.2.1 0 + 1 + skN (A.2.1 0)))) mo 5 (nI nn)) := by
    dsimp only [mhash1_f, minB_f]
    rw [Nat.zero_add]
  rw [en]
  clear en
  have c1 : ∀ i, i < A.2.1 0 → minB_l3 mo (mo + 5) 0 0 (S.1, S.2.1, fs (fs S.2.2 mo 0 (nI 0)) mo 17 (nI 0)) (A.2.1 0) (mo + 11) i = A.1 4 i := by
    intro i hi
    rw [b1 i, if_pos (by omega), Nat.zero_add, Nat.sub_zero]
    exact h.1.2.2.2.2.1 i hi
  have c2 : ∀ r, r ≠ mo + 11 → minB_l3 mo (mo + 5) 0 0 (S.1, S.2.1, fs (fs S.2.2 mo 0 (nI 0)) mo 17 (nI 0)) (A.2.1 0) r = S.1 r := b2
  generalize minB_l3 mo (mo + 5) 0 0 (S.1, S.2.1, fs (fs S.2.2 mo 0 (nI 0)) mo 17 (nI 0)) (A.2.1 0) = I1 at c1 c2 ⊢
  obtain ⟨m1, m2, _, m4⟩ := mshake_A mo (A.2.1 0) nn (I1, S.2.1, fs (fs S.2.2 mo 0 (nI 0)) mo 17 (nI (A.2.1 0))) (by omega) c1
  generalize mshake_f mo nn (A.2.1 0) (I1, S.2.1, fs (fs S.2.2 mo 0 (nI 0)) mo 17 (nI (A.2.1 0))) = T at m1 m2 m4 ⊢
  obtain ⟨l1, l2⟩ := mhash1_lp mo (T.1, T.2.1, S.2.2) nn
  exact mhash_fin h l1 l2 m1 (fun r q1 q2 => (m2 r q1 q2).trans (c2 r q1)) (fun r hr => m4 r (by omega) (by omega) (by omega)) ⟨(fs_oth (by decide)).trans ((fs_oth (by decide)).trans (fs_oth (by decide))), (fs_oth (by decide)).trans ((fs_oth (by decide)).trans (fs_oth (by decide))), fs_get⟩ (fun r hr => (vu_n hr).trans ((vu_n hr).trans (vu_n hr)))
end
