section
/-! THE SIGNER OF THE MODEL: texts, digests. -/
/-- the signer's own rows of longs -/
def mJ (mo r : Nat) : Prop := r = mo + 8 ∨ r = mo + 13 ∨ (mo + 16 ≤ r ∧ r ≤ mo + 19)
/-- a text grows by bytes -/
theorem minB_t (mo a at_ q nn : Nat) (S : StT) {t g : Nat → Int32} (ha : a ≠ mo + 11) (ht : ∀ i, i < q → S.1 (mo + 11) i = t i) (hg : ∀ j, j < nn → S.1 a (at_ + j) = g j) : (∀ i, i < q + nn → (minB_f mo a at_ nn q S).1 (mo + 11) i = app t q g i) ∧ (∀ r, r ≠ mo + 11 → (minB_f mo a at_ nn q S).1 r = S.1 r) ∧ (minB_f mo a at_ nn q S).2.1 = S.2.1 := by
  obtain ⟨h1, h2⟩ := minB_lp mo a at_ q S ha nn
  unfold minB_f
  refine ⟨fun i hi => ?_, h2, rfl⟩
  show minB_l3 mo a at_ q S nn (mo + 11) i = _
  rw [h1 i]
  unfold app
  by_cases e : i < q
  · rw [if_neg (by omega), if_pos e]
    exact ht i e
  · rw [if_pos (by omega), if_neg e]
    exact hg _ (by omega)
theorem mtheM_t (c : Bool) (mo mg q : Nat) (ph : Bool) (S : StT) {t m : Nat → Int32} (ht : ∀ i, i < q → S.1 (mo + 11) i = t i) (hm : ∀ i, i < mg → S.1 (mo + 5) i = m i) (h25 : ∀ i, i < 64 → S.1 (mo + 25) i = dgA c m mg 64 i) : (∀ i, i < q + (if ph then 64 else mg) → (mtheM_f mo mg q ph S).1 (mo + 11) i = app t q (bdA c ph m mg) i) ∧ (∀ r, r ≠ mo + 11 → (mtheM_f mo mg q ph S).1 r = S.1 r) ∧ (mtheM_f mo mg q ph S).2.1 = S.2.1 := by
  cases ph with
  | false =>
    obtain ⟨h1, h2, h3⟩ := minB_t mo (mo + 5) 0 q mg S (t := t) (g := m) (by omega) ht (fun j hj => by rw [Nat.zero_add]; exact hm j hj)
    have e : mtheM_f mo mg q false S = ((minB_f mo (mo + 5) 0 mg q S).1, (minB_f mo (mo + 5) 0 mg q S).2.1, fs S.2.2 mo 17 (nI (q + mg))) := by
      unfold mtheM_f
      rw [if_pos (by decide)]
      rfl
    rw [e]
    exact ⟨h1, h2, h3⟩
  | true =>
    obtain ⟨h1, h2, h3⟩ := minB_t mo (mo + 25) 0 q 64 S (t := t) (g := dgA c m mg 64) (by omega) ht (fun j hj => by rw [Nat.zero_add]; exact h25 j hj)
    have e : mtheM_f mo mg q true S = ((minB_f mo (mo + 25) 0 64 q S).1, (minB_f mo (mo + 25) 0 64 q S).2.1, fs S.2.2 mo 17 (nI (q + 64))) := by
      unfold mtheM_f
      rw [if_neg (by decide)]
      rfl
    rw [e]
    exact ⟨h1, h2, h3⟩
theorem mhashI_s (c : Bool) (mo q : Nat) (S : StT) {t : Nat → Int32} (hq : q < 700) (h : ∀ i, i < q → S.1 (mo + 11) i = t i) (h14 : ∀ i, i < 8 → S.2.1 (mo + 14) i = hsF i) (h15 : ∀ i, i < 80 → S.2.1 (mo + 15) i = hkF i) :
    (∀ i, i < 2 * cB c → (mhashI_f c mo q S).1 (mo + 12) i = dgA c t q (2 * cB c) i) ∧ (∀ r, r ≠ mo + 11 → r ≠ mo + 12 → (mhashI_f c mo q S).1 r = S.1 r) ∧ (∀ r, ¬ mJ mo r → (mhashI_f c mo q S).2.1 r = S.2.1 r) := by
  cases c with
  | false =>
    obtain ⟨a1, a2, _, a4⟩ := msha_A mo q S (2 * cB false) hq h h14 h15
    have e : mhashI_f false mo q S = ((msha_f mo q S).1, (msha_f mo q S).2.1, fs S.2.2 mo 17 (nI (haN false q))) := by
      unfold mhashI_f
      rw [if_neg (by decide)]
    rw [e]
    exact ⟨a1, a2, fun r hr => a4 r (fun z => hr (by unfold mJ; omega)) (fun z => hr (by unfold mJ; omega))⟩
  | true =>
    obtain ⟨a1, a2, _, a4⟩ := mshake_A mo q 114 S (by decide) h
    have e : mhashI_f true mo q S = ((mshake_f mo 114 q S).1, (mshake_f mo 114 q S).2.1, fs S.2.2 mo 17 (nI (haN true q))) := by
      unfold mhashI_f
      rw [if_pos (by decide)]
    rw [e]
    exact ⟨a1, a2, fun r hr => a4 r (fun z => hr (by unfold mJ; omega)) (fun z => hr (by unfold mJ; omega)) (fun z => hr (by unfold mJ; omega))⟩
theorem mdigM_lp (mo : Nat) (S : StT) : ∀ n, (∀ i, i < n → mdigM_l40 mo S n (mo + 25) i = S.1 (mo + 12) i) ∧ ∀ r, r ≠ mo + 25 → mdigM_l40 mo S n r = S.1 r := by
  intro n
  induction n with
  | zero => exact ⟨fun i hi => absurd hi (Nat.not_lt_zero _), fun _ _ => rfl⟩
  | succ n ih =>
    obtain ⟨h1, h2⟩ := ih
    unfold mdigM_l40
    dsimp only
    rw [h2 (mo + 12) (by omega)]
    refine ⟨fun i hi => ?_, fun r hr => (vu_n hr).trans (h2 r hr)⟩
    rw [vu_s]
    show (if i = n then S.1 (mo + 12) n else mdigM_l40 mo S n (mo + 25) i) = _
    by_cases e : i = n
    · rw [if_pos e, e]
    · rw [if_neg e]; exact h1 i (by omega)
/-- the message's digest -/
theorem mdigM_s (c : Bool) (mo mg : Nat) (S : StT) {m : Nat → Int32} (hmg : mg ≤ 256) (hm : ∀ i, i < mg → S.1 (mo + 5) i = m i) (h14 : ∀ i, i < 8 → S.2.1 (mo + 14) i = hsF i) (h15 : ∀ i, i < 80 → S.2.1 (mo + 15) i = hkF i) :
    (∀ i, i < 64 → (mdigM_f c mo mg S).1 (mo + 25) i = dgA c m mg 64 i) ∧ (∀ r, r ≠ mo + 11 → r ≠ mo + 12 → r ≠ mo + 25 → (mdigM_f c mo mg S).1 r = S.1 r) ∧ (∀ r, ¬ mJ mo r → (mdigM_f c mo mg S).2.1 r = S.2.1 r) := by
  obtain ⟨b1, b2, b3⟩ := minB_t mo (mo + 5) 0 0 mg (S.1, S.2.1, fs S.2.2 mo 17 (nI 0)) (t := m) (g := m) (by omega) (fun i hi => absurd hi (Nat.not_lt_zero _)) (fun j hj => by rw [Nat.zero_add]; exact hm j hj)
  have b1' : ∀ i, i < 0 + mg → (minB_f mo (mo + 5) 0 mg 0 (S.1, S.2.1, fs S.2.2 mo 17 (nI 0))).1 (mo + 11) i = m i := fun i hi => by
    rw [b1 i hi]
    unfold app
    rw [if_neg (Nat.not_lt_zero _), Nat.sub_zero]
  have b2' : ∀ r, r ≠ mo + 11 → (minB_f mo (mo + 5) 0 mg 0 (S.1, S.2.1, fs S.2.2 mo 17 (nI 0))).1 r = S.1 r := b2
  have b3' : (minB_f mo (mo + 5) 0 mg 0 (S.1, S.2.1, fs S.2.2 mo 17 (nI 0))).2.1 = S.2.1 := b3
  clear b1 b2 b3
  generalize hT : mdigM_f c mo mg S = T
  unfold mdigM_f at hT
  dsimp only at hT
  generalize minB_f mo (mo + 5) 0 mg 0 (S.1, S.2.1, fs S.2.2 mo 17 (nI 0)) = S1 at b1' b2' b3' hT
  have key : ∃ R : StT, (∀ i, i < 64 → R.1 (mo + 12) i = dgA c m mg 64 i) ∧ (∀ r, r ≠ mo + 11 → r ≠ mo + 12 → R.1 r = S.1 r) ∧ (∀ r, ¬ mJ mo r → R.2.1 r = S.2.1 r) ∧ T = (mdigM_l40 mo (R.1, R.2.1, S.2.2) 64, R.2.1, fs S.2.2 mo 17 (nI (haN c (0 + mg)))) := by
    cases c with
    | false =>
      obtain ⟨a1, a2, _, a4⟩ := msha_A mo (0 + mg) (S1.1, S1.2.1, fs S.2.2 mo 17 (nI (0 + mg))) 64 (by omega) b1' (by rw [b3']; exact h14) (by rw [b3']; exact h15)
      rw [if_neg (by decide)] at hT
      rw [Nat.zero_add] at a1 a2 a4 hT
      refine ⟨_, a1, fun r q1 q2 => (a2 r q1 q2).trans (b2' r q1), fun r hr => (a4 r (fun z => hr (by unfold mJ; omega)) (fun z => hr (by unfold mJ; omega))).trans (by rw [b3']), ?_⟩
      rw [← hT, Nat.zero_add]
    | true =>
      obtain ⟨a1, a2, _, a4⟩ := mshake_A mo (0 + mg) 64 (S1.1, S1.2.1, fs S.2.2 mo 17 (nI (0 + mg))) (by decide) b1'
      rw [if_pos (by decide)] at hT
      rw [Nat.zero_add] at a1 a2 a4 hT
      refine ⟨_, a1, fun r q1 q2 => (a2 r q1 q2).trans (b2' r q1), fun r hr => (a4 r (fun z => hr (by unfold mJ; omega)) (fun z => hr (by unfold mJ; omega)) (fun z => hr (by unfold mJ; omega))).trans (by rw [b3']), ?_⟩
      rw [← hT, Nat.zero_add]
  obtain ⟨R, k1, k2, k3, k4⟩ := key
  obtain ⟨l1, l2⟩ := mdigM_lp mo (R.1, R.2.1, S.2.2) 64
  rw [k4]
  exact ⟨fun i hi => (l1 i hi).trans (k1 i hi), fun r q1 q2 q3 => (l2 r q3).trans (k2 r q1 q2), k3⟩
/-- a word of text: eight bytes -/
theorem minT_s (mo q : Nat) (w : Int64) (S : StT) : (∀ k, (minT_f mo q w S).1 (mo + 11) k = if q ≤ k ∧ k < q + 8 then (((w >>> ((tx8 (k - q)).toInt64 &&& 63)).toInt32) &&& (nI (255))) else S.1 (mo + 11) k) ∧ (∀ r, r ≠ mo + 11 → (minT_f mo q w S).1 r = S.1 r) ∧ (minT_f mo q w S).2.1 = S.2.1 := by
  have key : ∀ n, (∀ k, minT_l3 mo q w S n (mo + 11) k = if q ≤ k ∧ k < q + n then (((w >>> ((tx8 (k - q)).toInt64 &&& 63)).toInt32) &&& (nI (255))) else S.1 (mo + 11) k) ∧ ∀ r, r ≠ mo + 11 → minT_l3 mo q w S n r = S.1 r := by
    intro n
    induction n with
    | zero => exact ⟨fun k => by rw [if_neg (by omega)]; rfl, fun _ _ => rfl⟩
    | succ n ih =>
      obtain ⟨h1, h2⟩ := ih
      unfold minT_l3
      dsimp only
      refine ⟨fun k => ?_, fun r hr => (vu_n hr).trans (h2 r hr)⟩
      rw [vu_s]
      show (if k = q + n then (((w >>> ((tx8 n).toInt64 &&& 63)).toInt32) &&& (nI (255))) else minT_l3 mo q w S n (mo + 11) k) = _
      by_cases e : k = q + n
      · rw [if_pos e, if_pos (by omega), show k - q = n from by omega]
      · rw [if_neg e, h1]
        by_cases z : q ≤ k ∧ k < q + n
        · rw [if_pos z, if_pos (by omega)]
        · rw [if_neg z, if_neg (by omega)]
  unfold minT_f
  exact ⟨(key 8).1, (key 8).2, rfl⟩
theorem tx_4 : ∀ j : Fin 8, (((6010448725434184760 : Int64) >>> ((tx8 j.val).toInt64 &&& 63)).toInt32) &&& (nI (255)) = nI (lb4 j.val) := by decide +kernel
theorem tx_20 : ∀ j : Fin 8, (((6010448725434053941 : Int64) >>> ((tx8 j.val).toInt64 &&& 63)).toInt32) &&& (nI (255)) = nI (lb2 j.val) := by decide +kernel
theorem tx_21 : ∀ j : Fin 8, (((3546901840213853540 : Int64) >>> ((tx8 j.val).toInt64 &&& 63)).toInt32) &&& (nI (255)) = nI (lb2 (8 + j.val)) := by decide +kernel
theorem tx_22 : ∀ j : Fin 8, (((3617856361190155119 : Int64) >>> ((tx8 j.val).toInt64 &&& 63)).toInt32) &&& (nI (255)) = nI (lb2 (16 + j.val)) := by decide +kernel
theorem tx_23 : ∀ j : Fin 8, (((7812735397992033907 : Int64) >>> ((tx8 j.val).toInt64 &&& 63)).toInt32) &&& (nI (255)) = nI (lb2 (24 + j.val)) := by decide +kernel
end
