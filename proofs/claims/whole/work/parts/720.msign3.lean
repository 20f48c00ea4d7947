section
/-! THE SIGNER OF THE MODEL: the key; derive. -/
theorem xs57_s (c : Bool) (E : Nat → Int32) {i : Nat} (hi : i < cB c) : xs57 c E i = xsA c E i := if_pos hi
theorem MD_mx2 {mo : Nat} {I K : Nat → Nat → Int32} (h : ∀ x, x < 21 → ∀ i, i < 32 → I (mo + 7) (32 * x + i) = K (mo + 7) (32 * x + i)) {a n : Nat} (ha : a < 21) (hk : MD K mo a n) : MD I mo a n := MD_pl (h a ha) hk
theorem MC_21 {c : Bool} {mo : Nat} {I K : Nat → Nat → Int32} (h : ∀ x, x < 21 → ∀ i, i < 32 → I (mo + 7) (32 * x + i) = K (mo + 7) (32 * x + i)) (hk : MC c K mo) : MC c I mo := by
  have hb := bN_le c
  exact ⟨MD_mx2 h (by omega) hk.1, MD_mx2 h (by omega) hk.2⟩
theorem MP_21 {c : Bool} {mo a : Nat} {P : Pt c} {I K : Nat → Nat → Int32} (h : ∀ x, x < 21 → ∀ i, i < 32 → I (mo + 7) (32 * x + i) = K (mo + 7) (32 * x + i)) (ha : a + 2 < 21) (hk : MP c K mo a P) : MP c I mo a P := MP_pl (fun x _ h2 => h x (by omega)) hk
theorem mexp_s (c : Bool) (mo : Nat) (S : StT) {f : Nat → Int32} {B0 : Pt c} (hf : ∀ i, i < cB c → S.1 (mo + 1) i = f i) (hC : MC c S.1 mo) (hB : MP c S.1 mo (13 + 3 * bN c) B0) (h14 : ∀ i, i < 8 → S.2.1 (mo + 14) i = hsF i) (h15 : ∀ i, i < 80 → S.2.1 (mo + 15) i = hkF i) :
    (∀ i, i < 57 → (mexp_f c mo S).1 (mo + 20) i = xs57 c (sgE c f) i) ∧ (∀ i, i < cB c → (mexp_f c mo S).1 (mo + 21) i = sgE c f (cB c + i)) ∧ (∀ i, i < 57 → (mexp_f c mo S).1 (mo + 22) i = nby (cN c (pM c B0 (sgs c f))) i) ∧ (∀ r, r ≠ mo + 7 → r ≠ mo + 9 → r ≠ mo + 11 → r ≠ mo + 12 → r ≠ mo + 20 → r ≠ mo + 21 → r ≠ mo + 22 → r ≠ mo + 27 → (mexp_f c mo S).1 r = S.1 r) ∧ (∀ x, x < 21 → ∀ i, i < 32 → (mexp_f c mo S).1 (mo + 7) (32 * x + i) = S.1 (mo + 7) (32 * x + i)) ∧ (∀ r, ¬ mJ mo r → (mexp_f c mo S).2.1 r = S.2.1 r) := by
  have hcB := cB_b c
  have hbN := bN_le c
  generalize hT : mexp_f c mo S = T
  unfold mexp_f at hT
  dsimp only at hT
  -- the text
  obtain ⟨b1, b2, b3⟩ := minB_t mo (mo + 1) 0 0 (cB c) (S.1, S.2.1, fs S.2.2 mo 17 (nI 0)) (t := f) (g := f) (by omega) (fun i hi => absurd hi (Nat.not_lt_zero _)) (fun j hj => by rw [Nat.zero_add]; exact hf j hj)
  have b1' : ∀ i, i < 0 + cB c → (minB_f mo (mo + 1) 0 (cB c) 0 (S.1, S.2.1, fs S.2.2 mo 17 (nI 0))).1 (mo + 11) i = f i := fun i hi => by
    rw [b1 i hi]
    unfold app
    rw [if_neg (Nat.not_lt_zero _), Nat.sub_zero]
  have b2' : ∀ r, r ≠ mo + 11 → (minB_f mo (mo + 1) 0 (cB c) 0 (S.1, S.2.1, fs S.2.2 mo 17 (nI 0))).1 r = S.1 r := b2
  have b3' : (minB_f mo (mo + 1) 0 (cB c) 0 (S.1, S.2.1, fs S.2.2 mo 17 (nI 0))).2.1 = S.2.1 := b3
  clear b1 b2 b3
  generalize minB_f mo (mo + 1) 0 (cB c) 0 (S.1, S.2.1, fs S.2.2 mo 17 (nI 0)) = S1 at b1' b2' b3' hT
  -- its digest
  obtain ⟨d1, d2, d3⟩ := mhashI_s c mo (0 + cB c) (S1.1, S1.2.1, fs S.2.2 mo 17 (nI (0 + cB c))) (t := f) (by omega) b1' (by rw [b3']; exact h14) (by rw [b3']; exact h15)
  have d1' : ∀ i, i < 2 * cB c → (mhashI_f c mo (0 + cB c) (S1.1, S1.2.1, fs S.2.2 mo 17 (nI (0 + cB c)))).1 (mo + 12) i = sgE c f i := fun i hi => by
    rw [d1 i hi]
    unfold sgE
    rw [Nat.zero_add]
  have d2' : ∀ r, r ≠ mo + 11 → r ≠ mo + 12 → (mhashI_f c mo (0 + cB c) (S1.1, S1.2.1, fs S.2.2 mo 17 (nI (0 + cB c)))).1 r = S.1 r := fun r q1 q2 => (d2 r q1 q2).trans (b2' r q1)
  have d3' : ∀ r, ¬ mJ mo r → (mhashI_f c mo (0 + cB c) (S1.1, S1.2.1, fs S.2.2 mo 17 (nI (0 + cB c)))).2.1 r = S.2.1 r := fun r hr => (d3 r hr).trans (by show S1.2.1 r = _; rw [b3'])
  clear d1 d2 d3
  generalize mhashI_f c mo (0 + cB c) (S1.1, S1.2.1, fs S.2.2 mo 17 (nI (0 + cB c))) = S2 at d1' d2' d3' hT
  obtain ⟨l1, l2, l3⟩ := mexp_l26_s c mo (S2.1, S2.2.1, S.2.2) 57 (Nat.le_refl _)
  have l1' : ∀ i, i < 57 → mexp_l26 c mo (S2.1, S2.2.1, S.2.2) 57 (mo + 20) i = if i < cB c then sgE c f i else nI 0 := fun i hi => by
    rw [l1 i hi]
    by_cases q : i < cB c
    · rw [if_pos q, if_pos q]; exact d1' i (by omega)
    · rw [if_neg q, if_neg q]
  have l2' : ∀ i, i < cB c → mexp_l26 c mo (S2.1, S2.2.1, S.2.2) 57 (mo + 21) i = sgE c f (cB c + i) := fun i hi => by
    rw [l2 i (by omega), if_pos hi]; exact d1' _ (by omega)
  have l3' : ∀ r, r ≠ mo + 11 → r ≠ mo + 12 → r ≠ mo + 20 → r ≠ mo + 21 → mexp_l26 c mo (S2.1, S2.2.1, S.2.2) 57 r = S.1 r := fun r q1 q2 q3 q4 => (l3 r q3 q4).trans (d2' r q1 q2)
  clear l1 l2 l3
  generalize mexp_l26 c mo (S2.1, S2.2.1, S.2.2) 57 = I3 at l1' l2' l3' hT
  -- the clamped secret
  obtain ⟨c1, c2, c3⟩ := mclamp_s c mo I3 S2.2.1 S.2.2 (E := sgE c f) l1' _ rfl
  generalize (if (nI (bN c)) ≠ 0 then (va_up (va_up (va_up I3 (mo + 20) (upd (I3 (mo + 20)) (0) ((I3 (mo + 20) (0)) &&& (nI (252))))) (mo + 20) (upd ((va_up I3 (mo + 20) (upd (I3 (mo + 20)) (0) ((I3 (mo + 20) (0)) &&& (nI (252))))) (mo + 20)) (56) (nI (0)))) (mo + 20) (upd ((va_up (va_up I3 (mo + 20) (upd (I3 (mo + 20)) (0) ((I3 (mo + 20) (0)) &&& (nI (252))))) (mo + 20) (upd ((va_up I3 (mo + 20) (upd (I3 (mo + 20)) (0) ((I3 (mo + 20) (0)) &&& (nI (252))))) (mo + 20)) (56) (nI (0)))) (mo + 20)) (55) (((va_up (va_up I3 (mo + 20) (upd (I3 (mo + 20)) (0) ((I3 (mo + 20) (0)) &&& (nI (252))))) (mo + 20) (upd ((va_up I3 (mo + 20) (upd (I3 (mo + 20)) (0) ((I3 (mo + 20) (0)) &&& (nI (252))))) (mo + 20)) (56) (nI (0)))) (mo + 20) (55)) ||| (nI (128)))), S2.2.1, S.2.2) else (va_up (va_up I3 (mo + 20) (upd (I3 (mo + 20)) (0) ((I3 (mo + 20) (0)) &&& (nI (248))))) (mo + 20) (upd ((va_up I3 (mo + 20) (upd (I3 (mo + 20)) (0) ((I3 (mo + 20) (0)) &&& (nI (248))))) (mo + 20)) (31) ((((va_up I3 (mo + 20) (upd (I3 (mo + 20)) (0) ((I3 (mo + 20) (0)) &&& (nI (248))))) (mo + 20) (31)) &&& (nI (127))) ||| (nI (64)))), S2.2.1, S.2.2)) = S8 at c1 c2 c3 hT
  have e20 : ∀ i, i < cB c → S8.1 (mo + 20) i = xsA c (sgE c f) i := fun i hi => (c1 i (by omega)).trans (xs57_s c _ hi)
  have e7 : S8.1 (mo + 7) = S.1 (mo + 7) := (c2 _ (by omega)).trans (l3' _ (by omega) (by omega) (by omega) (by omega))
  have hC8 : MC c S8.1 mo := ⟨MD_rows e7 hC.1, MD_rows e7 hC.2⟩
  have hB8 : MP c S8.1 mo (13 + 3 * bN c) B0 := MP_rows e7 hB
  generalize fs S.2.2 mo 17 (nI (haN c (0 + cB c))) = FF at hT
  obtain ⟨m1, m2⟩ := mmany_m c mo 46 (13 + 3 * bN c) (mo + 20) 57 (cB c) (S8.1, S8.2.1, FF) (by omega) (by omega) (by omega) (by omega) (BY_cg e20 (sgs_by c f)) hC8 hB8
  have m1' : MP c (mmany_f c mo 46 (13 + 3 * bN c) (mo + 20) 57 (cB c) (S8.1, S8.2.1, FF)).1 mo 46 (pM c B0 (bv (S8.1 (mo + 20)) (cB c))) := m1
  rw [bv_cg e20] at m1'
  generalize mmany_f c mo 46 (13 + 3 * bN c) (mo + 20) 57 (cB c) (S8.1, S8.2.1, FF) = S9 at m1' m2 hT
  have hC9 : MC c S9.1 mo := MC_mx m2 (by unfold myD; omega) (by unfold myD; omega) hC8
  obtain ⟨n1, _, n3, n4, n5, _⟩ := menc_m c mo 46 (S9.1, S9.2.1, FF) (by omega) hC9 m1'
  have n3' : ∀ r, r ≠ mo + 7 → r ≠ mo + 9 → r ≠ mo + 27 → (menc_f c mo 46 (S9.1, S9.2.1, FF)).1 r = S9.1 r := n3
  have n4' : ∀ x, ¬ meD x → ∀ i, i < 32 → (menc_f c mo 46 (S9.1, S9.2.1, FF)).1 (mo + 7) (32 * x + i) = S9.1 (mo + 7) (32 * x + i) := n4
  have n5' : ∀ r, r ≠ mo + 8 → (menc_f c mo 46 (S9.1, S9.2.1, FF)).2.1 r = S9.2.1 r := n5
  clear n3 n4 n5
  generalize menc_f c mo 46 (S9.1, S9.2.1, FF) = S10 at n1 n3' n4' n5' hT
  obtain ⟨k1, k2⟩ := mexp_l198_s mo (S10.1, S10.2.1, S.2.2) 57
  have k2' : ∀ r, r ≠ mo + 22 → mexp_l198 mo (S10.1, S10.2.1, S.2.2) 57 r = S10.1 r := k2
  rw [← hT]
  have fI : ∀ r, r ≠ mo + 7 → r ≠ mo + 9 → r ≠ mo + 22 → r ≠ mo + 27 → mexp_l198 mo (S10.1, S10.2.1, S.2.2) 57 r = S8.1 r := fun r q1 q2 q3 q4 => (k2' r q3).trans ((n3' r q1 q2 q4).trans (m2.1 r q1 q2))
  refine ⟨fun i hi => ?_, fun i hi => ?_, fun i hi => (k1 i hi).trans (nby_of (n1 i hi)), fun r q1 q2 q3 q4 q5 q6 q7 q8 => (fI r q1 q2 q7 q8).trans ((c2 r q5).trans (l3' r q3 q4 q5 q6)), fun x hx i hi => ?_, fun r hr => ?_⟩
  · show mexp_l198 mo (S10.1, S10.2.1, S.2.2) 57 (mo + 20) i = _
    rw [fI _ (by omega) (by omega) (by omega) (by omega)]
    exact c1 i hi
  · show mexp_l198 mo (S10.1, S10.2.1, S.2.2) 57 (mo + 21) i = _
    rw [fI _ (by omega) (by omega) (by omega) (by omega), c2 _ (by omega)]
    exact l2' i hi
  · show mexp_l198 mo (S10.1, S10.2.1, S.2.2) 57 (mo + 7) (32 * x + i) = _
    rw [k2' _ (by omega), n4' x (by unfold meD; omega) i hi, ← e7]
    exact m2.2.1 x (by unfold myD; omega) i hi
  · show S10.2.1 r = _
    rw [n5' r (fun z => hr (Or.inl z)), ← d3' r hr, ← c3]
    exact m2.2.2.1 r (fun z => hr (Or.inl z))
theorem mderive_lp (mo : Nat) (S : StT) : ∀ n, (∀ i, i < n → mderive_l23 mo S n (mo + 4) i = S.1 (mo + 22) i) ∧ ∀ r, r ≠ mo + 4 → mderive_l23 mo S n r = S.1 r := by
  intro n
  induction n with
  | zero => exact ⟨fun i hi => absurd hi (Nat.not_lt_zero _), fun _ _ => rfl⟩
  | succ n ih =>
    obtain ⟨h1, h2⟩ := ih
    unfold mderive_l23
    dsimp only
    rw [h2 (mo + 22) (by omega)]
    refine ⟨fun i hi => ?_, fun r hr => (vu_n hr).trans (h2 r hr)⟩
    rw [vu_s]
    show (if i = n then S.1 (mo + 22) n else mderive_l23 mo S n (mo + 4) i) = _
    by_cases e : i = n
    · rw [if_pos e, e]
    · rw [if_neg e]; exact h1 i (by omega)
/-- derive of the model -/
theorem mderive_r (mo : Nat) (B : (c : Bool) → Pt c) (c : Bool) (S : StT) (A : AS) (h : RM mo B S A) : RM mo B (mderive_f c mo S) (setN (setR A 3 (nby (cN c (pM c (B c) (sgs c (A.1 0)))))) 2 (cB c)) ∧ OM mo (mderive_f c mo S) S := by
  have hcB := cB_b c
  obtain ⟨hC, hB, _⟩ := h.2.2.2.1 c
  obtain ⟨_, _, e3, e4, e5, e6⟩ := mexp_s c mo (S.1, S.2.1, fC c mo S.2.2) (f := A.1 0) (B0 := B c) (fun i hi => h.1.1 i (by omega)) hC hB h.2.2.2.2.1 h.2.2.2.2.2
  have e4' : ∀ r, r ≠ mo + 7 → r ≠ mo + 9 → r ≠ mo + 11 → r ≠ mo + 12 → r ≠ mo + 20 → r ≠ mo + 21 → r ≠ mo + 22 → r ≠ mo + 27 → (mexp_f c mo (S.1, S.2.1, fC c mo S.2.2)).1 r = S.1 r := e4
  have e5' : ∀ x, x < 21 → ∀ i, i < 32 → (mexp_f c mo (S.1, S.2.1, fC c mo S.2.2)).1 (mo + 7) (32 * x + i) = S.1 (mo + 7) (32 * x + i) := e5
  have e6' : ∀ r, ¬ mJ mo r → (mexp_f c mo (S.1, S.2.1, fC c mo S.2.2)).2.1 r = S.2.1 r := e6
  have en : mderive_f c mo S = (mderive_l23 mo ((mexp_f c mo (S.1, S.2.1, fC c mo S.2.2)).1, (mexp_f c mo (S.1, S.2.1, fC c mo S.2.2)).2.1, S.2.2) (cB c), (mexp_f c mo (S.1, S.2.1, fC c mo S.2.2)).2.1, fs (fs (fC c mo S.2.2) mo 17 (nI (haN c (0 + cB c)))) mo 5 (nI (cB c))) := by
    dsimp only [mderive_f, mnoC_f, mcho_f, fC]
  rw [en]
  clear en e4 e5 e6
  generalize mexp_f c mo (S.1, S.2.1, fC c mo S.2.2) = T at e3 e4' e5' e6' ⊢
  obtain ⟨l1, l2⟩ := mderive_lp mo (T.1, T.2.1, S.2.2) (cB c)
  have l3 : ∀ r, r ≠ mo + 4 → mderive_l23 mo (T.1, T.2.1, S.2.2) (cB c) r = T.1 r := l2
  refine ⟨RM_3 h (cB c) _ (fun r hr => (l3 r (by omega)).trans (e4' r (by omega) (by omega) (by omega) (by omega) (by omega) (by omega) (by omega) (by omega))) (fun i hi => (l1 i hi).trans (e3 i (by omega))) (fun x hx i hi => ?_) (e6' _ (by unfold mJ; omega)) (e6' _ (by unfold mJ; omega)) ⟨?_, ?_, fs_get⟩, fun r hr => ⟨(l3 r (by omega)).trans (e4' r (by omega) (by omega) (by omega) (by omega) (by omega) (by omega) (by omega) (by omega)), e6' r (by unfold mJ; omega), ?_⟩⟩
  · show mderive_l23 mo (T.1, T.2.1, S.2.2) (cB c) (mo + 7) (32 * x + i) = _
    rw [l3 (mo + 7) (by omega)]
    exact e5' x hx i hi
  · exact (fs_oth (by decide)).trans ((fs_oth (by decide)).trans (fC_F).1)
  · exact (fs_oth (by decide)).trans ((fs_oth (by decide)).trans (fC_F).2.1)
  · exact (vu_n (by omega)).trans ((vu_n (by omega)).trans (fC_o c mo S.2.2 (by omega)))
end
