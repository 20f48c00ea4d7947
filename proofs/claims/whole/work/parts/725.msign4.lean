section
/-! THE SIGNER OF THE MODEL: sign. -/
theorem msign_l80_s (mo : Nat) (S : StT) : ∀ n, (∀ i, i < n → msign_l80 mo S n (mo + 4) i = S.1 (mo + 27) i) ∧ ∀ r, r ≠ mo + 4 → msign_l80 mo S n r = S.1 r := by
  intro n
  induction n with
  | zero => exact ⟨fun i hi => absurd hi (Nat.not_lt_zero _), fun _ _ => rfl⟩
  | succ n ih =>
    obtain ⟨h1, h2⟩ := ih
    unfold msign_l80
    dsimp only
    rw [h2 (mo + 27) (by omega)]
    refine ⟨fun i hi => ?_, fun r hr => (vu_n hr).trans (h2 r hr)⟩
    rw [vu_s]
    show (if i = n then S.1 (mo + 27) n else msign_l80 mo S n (mo + 4) i) = _
    by_cases e : i = n
    · rw [if_pos e, e]
    · rw [if_neg e]; exact h1 i (by omega)
theorem msign_l158_s (c : Bool) (mo : Nat) (S : StT) : ∀ n, (∀ i, i < n → msign_l158 c mo S n (mo + 4) (cB c + i) = S.1 (mo + 24) i) ∧ (∀ i, i < cB c → msign_l158 c mo S n (mo + 4) i = S.1 (mo + 4) i) ∧ ∀ r, r ≠ mo + 4 → msign_l158 c mo S n r = S.1 r := by
  intro n
  induction n with
  | zero => exact ⟨fun i hi => absurd hi (Nat.not_lt_zero _), fun _ _ => rfl, fun _ _ => rfl⟩
  | succ n ih =>
    obtain ⟨h1, h2, h3⟩ := ih
    unfold msign_l158
    dsimp only
    rw [h3 (mo + 24) (by omega)]
    refine ⟨fun i hi => ?_, fun i hi => ?_, fun r hr => (vu_n hr).trans (h3 r hr)⟩
    · rw [vu_s]
      show (if cB c + i = cB c + n then S.1 (mo + 24) n else msign_l158 c mo S n (mo + 4) (cB c + i)) = _
      by_cases e : i = n
      · rw [if_pos (by omega), e]
      · rw [if_neg (by omega)]; exact h1 i (by omega)
    · rw [vu_s]
      show (if i = cB c + n then S.1 (mo + 24) n else msign_l158 c mo S n (mo + 4) i) = _
      rw [if_neg (by omega)]; exact h2 i hi
theorem xs57_bv (c : Bool) (f : Nat → Int32) : bv (xs57 c (sgE c f)) 57 = sgs c f ∧ BY (xs57 c (sgE c f)) 57 := by
  have hcB := cB_b c
  have z : ∀ j, cB c ≤ j → xs57 c (sgE c f) j = nI 0 := fun j hj => if_neg (by omega)
  refine ⟨?_, fun i hi => ?_⟩
  · have e1 : bv (xs57 c (sgE c f)) 57 = bv (xs57 c (sgE c f)) (cB c) := rvN_z 256 (fun i => uN (xs57 c (sgE c f) i)) (cB c) 57 (by omega) (fun j h1 h2 => by show uN (xs57 c (sgE c f) j) = 0; rw [z j h1]; decide)
    rw [e1]
    exact bv_cg (fun i hi => xs57_s c _ hi)
  · by_cases q : i < cB c
    · rw [xs57_s c _ q]; exact sgs_by c f i q
    · rw [z i (by omega)]; decide
/-- nonce and challenge: the text, its digest, the number -/
theorem mtex_s (c : Bool) (mo : Nat) (ph : Bool) (mg cx : Nat) (S : StT) (F1 F2 : Nat → Nat → Int32) {m g : Nat → Int32} (hcx : cx ≤ 64) (hg : ∀ j, j < cx → S.1 (mo + 6) j = g j) (n : Nat) (x : Nat) (hx : x ≠ mo + 11) {y : Nat → Int32} (hy : ∀ j, j < n → S.1 x j = y j) (R1 R2 : StT) (e1 : mdom_f c mo ph cx (S.1, S.2.1, F1) = R1) (e2 : minB_f mo x 0 n (dmN c ph cx) (R1.1, R1.2.1, F2) = R2) : (∀ i, i < dmN c ph cx + n → R2.1 (mo + 11) i = app (dmA c ph cx g) (dmN c ph cx) y i) ∧ (∀ r, r ≠ mo + 11 → R2.1 r = S.1 r) ∧ R2.2.1 = S.2.1 := by
  obtain ⟨a1, a2, a3⟩ := mdom_s c mo ph cx (S.1, S.2.1, F1) (g := g) hcx hg
  rw [e1] at a1 a2 a3
  have a2' : ∀ r, r ≠ mo + 11 → R1.1 r = S.1 r := a2
  have a3' : R1.2.1 = S.2.1 := a3
  obtain ⟨b1, b2, b3⟩ := minB_t mo x 0 (dmN c ph cx) n (R1.1, R1.2.1, F2) (t := dmA c ph cx g) (g := y) hx a1 (fun j hj => by rw [Nat.zero_add]; show R1.1 x j = _; rw [a2' x hx]; exact hy j hj)
  rw [e2] at b1 b2 b3
  have b2' : ∀ r, r ≠ mo + 11 → R2.1 r = R1.1 r := b2
  have b3' : R2.2.1 = R1.2.1 := b3
  exact ⟨b1, fun r hr => (b2' r hr).trans (a2' r hr), b3'.trans a3'⟩
theorem mod_mul (k s r L : Nat) : (k % L * s + r) % L = (k * s + r) % L := by
  rw [Nat.add_mod, Nat.mod_mul_mod, ← Nat.add_mod]
set_option maxHeartbeats 4000000 in
theorem msign_s (c : Bool) (mo mg cx : Nat) (ph : Bool) (S : StT) {f m g : Nat → Int32} {B0 : Pt c} (hmg : mg ≤ 256) (hcx : cx ≤ 64) (hf : ∀ i, i < cB c → S.1 (mo + 1) i = f i) (hm : ∀ i, i < mg → S.1 (mo + 5) i = m i) (hg : ∀ j, j < cx → S.1 (mo + 6) j = g j) (hC : MC c S.1 mo) (hB : MP c S.1 mo (13 + 3 * bN c) B0) (hO : MD S.1 mo (19 + bN c) (gO c)) (h14 : ∀ i, i < 8 → S.2.1 (mo + 14) i = hsF i) (h15 : ∀ i, i < 80 → S.2.1 (mo + 15) i = hkF i) :
    (∀ i, i < 2 * cB c → (msign_f c mo mg cx ph S).1 (mo + 4) i = sgF c B0 f (dmA c ph cx g) (dmN c ph cx) (bdA c ph m mg) (if ph then 64 else mg) i) ∧ (∀ r, r ≠ mo + 4 → r ≠ mo + 7 → r ≠ mo + 9 → r ≠ mo + 11 → r ≠ mo + 12 → ¬ (mo + 20 ≤ r ∧ r ≤ mo + 27) → (msign_f c mo mg cx ph S).1 r = S.1 r) ∧ (∀ x, x < 21 → ∀ i, i < 32 → (msign_f c mo mg cx ph S).1 (mo + 7) (32 * x + i) = S.1 (mo + 7) (32 * x + i)) ∧ (∀ r, ¬ mJ mo r → (msign_f c mo mg cx ph S).2.1 r = S.2.1 r) := by
  have hcB := cB_b c
  have hbN := bN_le c
  have hG := gO_lt c
  have hGc := gO_cB c
  have hpf := dmN_le c ph hcx
  have hbd : (if ph then 64 else mg) ≤ 256 := by split <;> omega
  have j14 : ¬ mJ mo (mo + 14) := by unfold mJ; omega
  have j15 : ¬ mJ mo (mo + 15) := by unfold mJ; omega
  have j8 : ∀ r, ¬ mJ mo r → r ≠ mo + 8 := fun r h e => h (Or.inl e)
  generalize hT : msign_f c mo mg cx ph S = T
  unfold msign_f at hT
  dsimp only at hT
  -- digest of the message
  obtain ⟨a1, a2, a3⟩ := mdigM_s c mo mg S (m := m) hmg hm h14 h15
  generalize mdigM_f c mo mg S = S1 at a1 a2 a3 hT
  have e7 : S1.1 (mo + 7) = S.1 (mo + 7) := a2 _ (by omega) (by omega) (by omega)
  generalize fs S.2.2 mo 17 (nI (haN c (0 + mg))) = Fa at hT
  -- the key
  obtain ⟨b1, b2, b3, b4, b5, b6⟩ := mexp_s c mo (S1.1, S1.2.1, Fa) (f := f) (B0 := B0) (fun i hi => by show S1.1 (mo + 1) i = _; rw [a2 _ (by omega) (by omega) (by omega)]; exact hf i hi) ⟨MD_rows e7 hC.1, MD_rows e7 hC.2⟩ (MP_rows e7 hB) (by show ∀ i, i < 8 → S1.2.1 (mo + 14) i = _; rw [a3 _ j14]; exact h14) (by show ∀ i, i < 80 → S1.2.1 (mo + 15) i = _; rw [a3 _ j15]; exact h15)
  have b4' : ∀ r, r ≠ mo + 7 → r ≠ mo + 9 → r ≠ mo + 11 → r ≠ mo + 12 → r ≠ mo + 20 → r ≠ mo + 21 → r ≠ mo + 22 → r ≠ mo + 27 → (mexp_f c mo (S1.1, S1.2.1, Fa)).1 r = S1.1 r := b4
  have b5' : ∀ x, x < 21 → ∀ i, i < 32 → (mexp_f c mo (S1.1, S1.2.1, Fa)).1 (mo + 7) (32 * x + i) = S.1 (mo + 7) (32 * x + i) := fun x hx i hi => by rw [b5 x hx i hi]; show S1.1 (mo + 7) _ = _; rw [e7]
  have b6' : ∀ r, ¬ mJ mo r → (mexp_f c mo (S1.1, S1.2.1, Fa)).2.1 r = S.2.1 r := fun r hr => (b6 r hr).trans (a3 r hr)
  clear b4 b5 b6
  generalize mexp_f c mo (S1.1, S1.2.1, Fa) = S2 at b1 b2 b3 b4' b5' b6' hT
  have I2 : ∀ r, r ≠ mo + 7 → r ≠ mo + 9 → r ≠ mo + 11 → r ≠ mo + 12 → r ≠ mo + 20 → r ≠ mo + 21 → r ≠ mo + 22 → r ≠ mo + 27 → r ≠ mo + 25 → S2.1 r = S.1 r := fun r q1 q2 q3 q4 q5 q6 q7 q8 q9 => (b4' r q1 q2 q3 q4 q5 q6 q7 q8).trans (a2 r q3 q4 q9)
  have r25 : ∀ i, i < 64 → S2.1 (mo + 25) i = dgA c m mg 64 i := fun i hi => by
    rw [b4' _ (by omega) (by omega) (by omega) (by omega) (by omega) (by omega) (by omega) (by omega)]
    exact a1 i hi
  clear a1
  generalize fs S.2.2 mo 17 (nI (haN c (0 + cB c))) = Fb at hT
  generalize fs S.2.2 mo 17 (nI (dmN c ph cx)) = Fc at hT
  -- the nonce's text
  generalize eA : mdom_f c mo ph cx (S2.1, S2.2.1, Fb) = S3 at hT
  generalize eB : minB_f mo (mo + 21) 0 (cB c) (dmN c ph cx) (S3.1, S3.2.1, Fc) = S4 at hT
  obtain ⟨c1, c2, c3⟩ := mtex_s c mo ph mg cx S2 Fb Fc (m := m) (g := g) hcx (fun j hj => by rw [I2 _ (by omega) (by omega) (by omega) (by omega) (by omega) (by omega) (by omega) (by omega) (by omega)]; exact hg j hj) (cB c) (mo + 21) (by omega) (y := fun j => sgE c f (cB c + j)) b2 S3 S4 eA eB
  clear eA eB
  generalize fs S.2.2 mo 17 (nI (dmN c ph cx + cB c)) = Fd at hT
  obtain ⟨d1, d2, d3⟩ := mtheM_t c mo mg (dmN c ph cx + cB c) ph (S4.1, S4.2.1, Fd) (m := m) c1 (fun i hi => by show S4.1 (mo + 5) i = _; rw [c2 _ (by omega), I2 _ (by omega) (by omega) (by omega) (by omega) (by omega) (by omega) (by omega) (by omega) (by omega)]; exact hm i hi) (fun i hi => by show S4.1 (mo + 25) i = _; rw [c2 _ (by omega)]; exact r25 i hi)
  have d2' : ∀ r, r ≠ mo + 11 → (mtheM_f mo mg (dmN c ph cx + cB c) ph (S4.1, S4.2.1, Fd)).1 r = S2.1 r := fun r hr => (d2 r hr).trans (c2 r hr)
  have d3' : (mtheM_f mo mg (dmN c ph cx + cB c) ph (S4.1, S4.2.1, Fd)).2.1 = S2.2.1 := d3.trans c3
  clear d2 d3 c1 c2 c3
  generalize mtheM_f mo mg (dmN c ph cx + cB c) ph (S4.1, S4.2.1, Fd) = S5 at d1 d2' d3' hT
  generalize fs S.2.2 mo 17 (nI (dmN c ph cx + cB c + (if ph then 64 else mg))) = Fe at hT
  obtain ⟨g1, g2, g3⟩ := mhashI_s c mo (dmN c ph cx + cB c + (if ph then 64 else mg)) (S5.1, S5.2.1, Fe) (by omega) d1 (by show ∀ i, i < 8 → S5.2.1 (mo + 14) i = _; rw [d3', b6' _ j14]; exact h14) (by show ∀ i, i < 80 → S5.2.1 (mo + 15) i = _; rw [d3', b6' _ j15]; exact h15)
  have g2' : ∀ r, r ≠ mo + 11 → r ≠ mo + 12 → (mhashI_f c mo (dmN c ph cx + cB c + (if ph then 64 else mg)) (S5.1, S5.2.1, Fe)).1 r = S2.1 r := fun r q1 q2 => (g2 r q1 q2).trans (d2' r q1)
  have g3' : ∀ r, ¬ mJ mo r → (mhashI_f c mo (dmN c ph cx + cB c + (if ph then 64 else mg)) (S5.1, S5.2.1, Fe)).2.1 r = S.2.1 r := fun r hr => (g3 r hr).trans ((congrFun d3' r).trans (b6' r hr))
  clear g2 g3 d1 d2' d3'
  generalize mhashI_f c mo (dmN c ph cx + cB c + (if ph then 64 else mg)) (S5.1, S5.2.1, Fe) = S6 at g1 g2' g3' hT
  generalize fs S.2.2 mo 17 (nI (haN c (dmN c ph cx + cB c + (if ph then 64 else mg)))) = Ff at hT
  have p7 : ∀ x, x < 21 → ∀ i, i < 32 → S6.1 (mo + 7) (32 * x + i) = S.1 (mo + 7) (32 * x + i) := fun x hx i hi => by rw [g2' _ (by omega) (by omega)]; exact b5' x hx i hi
  -- modulo the order
  obtain ⟨m1, m2, m3, m4, m5⟩ := mmod_m c mo (mo + 23) (mo + 12) (2 * cB c) (S6.1, S6.2.1, Ff) (by omega) (by omega) (BY_cg g1 (dgA_lt c _ _ _ (n2 c))) (MD_mx2 p7 (by omega) hO)
  have m1' : ∀ i, i < 57 → uN ((mmod_f c mo (mo + 23) (mo + 12) (2 * cB c) (S6.1, S6.2.1, Ff)).1 (mo + 23) i) = sgr c f (dmA c ph cx g) (dmN c ph cx) (bdA c ph m mg) (if ph then 64 else mg) / 2 ^ (8 * i) % 256 := fun i hi => by
    rw [m1 i hi]
    show bv (S6.1 (mo + 12)) (2 * cB c) % gO c / 2 ^ (8 * i) % 256 = _
    rw [bv_cg g1]
    rfl
  have m3' : ∀ r, r ≠ mo + 7 → r ≠ mo + 23 → (mmod_f c mo (mo + 23) (mo + 12) (2 * cB c) (S6.1, S6.2.1, Ff)).1 r = S6.1 r := m3
  have m4' : ∀ x, x < 21 → ∀ i, i < 32 → (mmod_f c mo (mo + 23) (mo + 12) (2 * cB c) (S6.1, S6.2.1, Ff)).1 (mo + 7) (32 * x + i) = S.1 (mo + 7) (32 * x + i) := fun x hx i hi => (m4 x (by omega) i hi).trans (p7 x hx i hi)
  have m5' : (mmod_f c mo (mo + 23) (mo + 12) (2 * cB c) (S6.1, S6.2.1, Ff)).2.1 = S6.2.1 := by rw [m5]
  clear m1 m2 m3 m4 m5 g1 p7
  generalize mmod_f c mo (mo + 23) (mo + 12) (2 * cB c) (S6.1, S6.2.1, Ff) = S7 at m1' m3' m4' m5' hT
  generalize hr0 : sgr c f (dmA c ph cx g) (dmN c ph cx) (bdA c ph m mg) (if ph then 64 else mg) = r0 at m1'
  have hrl : r0 < gO c := by rw [← hr0]; exact Nat.mod_lt _ (by omega)
  obtain ⟨v7, y7⟩ := nby_bv (Nat.lt_trans hrl hGc) (fun i (hi : i < cB c) => m1' i (by omega))
  have hCk : ∀ I : Nat → Nat → Int32, (∀ x, x < 21 → ∀ i, i < 32 → I (mo + 7) (32 * x + i) = S.1 (mo + 7) (32 * x + i)) → MC c I mo := fun I hI => MC_21 hI hC
  obtain ⟨n1, n2'⟩ := mmany_m c mo 46 (13 + 3 * bN c) (mo + 23) 57 (cB c) (S7.1, S7.2.1, Ff) (by omega) (by omega) (by omega) (by omega) y7 (hCk _ m4') (MP_21 m4' (by omega) hB)
  have n1' : MP c (mmany_f c mo 46 (13 + 3 * bN c) (mo + 23) 57 (cB c) (S7.1, S7.2.1, Ff)).1 mo 46 (pM c B0 (bv (S7.1 (mo + 23)) (cB c))) := n1
  rw [v7] at n1'
  clear n1
  generalize mmany_f c mo 46 (13 + 3 * bN c) (mo + 23) 57 (cB c) (S7.1, S7.2.1, Ff) = S8 at n1' n2' hT
  have n4 : ∀ x, x < 21 → ∀ i, i < 32 → S8.1 (mo + 7) (32 * x + i) = S.1 (mo + 7) (32 * x + i) := fun x hx i hi => (n2'.2.1 x (by unfold myD; omega) i hi).trans (m4' x hx i hi)
  obtain ⟨o1, _, o3, o4, o5, _⟩ := menc_m c mo 46 (S8.1, S8.2.1, Ff) (by omega) (hCk _ n4) n1'
  have o3' : ∀ r, r ≠ mo + 7 → r ≠ mo + 9 → r ≠ mo + 27 → (menc_f c mo 46 (S8.1, S8.2.1, Ff)).1 r = S7.1 r := fun r q1 q2 q3 => (o3 r q1 q2 q3).trans (n2'.1 r q1 q2)
  have o4' : ∀ x, x < 21 → ∀ i, i < 32 → (menc_f c mo 46 (S8.1, S8.2.1, Ff)).1 (mo + 7) (32 * x + i) = S.1 (mo + 7) (32 * x + i) := fun x hx i hi => (o4 x (by unfold meD; omega) i hi).trans (n4 x hx i hi)
  have o5' : ∀ r, ¬ mJ mo r → (menc_f c mo 46 (S8.1, S8.2.1, Ff)).2.1 r = S.2.1 r := fun r hr => (o5 r (j8 r hr)).trans ((n2'.2.2.1 r (j8 r hr)).trans ((congrFun m5' r).trans (g3' r hr)))
  clear o3 o4 o5 n1' n2' n4
  generalize menc_f c mo 46 (S8.1, S8.2.1, Ff) = S9 at o1 o3' o4' o5' hT
  obtain ⟨l1, l2⟩ := msign_l80_s mo (S9.1, S9.2.1, S.2.2) (cB c)
  have l1' : ∀ i, i < cB c → msign_l80 mo (S9.1, S9.2.1, S.2.2) (cB c) (mo + 4) i = nby (cN c (pM c B0 r0)) i := fun i hi => (l1 i hi).trans (nby_of (o1 i (by omega)))
  have l2' : ∀ r, r ≠ mo + 4 → msign_l80 mo (S9.1, S9.2.1, S.2.2) (cB c) r = S9.1 r := l2
  clear l1 l2 o1
  generalize msign_l80 mo (S9.1, S9.2.1, S.2.2) (cB c) = I9 at l1' l2' hT
  have I9e : ∀ r, r ≠ mo + 4 → r ≠ mo + 7 → r ≠ mo + 9 → r ≠ mo + 11 → r ≠ mo + 12 → r ≠ mo + 23 → r ≠ mo + 27 → I9 r = S2.1 r := fun r q1 q2 q3 q4 q5 q6 q7 => (l2' r q1).trans ((o3' r q2 q3 q7).trans ((m3' r q2 q6).trans (g2' r q4 q5)))
  have r23 : ∀ i, i < 57 → uN (I9 (mo + 23) i) = r0 / 2 ^ (8 * i) % 256 := fun i hi => by rw [l2' _ (by omega), o3' _ (by omega) (by omega) (by omega)]; exact m1' i hi
  have p9 : ∀ x, x < 21 → ∀ i, i < 32 → I9 (mo + 7) (32 * x + i) = S.1 (mo + 7) (32 * x + i) := fun x hx i hi => by rw [l2' _ (by omega)]; exact o4' x hx i hi
  clear m1' m3' m4' m5' v7 y7 o3' o4' l2' g2' g3'
  -- the challenge's text
  generalize eA : mdom_f c mo ph cx (I9, S9.2.1, Ff) = S10 at hT
  generalize eB : minB_f mo (mo + 4) 0 (cB c) (dmN c ph cx) (S10.1, S10.2.1, Fc) = S11 at hT
  obtain ⟨c1, c2, c3⟩ := mtex_s c mo ph mg cx (I9, S9.2.1, Ff) Ff Fc (m := m) (g := g) hcx (fun j hj => by show I9 (mo + 6) j = _; rw [I9e _ (by omega) (by omega) (by omega) (by omega) (by omega) (by omega) (by omega), I2 _ (by omega) (by omega) (by omega) (by omega) (by omega) (by omega) (by omega) (by omega) (by omega)]; exact hg j hj) (cB c) (mo + 4) (by omega) (y := nby (cN c (pM c B0 r0))) l1' S10 S11 eA eB
  have c2' : ∀ r, r ≠ mo + 11 → S11.1 r = I9 r := c2
  have c3' : S11.2.1 = S9.2.1 := c3
  clear eA eB c2 c3
  obtain ⟨u1, u2, u3⟩ := minB_t mo (mo + 22) 0 (dmN c ph cx + cB c) (cB c) (S11.1, S11.2.1, Fd) (g := nby (cN c (pM c B0 (sgs c f)))) (by omega) c1 (fun j hj => by rw [Nat.zero_add]; show S11.1 (mo + 22) j = _; rw [c2' _ (by omega), I9e _ (by omega) (by omega) (by omega) (by omega) (by omega) (by omega) (by omega)]; exact b3 j (by omega))
  have u2' : ∀ r, r ≠ mo + 11 → (minB_f mo (mo + 22) 0 (cB c) (dmN c ph cx + cB c) (S11.1, S11.2.1, Fd)).1 r = I9 r := fun r hr => (u2 r hr).trans (c2' r hr)
  have u3' : (minB_f mo (mo + 22) 0 (cB c) (dmN c ph cx + cB c) (S11.1, S11.2.1, Fd)).2.1 = S9.2.1 := u3.trans c3'
  clear u2 u3 c1 c2' c3'
  generalize minB_f mo (mo + 22) 0 (cB c) (dmN c ph cx + cB c) (S11.1, S11.2.1, Fd) = S12 at u1 u2' u3' hT
  generalize fs S.2.2 mo 17 (nI (dmN c ph cx + cB c + cB c)) = Fg at hT
  obtain ⟨d1, d2, d3⟩ := mtheM_t c mo mg (dmN c ph cx + cB c + cB c) ph (S12.1, S12.2.1, Fg) (m := m) u1 (fun i hi => by show S12.1 (mo + 5) i = _; rw [u2' _ (by omega), I9e _ (by omega) (by omega) (by omega) (by omega) (by omega) (by omega) (by omega), I2 _ (by omega) (by omega) (by omega) (by omega) (by omega) (by omega) (by omega) (by omega) (by omega)]; exact hm i hi) (fun i hi => by show S12.1 (mo + 25) i = _; rw [u2' _ (by omega), I9e _ (by omega) (by omega) (by omega) (by omega) (by omega) (by omega) (by omega)]; exact r25 i hi)
  have d2' : ∀ r, r ≠ mo + 11 → (mtheM_f mo mg (dmN c ph cx + cB c + cB c) ph (S12.1, S12.2.1, Fg)).1 r = I9 r := fun r hr => (d2 r hr).trans (u2' r hr)
  have d3' : (mtheM_f mo mg (dmN c ph cx + cB c + cB c) ph (S12.1, S12.2.1, Fg)).2.1 = S9.2.1 := d3.trans u3'
  clear d2 d3 u1 u2' u3'
  generalize mtheM_f mo mg (dmN c ph cx + cB c + cB c) ph (S12.1, S12.2.1, Fg) = S13 at d1 d2' d3' hT
  generalize fs S.2.2 mo 17 (nI (dmN c ph cx + cB c + cB c + (if ph then 64 else mg))) = Fh at hT
  obtain ⟨g1, g2, g3⟩ := mhashI_s c mo (dmN c ph cx + cB c + cB c + (if ph then 64 else mg)) (S13.1, S13.2.1, Fh) (by omega) d1 (by show ∀ i, i < 8 → S13.2.1 (mo + 14) i = _; rw [d3', o5' _ j14]; exact h14) (by show ∀ i, i < 80 → S13.2.1 (mo + 15) i = _; rw [d3', o5' _ j15]; exact h15)
  have g2' : ∀ r, r ≠ mo + 11 → r ≠ mo + 12 → (mhashI_f c mo (dmN c ph cx + cB c + cB c + (if ph then 64 else mg)) (S13.1, S13.2.1, Fh)).1 r = I9 r := fun r q1 q2 => (g2 r q1 q2).trans (d2' r q1)
  have g3' : ∀ r, ¬ mJ mo r → (mhashI_f c mo (dmN c ph cx + cB c + cB c + (if ph then 64 else mg)) (S13.1, S13.2.1, Fh)).2.1 r = S.2.1 r := fun r hr => (g3 r hr).trans ((congrFun d3' r).trans (o5' r hr))
  clear g2 g3 d1 d2' d3'
  generalize mhashI_f c mo (dmN c ph cx + cB c + cB c + (if ph then 64 else mg)) (S13.1, S13.2.1, Fh) = S14 at g1 g2' g3' hT
  generalize fs S.2.2 mo 17 (nI (haN c (dmN c ph cx + cB c + cB c + (if ph then 64 else mg)))) = Fi at hT
  have p14 : ∀ x, x < 21 → ∀ i, i < 32 → S14.1 (mo + 7) (32 * x + i) = S.1 (mo + 7) (32 * x + i) := fun x hx i hi => by rw [g2' _ (by omega) (by omega)]; exact p9 x hx i hi
  obtain ⟨m1, _, m3, m4, m5⟩ := mmod_m c mo (mo + 24) (mo + 12) (2 * cB c) (S14.1, S14.2.1, Fi) (by omega) (by omega) (BY_cg g1 (dgA_lt c _ _ _ (n2 c))) (MD_mx2 p14 (by omega) hO)
  generalize hk0 : sgk c (nby (cN c (pM c B0 r0))) (nby (cN c (pM c B0 (sgs c f)))) (dmA c ph cx g) (dmN c ph cx) (bdA c ph m mg) (if ph then 64 else mg) = k0
  have m1' : ∀ i, i < 57 → uN ((mmod_f c mo (mo + 24) (mo + 12) (2 * cB c) (S14.1, S14.2.1, Fi)).1 (mo + 24) i) = k0 % gO c / 2 ^ (8 * i) % 256 := fun i hi => by
    rw [m1 i hi]
    show bv (S14.1 (mo + 12)) (2 * cB c) % gO c / 2 ^ (8 * i) % 256 = _
    rw [bv_cg g1, ← hk0]
    rfl
  have m3' : ∀ r, r ≠ mo + 7 → r ≠ mo + 24 → (mmod_f c mo (mo + 24) (mo + 12) (2 * cB c) (S14.1, S14.2.1, Fi)).1 r = S14.1 r := m3
  have m4' : ∀ x, x < 21 → ∀ i, i < 32 → (mmod_f c mo (mo + 24) (mo + 12) (2 * cB c) (S14.1, S14.2.1, Fi)).1 (mo + 7) (32 * x + i) = S.1 (mo + 7) (32 * x + i) := fun x hx i hi => (m4 x (by omega) i hi).trans (p14 x hx i hi)
  have m5' : (mmod_f c mo (mo + 24) (mo + 12) (2 * cB c) (S14.1, S14.2.1, Fi)).2.1 = S14.2.1 := by rw [m5]
  clear m1 m3 m4 m5 g1 p14
  generalize mmod_f c mo (mo + 24) (mo + 12) (2 * cB c) (S14.1, S14.2.1, Fi) = S15 at m1' m3' m4' m5' hT
  have J15 : ∀ r, r ≠ mo + 7 → r ≠ mo + 11 → r ≠ mo + 12 → r ≠ mo + 24 → S15.1 r = I9 r := fun r q1 q2 q3 q4 => (m3' r q1 q4).trans (g2' r q2 q3)
  have h57 : gO c < 2 ^ (8 * 57) := Nat.lt_of_lt_of_le hGc (Nat.pow_le_pow_right (by decide) (by omega))
  obtain ⟨v24, y24⟩ := nby_bv (Nat.lt_trans (Nat.mod_lt k0 (by omega)) h57) m1'
  obtain ⟨v23, y23⟩ := nby_bv (f := S15.1 (mo + 23)) (Nat.lt_trans hrl h57) (fun i hi => by rw [J15 _ (by omega) (by omega) (by omega) (by omega)]; exact r23 i hi)
  have q20 : ∀ i, i < 57 → S15.1 (mo + 20) i = xs57 c (sgE c f) i := fun i hi => by
    rw [J15 _ (by omega) (by omega) (by omega) (by omega), I9e _ (by omega) (by omega) (by omega) (by omega) (by omega) (by omega) (by omega)]
    exact b1 i hi
  obtain ⟨x1, x2⟩ := xs57_bv c f
  obtain ⟨w1, _, w3, w4, w5⟩ := mcomb_m c mo (S15.1, S15.2.1, Fi) y24 (BY_cg q20 x2) y23 (MD_mx2 m4' (by omega) hO)
  have w1' : ∀ i, i < 57 → uN ((mcomb_f c mo (S15.1, S15.2.1, Fi)).1 (mo + 24) i) = sgT c B0 f (dmA c ph cx g) (dmN c ph cx) (bdA c ph m mg) (if ph then 64 else mg) / 2 ^ (8 * i) % 256 := fun i hi => by
    have e : (bv (S15.1 (mo + 24)) 57 * bv (S15.1 (mo + 20)) 57 + bv (S15.1 (mo + 23)) 57) % gO c = sgT c B0 f (dmA c ph cx g) (dmN c ph cx) (bdA c ph m mg) (if ph then 64 else mg) := by
      unfold sgT
      rw [hr0, hk0, v24, v23, bv_cg q20, x1, mod_mul]
    rw [← e]
    exact w1 i hi
  have w3' : ∀ r, r ≠ mo + 7 → r ≠ mo + 24 → r ≠ mo + 26 → (mcomb_f c mo (S15.1, S15.2.1, Fi)).1 r = S15.1 r := w3
  have w4' : ∀ x, x < 21 → ∀ i, i < 32 → (mcomb_f c mo (S15.1, S15.2.1, Fi)).1 (mo + 7) (32 * x + i) = S.1 (mo + 7) (32 * x + i) := fun x hx i hi => (w4 x (by omega) i hi).trans (m4' x hx i hi)
  have w5' : (mcomb_f c mo (S15.1, S15.2.1, Fi)).2.1 = S15.2.1 := by rw [w5]
  clear w1 w3 w4 w5
  generalize mcomb_f c mo (S15.1, S15.2.1, Fi) = S16 at w1' w3' w4' w5' hT
  obtain ⟨k1, k2, k3⟩ := msign_l158_s c mo (S16.1, S16.2.1, S.2.2) (cB c)
  have k2' : ∀ i, i < cB c → msign_l158 c mo (S16.1, S16.2.1, S.2.2) (cB c) (mo + 4) i = S16.1 (mo + 4) i := k2
  have k3' : ∀ r, r ≠ mo + 4 → msign_l158 c mo (S16.1, S16.2.1, S.2.2) (cB c) r = S16.1 r := k3
  rw [← hT]
  refine ⟨fun i hi => ?_, fun r q1 q2 q3 q4 q5 q6 => ?_, fun x hx i hi => ?_, fun r hr => ?_⟩
  · show msign_l158 c mo (S16.1, S16.2.1, S.2.2) (cB c) (mo + 4) i = _
    unfold sgF app
    by_cases e : i < cB c
    · rw [if_pos e, k2' i e, w3' _ (by omega) (by omega) (by omega), J15 _ (by omega) (by omega) (by omega) (by omega), hr0]
      exact l1' i e
    · rw [if_neg e]
      have q := k1 (i - cB c) (by omega)
      rw [show cB c + (i - cB c) = i from by omega] at q
      exact q.trans (nby_of (w1' _ (by omega)))
  · show msign_l158 c mo (S16.1, S16.2.1, S.2.2) (cB c) r = _
    rw [k3' r q1, w3' r q2 (by omega) (by omega), J15 r q2 q4 q5 (by omega), I9e r q1 q2 q3 q4 q5 (by omega) (by omega)]
    exact I2 r q2 q3 q4 q5 (by omega) (by omega) (by omega) (by omega) (by omega)
  · show msign_l158 c mo (S16.1, S16.2.1, S.2.2) (cB c) (mo + 7) (32 * x + i) = _
    rw [k3' _ (by omega)]
    exact w4' x hx i hi
  · show S16.2.1 r = _
    rw [w5', m5']
    exact g3' r hr
/-- sign of the model -/
theorem msign_r (mo : Nat) (B : (c : Bool) → Pt c) (c ph : Bool) (S : StT) (A : AS) (hv : AV A) (h : RM mo B S A) : RM mo B (msignP_f c mo (A.2.1 0) (A.2.1 1) ph S) (setN (setR A 3 (sgF c (B c) (A.1 0) (dmA c ph (A.2.1 1) (A.1 5)) (dmN c ph (A.2.1 1)) (bdA c ph (A.1 4) (A.2.1 0)) (if ph then 64 else A.2.1 0))) 2 (2 * cB c)) ∧ OM mo (msignP_f c mo (A.2.1 0) (A.2.1 1) ph S) S := by
  have hcB := cB_b c
  obtain ⟨hC, hB, hO⟩ := h.2.2.2.1 c
  obtain ⟨e1, e2, e3, e4⟩ := msign_s c mo (A.2.1 0) (A.2.1 1) ph (S.1, S.2.1, fC c mo S.2.2) (f := A.1 0) (m := A.1 4) (g := A.1 5) (B0 := B c) hv.2.2.2.2.2.2.1 hv.2.2.2.2.2.2.2.1 (fun i hi => h.1.1 i (by omega)) (fun i hi => h.1.2.2.2.2.1 i hi) (fun i hi => h.1.2.2.2.2.2 i hi) hC hB hO h.2.2.2.2.1 h.2.2.2.2.2
  have e2' : ∀ r, r ≠ mo + 4 → r ≠ mo + 7 → r ≠ mo + 9 → r ≠ mo + 11 → r ≠ mo + 12 → ¬ (mo + 20 ≤ r ∧ r ≤ mo + 27) → (msign_f c mo (A.2.1 0) (A.2.1 1) ph (S.1, S.2.1, fC c mo S.2.2)).1 r = S.1 r := e2
  have e4' : ∀ r, ¬ mJ mo r → (msign_f c mo (A.2.1 0) (A.2.1 1) ph (S.1, S.2.1, fC c mo S.2.2)).2.1 r = S.2.1 r := e4
  have en : msignP_f c mo (A.2.1 0) (A.2.1 1) ph S = ((msign_f c mo (A.2.1 0) (A.2.1 1) ph (S.1, S.2.1, fC c mo S.2.2)).1, (msign_f c mo (A.2.1 0) (A.2.1 1) ph (S.1, S.2.1, fC c mo S.2.2)).2.1, fs (fs (fC c mo S.2.2) mo 17 (nI (haN c (dmN c ph (A.2.1 1) + cB c + cB c + (if ph then 64 else A.2.1 0))))) mo 5 (nI (2 * cB c))) := by
    dsimp only [msignP_f, mnoC_f, mcho_f, fC]
  rw [en]
  clear en e2 e4
  generalize msign_f c mo (A.2.1 0) (A.2.1 1) ph (S.1, S.2.1, fC c mo S.2.2) = T at e1 e2' e3 e4' ⊢
  refine ⟨RM_3 h (2 * cB c) _ (fun r hr => e2' r (by omega) (by omega) (by omega) (by omega) (by omega) (by omega)) e1 e3 (e4' _ (by unfold mJ; omega)) (e4' _ (by unfold mJ; omega)) ⟨?_, ?_, fs_get⟩, fun r hr => ⟨e2' r (by omega) (by omega) (by omega) (by omega) (by omega) (by omega), e4' r (by unfold mJ; omega), ?_⟩⟩
  · exact (fs_oth (by decide)).trans ((fs_oth (by decide)).trans (fC_F).1)
  · exact (fs_oth (by decide)).trans ((fs_oth (by decide)).trans (fC_F).2.1)
  · exact (vu_n (by omega)).trans ((vu_n (by omega)).trans (fC_o c mo S.2.2 (by omega)))
end
