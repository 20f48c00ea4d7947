section
/-! THE MODEL: verify. -/
/-- what a verification leaves as it was -/
def MZ (mo : Nat) (T S : StT) : Prop := (∀ r, r ≠ mo + 7 → r ≠ mo + 9 → r ≠ mo + 11 → r ≠ mo + 12 → ¬ (mo + 20 ≤ r ∧ r ≤ mo + 27) → T.1 r = S.1 r) ∧ (∀ x, x < 21 → ∀ i, i < 32 → T.1 (mo + 7) (32 * x + i) = S.1 (mo + 7) (32 * x + i)) ∧ (∀ r, ¬ mJ mo r → T.2.1 r = S.2.1 r)
theorem MZ_tr {mo : Nat} {T U S : StT} (h1 : MZ mo T U) (h2 : MZ mo U S) : MZ mo T S := ⟨fun r a b c d e => (h1.1 r a b c d e).trans (h2.1 r a b c d e), fun x hx i hi => (h1.2.1 x hx i hi).trans (h2.2.1 x hx i hi), fun r hr => (h1.2.2 r hr).trans (h2.2.2 r hr)⟩
theorem MZ_mx {mo : Nat} {T S : StT} {D : Nat → Prop} (h : MX mo D T S) (hD : ∀ x, x < 21 → ¬ D x) : MZ mo T S := ⟨fun r a b _ _ _ => h.1 r a b, fun x hx i hi => h.2.1 x (hD x hx) i hi, fun r hr => h.2.2.1 r (fun z => hr (Or.inl z))⟩
theorem MZ_r {mo : Nat} {T S : StT} (h1 : ∀ r, r ≠ mo + 11 → r ≠ mo + 12 → r ≠ mo + 25 → T.1 r = S.1 r) (h2 : ∀ r, ¬ mJ mo r → T.2.1 r = S.2.1 r) : MZ mo T S := ⟨fun r _ _ c d e => h1 r c d (by omega), fun x hx i hi => by rw [h1 (mo + 7) (by omega) (by omega) (by omega)], h2⟩
/-- the challenge of the model -/
theorem mcha_s (c : Bool) (mo mg cx : Nat) (ph : Bool) (S : StT) (F0 F1 F2 F3 F4 F5 : Nat → Nat → Int32) {x y m g : Nat → Int32} (hmg : mg ≤ 256) (hcx : cx ≤ 64) (hx : ∀ i, i < cB c → S.1 (mo + 3) i = x i) (hy : ∀ i, i < cB c → S.1 (mo + 2) i = y i) (hm : ∀ i, i < mg → S.1 (mo + 5) i = m i) (hg : ∀ j, j < cx → S.1 (mo + 6) j = g j) (h14 : ∀ i, i < 8 → S.2.1 (mo + 14) i = hsF i) (h15 : ∀ i, i < 80 → S.2.1 (mo + 15) i = hkF i) (R1 R2 R3 R4 R5 R6 : StT) (e1 : mdigM_f c mo mg (S.1, S.2.1, F0) = R1) (e2 : mdom_f c mo ph cx (R1.1, R1.2.1, F1) = R2) (e3 : minB_f mo (mo + 3) 0 (cB c) (dmN c ph cx) (R2.1, R2.2.1, F2) = R3) (e4 : minB_f mo (mo + 2) 0 (cB c) (dmN c ph cx + cB c) (R3.1, R3.2.1, F3) = R4) (e5 : mtheM_f mo mg (dmN c ph cx + cB c + cB c) ph (R4.1, R4.2.1, F4) = R5) (e6 : mhashI_f c mo (dmN c ph cx + cB c + cB c + (if ph then 64 else mg)) (R5.1, R5.2.1, F5) = R6) :
    BY (R6.1 (mo + 12)) (2 * cB c) ∧ bv (R6.1 (mo + 12)) (2 * cB c) = sgk c x y (dmA c ph cx g) (dmN c ph cx) (bdA c ph m mg) (if ph then 64 else mg) ∧ (∀ r, r ≠ mo + 11 → r ≠ mo + 12 → r ≠ mo + 25 → R6.1 r = S.1 r) ∧ (∀ r, ¬ mJ mo r → R6.2.1 r = S.2.1 r) := by
  have hcB := cB_b c
  have hpf := dmN_le c ph hcx
  have hbd : (if ph then 64 else mg) ≤ 256 := by split <;> omega
  have j14 : ¬ mJ mo (mo + 14) := by unfold mJ; omega
  have j15 : ¬ mJ mo (mo + 15) := by unfold mJ; omega
  obtain ⟨a1, a2, a3⟩ := mdigM_s c mo mg (S.1, S.2.1, F0) (m := m) hmg hm h14 h15
  rw [e1] at a1 a2 a3
  have a2' : ∀ r, r ≠ mo + 11 → r ≠ mo + 12 → r ≠ mo + 25 → R1.1 r = S.1 r := a2
  have a3' : ∀ r, ¬ mJ mo r → R1.2.1 r = S.2.1 r := a3
  obtain ⟨c1, c2, c3⟩ := mtex_s c mo ph mg cx R1 F1 F2 (m := m) (g := g) hcx (fun j hj => by rw [a2' _ (by omega) (by omega) (by omega)]; exact hg j hj) (cB c) (mo + 3) (by omega) (y := x) (fun j hj => by rw [a2' _ (by omega) (by omega) (by omega)]; exact hx j hj) R2 R3 e2 e3
  obtain ⟨u1, u2, u3⟩ := minB_t mo (mo + 2) 0 (dmN c ph cx + cB c) (cB c) (R3.1, R3.2.1, F3) (g := y) (by omega) c1 (fun j hj => by rw [Nat.zero_add]; show R3.1 (mo + 2) j = _; rw [c2 _ (by omega), a2' _ (by omega) (by omega) (by omega)]; exact hy j hj)
  rw [e4] at u1 u2 u3
  have u2' : ∀ r, r ≠ mo + 11 → R4.1 r = R1.1 r := fun r hr => (u2 r hr).trans (c2 r hr)
  have u3' : R4.2.1 = R1.2.1 := u3.trans c3
  obtain ⟨d1, d2, d3⟩ := mtheM_t c mo mg (dmN c ph cx + cB c + cB c) ph (R4.1, R4.2.1, F4) (m := m) u1 (fun i hi => by show R4.1 (mo + 5) i = _; rw [u2' _ (by omega), a2' _ (by omega) (by omega) (by omega)]; exact hm i hi) (fun i hi => by show R4.1 (mo + 25) i = _; rw [u2' _ (by omega)]; exact a1 i hi)
  rw [e5] at d1 d2 d3
  have d2' : ∀ r, r ≠ mo + 11 → R5.1 r = R1.1 r := fun r hr => (d2 r hr).trans (u2' r hr)
  have d3' : R5.2.1 = R1.2.1 := d3.trans u3'
  obtain ⟨g1, g2, g3⟩ := mhashI_s c mo (dmN c ph cx + cB c + cB c + (if ph then 64 else mg)) (R5.1, R5.2.1, F5) (by omega) d1 (by show ∀ i, i < 8 → R5.2.1 (mo + 14) i = _; rw [d3', a3' _ j14]; exact h14) (by show ∀ i, i < 80 → R5.2.1 (mo + 15) i = _; rw [d3', a3' _ j15]; exact h15)
  rw [e6] at g1 g2 g3
  refine ⟨BY_cg g1 (dgA_lt c _ _ _ (n2 c)), (bv_cg g1).trans rfl, fun r q1 q2 q3 => (g2 r q1 q2).trans ((d2' r q1).trans (a2' r q1 q2 q3)), fun r hr => (g3 r hr).trans ((congrFun d3' r).trans (a3' r hr))⟩
theorem gO_4489 (c : Bool) : gO c < 2 ^ 448 := by cases c <;> decide +kernel
set_option maxHeartbeats 4000000 in
theorem mveri_s (c : Bool) (mo mg cx : Nat) (ph : Bool) (S : StT) {x y m g : Nat → Int32} {B0 : Pt c} (hmg : mg ≤ 256) (hcx : cx ≤ 64) (hx : ∀ i, i < 2 * cB c → S.1 (mo + 3) i = x i) (hy : ∀ i, i < cB c → S.1 (mo + 2) i = y i) (hbx : BY x (2 * cB c)) (hby : BY y (cB c)) (hm : ∀ i, i < mg → S.1 (mo + 5) i = m i) (hg : ∀ j, j < cx → S.1 (mo + 6) j = g j) (hC : MC c S.1 mo) (hB : MP c S.1 mo (13 + 3 * bN c) B0) (hO : MD S.1 mo (19 + bN c) (gO c)) (h14 : ∀ i, i < 8 → S.2.1 (mo + 14) i = hsF i) (h15 : ∀ i, i < 80 → S.2.1 (mo + 15) i = hkF i) :
    (((mveri_f c mo mg cx ph S).1 = nI 1 ∧ Ver c B0 x y (dmA c ph cx g) (dmN c ph cx) (bdA c ph m mg) (if ph then 64 else mg)) ∨ ((mveri_f c mo mg cx ph S).1 = nI 0 ∧ ¬ Ver c B0 x y (dmA c ph cx g) (dmN c ph cx) (bdA c ph m mg) (if ph then 64 else mg))) ∧ MZ mo (mveri_f c mo mg cx ph S).2 S ∧ (∀ r, r ≠ mo → (mveri_f c mo mg cx ph S).2.2.2 r = S.2.2 r) ∧ (∀ q, q ≠ 17 → (mveri_f c mo mg cx ph S).2.2.2 mo q = S.2.2 mo q) := by
  have hcB := cB_b c
  have hbN := bN_le c
  have hG := gO_lt c
  have hGc := gO_cB c
  have hG4 := gO_4489 c
  generalize hT : mveri_f c mo mg cx ph S = T
  unfold mveri_f at hT
  dsimp only at hT
  -- the key
  obtain ⟨a1, a2⟩ := mdec_m c mo 46 (mo + 2) 0 S (N := bv y (cB c)) (by omega) (by omega) (by omega) (bv_lt hby) (fun i hi => by rw [Nat.zero_add, hy i hi]; exact bv_dig hby hi) hC
  generalize mdec_f c mo 46 (mo + 2) 0 S = R1 at a1 a2 hT
  have z1 : MZ mo R1.2 S := MZ_mx a2 (fun x hx q => by unfold mdD at q; omega)
  rcases a1 with ⟨b1, PA, b2, b3⟩ | ⟨b1, b2, _⟩
  case inr =>
    rw [if_pos (b1.trans (by decide))] at hT
    rw [← hT]
    exact ⟨Or.inr ⟨rfl, fun ⟨PA, _, q, _⟩ => b2 PA q⟩, z1, fun _ _ => rfl, fun _ _ => rfl⟩
  rw [if_neg (by rw [b1]; decide)] at hT
  have hx1 : ∀ i, i < 2 * cB c → R1.2.1 (mo + 3) i = x i := fun i hi => by rw [z1.1 _ (by omega) (by omega) (by omega) (by omega) (by omega)]; exact hx i hi
  -- the signature's point
  obtain ⟨c1, c2⟩ := mdec_m c mo 54 (mo + 3) 0 (R1.2.1, R1.2.2.1, S.2.2) (N := bv x (cB c)) (by omega) (by omega) (by omega) (bv_lt (fun i hi => hbx i (by omega))) (fun i hi => by rw [Nat.zero_add]; show uN (R1.2.1 (mo + 3) i) = _; rw [hx1 i (by omega)]; exact bv_dig (fun i hi => hbx i (by omega)) hi) (MC_21 z1.2.1 hC)
  have z2 : MZ mo (mdec_f c mo 54 (mo + 3) 0 (R1.2.1, R1.2.2.1, S.2.2)).2 S := MZ_tr (MZ_mx c2 (fun x hx q => by unfold mdD at q; omega)) z1
  have hA2 : MP c (mdec_f c mo 54 (mo + 3) 0 (R1.2.1, R1.2.2.1, S.2.2)).2.1 mo 46 PA := MP_mx c2 (by unfold mdD; omega) (by unfold mdD; omega) (by unfold mdD; omega) b3
  clear c2
  generalize mdec_f c mo 54 (mo + 3) 0 (R1.2.1, R1.2.2.1, S.2.2) = R3 at c1 z2 hA2 hT
  rcases c1 with ⟨d1, PR, d2, d3⟩ | ⟨d1, d2, _⟩
  case inr =>
    rw [if_neg (fun h => h (d1.trans (by decide)))] at hT
    rw [← hT]
    exact ⟨Or.inr ⟨rfl, fun ⟨_, PR, _, q, _⟩ => d2 PR q⟩, z2, fun _ _ => rfl, fun _ _ => rfl⟩
  rw [if_pos (by rw [d1]; decide)] at hT
  -- the answer's pieces
  obtain ⟨k1, k2, k3⟩ := zero28_m mo 53 (R3.2.1, R3.2.2.1, S.2.2)
  have k2' : MF mo 53 (zero28_f mo 53 (R3.2.1, R3.2.2.1, S.2.2)).1 R3.2.1 := k2
  have k3' : (zero28_f mo 53 (R3.2.1, R3.2.2.1, S.2.2)).2.1 = R3.2.2.1 := by rw [k3]
  generalize zero28_f mo 53 (R3.2.1, R3.2.2.1, S.2.2) = S5 at k1 k2' k3' hT
  have hxs : BY (fun j => x (cB c + j)) (cB c) := fun i hi => hbx (cB c + i) (by omega)
  have hx5 : ∀ i, i < 2 * cB c → S5.1 (mo + 3) i = x i := fun i hi => by rw [k2'.1 _ (by omega), z2.1 _ (by omega) (by omega) (by omega) (by omega) (by omega)]; exact hx i hi
  obtain ⟨l1, l2, l3, l4⟩ := mveri_l43_s c mo (S5.1, S5.2.1, S.2.2) (M := bv (fun j => x (cB c + j)) (cB c)) k1 (fun i hi => by show uN (S5.1 (mo + 3) (cB c + i)) = _; rw [hx5 _ (by omega)]; exact bv_dig hxs hi) (cB c) (Nat.le_refl _)
  have hMl : bv (fun j => x (cB c + j)) (cB c) < 2 ^ (8 * cB c) := bv_lt hxs
  rw [Nat.mod_eq_of_lt hMl] at l1
  have l2' : ∀ j, (j < 1696 ∨ 1728 ≤ j) → mveri_l43 c mo (S5.1, S5.2.1, S.2.2) (cB c) (mo + 7) j = R3.2.1 (mo + 7) j := fun j hj => (l2 j hj).trans (k2'.2 j (by omega))
  have l3' : ∀ i, i < cB c → mveri_l43 c mo (S5.1, S5.2.1, S.2.2) (cB c) (mo + 23) i = x (cB c + i) := fun i hi => (l3 i hi).trans (hx5 _ (by omega))
  have l4' : ∀ r, r ≠ mo + 7 → r ≠ mo + 23 → mveri_l43 c mo (S5.1, S5.2.1, S.2.2) (cB c) r = R3.2.1 r := fun r q1 q2 => (l4 r q1 q2).trans (k2'.1 r q1)
  clear l2 l3 l4 hx5
  generalize mveri_l43 c mo (S5.1, S5.2.1, S.2.2) (cB c) = I6 at l1 l2' l3' l4' hT
  have z6 : MZ mo (I6, S5.2.1, S.2.2) S := MZ_tr (U := R3.2) ⟨fun r q1 q2 q3 q4 q5 => l4' r q1 (by omega), fun x hx i hi => l2' _ (by omega), fun r hr => by show S5.2.1 r = _; rw [k3']⟩ z2
  have hpl : ∀ a, a < 53 ∨ 53 < a → ∀ i, i < 32 → I6 (mo + 7) (32 * a + i) = R3.2.1 (mo + 7) (32 * a + i) := fun a ha i hi => l2' _ (by omega)
  have hA6 : MP c I6 mo 46 PA := MP_pl (fun x h1 h2 => hpl x (by omega)) hA2
  have hR6 : MP c I6 mo 54 PR := MP_pl (fun x h1 h2 => hpl x (by omega)) d3
  generalize hM : bv (fun j => x (cB c + j)) (cB c) = M at l1 hMl
  have hM456 : M < 2 ^ 456 := Nat.lt_of_lt_of_le hMl (Nat.pow_le_pow_right (by decide) (by omega))
  have p28 : uN (I6 (mo + 7) 1724) = M / 2 ^ 448 % 2 ^ 16 := l1 28 (by decide)
  have hq : M / 2 ^ 448 < 2 ^ 8 := by
    refine (Nat.div_lt_iff_lt_mul (Nat.pow_pos (by decide))).mpr ?_
    rw [← Nat.pow_add]
    exact hM456
  by_cases h28 : I6 (mo + 7) 1724 = 0
  case neg =>
    rw [if_pos h28] at hT
    rw [← hT]
    refine ⟨Or.inr ⟨rfl, fun ⟨_, _, _, _, q, _⟩ => h28 (uN_ext ?_)⟩, z6, fun _ _ => rfl, fun _ _ => rfl⟩
    rw [hM] at q
    rw [p28, Nat.div_eq_of_lt (Nat.lt_trans q hG4)]
    decide
  rw [if_neg (fun h => h h28)] at hT
  rw [h28, show uN (0 : Int32) = 0 from rfl] at p28
  have hM4 : M < 2 ^ 448 := by
    rcases Nat.lt_or_ge M (2 ^ 448) with q | q
    · exact q
    · have := (Nat.le_div_iff_mul_le (Nat.pow_pos (by decide) : 0 < 2 ^ 448)).mpr (show 1 * 2 ^ 448 ≤ M by omega)
      omega
  obtain ⟨t1, _⟩ := atLeast_m mo 53 (19 + bN c) (I6, S5.2.1, S.2.2) (n := M) (m := gO c) ⟨hM4, l1⟩ (MD_mx2 z6.2.1 (by omega) hO)
  rw [t1] at hT
  by_cases hlt : M < gO c
  case neg =>
    have t2 : ¬ ((if gO c ≤ M then nI 1 else nI 0 : Int32) = 0) := by rw [if_pos (Nat.not_lt.mp hlt)]; decide
    rw [if_neg t2] at hT
    rw [← hT]
    exact ⟨Or.inr ⟨rfl, fun ⟨_, _, _, _, q, _⟩ => hlt (by rw [hM] at q; exact q)⟩, z6, fun _ _ => rfl, fun _ _ => rfl⟩
  have t2 : (if gO c ≤ M then nI 1 else nI 0 : Int32) = 0 := by rw [if_neg (Nat.not_le.mpr hlt)]; rfl
  rw [if_pos t2] at hT
  clear t1 l1 p28 hq h28 k1 k2' k3' hMl hM456
  -- the challenge
  have hfF : ∀ v r, r ≠ mo → fs S.2.2 mo 17 v r = S.2.2 r := fun v r hr => vu_n hr
  have hfq : ∀ v q, q ≠ 17 → fs S.2.2 mo 17 v mo q = S.2.2 mo q := fun v q hq => fs_oth hq
  have hfin : ∀ v, (∀ r, r ≠ mo → fs S.2.2 mo 17 v r = S.2.2 r) ∧ (∀ q, q ≠ 17 → fs S.2.2 mo 17 v mo q = S.2.2 mo q) := fun v => ⟨hfF v, hfq v⟩
  generalize e1 : mdigM_f c mo mg (I6, S5.2.1, S.2.2) = Q1 at hT
  generalize e2 : mdom_f c mo ph cx (Q1.1, Q1.2.1, fs S.2.2 mo 17 (nI (haN c (0 + mg)))) = Q2 at hT
  generalize e3 : minB_f mo (mo + 3) 0 (cB c) (dmN c ph cx) (Q2.1, Q2.2.1, fs S.2.2 mo 17 (nI (dmN c ph cx))) = Q3 at hT
  generalize e4 : minB_f mo (mo + 2) 0 (cB c) (dmN c ph cx + cB c) (Q3.1, Q3.2.1, fs S.2.2 mo 17 (nI (dmN c ph cx + cB c))) = Q4 at hT
  generalize e5 : mtheM_f mo mg (dmN c ph cx + cB c + cB c) ph (Q4.1, Q4.2.1, fs S.2.2 mo 17 (nI (dmN c ph cx + cB c + cB c))) = Q5 at hT
  generalize e6 : mhashI_f c mo (dmN c ph cx + cB c + cB c + (if ph then 64 else mg)) (Q5.1, Q5.2.1, fs S.2.2 mo 17 (nI (dmN c ph cx + cB c + cB c + (if ph then 64 else mg)))) = Q6 at hT
  have r14 : ∀ i, i < 8 → S5.2.1 (mo + 14) i = hsF i := by
    have e : S5.2.1 (mo + 14) = S.2.1 (mo + 14) := z6.2.2 _ (by unfold mJ; omega)
    rw [e]; exact h14
  have r15 : ∀ i, i < 80 → S5.2.1 (mo + 15) i = hkF i := by
    have e : S5.2.1 (mo + 15) = S.2.1 (mo + 15) := z6.2.2 _ (by unfold mJ; omega)
    rw [e]; exact h15
  have rr : ∀ r, r ≠ mo + 7 → r ≠ mo + 9 → r ≠ mo + 11 → r ≠ mo + 12 → ¬ (mo + 20 ≤ r ∧ r ≤ mo + 27) → I6 r = S.1 r := z6.1
  obtain ⟨g1, g2, g3, g4⟩ := mcha_s c mo mg cx ph (I6, S5.2.1, S.2.2) _ _ _ _ _ _ (x := x) (y := y) (m := m) (g := g) hmg hcx (fun i hi => by show I6 _ i = _; rw [rr _ (by omega) (by omega) (by omega) (by omega) (by omega)]; exact hx i (by omega)) (fun i hi => by show I6 _ i = _; rw [rr _ (by omega) (by omega) (by omega) (by omega) (by omega)]; exact hy i hi) (fun i hi => by show I6 _ i = _; rw [rr _ (by omega) (by omega) (by omega) (by omega) (by omega)]; exact hm i hi) (fun i hi => by show I6 _ i = _; rw [rr _ (by omega) (by omega) (by omega) (by omega) (by omega)]; exact hg i hi) r14 r15 Q1 Q2 Q3 Q4 Q5 Q6 e1 e2 e3 e4 e5 e6
  clear e1 e2 e3 e4 e5 e6
  have g3' : ∀ r, r ≠ mo + 11 → r ≠ mo + 12 → r ≠ mo + 25 → Q6.1 r = I6 r := g3
  have z7 : MZ mo Q6 S := MZ_tr (MZ_r g3 g4) z6
  have e7 : Q6.1 (mo + 7) = I6 (mo + 7) := g3' _ (by omega) (by omega) (by omega)
  have hF := hfin (nI (haN c (dmN c ph cx + cB c + cB c + (if ph then 64 else mg))))
  generalize fs S.2.2 mo 17 (nI (haN c (dmN c ph cx + cB c + cB c + (if ph then 64 else mg)))) = FF at hF hT
  generalize hk0 : sgk c x y (dmA c ph cx g) (dmN c ph cx) (bdA c ph m mg) (if ph then 64 else mg) = k0 at g2
  have hA7 : MP c Q6.1 mo 46 PA := MP_rows e7 hA6
  have hR7 : MP c Q6.1 mo 54 PR := MP_rows e7 hR6
  have x7 : ∀ i, i < cB c → Q6.1 (mo + 23) i = x (cB c + i) := fun i hi => by rw [g3' _ (by omega) (by omega) (by omega)]; exact l3' i hi
  -- modulo the order
  obtain ⟨m1, _, m3, m4, m5⟩ := mmod_m c mo (mo + 24) (mo + 12) (2 * cB c) (Q6.1, Q6.2.1, FF) (by omega) (by omega) g1 (MD_mx2 z7.2.1 (by omega) hO)
  have m1' : ∀ i, i < cB c → uN ((mmod_f c mo (mo + 24) (mo + 12) (2 * cB c) (Q6.1, Q6.2.1, FF)).1 (mo + 24) i) = k0 % gO c / 2 ^ (8 * i) % 256 := fun i hi => by
    rw [m1 i (by omega)]
    show bv (Q6.1 (mo + 12)) (2 * cB c) % gO c / 2 ^ (8 * i) % 256 = _
    rw [g2]
  have m3' : ∀ r, r ≠ mo + 7 → r ≠ mo + 24 → (mmod_f c mo (mo + 24) (mo + 12) (2 * cB c) (Q6.1, Q6.2.1, FF)).1 r = Q6.1 r := m3
  have m4' : ∀ a, a ≠ 53 → ∀ i, i < 32 → (mmod_f c mo (mo + 24) (mo + 12) (2 * cB c) (Q6.1, Q6.2.1, FF)).1 (mo + 7) (32 * a + i) = Q6.1 (mo + 7) (32 * a + i) := m4
  have z8 : MZ mo (mmod_f c mo (mo + 24) (mo + 12) (2 * cB c) (Q6.1, Q6.2.1, FF)) S := MZ_tr (U := Q6) ⟨fun r q1 q2 q3 q4 q5 => m3 r q1 (by omega), fun x hx i hi => m4 x (by omega) i hi, fun r _ => by rw [m5]⟩ z7
  have hA8 : MP c (mmod_f c mo (mo + 24) (mo + 12) (2 * cB c) (Q6.1, Q6.2.1, FF)).1 mo 46 PA := MP_pl (fun x h1 h2 => m4' x (by omega)) hA7
  have hR8 : MP c (mmod_f c mo (mo + 24) (mo + 12) (2 * cB c) (Q6.1, Q6.2.1, FF)).1 mo 54 PR := MP_pl (fun x h1 h2 => m4' x (by omega)) hR7
  have x8 : ∀ i, i < cB c → (mmod_f c mo (mo + 24) (mo + 12) (2 * cB c) (Q6.1, Q6.2.1, FF)).1 (mo + 23) i = x (cB c + i) := fun i hi => by rw [m3' _ (by omega) (by omega)]; exact x7 i hi
  clear m1 m3 m4 m5 m3' m4'
  generalize mmod_f c mo (mo + 24) (mo + 12) (2 * cB c) (Q6.1, Q6.2.1, FF) = S15 at m1' z8 hA8 hR8 x8 hT
  obtain ⟨v24, y24⟩ := nby_bv (Nat.lt_trans (Nat.mod_lt k0 (by omega)) hGc) m1'
  obtain ⟨n1, n2'⟩ := mmany_m c mo 46 46 (mo + 24) 57 (cB c) (S15.1, S15.2.1, FF) (by omega) (by omega) (by omega) (by omega) y24 (MC_21 z8.2.1 hC) hA8
  have n1' : MP c (mmany_f c mo 46 46 (mo + 24) 57 (cB c) (S15.1, S15.2.1, FF)).1 mo 46 (pM c PA (bv (S15.1 (mo + 24)) (cB c))) := n1
  rw [v24] at n1'
  have z9 : MZ mo (mmany_f c mo 46 46 (mo + 24) 57 (cB c) (S15.1, S15.2.1, FF)) S := MZ_tr (MZ_mx n2' (fun x hx q => by unfold myD at q; omega)) z8
  have hR9 : MP c (mmany_f c mo 46 46 (mo + 24) 57 (cB c) (S15.1, S15.2.1, FF)).1 mo 54 PR := MP_mx n2' (by unfold myD; omega) (by unfold myD; omega) (by unfold myD; omega) hR8
  have x9 : ∀ i, i < cB c → (mmany_f c mo 46 46 (mo + 24) 57 (cB c) (S15.1, S15.2.1, FF)).1 (mo + 23) i = x (cB c + i) := fun i hi => by rw [n2'.1 _ (by omega) (by omega)]; exact x8 i hi
  clear n1 n2'
  generalize mmany_f c mo 46 46 (mo + 24) 57 (cB c) (S15.1, S15.2.1, FF) = S16 at n1' z9 hR9 x9 hT
  obtain ⟨o1, o2⟩ := msum_m c mo 54 54 46 (S16.1, S16.2.1, FF) (by omega) (by omega) (by omega) (MC_21 z9.2.1 hC) hR9 n1'
  have z10 : MZ mo (msum_f c mo 54 54 46 (S16.1, S16.2.1, FF)) S := MZ_tr (MZ_mx o2 (fun x hx q => by unfold msD at q; omega)) z9
  have x10 : ∀ i, i < cB c → (msum_f c mo 54 54 46 (S16.1, S16.2.1, FF)).1 (mo + 23) i = x (cB c + i) := fun i hi => by rw [o2.1 _ (by omega) (by omega)]; exact x9 i hi
  clear o2
  generalize msum_f c mo 54 54 46 (S16.1, S16.2.1, FF) = S17 at o1 z10 x10 hT
  obtain ⟨w1, w2⟩ := mmany_m c mo 57 (13 + 3 * bN c) (mo + 23) 57 (cB c) (S17.1, S17.2.1, FF) (by omega) (by omega) (by omega) (by omega) (BY_cg x10 hxs) (MC_21 z10.2.1 hC) (MP_21 z10.2.1 (by omega) hB)
  have w1' : MP c (mmany_f c mo 57 (13 + 3 * bN c) (mo + 23) 57 (cB c) (S17.1, S17.2.1, FF)).1 mo 57 (pM c B0 (bv (S17.1 (mo + 23)) (cB c))) := w1
  rw [bv_cg x10, hM] at w1'
  have z11 : MZ mo (mmany_f c mo 57 (13 + 3 * bN c) (mo + 23) 57 (cB c) (S17.1, S17.2.1, FF)) S := MZ_tr (MZ_mx w2 (fun x hx q => by unfold myD at q; omega)) z10
  have o11 : MP c (mmany_f c mo 57 (13 + 3 * bN c) (mo + 23) 57 (cB c) (S17.1, S17.2.1, FF)).1 mo 54 (pA c PR (pM c PA (k0 % gO c))) := MP_mx w2 (by unfold myD; omega) (by unfold myD; omega) (by unfold myD; omega) o1
  clear w1 w2
  generalize mmany_f c mo 57 (13 + 3 * bN c) (mo + 23) 57 (cB c) (S17.1, S17.2.1, FF) = S18 at w1' z11 o11 hT
  obtain ⟨l1, l2, l3⟩ := mveri_l235_s c mo mg cx ph (S18.1, S18.2.1, S.2.2) (MC_21 z11.2.1 hC) o11 w1' (vcN c)
  have z12 : MZ mo ((mveri_l235 c mo mg cx ph (S18.1, S18.2.1, S.2.2) (vcN c)).1, (mveri_l235 c mo mg cx ph (S18.1, S18.2.1, S.2.2) (vcN c)).2, FF) S := MZ_tr (show MZ mo _ S18 from ⟨(MZ_mx l3 (fun x hx q => by omega)).1, (MZ_mx l3 (fun x hx q => by omega)).2.1, (MZ_mx l3 (fun x hx q => by omega)).2.2⟩) z11
  clear l3
  generalize mveri_l235 c mo mg cx ph (S18.1, S18.2.1, S.2.2) (vcN c) = Y at l1 l2 z12 hT
  obtain ⟨f1, f2⟩ := malike_m c mo 54 57 (Y.1, Y.2, FF) (by omega) (by omega) (MC_21 z12.2.1 hC) l1 l2
  have z13 : MZ mo (malike_f c mo 54 57 (Y.1, Y.2, FF)).2 S := MZ_tr (MZ_mx f2 (fun x hx q => by omega)) z12
  generalize malike_f c mo 54 57 (Y.1, Y.2, FF) = R at f1 z13 hT
  rw [← hT]
  refine ⟨?_, z13, hF.1, hF.2⟩
  have hve := ver_eq (B0 := B0) (PA := PA) (PR := PR) hB.1 b2.1 d2.1 M (k0 % gO c) (2 ^ vcN c)
  by_cases hv : pM c (pA c PR (pM c PA (k0 % gO c))) (2 ^ vcN c) = pM c (pM c B0 M) (2 ^ vcN c)
  · rw [if_pos hv] at f1
    refine Or.inl ⟨f1, PA, PR, b2, d2, by rw [hM]; exact hlt, ?_⟩
    rw [hM, hk0]
    exact hve.mpr hv
  · rw [if_neg hv] at f1
    refine Or.inr ⟨f1, fun ⟨PA', PR', v1, v2, _, v4⟩ => hv ?_⟩
    rw [Dec_uniq v1 b2, Dec_uniq v2 d2, hM, hk0] at v4
    exact hve.mp v4
/-- verify of the model -/
theorem mverify_r (mo : Nat) (B : (c : Bool) → Pt c) (c ph : Bool) (S : StT) (A : AS) (hv : AV A) (h : RM mo B S A) : (((mveriP_f c mo (A.2.1 0) (A.2.1 1) ph S).1 = nI 1 ∧ VerA B c ph A) ∨ ((mveriP_f c mo (A.2.1 0) (A.2.1 1) ph S).1 = nI 0 ∧ ¬ VerA B c ph A)) ∧ RM mo B (mveriP_f c mo (A.2.1 0) (A.2.1 1) ph S).2 (out0 A) ∧ OM mo (mveriP_f c mo (A.2.1 0) (A.2.1 1) ph S).2 S := by
  have hcB := cB_b c
  obtain ⟨hC, hB, hO⟩ := h.2.2.2.1 c
  obtain ⟨e1, e2, e3, e4⟩ := mveri_s c mo (A.2.1 0) (A.2.1 1) ph (S.1, S.2.1, fs (fC c mo S.2.2) mo 5 (nI 0)) (x := A.1 2) (y := A.1 1) (m := A.1 4) (g := A.1 5) (B0 := B c) hv.2.2.2.2.2.2.1 hv.2.2.2.2.2.2.2.1 (fun i hi => h.1.2.2.1 i (by omega)) (fun i hi => h.1.2.1 i (by omega)) (fun i hi => hv.2.2.1 i (by omega)) (fun i hi => hv.2.1 i (by omega)) (fun i hi => h.1.2.2.2.2.1 i hi) (fun i hi => h.1.2.2.2.2.2 i hi) hC hB hO h.2.2.2.2.1 h.2.2.2.2.2
  have en : mveriP_f c mo (A.2.1 0) (A.2.1 1) ph S = ((mveri_f c mo (A.2.1 0) (A.2.1 1) ph (S.1, S.2.1, fs (fC c mo S.2.2) mo 5 (nI 0))).1, ((mveri_f c mo (A.2.1 0) (A.2.1 1) ph (S.1, S.2.1, fs (fC c mo S.2.2) mo 5 (nI 0))).2.1, (mveri_f c mo (A.2.1 0) (A.2.1 1) ph (S.1, S.2.1, fs (fC c mo S.2.2) mo 5 (nI 0))).2.2.1, (mveri_f c mo (A.2.1 0) (A.2.1 1) ph (S.1, S.2.1, fs (fC c mo S.2.2) mo 5 (nI 0))).2.2.2)) := by
    dsimp only [mveriP_f, mnoC_f, mcho_f, fC]
  rw [en]
  clear en
  generalize mveri_f c mo (A.2.1 0) (A.2.1 1) ph (S.1, S.2.1, fs (fC c mo S.2.2) mo 5 (nI 0)) = T at e1 e2 e3 e4 ⊢
  obtain ⟨z1, z2, z3⟩ := e2
  refine ⟨e1, RM_3 h 0 (A.1 3) (fun r hr => z1 r (by omega) (by omega) (by omega) (by omega) (by omega)) (fun i hi => absurd hi (Nat.not_lt_zero _)) z2 (z3 _ (by unfold mJ; omega)) (z3 _ (by unfold mJ; omega)) ⟨?_, ?_, ?_⟩, fun r hr => ⟨z1 r (by omega) (by omega) (by omega) (by omega) (by omega), z3 r (by unfold mJ; omega), ?_⟩⟩
  · exact (e4 7 (by decide)).trans ((fs_oth (by decide)).trans (fC_F).1)
  · exact (e4 9 (by decide)).trans ((fs_oth (by decide)).trans (fC_F).2.1)
  · exact (e4 5 (by decide)).trans fs_get
  · exact (e3 r (by omega)).trans ((vu_n (by omega)).trans (fC_o c mo S.2.2 (by omega)))
end
