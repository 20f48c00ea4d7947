section
/-! THE MODEL'S LADDER, WHOLE. -/
theorem msb_by {c bs : Bool} {f : Nat → Int32} (hB : bs = false → BY f (fB c)) : ∀ i, i < fB c → uN (msb c bs f i) < 256 := by
  intro i hi
  unfold msb
  cases bs with
  | true =>
    rw [if_pos rfl]
    split
    · split <;> decide
    · decide
  | false =>
    rw [if_neg (by decide)]
    split
    · exact Nat.lt_of_le_of_lt (uN_andle _ _) (hB rfl i hi)
    · exact hB rfl i hi
/-- the ladder's start -/
def mx1 (c bs : Bool) (f : Nat → Int32) : Zp c := if bs then fz c (bsN c : Int) else fz c ((bv f (fB c) % 2 ^ fW c : Nat) : Int)
theorem msb_val (c bs : Bool) {f : Nat → Int32} (hB : bs = false → BY f (fB c)) : fz c (rvN 256 (fun i => uN (msb c bs f i)) (fB c) : Int) = mx1 c bs f := by
  unfold mx1
  cases bs with
  | true =>
    rw [if_pos rfl]
    congr 2
    have hz : ∀ j, 1 ≤ j → j < fB c → uN (msb c true f j) = 0 := by
      intro j h1 _
      unfold msb
      rw [if_pos rfl, if_neg (by omega)]
      decide
    rw [rvN_z 256 _ 1 (fB c) (by cases c <;> decide) hz]
    show 0 + uN (msb c true f 0) * 256 ^ 0 = bsN c
    unfold msb
    rw [if_pos rfl, if_pos rfl]
    cases c <;> decide
  | false =>
    rw [if_neg (by decide)]
    congr 2
    have hb := hB rfl
    cases c with
    | true =>
      have e : (fun i => uN (msb true false f i)) = fun i => uN (f i) := by
        funext i
        unfold msb
        rw [if_neg (by decide), if_neg (fun q => absurd q.1 (by decide))]
      rw [e]
      exact (Nat.mod_eq_of_lt (bv_lt hb)).symm
    | false =>
      have e1 : rvN 256 (fun i => uN (msb false false f i)) 31 = rvN 256 (fun i => uN (f i)) 31 := by
        refine rvN_congr 31 (fun j hj => ?_)
        show uN (msb false false f j) = uN (f j)
        unfold msb
        rw [if_neg (by decide), if_neg (fun q => by omega)]
      have e2 : uN (msb false false f 31) = uN (f 31) % 128 := by
        unfold msb
        rw [if_neg (by decide), if_pos ⟨rfl, rfl⟩]
        have : uN (f 31 &&& nI (2 ^ 7 - 1)) = uN (f 31) % 2 ^ 7 := uN_and (by decide)
        exact this
      show rvN 256 (fun i => uN (msb false false f i)) 31 + uN (msb false false f 31) * 256 ^ 31 = (rvN 256 (fun i => uN (f i)) 31 + uN (f 31) * 256 ^ 31) % 2 ^ 255
      rw [e1, e2]
      have hl := rvN_lt 256 (fun i => uN (f i)) (by decide) 31 (fun i hi => hb i (Nat.lt_trans hi (by decide)))
      generalize rvN 256 (fun i => uN (f i)) 31 = V at hl
      generalize uN (f 31) = x
      have e3 : (2 : Nat) ^ 255 = 128 * 256 ^ 31 := by decide +kernel
      rw [e3]
      generalize (256 : Nat) ^ 31 = P at hl
      have e4 : V + x * P = (V + x % 128 * P) + (x / 128) * (128 * P) := by
        have e5 : x * P = (128 * (x / 128) + x % 128) * P := by rw [Nat.div_add_mod]
        rw [e5, Nat.add_mul, Nat.mul_comm 128 (x / 128), Nat.mul_assoc]
        omega
      rw [e4, Nat.add_mul_mod_self_right]
      refine (Nat.mod_eq_of_lt ?_).symm
      have h6 : (x % 128 + 1) * P ≤ 128 * P := Nat.mul_le_mul_right _ (by omega)
      rw [Nat.add_mul, Nat.one_mul] at h6
      omega
theorem l17_lp (c : Bool) (mo : Nat) (S : StT) : ∀ n, n ≤ 57 → (∀ i, i < n → i < fB c → mlad_l17 c mo S n (mo + 20) i = S.1 (mo + 1) i) ∧ ∀ r, r ≠ mo + 20 → mlad_l17 c mo S n r = S.1 r := by
  intro n
  induction n with
  | zero => exact fun _ => ⟨fun i hi => absurd hi (Nat.not_lt_zero _), fun _ _ => rfl⟩
  | succ n ih =>
    intro hn
    obtain ⟨h1, h2⟩ := ih (by omega)
    have st : mlad_l17 c mo S (n + 1) = va_up (mlad_l17 c mo S n) (mo + 20) (upd (mlad_l17 c mo S n (mo + 20)) n ((if (nI (fB c)) ≤ (nI n) then nI (0) else mlad_l17 c mo S n (mo + 1) n))) := rfl
    rw [st, h2 (mo + 1) (by omega)]
    have hfB : fB c ≤ 56 := by cases c <;> decide
    refine ⟨fun i hi hf => ?_, fun r hr => (vu_n hr).trans (h2 r hr)⟩
    rw [vu_s]
    show (if i = n then (if (nI (fB c)) ≤ (nI n) then nI (0) else S.1 (mo + 1) n) else _) = _
    by_cases q : i = n
    · rw [if_pos q, if_neg (fun z => by have := (nle (by omega) (by omega)).mp z; omega), q]
    · rw [if_neg q]
      exact h1 i (by omega) hf
theorem l125_lp (mo : Nat) (S : StT) : (∀ k, k < 64 → mlad_l125 mo S 64 (mo + 8) k = 0) ∧ ∀ r, r ≠ mo + 8 → mlad_l125 mo S 64 r = S.2.1 r := by
  obtain ⟨p1, p2⟩ := pw_loop (S0 := S.2.1) (lp := mlad_l125 mo S) (to := mo + 8) (F := fun _ _ => 0) rfl (fun i => rfl) (fun y i h => rfl) 64
  exact ⟨p1, fun r hr => funext fun j => p2 r j (Or.inl hr)⟩
theorem l388_lp (mo : Nat) (S : StT) {n : Nat} (h : MD S.1 mo 21 n) : ∀ m, m ≤ 57 → (∀ i, i < m → uN (mlad_l388 mo S m (mo + 4) i) = n / 2 ^ (8 * i) % 256) ∧ (∀ i, m ≤ i → mlad_l388 mo S m (mo + 4) i = S.1 (mo + 4) i) ∧ ∀ r, r ≠ mo + 4 → mlad_l388 mo S m r = S.1 r := by
  intro m
  induction m with
  | zero => exact fun _ => ⟨fun i hi => absurd hi (Nat.not_lt_zero _), fun _ _ => rfl, fun _ _ => rfl⟩
  | succ m ih =>
    intro hm
    obtain ⟨h1, h2, h3⟩ := ih (by omega)
    have st : mlad_l388 mo S (m + 1) = va_up (mlad_l388 mo S m) (mo + 4) (upd (mlad_l388 mo S m (mo + 4)) m (((mlad_l388 mo S m (mo + 7) (672 + (m / 2 ^ 1))) >>> ((nI (8 * (m % 2 ^ 1))) &&& 31)) &&& (nI (255)))) := rfl
    rw [h3 (mo + 7) (by omega)] at st
    rw [st]
    clear st
    have hv : uN (((S.1 (mo + 7) (672 + (m / 2 ^ 1))) >>> ((nI (8 * (m % 2 ^ 1))) &&& 31)) &&& (nI (255))) = n / 2 ^ (8 * m) % 256 := by
      have q3 := by_pc (a := 21) (i := m) h (by omega)
      rw [show 32 * 21 = 672 from rfl] at q3
      exact q3
    generalize (((S.1 (mo + 7) (672 + (m / 2 ^ 1))) >>> ((nI (8 * (m % 2 ^ 1))) &&& 31)) &&& (nI (255))) = w at hv ⊢
    refine ⟨fun i hi => ?_, fun i hi => ?_, fun r hr => (vu_n hr).trans (h3 r hr)⟩
    · rw [vu_s]
      show uN (if i = m then w else _) = _
      by_cases q : i = m
      · rw [if_pos q, hv, q]
      · rw [if_neg q]; exact h1 i (by omega)
    · rw [vu_s]
      exact (if_neg (by omega)).trans (h2 i (by omega))
theorem mka_v (c : Bool) (mo d : Nat) (S : StT) : MV c (msmall_f mo d (if (nI (bN c)) ≠ 0 then 39081 else 121665) S).1 mo d (ka c) ∧ MF mo d (msmall_f mo d (if (nI (bN c)) ≠ 0 then 39081 else 121665) S).1 S.1 ∧ (msmall_f mo d (if (nI (bN c)) ≠ 0 then 39081 else 121665) S).2 = S.2 := by
  obtain ⟨h1, h2, h3⟩ := msmall_m mo d (if (nI (bN c)) ≠ 0 then 39081 else 121665) S
  refine ⟨?_, h2, h3⟩
  have e : (ka c).val = uN (if (nI (bN c)) ≠ 0 then 39081 else 121665) := by
    have hv := fz_vl c (kaI c).toInt
    have e1 : (kaI c).toInt = ((uN (if (nI (bN c)) ≠ 0 then 39081 else 121665) : Nat) : Int) := by cases c <;> decide
    have hlt : uN (if (nI (bN c)) ≠ 0 then (39081 : Int32) else 121665) < nt_p c := by
      cases c
      · rw [nt_p0]; decide +kernel
      · rw [nt_p1]; decide +kernel
    rw [e1, Int.emod_eq_of_lt (by omega) (by omega)] at hv
    have hk : ka c = fz c ((uN (if (nI (bN c)) ≠ 0 then 39081 else 121665) : Nat) : Int) := by
      unfold ka
      rw [e1]
    rw [hk]
    omega
  unfold MV
  rw [e]
  exact h1
theorem mlad_m (c : Bool) (mo : Nat) (bs : Bool) (S : StT) (hC : MC c S.1 mo) (hB1 : BY (S.1 (mo + 1)) (fB c)) (hB2 : bs = false → BY (S.1 (mo + 2)) (fB c)) :
    (∀ i, i < fB c → uN ((mlad_f c mo bs S).1 (mo + 4) i) = (ldo c (mx1 c bs (S.1 (mo + 2))) (clp c (S.1 (mo + 1)))).val / 2 ^ (8 * i) % 256) ∧ (∀ i, fB c ≤ i → (mlad_f c mo bs S).1 (mo + 4) i = S.1 (mo + 4) i) ∧ (∀ r, r ≠ mo + 4 → r ≠ mo + 7 → r ≠ mo + 9 → r ≠ mo + 20 → (mlad_f c mo bs S).1 r = S.1 r) ∧ (∀ x, ¬ mlD x → ∀ i, i < 32 → (mlad_f c mo bs S).1 (mo + 7) (32 * x + i) = S.1 (mo + 7) (32 * x + i)) ∧ (∀ r, r ≠ mo + 8 → (mlad_f c mo bs S).2.1 r = S.2.1 r) ∧ (mlad_f c mo bs S).2.2 = fs S.2.2 mo 5 (nI (fB c)) := by
  have hbN := bN_le c
  have hfB : fB c = 32 ∨ fB c = 56 := by cases c <;> decide
  obtain ⟨l1, l2⟩ := l17_lp c mo S 57 (Nat.le_refl _)
  unfold mlad_f
  dsimp only
  generalize mlad_l17 c mo S 57 = I1 at l1 l2 ⊢
  generalize hI3 : va_up I1 (mo + 20) (upd (I1 (mo + 20)) 0 ((I1 (mo + 20) 0) &&& (nI (if (nI (bN c)) ≠ 0 then 252 else 248)))) = I3
  generalize hI5 : va_up I3 (mo + 20) (upd (I3 (mo + 20)) (fB c - 1) ((if (nI (bN c)) ≠ 0 then (I3 (mo + 20) (fB c - 1)) ||| (nI (128)) else ((I3 (mo + 20) (fB c - 1)) &&& (nI (127))) ||| (nI (64))))) = I5
  have k5 : ∀ r, r ≠ mo + 20 → I5 r = S.1 r := by
    intro r hr
    rw [← hI5, ← hI3]
    exact (vu_n hr).trans ((vu_n hr).trans (l2 r hr))
  have c5 : ∀ j, j < fB c → I5 (mo + 20) j = clp c (S.1 (mo + 1)) j := by
    intro j hj
    have e3 : ∀ j, j < fB c → I3 (mo + 20) j = if j = 0 then S.1 (mo + 1) 0 &&& nI (if (nI (bN c)) ≠ 0 then 252 else 248) else S.1 (mo + 1) j := by
      intro j hj
      rw [← hI3, vu_s]
      show (if j = 0 then (I1 (mo + 20) 0) &&& (nI (if (nI (bN c)) ≠ 0 then 252 else 248)) else I1 (mo + 20) j) = _
      rw [l1 0 (by omega) (by omega), l1 j (by omega) hj]
    rw [← hI5, vu_s]
    show (if j = fB c - 1 then (if (nI (bN c)) ≠ 0 then (I3 (mo + 20) (fB c - 1)) ||| (nI (128)) else ((I3 (mo + 20) (fB c - 1)) &&& (nI (127))) ||| (nI (64))) else I3 (mo + 20) j) = _
    rw [e3 (fB c - 1) (by omega), e3 j hj, if_neg (show ¬ (fB c - 1 = 0) by omega)]
    unfold clp
    by_cases h0 : j = 0
    · rw [if_neg (by omega), if_pos h0, if_pos h0]
      cases c <;> rfl
    · rw [if_neg h0, if_neg h0]
      by_cases h5 : j = fB c - 1
      · rw [if_pos h5, if_pos h5, h5]
        cases c <;> rfl
      · rw [if_neg h5, if_neg h5]
  clear hI3 hI5
  obtain ⟨z1, z2⟩ := l125_lp mo (I5, S.2.1, S.2.2)
  have z3 : ∀ r, r ≠ mo + 8 → mlad_l125 mo (I5, S.2.1, S.2.2) 64 r = S.2.1 r := z2
  generalize mlad_l125 mo (I5, S.2.1, S.2.2) 64 = J1 at z1 z3 ⊢
  have e2 : I5 (mo + 2) = S.1 (mo + 2) := k5 (mo + 2) (by omega)
  obtain ⟨w1, w2, w3⟩ := l146_lp c mo bs (I5, J1, S.2.2) z1 (fun i hi => by show uN (msb c bs (I5 (mo + 2)) i) < 256; rw [e2]; exact msb_by hB2 i hi) (fB c) (Nat.le_refl _)
  have w4 : rv 16 (ri (mlad_l146 c mo bs (I5, J1, S.2.2) (fB c)) (mo + 8)) 64 = (rvN 256 (fun i => uN (msb c bs (S.1 (mo + 2)) i)) (fB c) : Int) := by
    rw [w2]
    show (rvN 256 (fun i => uN (msb c bs (I5 (mo + 2)) i)) (fB c) : Int) = _
    rw [e2]
  have w5 : ∀ r, r ≠ mo + 8 → mlad_l146 c mo bs (I5, J1, S.2.2) (fB c) r = S.2.1 r := fun r hr => (w3 r hr).trans (z3 r hr)
  clear w2 w3
  generalize mlad_l146 c mo bs (I5, J1, S.2.2) (fB c) = J2 at w1 w4 w5 ⊢
  have hpn2 : 2 * pN c = fB c ∨ 2 * pN c = fB c + 0 := by cases c <;> decide
  have hpn := pN_b c
  have C5 : MC c I5 mo := by
    refine ⟨⟨hC.1.1, fun i hi => ?_⟩, ⟨hC.2.1, fun i hi => ?_⟩⟩
    · rw [← hC.1.2 i hi]; unfold mq; rw [k5 (mo + 7) (by omega)]
    · rw [← hC.2.2 i hi]; unfold mq; rw [k5 (mo + 7) (by omega)]
  have hbd : ∀ k, k < 64 → 0 ≤ ri J2 (mo + 8) k ∧ ri J2 (mo + 8) k ≤ 65535 := by
    intro k hk
    obtain ⟨q1, q2⟩ := w1 k hk
    exact ⟨q1, Int.le_trans q2 (by split; decide; split <;> decide)⟩
  have hzz : ∀ k, 2 * pN c ≤ k → k < 64 → ri J2 (mo + 8) k = 0 := by
    intro k h1 h2
    obtain ⟨q1, q2⟩ := w1 k h2
    rw [if_neg (by omega), if_neg (by omega)] at q2
    omega
  obtain ⟨f1, f2, f3, f4⟩ := mfold_m c mo 46 (I5, J2, S.2.2) (u := mx1 c bs (S.1 (mo + 2))) (by omega) C5.1 (fun k hk => by
    have := hbd k (by omega)
    show 0 ≤ ri J2 (mo + 8) k ∧ ri J2 (mo + 8) k ≤ 2 ^ 38
    omega) (by
    show fz c (rv 16 (ri J2 (mo + 8)) (2 * pN c)) = _
    rw [← rv_zero 16 (ri J2 (mo + 8)) (2 * pN c) 64 (fun k h1 h2 => hzz k h1 h2) (by omega), w4, msb_val c bs hB2])
  have x6 : MX mo mlD ((mfold_f c mo 46 (I5, J2, S.2.2)).1, (mfold_f c mo 46 (I5, J2, S.2.2)).2.1, S.2.2) (I5, S.2.1, S.2.2) := MX_of (D := mlD) (d := 46) (by unfold mlD; omega) f2 (fun r hr => (f3 r hr).trans (w5 r hr)) rfl
  have f5 : MV c (mfold_f c mo 46 (I5, J2, S.2.2)).1 mo 46 (mx1 c bs (S.1 (mo + 2))) := f1
  clear f1 f2 f3 f4 w1 w4 w5 hbd hzz z1 z3
  generalize mfold_f c mo 46 (I5, J2, S.2.2) = S6 at f5 x6 ⊢
  generalize hx1 : mx1 c bs (S.1 (mo + 2)) = x1 at f5 ⊢
  have bump : ∀ T U : StT, MX mo mlD T U → MX mo mlD U (I5, S.2.1, S.2.2) → MX mo mlD (T.1, T.2.1, S.2.2) (I5, S.2.1, S.2.2) := fun T U q1 q2 => ⟨fun r a b => (q1.1 r a b).trans (q2.1 r a b), fun x hx j hj => (q1.2.1 x hx j hj).trans (q2.2.1 x hx j hj), fun r hr => (q1.2.2.1 r hr).trans (q2.2.2.1 r hr), rfl⟩
  obtain ⟨a1, a2, a3⟩ := mone_v c mo 21 (S6.1, S6.2.1, S.2.2)
  have x7 := bump _ _ (MX_of2 (D := mlD) (d := 21) (by unfold mlD; omega) a2 a3) x6
  have f7 : MV c (msmall_f mo 21 (nI 1) (S6.1, S6.2.1, S.2.2)).1 mo 46 x1 := MV_fr a2 (by decide) f5
  generalize msmall_f mo 21 (nI 1) (S6.1, S6.2.1, S.2.2) = S7 at a1 x7 f7 ⊢
  obtain ⟨b1, b2, b3⟩ := mzero_v c mo 22 (S7.1, S7.2.1, S.2.2)
  have x8 := bump _ _ (MX_of2 (D := mlD) (d := 22) (by unfold mlD; omega) b2 b3) x7
  have f8 : MV c (mzero_f mo 22 (S7.1, S7.2.1, S.2.2)).1 mo 46 x1 := MV_fr b2 (by decide) f7
  have g8 : MV c (mzero_f mo 22 (S7.1, S7.2.1, S.2.2)).1 mo 21 1 := MV_fr b2 (by decide) a1
  generalize mzero_f mo 22 (S7.1, S7.2.1, S.2.2) = S8 at b1 x8 f8 g8 ⊢
  obtain ⟨c1, c2, c3⟩ := mcopy_v c mo 40 46 (S8.1, S8.2.1, S.2.2) f8
  have x9 := bump _ _ (MX_of2 (D := mlD) (d := 40) (by unfold mlD; omega) c2 c3) x8
  have f9 : MV c (mcopy_f mo 40 46 (S8.1, S8.2.1, S.2.2)).1 mo 46 x1 := MV_fr c2 (by decide) f8
  have g9 : MV c (mcopy_f mo 40 46 (S8.1, S8.2.1, S.2.2)).1 mo 21 1 := MV_fr c2 (by decide) g8
  have h9 : MV c (mcopy_f mo 40 46 (S8.1, S8.2.1, S.2.2)).1 mo 22 0 := MV_fr c2 (by decide) b1
  generalize mcopy_f mo 40 46 (S8.1, S8.2.1, S.2.2) = S9 at c1 x9 f9 g9 h9 ⊢
  obtain ⟨d1, d2, d3⟩ := mone_v c mo 41 (S9.1, S9.2.1, S.2.2)
  have x10 := bump _ _ (MX_of2 (D := mlD) (d := 41) (by unfold mlD; omega) d2 d3) x9
  have f10 : MV c (msmall_f mo 41 (nI 1) (S9.1, S9.2.1, S.2.2)).1 mo 46 x1 := MV_fr d2 (by decide) f9
  have g10 : MV c (msmall_f mo 41 (nI 1) (S9.1, S9.2.1, S.2.2)).1 mo 21 1 := MV_fr d2 (by decide) g9
  have h10 : MV c (msmall_f mo 41 (nI 1) (S9.1, S9.2.1, S.2.2)).1 mo 22 0 := MV_fr d2 (by decide) h9
  have i10 : MV c (msmall_f mo 41 (nI 1) (S9.1, S9.2.1, S.2.2)).1 mo 40 x1 := MV_fr d2 (by decide) c1
  generalize msmall_f mo 41 (nI 1) (S9.1, S9.2.1, S.2.2) = S10 at d1 x10 f10 g10 h10 i10 ⊢
  obtain ⟨e1, e2', e3⟩ := mka_v c mo 47 (S10.1, S10.2.1, S.2.2)
  have x12 := bump _ _ (MX_of2 (D := mlD) (d := 47) (by unfold mlD; omega) e2' e3) x10
  have f12 : MV c (msmall_f mo 47 (if (nI (bN c)) ≠ 0 then 39081 else 121665) (S10.1, S10.2.1, S.2.2)).1 mo 46 x1 := MV_fr e2' (by decide) f10
  have g12 : MV c (msmall_f mo 47 (if (nI (bN c)) ≠ 0 then 39081 else 121665) (S10.1, S10.2.1, S.2.2)).1 mo 21 1 := MV_fr e2' (by decide) g10
  have h12 : MV c (msmall_f mo 47 (if (nI (bN c)) ≠ 0 then 39081 else 121665) (S10.1, S10.2.1, S.2.2)).1 mo 22 0 := MV_fr e2' (by decide) h10
  have i12 : MV c (msmall_f mo 47 (if (nI (bN c)) ≠ 0 then 39081 else 121665) (S10.1, S10.2.1, S.2.2)).1 mo 40 x1 := MV_fr e2' (by decide) i10
  have j12 : MV c (msmall_f mo 47 (if (nI (bN c)) ≠ 0 then 39081 else 121665) (S10.1, S10.2.1, S.2.2)).1 mo 41 1 := MV_fr e2' (by decide) d1
  generalize msmall_f mo 47 (if (nI (bN c)) ≠ 0 then 39081 else 121665) (S10.1, S10.2.1, S.2.2) = S12 at e1 x12 f12 g12 h12 i12 j12 ⊢
  have r20 : S12.1 (mo + 20) = I5 (mo + 20) := x12.1 (mo + 20) (by omega) (by omega)
  have hB20 : BY (S12.1 (mo + 20)) (fB c) := fun j hj => by rw [r20, c5 j hj]; exact clp_by hB1 j hj
  have p12 : MD S12.1 mo (9 + bN c) (nt_p c) := MD_mx (T := (S12.1, S12.2.1, S.2.2)) x12 (by unfold mlD; omega) C5.1
  obtain ⟨⟨t1, t2, _, _⟩, t5⟩ := mlad_lp c mo (S12.1, S12.2.1, S.2.2) hB20 p12 f12 e1 g12 h12 i12 j12 (ldN c)
  have t6 := MX_tr (MX_le (E := mlD) (fun x hx => by unfold mhD at hx; unfold mlD; omega) t5) x12
  have eL : ldv c x1 (S12.1 (mo + 20)) (ldN c) = ldv c x1 (clp c (S.1 (mo + 1))) (ldN c) := ldv_congr (fun j hj => by rw [r20]; exact c5 j hj) _
  have t1' : MV c (mlad_l310 c mo (S12.1, S12.2.1, S.2.2) (ldN c)).1 mo 21 (ldv c x1 (clp c (S.1 (mo + 1))) (ldN c)).1.1 := by rw [← eL]; exact t1
  have t2' : MV c (mlad_l310 c mo (S12.1, S12.2.1, S.2.2) (ldN c)).1 mo 22 (ldv c x1 (clp c (S.1 (mo + 1))) (ldN c)).1.2 := by rw [← eL]; exact t2
  clear t1 t2 t5
  have ho : ldo c x1 (clp c (S.1 (mo + 1))) = (ldv c x1 (clp c (S.1 (mo + 1))) (ldN c)).1.1 * fp_iv c (ldv c x1 (clp c (S.1 (mo + 1))) (ldN c)).1.2 := rfl
  rw [ho]
  generalize ldv c x1 (clp c (S.1 (mo + 1))) (ldN c) = V at t1' t2' ⊢
  generalize mlad_l310 c mo (S12.1, S12.2.1, S.2.2) (ldN c) = L at t1' t2' t6 ⊢
  have pL : MD L.1 mo (9 + bN c) (nt_p c) := MD_mx (T := (L.1, L.2, S.2.2)) t6 (by unfold mlD; omega) C5.1
  obtain ⟨n1, n2⟩ := minv_m c mo 22 22 (L.1, L.2, S.2.2) pL (by omega) t2'
  have x14 := bump _ _ (MX_le (E := mlD) (fun x hx => by unfold mlD; omega) n2) t6
  have g14 : MV c (minv_f c mo 22 22 (L.1, L.2, S.2.2)).1 mo 21 V.1.1 := MV_mx n2 (by omega) t1'
  generalize minv_f c mo 22 22 (L.1, L.2, S.2.2) = S14 at n1 x14 g14 ⊢
  have p14 : MD S14.1 mo (9 + bN c) (nt_p c) := MD_mx (T := (S14.1, S14.2.1, S.2.2)) x14 (by unfold mlD; omega) C5.1
  obtain ⟨o1, o2, o3, o4⟩ := mmul_m c mo 21 21 22 (S14.1, S14.2.1, S.2.2) (by omega) p14 g14 n1
  have x15 := bump _ _ (MX_of (D := mlD) (d := 21) (by unfold mlD; omega) o2 o3 o4) x14
  generalize mmul_f c mo 21 21 22 (S14.1, S14.2.1, S.2.2) = S15 at o1 x15 ⊢
  generalize V.1.1 * fp_iv c V.1.2 = O at o1 ⊢
  obtain ⟨u1, u2, u3⟩ := l388_lp mo (S15.1, S15.2.1, S.2.2) o1 (fB c) (by omega)
  have v3 : ∀ r, r ≠ mo + 4 → mlad_l388 mo (S15.1, S15.2.1, S.2.2) (fB c) r = S15.1 r := u3
  have v2 : ∀ i, fB c ≤ i → mlad_l388 mo (S15.1, S15.2.1, S.2.2) (fB c) (mo + 4) i = S15.1 (mo + 4) i := u2
  refine ⟨u1, fun i hi => ?_, fun r h4 h7 h9 h20 => ?_, fun x hx i hi => ?_, x15.2.2.1, rfl⟩
  · rw [v2 i hi]
    have := x15.1 (mo + 4) (by omega) (by omega)
    show S15.1 (mo + 4) i = _
    rw [show S15.1 (mo + 4) = I5 (mo + 4) from this, k5 (mo + 4) (by omega)]
  · rw [v3 r h4]
    exact (x15.1 r h7 h9).trans (k5 r h20)
  · show mlad_l388 mo (S15.1, S15.2.1, S.2.2) (fB c) (mo + 7) (32 * x + i) = _
    rw [v3 (mo + 7) (by omega)]
    refine (x15.2.1 x hx i hi).trans ?_
    show I5 (mo + 7) (32 * x + i) = _
    rw [k5 (mo + 7) (by omega)]
end
