section
/-! SCALARS OF THE MODEL. -/
theorem mdbl_lp (c : Bool) (mo da nb nn t : Nat) (y0 : StT) (v : Int32) (S : StT) (hp : ∀ i, i < 32 → mq S.1 mo 53 i < 2 ^ 16) (hm : 0 ≤ v.toInt ∧ v.toInt ≤ 1) : ∀ n, n ≤ 28 →
    (mmod_l47 c mo da nb nn t y0 v S v n).1.toInt = cy 16 (fun i => 2 * (mq S.1 mo 53 i : Int) + (if i = 0 then v.toInt else 0)) n + (if n = 0 then v.toInt else 0) ∧ (0 ≤ (mmod_l47 c mo da nb nn t y0 v S v n).1.toInt ∧ (mmod_l47 c mo da nb nn t y0 v S v n).1.toInt ≤ 1) ∧ (∀ k, k < n → (mq (mmod_l47 c mo da nb nn t y0 v S v n).2 mo 53 k : Int) = (2 * (mq S.1 mo 53 k : Int) + (if k = 0 then v.toInt else 0) + cy 16 (fun i => 2 * (mq S.1 mo 53 i : Int) + (if i = 0 then v.toInt else 0)) k) % 2 ^ 16) ∧ (∀ k, n ≤ k → k < 32 → (mmod_l47 c mo da nb nn t y0 v S v n).2 (mo + 7) (1696 + k) = S.1 (mo + 7) (1696 + k)) ∧ MF mo 53 (mmod_l47 c mo da nb nn t y0 v S v n).2 S.1 := by
  intro n
  induction n with
  | zero => exact fun _ => ⟨by show v.toInt = 0 + (if 0 = 0 then v.toInt else 0); rw [if_pos rfl]; omega, hm, fun k hk => absurd hk (Nat.not_lt_zero _), fun _ _ _ => rfl, MF_rfl _ _ _⟩
  | succ n ih =>
    intro hn
    obtain ⟨h1, h2, h3, h4, h5⟩ := ih (by omega)
    have st : mmod_l47 c mo da nb nn t y0 v S v (n + 1) = ((((nI (2)) * ((mmod_l47 c mo da nb nn t y0 v S v n).2 (mo + 7) (1696 + n))) + ((mmod_l47 c mo da nb nn t y0 v S v n).1)) >>> ((nI (16)) &&& 31), va_up (mmod_l47 c mo da nb nn t y0 v S v n).2 (mo + 7) (upd ((mmod_l47 c mo da nb nn t y0 v S v n).2 (mo + 7)) (1696 + n) ((((nI (2)) * ((mmod_l47 c mo da nb nn t y0 v S v n).2 (mo + 7) (1696 + n))) + ((mmod_l47 c mo da nb nn t y0 v S v n).1)) &&& (65535)))) := rfl
    rw [h4 n (Nat.le_refl _) (by omega)] at st
    rw [st]
    clear st
    have lp : uN (S.1 (mo + 7) (1696 + n)) < 2 ^ 16 := hp n (by omega)
    have qp : (mq S.1 mo 53 n : Int) = (uN (S.1 (mo + 7) (1696 + n)) : Int) := rfl
    have cs : cy 16 (fun i => 2 * (mq S.1 mo 53 i : Int) + (if i = 0 then v.toInt else 0)) (n + 1) = (2 * (mq S.1 mo 53 n : Int) + (if n = 0 then v.toInt else 0) + cy 16 (fun i => 2 * (mq S.1 mo 53 i : Int) + (if i = 0 then v.toInt else 0)) n) / 2 ^ 16 := rfl
    generalize (mmod_l47 c mo da nb nn t y0 v S v n).1 = z at h1 h2 ⊢
    generalize (mmod_l47 c mo da nb nn t y0 v S v n).2 = Y at h3 h4 h5 ⊢
    have t0 : (nI 2 * S.1 (mo + 7) (1696 + n)).toInt = 2 * (uN (S.1 (mo + 7) (1696 + n)) : Int) := by
      rw [Int32.toInt_mul, uN_int (x := S.1 (mo + 7) (1696 + n)) (by omega), show (nI 2).toInt = 2 from by decide]
      exact Int.bmod_eq_of_le (by omega) (by omega)
    have tt : (nI 2 * S.1 (mo + 7) (1696 + n) + z).toInt = 2 * (uN (S.1 (mo + 7) (1696 + n)) : Int) + z.toInt := by
      rw [i_add, t0]
      · rw [t0]; omega
      · rw [t0]; omega
    generalize nI 2 * S.1 (mo + 7) (1696 + n) + z = w at tt ⊢
    have t : w.toInt = 2 * (mq S.1 mo 53 n : Int) + (if n = 0 then v.toInt else 0) + cy 16 (fun i => 2 * (mq S.1 mo 53 i : Int) + (if i = 0 then v.toInt else 0)) n := by
      rw [tt, h1, qp]
      omega
    refine ⟨?_, ?_, fun k hk => ?_, fun k h6 h7 => ?_, MF_tr (mf_up Y mo 53 n _ (by omega)) h5⟩
    · show (w >>> (nI 16 &&& 31)).toInt = _
      rw [i_shr, cs, ← t, if_neg (by omega)]
      omega
    · show 0 ≤ (w >>> (nI 16 &&& 31)).toInt ∧ (w >>> (nI 16 &&& 31)).toInt ≤ 1
      rw [i_shr]
      omega
    · show (mq (va_up Y (mo + 7) (upd (Y (mo + 7)) (32 * 53 + n) (w &&& 65535))) mo 53 k : Int) = _
      rw [mq_up]
      by_cases e : k = n
      · rw [if_pos (by omega), lit65, i_and, t, e]
      · rw [if_neg (by omega)]
        exact h3 k (by omega)
    · show va_up Y (mo + 7) (upd (Y (mo + 7)) (1696 + n) _) (mo + 7) (1696 + k) = _
      rw [vu_s]
      exact (if_neg (by omega)).trans (h4 k (by omega) h7)
theorem mdbl_m (c : Bool) (mo da nb nn t : Nat) (y0 : StT) (v : Int32) (S : StT) {R b : Nat} (hR : MD S.1 mo 53 R) (hR2 : 2 * R + b < 2 ^ 448) (hv : v.toInt = (b : Int)) (hb : b ≤ 1) :
    MD (mmod_l47 c mo da nb nn t y0 v S v 28).2 mo 53 (2 * R + b) ∧ MF mo 53 (mmod_l47 c mo da nb nn t y0 v S v 28).2 S.1 := by
  obtain ⟨h1, h2, h3, h4, h5⟩ := mdbl_lp c mo da nb nn t y0 v S (fun i hi => MD_lt hR hi) (by omega) 28 (Nat.le_refl _)
  refine ⟨?_, h5⟩
  have hs := cy_sum 16 (fun i => 2 * (mq S.1 mo 53 i : Int) + (if i = 0 then v.toInt else 0)) 28
  rw [rv_add 16 (fun i => 2 * (mq S.1 mo 53 i : Int)) (fun i => if i = 0 then v.toInt else 0) 28, rv_smul 16 2 (fun i => (mq S.1 mo 53 i : Int)) 28, rv_nat (b := 16) (g := mq S.1 mo 53) 28 (fun _ _ => rfl), MD_28 hR, rv_one 16 v.toInt 27, hv] at hs
  rw [hv] at h1 h3
  have q1 : ∀ k, k < 28 → mq (mmod_l47 c mo da nb nn t y0 v S v 28).2 mo 53 k < 2 ^ 16 := by
    intro k hk
    have e := h3 k hk
    have e2 : ((mq (mmod_l47 c mo da nb nn t y0 v S v 28).2 mo 53 k : Nat) : Int) < 2 ^ 16 := by
      rw [e]
      exact Int.emod_lt_of_pos _ (by decide)
    omega
  have q2 : ∀ k, 28 ≤ k → k < 32 → mq (mmod_l47 c mo da nb nn t y0 v S v 28).2 mo 53 k = 0 := by
    intro k h6 h7
    have e : mq (mmod_l47 c mo da nb nn t y0 v S v 28).2 mo 53 k = mq S.1 mo 53 k := congrArg uN (h4 k h6 h7)
    rw [e, hR.2 k h7, Nat.div_eq_of_lt (Nat.lt_of_lt_of_le hR.1 (Nat.pow_le_pow_right (by decide) (by omega)))]
  have e1 : rv 16 (fun i => (2 * (mq S.1 mo 53 i : Int) + (if i = 0 then (b : Int) else 0) + cy 16 (fun i => 2 * (mq S.1 mo 53 i : Int) + (if i = 0 then (b : Int) else 0)) i) % 2 ^ 16) 28 = (rvN (2 ^ 16) (mq (mmod_l47 c mo da nb nn t y0 v S v 28).2 mo 53) 28 : Int) := rv_nat 28 (fun i hi => (h3 i hi).symm)
  have md := MD_of q1 q2
  rw [e1] at hs
  have hval : rvN (2 ^ 16) (mq (mmod_l47 c mo da nb nn t y0 v S v 28).2 mo 53) 28 = 2 * R + b := by
    generalize cy 16 (fun i => 2 * (mq S.1 mo 53 i : Int) + (if i = 0 then (b : Int) else 0)) 28 = z at hs
    have hl := md.1
    generalize rvN (2 ^ 16) (mq (mmod_l47 c mo da nb nn t y0 v S v 28).2 mo 53) 28 = V at hs hl ⊢
    have ep : (2 : Int) ^ (16 * 28) = ((2 ^ 448 : Nat) : Int) := by rw [Int.natCast_pow]; rfl
    rw [ep] at hs
    generalize 2 ^ 448 = P at hs hl hR2
    rcases i_lg z 0 with q | q
    · have q2 : (z + 1) * (P : Int) ≤ 0 := Int.mul_nonpos_of_nonpos_of_nonneg (by omega) (by omega)
      rw [Int.add_mul, Int.one_mul] at q2
      omega
    · rcases i_lg z 1 with q3 | q3
      · have : z = 0 := by omega
        rw [this] at hs
        omega
      · have q2 : 1 * (P : Int) ≤ z * (P : Int) := Int.mul_le_mul_of_nonneg_right q3 (by omega)
        omega
  rw [hval] at md
  exact md
theorem gO_448 (c : Bool) : 2 * gO c < 2 ^ 448 := by cases c <;> decide +kernel
theorem uN_bit (x : Int32) : uN (x &&& nI 1) < 2 := by
  have e1 : uN (x &&& nI (2 ^ 1 - 1)) = uN x % 2 ^ 1 := uN_and (by decide)
  have e2 : uN (x &&& nI 1) = uN x % 2 ^ 1 := e1
  omega
/-- the bytes nb of a row, modulo the order -/
theorem mmod_lp (c : Bool) (mo da nb nn : Nat) (S : StT) (hnb : nb ≠ mo + 7) (hB : BY (S.1 nb) nn) (h0 : MD S.1 mo 53 0) (hO : MD S.1 mo (19 + bN c) (gO c)) : ∀ i, i ≤ 8 * nn →
    MD (mmod_l23 c mo da nb nn S i).1 mo 53 (bv (S.1 nb) nn / 2 ^ (8 * nn - i) % gO c) ∧ MF mo 53 (mmod_l23 c mo da nb nn S i).1 S.1 ∧ (mmod_l23 c mo da nb nn S i).2 = S.2 := by
  have hbN := bN_le c
  have hG := gO_448 c
  have hG1 := (gO_lt c).2
  have hN := bv_lt hB
  intro i
  induction i with
  | zero =>
    intro _
    rw [Nat.sub_zero, Nat.div_eq_of_lt hN, Nat.zero_mod]
    exact ⟨h0, MF_rfl _ _ _, rfl⟩
  | succ i ih =>
    intro hi
    obtain ⟨i1, i2, i3⟩ := ih (by omega)
    have er : (mmod_l23 c mo da nb nn S i).1 nb = S.1 nb := i2.1 nb hnb
    have hbit := bit8 (N := bv (S.1 nb) nn) (j := 8 * nn - 1 - i) (bv_dig hB (i := (8 * nn - 1 - i) / 8) (by omega))
    have st : mmod_l23 c mo da nb nn S (i + 1) = (if ((atLeast_f (mo) (53) (19 + (bN c)) ((mmod_l47 c mo da nb nn i (mmod_l23 c mo da nb nn S i) ((((mmod_l23 c mo da nb nn S i).1 (nb) (((8 * nn) - 1 - i) / 2 ^ 3)) >>> ((nI (((8 * nn) - 1 - i) % 2 ^ 3)) &&& 31)) &&& (nI (1))) (mmod_l23 c mo da nb nn S i) ((((mmod_l23 c mo da nb nn S i).1 (nb) (((8 * nn) - 1 - i) / 2 ^ 3)) >>> ((nI (((8 * nn) - 1 - i) % 2 ^ 3)) &&& 31)) &&& (nI (1))) 28).2, (mmod_l23 c mo da nb nn S i).2.1, (mmod_l23 c mo da nb nn S i).2.2)).1) = 0 then ((mmod_l47 c mo da nb nn i (mmod_l23 c mo da nb nn S i) ((((mmod_l23 c mo da nb nn S i).1 (nb) (((8 * nn) - 1 - i) / 2 ^ 3)) >>> ((nI (((8 * nn) - 1 - i) % 2 ^ 3)) &&& 31)) &&& (nI (1))) (mmod_l23 c mo da nb nn S i) ((((mmod_l23 c mo da nb nn S i).1 (nb) (((8 * nn) - 1 - i) / 2 ^ 3)) >>> ((nI (((8 * nn) - 1 - i) % 2 ^ 3)) &&& 31)) &&& (nI (1))) 28).2, (mmod_l23 c mo da nb nn S i).2.1, (mmod_l23 c mo da nb nn S i).2.2) else takeOff_f (mo) (53) (19 + (bN c)) ((mmod_l47 c mo da nb nn i (mmod_l23 c mo da nb nn S i) ((((mmod_l23 c mo da nb nn S i).1 (nb) (((8 * nn) - 1 - i) / 2 ^ 3)) >>> ((nI (((8 * nn) - 1 - i) % 2 ^ 3)) &&& 31)) &&& (nI (1))) (mmod_l23 c mo da nb nn S i) ((((mmod_l23 c mo da nb nn S i).1 (nb) (((8 * nn) - 1 - i) / 2 ^ 3)) >>> ((nI (((8 * nn) - 1 - i) % 2 ^ 3)) &&& 31)) &&& (nI (1))) 28).2, (mmod_l23 c mo da nb nn S i).2.1, (mmod_l23 c mo da nb nn S i).2.2)) := rfl
    rw [er] at st
    rw [st]
    clear st
    have hub := uN_bit ((S.1 (nb) (((8 * nn) - 1 - i) / 2 ^ 3)) >>> ((nI (((8 * nn) - 1 - i) % 2 ^ 3)) &&& 31))
    generalize (((S.1 (nb) (((8 * nn) - 1 - i) / 2 ^ 3)) >>> ((nI (((8 * nn) - 1 - i) % 2 ^ 3)) &&& 31)) &&& (nI (1))) = v at hbit hub ⊢
    generalize mmod_l23 c mo da nb nn S i = Y at i1 i2 i3 ⊢
    have e2 : bv (S.1 nb) nn / 2 ^ (8 * nn - i) = bv (S.1 nb) nn / 2 ^ (8 * nn - 1 - i) / 2 := by
      rw [show 8 * nn - i = (8 * nn - 1 - i) + 1 from by omega, Nat.pow_succ, Nat.div_div_eq_div_mul]
    rw [e2] at i1
    rw [show 8 * nn - (i + 1) = 8 * nn - 1 - i from by omega]
    generalize bv (S.1 nb) nn / 2 ^ (8 * nn - 1 - i) = n at i1 hbit ⊢
    have hvb : uN v = n % 2 := by
      by_cases q : n % 2 = 0
      · have h1 := hbit.mpr q
        rcases Nat.lt_or_ge (uN v) 1 with z | z
        · omega
        · exact absurd (uN_ext (show uN v = uN (nI 1) by rw [show uN (nI 1) = 1 from by decide]; omega)) h1
      · have h1 : ¬ (v ≠ nI 1) := fun h => q (hbit.mp h)
        have h2 : v = nI 1 := Classical.byContradiction (fun h => h1 h)
        rw [h2, show uN (nI 1) = 1 from by decide]
        omega
    have hRl : n / 2 % gO c < gO c := Nat.mod_lt _ (by omega)
    obtain ⟨d1, d2⟩ := mdbl_m c mo da nb nn i Y v Y (b := n % 2) i1 (by omega) (by rw [uN_int (by omega), hvb]) (by omega)
    generalize (mmod_l47 c mo da nb nn i Y v Y v 28).2 = I1 at d1 d2 ⊢
    have dF : MF mo 53 I1 S.1 := MF_tr d2 i2
    have hO1 : MD I1 mo (19 + bN c) (gO c) := MD_fr dF (by omega) hO
    obtain ⟨a1, _⟩ := atLeast_m mo 53 (19 + bN c) (I1, Y.2.1, Y.2.2) d1 hO1
    rw [a1]
    have e3 : n % gO c = (2 * (n / 2 % gO c) + n % 2) % gO c := by
      have h1 := Nat.div_add_mod n 2
      have h2 := Nat.div_add_mod (n / 2) (gO c)
      have e : n = (2 * (n / 2 % gO c) + n % 2) + gO c * (2 * (n / 2 / gO c)) := by
        have e4 : gO c * (2 * (n / 2 / gO c)) = 2 * (gO c * (n / 2 / gO c)) := Nat.mul_left_comm _ _ _
        rw [e4]
        omega
      exact (congrArg (· % gO c) e).trans (Nat.add_mul_mod_self_left _ _ _)
    by_cases h : gO c ≤ 2 * (n / 2 % gO c) + n % 2
    · rw [if_pos h, if_neg (by decide)]
      obtain ⟨t1, t2, t3⟩ := takeOff_m mo 53 (19 + bN c) (I1, Y.2.1, Y.2.2) d1 hO1 (by omega) h
      have e4 : 2 * (n / 2 % gO c) + n % 2 - gO c = n % gO c := by
        rw [e3]
        generalize n / 2 % gO c = R at hRl h ⊢
        rw [Nat.mod_eq_sub_mod h, Nat.mod_eq_of_lt (show 2 * R + n % 2 - gO c < gO c by omega)]
      rw [e4] at t1
      exact ⟨t1, MF_tr t2 dF, t3.trans i3⟩
    · rw [if_neg h, if_pos (by decide), e3, Nat.mod_eq_of_lt (show 2 * (n / 2 % gO c) + n % 2 < gO c by omega)]
      exact ⟨d1, dF, i3⟩
theorem mmod_out (c : Bool) (mo da nb nn : Nat) (S : StT) {n : Nat} (hda : da ≠ mo + 7) (h : MD S.1 mo 53 n) : ∀ m, m ≤ 57 → (∀ i, i < m → uN (mmod_l129 c mo da nb nn S m da i) = n / 2 ^ (8 * i) % 256) ∧ (∀ i, m ≤ i → mmod_l129 c mo da nb nn S m da i = S.1 da i) ∧ ∀ r, r ≠ da → mmod_l129 c mo da nb nn S m r = S.1 r := by
  intro m
  induction m with
  | zero => exact fun _ => ⟨fun i hi => absurd hi (Nat.not_lt_zero _), fun _ _ => rfl, fun _ _ => rfl⟩
  | succ m ih =>
    intro hm
    obtain ⟨h1, h2, h3⟩ := ih (by omega)
    have st : mmod_l129 c mo da nb nn S (m + 1) = va_up (mmod_l129 c mo da nb nn S m) da (upd (mmod_l129 c mo da nb nn S m da) m ((if (nI (56)) ≤ (nI m) then nI (0) else ((mmod_l129 c mo da nb nn S m (mo + 7) (1696 + (m / 2 ^ 1))) >>> ((nI (8 * (m % 2 ^ 1))) &&& 31)) &&& (nI (255))))) := rfl
    rw [h3 (mo + 7) (Ne.symm hda)] at st
    rw [st]
    clear st
    have hv : uN (if (nI (56)) ≤ (nI m) then nI (0) else ((S.1 (mo + 7) (1696 + (m / 2 ^ 1))) >>> ((nI (8 * (m % 2 ^ 1))) &&& 31)) &&& (nI (255))) = n / 2 ^ (8 * m) % 256 := by
      by_cases q : 56 ≤ m
      · rw [if_pos ((nle (by omega) (by omega)).mpr q), Nat.div_eq_of_lt (Nat.lt_of_lt_of_le h.1 (Nat.pow_le_pow_right (by decide) (by omega)))]
        decide
      · rw [if_neg (fun z => q ((nle (by omega) (by omega)).mp z))]
        have q3 := by_pc (a := 53) (i := m) h (by omega)
        rw [show 32 * 53 = 1696 from rfl] at q3
        exact q3
    generalize (if (nI (56)) ≤ (nI m) then nI (0) else ((S.1 (mo + 7) (1696 + (m / 2 ^ 1))) >>> ((nI (8 * (m % 2 ^ 1))) &&& 31)) &&& (nI (255))) = w at hv ⊢
    refine ⟨fun i hi => ?_, fun i hi => ?_, fun r hr => (vu_n hr).trans (h3 r hr)⟩
    · rw [vu_s]
      show uN (if i = m then w else _) = _
      by_cases q : i = m
      · rw [if_pos q, hv, q]
      · rw [if_neg q]; exact h1 i (by omega)
    · rw [vu_s]
      exact (if_neg (by omega)).trans (h2 i (by omega))
theorem mmod_m (c : Bool) (mo da nb nn : Nat) (S : StT) (hda : da ≠ mo + 7) (hnb : nb ≠ mo + 7) (hB : BY (S.1 nb) nn) (hO : MD S.1 mo (19 + bN c) (gO c)) :
    (∀ i, i < 57 → uN ((mmod_f c mo da nb nn S).1 da i) = bv (S.1 nb) nn % gO c / 2 ^ (8 * i) % 256) ∧ (∀ i, 57 ≤ i → (mmod_f c mo da nb nn S).1 da i = S.1 da i) ∧ (∀ r, r ≠ mo + 7 → r ≠ da → (mmod_f c mo da nb nn S).1 r = S.1 r) ∧ (∀ x, x ≠ 53 → ∀ i, i < 32 → (mmod_f c mo da nb nn S).1 (mo + 7) (32 * x + i) = S.1 (mo + 7) (32 * x + i)) ∧ (mmod_f c mo da nb nn S).2 = S.2 := by
  have hbN := bN_le c
  obtain ⟨z1, z2, z3⟩ := mzero_m mo 53 S
  have en : mzero_f mo 53 S = zero28_f mo 53 S := rfl
  rw [en] at z1 z2 z3
  unfold mmod_f
  obtain ⟨l1, l2, l3⟩ := mmod_lp c mo da nb nn (zero28_f mo 53 S) hnb (by rw [z2.1 nb hnb]; exact hB) z1 (MD_fr z2 (by omega) hO) (8 * nn) (Nat.le_refl _)
  rw [Nat.sub_self, Nat.pow_zero, Nat.div_one, z2.1 nb hnb] at l1
  have f2 : MF mo 53 (mmod_l23 c mo da nb nn (zero28_f mo 53 S) (8 * nn)).1 S.1 := MF_tr l2 z2
  have f3 : (mmod_l23 c mo da nb nn (zero28_f mo 53 S) (8 * nn)).2 = S.2 := l3.trans z3
  generalize mmod_l23 c mo da nb nn (zero28_f mo 53 S) (8 * nn) = T at l1 f2 f3 ⊢
  obtain ⟨o1, o2, o3⟩ := mmod_out c mo da nb nn T hda l1 57 (Nat.le_refl _)
  refine ⟨o1, fun i hi => ?_, fun r h7 hr => (o3 r hr).trans (f2.1 r h7), fun x hx i hi => ?_, by rw [f3]⟩
  · rw [show (mmod_l129 c mo da nb nn T 57, T.2.1, T.2.2).1 = mmod_l129 c mo da nb nn T 57 from rfl, o2 i hi, f2.1 da hda]
  · show mmod_l129 c mo da nb nn T 57 (mo + 7) (32 * x + i) = _
    rw [o3 (mo + 7) (Ne.symm hda)]
    exact f2.2 _ (by omega)
end
