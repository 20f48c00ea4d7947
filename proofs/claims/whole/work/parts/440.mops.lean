section
/-! THE MODEL'S FIELD. -/
theorem l214_lp (c : Bool) (mo d : Nat) (S1 S : StT) : ∀ n, n ≤ 32 → (∀ k, k < n → mq (mfold_l214 c mo d S1 S n) mo d k = uL (S.2.1 (mo + 8) k) % 2 ^ 32) ∧ (∀ k, n ≤ k → k < 32 → mq (mfold_l214 c mo d S1 S n) mo d k = mq S.1 mo d k) ∧ MF mo d (mfold_l214 c mo d S1 S n) S.1 := by
  intro n
  induction n with
  | zero => exact fun _ => ⟨fun k hk => absurd hk (Nat.not_lt_zero _), fun _ _ _ => rfl, MF_rfl _ _ _⟩
  | succ n ih =>
    intro hn
    obtain ⟨h1, h3, h2⟩ := ih (by omega)
    refine ⟨fun k hk => ?_, fun k h4 h5 => ?_, MF_tr (mf_up _ mo d n _ (by omega)) h2⟩
    · show mq (va_up (mfold_l214 c mo d S1 S n) (mo + 7) (upd (mfold_l214 c mo d S1 S n (mo + 7)) (32 * d + n) ((S.2.1 (mo + 8) n).toInt32))) mo d k = _
      rw [mq_up]
      by_cases q : k = n
      · rw [if_pos (by omega), uN_of64, q]
      · rw [if_neg (by omega)]; exact h1 k (by omega)
    · show mq (va_up (mfold_l214 c mo d S1 S n) (mo + 7) (upd (mfold_l214 c mo d S1 S n (mo + 7)) (32 * d + n) ((S.2.1 (mo + 8) n).toInt32))) mo d k = _
      rw [mq_up, if_neg (by omega)]
      exact h3 k (by omega) h5
theorem w249_m (c : Bool) (mo d : Nat) (S1 S : StT) (hd : d ≠ 9 + bN c) : ∀ f t (w : StT) (V : Nat), MD w.1 mo (9 + bN c) (nt_p c) → MD w.1 mo d V → V < (f + 1) * nt_p c → MD (mfold_w249 c mo d S1 S f t w).1 mo d (V % nt_p c) ∧ MF mo d (mfold_w249 c mo d S1 S f t w).1 w.1 ∧ (mfold_w249 c mo d S1 S f t w).2 = w.2 := by
  intro f
  induction f with
  | zero =>
    intro t w V hp hV hl
    rw [Nat.zero_add, Nat.one_mul] at hl
    rw [Nat.mod_eq_of_lt hl]
    exact ⟨hV, MF_rfl _ _ _, rfl⟩
  | succ f ih =>
    intro t w V hp hV hl
    obtain ⟨a1, _⟩ := atLeast_m mo d (9 + bN c) w hV hp
    have st : mfold_w249 c mo d S1 S (f + 1) t w = (if ((atLeast_f mo d (9 + bN c) w).1) = 0 then w else mfold_w249 c mo d S1 S f (t + 1) (takeOff_f mo d (9 + bN c) w)) := by
      rw [mfold_w249]
    rw [st, a1]
    by_cases h : nt_p c ≤ V
    · rw [if_pos h, if_neg (by decide)]
      obtain ⟨t1, t2, t3⟩ := takeOff_m mo d (9 + bN c) w hV hp hd h
      have hl2 : V - nt_p c < (f + 1) * nt_p c := by
        rw [Nat.add_mul, Nat.one_mul] at hl
        omega
      obtain ⟨i1, i2, i3⟩ := ih (t + 1) (takeOff_f mo d (9 + bN c) w) (V - nt_p c) (MD_fr t2 (Ne.symm hd) hp) t1 hl2
      rw [← Nat.mod_eq_sub_mod h] at i1
      exact ⟨i1, MF_tr i2 t2, i3.trans t3⟩
    · rw [if_neg h, if_pos (by decide), Nat.mod_eq_of_lt (by omega)]
      exact ⟨hV, MF_rfl _ _ _, rfl⟩
theorem pN_b (c : Bool) : 16 ≤ pN c ∧ pN c ≤ 28 := by cases c <;> decide
theorem pN_5 (c : Bool) : 2 ^ (16 * pN c) < (4 + 1) * nt_p c := by
  cases c
  · rw [nt_p0]; decide +kernel
  · rw [nt_p1]; decide +kernel
theorem nt_16 (c : Bool) : nt_p c < 2 ^ (16 * pN c) := by
  cases c
  · rw [nt_p0]; decide +kernel
  · rw [nt_p1]; decide +kernel
theorem nt_448 (c : Bool) : nt_p c < 2 ^ 448 := Nat.lt_of_lt_of_le (nt_16 c) (Nat.pow_le_pow_right (by decide) (by cases c <;> decide))
theorem uL_ri {J : Nat → Nat → Int64} {r k : Nat} (h : 0 ≤ ri J r k) : (uL (J r k) : Int) = ri J r k := (uL_of_int h).1
theorem mfold_m (c : Bool) (mo d : Nat) (S : StT) {u : Zp c} (hd : d ≠ 9 + bN c) (hp : MD S.1 mo (9 + bN c) (nt_p c)) (hb : ∀ k, k < 2 * pN c → 0 ≤ ri S.2.1 (mo + 8) k ∧ ri S.2.1 (mo + 8) k ≤ 2 ^ 38) (hu : fz c (rv 16 (ri S.2.1 (mo + 8)) (2 * pN c)) = u) :
    MD (mfold_f c mo d S).1 mo d u.val ∧ MF mo d (mfold_f c mo d S).1 S.1 ∧ (∀ r, r ≠ mo + 8 → (mfold_f c mo d S).2.1 r = S.2.1 r) ∧ (mfold_f c mo d S).2.2 = S.2.2 := by
  obtain ⟨a1, a2, a3⟩ := mdown c mo d S hb
  obtain ⟨b1, b2, b3⟩ := mcarry c mo d (S.1, mfold_l11 c mo d S (pN c), S.2.2) (mfold_l11 c mo d S (pN c)) a1
  unfold mfold_f
  dsimp only
  generalize (mfold_w98 c mo d (S.1, mfold_l11 c mo d S (pN c), S.2.2) 10 0 (1, mfold_l11 c mo d S (pN c))).2 = J at b1 b2 b3 ⊢
  have c3 : ∀ r, r ≠ mo + 8 → J r = S.2.1 r := fun r hr => (b3 r hr).trans (a3 r hr)
  obtain ⟨z1, z2, z3⟩ := zero28_m mo d (S.1, J, S.2.2)
  have z4 : MF mo d (zero28_f mo d (S.1, J, S.2.2)).1 S.1 := z2
  have z5 : (zero28_f mo d (S.1, J, S.2.2)).2 = (J, S.2.2) := z3
  clear z2 z3
  generalize zero28_f mo d (S.1, J, S.2.2) = S1 at z1 z4 z5 ⊢
  have z6 : S1.2.1 = J := by rw [z5]
  have z7 : S1.2.2 = S.2.2 := by rw [z5]
  obtain ⟨l1, l2, l3⟩ := l214_lp c mo d S1 S1 (pN c) (by have := pN_b c; omega)
  have hpn := pN_b c
  rw [z6] at l1
  have e1 : ∀ k, k < pN c → (mq (mfold_l214 c mo d S1 S1 (pN c)) mo d k : Int) = ri J (mo + 8) k := by
    intro k hk
    obtain ⟨q1, q2⟩ := b1 k hk
    have q3 := uL_ri q1
    rw [l1 k hk]
    omega
  have m1 : ∀ k, k < 28 → mq (mfold_l214 c mo d S1 S1 (pN c)) mo d k < 2 ^ 16 := by
    intro k hk
    by_cases h : k < pN c
    · have := e1 k h
      have := b1 k h
      omega
    · rw [l2 k (by omega) (by omega), z1 k (by omega)]
      decide
  have m2 : ∀ k, 28 ≤ k → k < 32 → mq (mfold_l214 c mo d S1 S1 (pN c)) mo d k = 0 := by
    intro k h1 h2
    rw [l2 k (by omega) h2, z1 k h2]
  have md := MD_of m1 m2
  have hv : (rvN (2 ^ 16) (mq (mfold_l214 c mo d S1 S1 (pN c)) mo d) 28 : Int) = rv 16 (ri J (mo + 8)) (pN c) := by
    rw [rvN_z (2 ^ 16) _ (pN c) 28 (by omega) (fun j h1 h2 => by rw [l2 j h1 (by omega), z1 j (by omega)])]
    exact (rv_nat (b := 16) (f := ri J (mo + 8)) (g := mq (mfold_l214 c mo d S1 S1 (pN c)) mo d) (pN c) (fun k hk => (e1 k hk).symm)).symm
  have hlt := (rv_b0 (ri J (mo + 8)) 16 (pN c) b1).2
  generalize rvN (2 ^ 16) (mq (mfold_l214 c mo d S1 S1 (pN c)) mo d) 28 = V at md hv
  have hV : V < (4 + 1) * nt_p c := by
    have h5 := pN_5 c
    rw [← hv] at hlt
    have ep : (2 : Int) ^ (16 * pN c) = ((2 ^ (16 * pN c) : Nat) : Int) := by rw [Int.natCast_pow]; rfl
    rw [ep] at hlt
    omega
  have hu2 : V % nt_p c = u.val := by
    have q := fz_vl c (V : Int)
    rw [hv, b2, a2, hu, ← hv] at q
    omega
  obtain ⟨w1, w2, w3⟩ := w249_m c mo d S1 (mfold_l214 c mo d S1 S1 (pN c), S1.2.1, S1.2.2) hd 4 0 (mfold_l214 c mo d S1 S1 (pN c), S1.2.1, S1.2.2) V (MD_fr l3 (Ne.symm hd) (MD_fr z4 (Ne.symm hd) hp)) md hV
  rw [hu2] at w1
  refine ⟨w1, MF_tr w2 (MF_tr l3 z4), fun r hr => ?_, ?_⟩
  · rw [w3]
    show S1.2.1 r = _
    rw [z6]
    exact c3 r hr
  · rw [w3]
    exact z7
/-- place a holds the element u -/
def MV (c : Bool) (I : Nat → Nat → Int32) (mo a : Nat) (u : Zp c) : Prop := MD I mo a u.val
theorem MV_fr {c : Bool} {mo d a : Nat} {I K : Nat → Nat → Int32} {u : Zp c} (h : MF mo d I K) (ne : a ≠ d) (hk : MV c K mo a u) : MV c I mo a u := MD_fr h ne hk
theorem MV_rv {c : Bool} {I : Nat → Nat → Int32} {mo a : Nat} {u : Zp c} (h : MV c I mo a u) : rv 16 (fun i => (mq I mo a i : Int)) (pN c) = (u.val : Int) := by
  rw [rv_nat (b := 16) (g := mq I mo a) (pN c) (fun _ _ => rfl), MD_rv h (by have := pN_b c; omega), Nat.mod_eq_of_lt (Nat.lt_trans (fz_lt u) (nt_16 c))]
theorem i64 {x : Int32} (h : uN x < 2 ^ 31) : x.toInt64.toInt = (uN x : Int) := by
  rw [Int32.toInt_toInt64, uN_int h]
theorem nle {a b : Nat} (ha : a < 2 ^ 16) (hb : b < 2 ^ 16) : nI a ≤ nI b ↔ a ≤ b := by
  rw [i_le (by rw [uN_nI (by omega)]; exact ha) (by rw [uN_nI (by omega)]; exact hb), uN_nI (by omega), uN_nI (by omega)]
theorem mplus_m (c : Bool) (mo d a b : Nat) (S : StT) {u v : Zp c} (hd : d ≠ 9 + bN c) (hp : MD S.1 mo (9 + bN c) (nt_p c)) (ha : MV c S.1 mo a u) (hb : MV c S.1 mo b v) :
    MV c (mplus_f c mo d a b S).1 mo d (u + v) ∧ MF mo d (mplus_f c mo d a b S).1 S.1 ∧ (∀ r, r ≠ mo + 8 → (mplus_f c mo d a b S).2.1 r = S.2.1 r) ∧ (mplus_f c mo d a b S).2.2 = S.2.2 := by
  obtain ⟨p1, p2⟩ := pw_loop (S0 := S.2.1) (lp := mplus_l3 c mo d a b S) (to := mo + 8) (F := fun _ i => (if (nI (pN c)) ≤ (nI (i)) then 0 else ((S.1 (mo + 7) (32 * a + i)) + (S.1 (mo + 7) (32 * b + i))).toInt64)) rfl (fun i => rfl) (fun y i h => rfl) 64
  have hpn := pN_b c
  have e : ∀ k, k < 64 → ri (mplus_l3 c mo d a b S 64) (mo + 8) k = if k < pN c then (mq S.1 mo a k : Int) + (mq S.1 mo b k : Int) else 0 := by
    intro k hk
    show (mplus_l3 c mo d a b S 64 (mo + 8) k).toInt = _
    rw [p1 k hk]
    by_cases h : k < pN c
    · have l1 : uN (S.1 (mo + 7) (32 * a + k)) < 2 ^ 16 := MD_lt ha (by omega)
      have l2 : uN (S.1 (mo + 7) (32 * b + k)) < 2 ^ 16 := MD_lt hb (by omega)
      rw [if_neg (fun q => by have := (nle (by omega) (by omega)).mp q; omega), if_pos h, Int32.toInt_toInt64, i_add, uN_int (by omega), uN_int (by omega)]
      · rfl
      · rw [uN_int (by omega), uN_int (by omega)]; omega
      · rw [uN_int (by omega), uN_int (by omega)]; omega
    · rw [if_pos ((nle (by omega) (by omega)).mpr (by omega)), if_neg h]
      rfl
  obtain ⟨f1, f2, f3, f4⟩ := mfold_m c mo d (S.1, mplus_l3 c mo d a b S 64, S.2.2) (u := u + v) hd hp (fun k hk => by
    show 0 ≤ ri (mplus_l3 c mo d a b S 64) (mo + 8) k ∧ ri (mplus_l3 c mo d a b S 64) (mo + 8) k ≤ 2 ^ 38
    rw [e k (by omega)]
    by_cases h : k < pN c
    · have l1 : mq S.1 mo a k < 2 ^ 16 := MD_lt ha (by omega)
      have l2 : mq S.1 mo b k < 2 ^ 16 := MD_lt hb (by omega)
      rw [if_pos h]
      omega
    · rw [if_neg h]
      decide) (by
    show fz c (rv 16 (ri (mplus_l3 c mo d a b S 64) (mo + 8)) (2 * pN c)) = u + v
    rw [rv_zero 16 _ (pN c) (2 * pN c) (fun k h1 h2 => by rw [e k (by omega), if_neg (by omega)]) (by omega), rv_congr (g := fun i => (mq S.1 mo a i : Int) + (mq S.1 mo b i : Int)) (pN c) (fun k hk => by rw [e k (by omega), if_pos hk]), rv_add 16 (fun i => (mq S.1 mo a i : Int)) (fun i => (mq S.1 mo b i : Int)), MV_rv ha, MV_rv hb, fz_add, fz_val, fz_val])
  exact ⟨f1, f2, fun r hr => (f3 r hr).trans (funext fun j => p2 r j (Or.inl hr)), f4⟩
theorem dg_2p (c : Bool) {n i : Nat} (hn : n < nt_p c) (hi : i < pN c) : n / 2 ^ (16 * i) % 2 ^ 16 ≤ 2 * (nt_p c / 2 ^ (16 * i) % 2 ^ 16) := by
  have hm : n / 2 ^ (16 * i) % 2 ^ 16 < 2 ^ 16 := Nat.mod_lt _ (by decide)
  cases c with
  | false =>
    by_cases h : i = 15
    · have h1 : n / 2 ^ (16 * i) ≤ nt_p false / 2 ^ (16 * i) := Nat.div_le_div_right (by omega)
      have h2 : nt_p false / 2 ^ (16 * i) = 32767 := by
        rw [h, nt_p0]
      rw [h2] at h1 ⊢
      have h3 : n / 2 ^ (16 * i) % 2 ^ 16 ≤ n / 2 ^ (16 * i) := Nat.mod_le _ _
      omega
    · have hi2 : i < 16 := hi
      have : ∀ i, i < 15 → 65535 ≤ 2 * (57896044618658097711785492504343953926634992332820282019728792003956564819949 / 2 ^ (16 * i) % 2 ^ 16) := by decide +kernel
      have := this i (by omega)
      rw [nt_p0]
      omega
  | true =>
    have hi2 : i < 28 := hi
    have : ∀ i, i < 28 → 65535 ≤ 2 * (726838724295606890549323807888004534353641360687318060281490199180612328166730772686396383698676545930088884461843637361053498018365439 / 2 ^ (16 * i) % 2 ^ 16) := by decide +kernel
    have := this i hi2
    rw [nt_p1]
    omega
theorem mminus_m (c : Bool) (mo d a b : Nat) (S : StT) {u v : Zp c} (hd : d ≠ 9 + bN c) (hp : MD S.1 mo (9 + bN c) (nt_p c)) (ha : MV c S.1 mo a u) (hb : MV c S.1 mo b v) :
    MV c (mminus_f c mo d a b S).1 mo d (u - v) ∧ MF mo d (mminus_f c mo d a b S).1 S.1 ∧ (∀ r, r ≠ mo + 8 → (mminus_f c mo d a b S).2.1 r = S.2.1 r) ∧ (mminus_f c mo d a b S).2.2 = S.2.2 := by
  obtain ⟨p1, p2⟩ := pw_loop (S0 := S.2.1) (lp := mminus_l12 c mo d a b S) (to := mo + 8) (F := fun _ i => (if (nI (pN c)) ≤ (nI (i)) then 0 else (((S.1 (mo + 7) (32 * a + i)).toInt64) + (2 * ((S.1 (mo + 7) (32 * (9 + (bN c)) + i)).toInt64))) - ((S.1 (mo + 7) (32 * b + i)).toInt64))) rfl (fun i => rfl) (fun y i h => rfl) 64
  have hpn := pN_b c
  have e : ∀ k, k < 64 → ri (mminus_l12 c mo d a b S 64) (mo + 8) k = if k < pN c then (mq S.1 mo a k : Int) + 2 * (mq S.1 mo (9 + bN c) k : Int) - (mq S.1 mo b k : Int) else 0 := by
    intro k hk
    show (mminus_l12 c mo d a b S 64 (mo + 8) k).toInt = _
    rw [p1 k hk]
    by_cases h : k < pN c
    · have l1 : uN (S.1 (mo + 7) (32 * a + k)) < 2 ^ 16 := MD_lt ha (by omega)
      have l2 : uN (S.1 (mo + 7) (32 * b + k)) < 2 ^ 16 := MD_lt hb (by omega)
      have l3 : uN (S.1 (mo + 7) (32 * (9 + bN c) + k)) < 2 ^ 16 := MD_lt hp (by omega)
      have t1 := i64 (x := S.1 (mo + 7) (32 * a + k)) (by omega)
      have t2 := i64 (x := S.1 (mo + 7) (32 * b + k)) (by omega)
      have t3 := i64 (x := S.1 (mo + 7) (32 * (9 + bN c) + k)) (by omega)
      have t4 : ((2 : Int64) * (S.1 (mo + 7) (32 * (9 + bN c) + k)).toInt64).toInt = 2 * (uN (S.1 (mo + 7) (32 * (9 + bN c) + k)) : Int) := by
        rw [w_mul, t3]
        · rfl
        · rw [t3]; show -2 ^ 63 ≤ 2 * _; omega
        · rw [t3]; show 2 * _ < _; omega
      rw [if_neg (fun q => by have := (nle (by omega) (by omega)).mp q; omega), if_pos h]
      have t5 : ((S.1 (mo + 7) (32 * a + k)).toInt64 + 2 * (S.1 (mo + 7) (32 * (9 + bN c) + k)).toInt64).toInt = (uN (S.1 (mo + 7) (32 * a + k)) : Int) + 2 * (uN (S.1 (mo + 7) (32 * (9 + bN c) + k)) : Int) := by
        rw [w_add, t1, t4]
        · rw [t1, t4]; omega
        · rw [t1, t4]; omega
      rw [w_sub, t5, t2]
      · rfl
      · rw [t5, t2]; omega
      · rw [t5, t2]; omega
    · rw [if_pos ((nle (by omega) (by omega)).mpr (by omega)), if_neg h]
      rfl
  obtain ⟨f1, f2, f3, f4⟩ := mfold_m c mo d (S.1, mminus_l12 c mo d a b S 64, S.2.2) (u := u - v) hd hp (fun k hk => by
    show 0 ≤ ri (mminus_l12 c mo d a b S 64) (mo + 8) k ∧ ri (mminus_l12 c mo d a b S 64) (mo + 8) k ≤ 2 ^ 38
    rw [e k (by omega)]
    by_cases h : k < pN c
    · have l1 : mq S.1 mo a k < 2 ^ 16 := MD_lt ha (by omega)
      have l3 : mq S.1 mo (9 + bN c) k < 2 ^ 16 := MD_lt hp (by omega)
      have l2 := dg_2p c (fz_lt v) h
      rw [← hb.2 k (by omega), ← hp.2 k (by omega)] at l2
      rw [if_pos h]
      omega
    · rw [if_neg h]
      decide) (by
    show fz c (rv 16 (ri (mminus_l12 c mo d a b S 64) (mo + 8)) (2 * pN c)) = u - v
    rw [rv_zero 16 _ (pN c) (2 * pN c) (fun k h1 h2 => by rw [e k (by omega), if_neg (by omega)]) (by omega), rv_congr (g := fun i => ((mq S.1 mo a i : Int) + 2 * (mq S.1 mo (9 + bN c) i : Int)) - (mq S.1 mo b i : Int)) (pN c) (fun k hk => by rw [e k (by omega), if_pos hk]), rv_sub 16 (fun i => (mq S.1 mo a i : Int) + 2 * (mq S.1 mo (9 + bN c) i : Int)) (fun i => (mq S.1 mo b i : Int)), rv_add 16 (fun i => (mq S.1 mo a i : Int)) (fun i => 2 * (mq S.1 mo (9 + bN c) i : Int)), rv_smul 16 2 (fun i => (mq S.1 mo (9 + bN c) i : Int)), MV_rv ha, MV_rv hb]
    have ep : rv 16 (fun i => (mq S.1 mo (9 + bN c) i : Int)) (pN c) = (nt_p c : Int) := by
      rw [rv_nat (b := 16) (g := mq S.1 mo (9 + bN c)) (pN c) (fun _ _ => rfl), MD_rv hp (by omega), Nat.mod_eq_of_lt (nt_16 c)]
    rw [ep]
    have e2 : fz c ((u.val : Int) + 2 * (nt_p c : Int) - (v.val : Int)) = fz c ((u.val : Int) - (v.val : Int)) := fz_of (u := -2) (by omega)
    rw [e2, fz_sub, fz_val, fz_val])
  exact ⟨f1, f2, fun r hr => (f3 r hr).trans (funext fun j => p2 r j (Or.inl hr)), f4⟩
theorem mmul_in (c : Bool) (mo d a b i : Nat) (y0 : Nat → Nat → Int64) (v2 : Int64) (S : StT) (hS : S.2.1 = y0) (hi : i < pN c) (B A : Int) (hB : 0 ≤ B) (hB2 : B + 2 ^ 32 ≤ 2 ^ 62) (hw : ∀ k, k < 64 → 0 ≤ ri y0 (mo + 8) k ∧ ri y0 (mo + 8) k ≤ B) (hv : v2.toInt = A) (hA : 0 ≤ A ∧ A < 2 ^ 16) (hb : ∀ j, j < 32 → mq S.1 mo b j < 2 ^ 16) :
    ∀ j, j ≤ pN c → (∀ k, k < 64 → ri (mmul_l54 c mo d a b i y0 v2 S j) (mo + 8) k = ri y0 (mo + 8) k + (if i ≤ k ∧ k < i + j then A * (mq S.1 mo b (k - i) : Int) else 0)) ∧ (rv 16 (ri (mmul_l54 c mo d a b i y0 v2 S j) (mo + 8)) 64 = rv 16 (ri y0 (mo + 8)) 64 + A * 2 ^ (16 * i) * rv 16 (fun k => (mq S.1 mo b k : Int)) j) ∧ ∀ r, r ≠ mo + 8 → mmul_l54 c mo d a b i y0 v2 S j r = y0 r := by
  have hL := pN_b c
  intro j
  induction j with
  | zero =>
    intro _
    have e : mmul_l54 c mo d a b i y0 v2 S 0 = y0 := hS
    rw [e]
    refine ⟨fun k _ => ?_, ?_, fun _ _ => rfl⟩
    · rw [if_neg (by omega)]; omega
    · show _ = _ + _ * 0; omega
  | succ j ih =>
    intro hj
    obtain ⟨h1, h2, h3⟩ := ih (by omega)
    have hbj : uN (S.1 (mo + 7) (32 * b + j)) < 2 ^ 16 := hb j (by omega)
    have qb : (mq S.1 mo b j : Int) = (uN (S.1 (mo + 7) (32 * b + j)) : Int) := rfl
    have hp1 : 0 ≤ A * (mq S.1 mo b j : Int) := Int.mul_nonneg hA.1 (by omega)
    have hp2 : A * (mq S.1 mo b j : Int) ≤ 2 ^ 16 * 2 ^ 16 := Int.mul_le_mul (by omega) (by omega) (by omega) (by decide)
    have hc := hw (i + j) (by omega)
    have hcell : ri (mmul_l54 c mo d a b i y0 v2 S j) (mo + 8) (i + j) = ri y0 (mo + 8) (i + j) := by
      rw [h1 (i + j) (by omega), if_neg (by omega)]; omega
    have hmul : (v2 * (S.1 (mo + 7) (32 * b + j)).toInt64).toInt = A * (mq S.1 mo b j : Int) := by
      have t := i64 (x := S.1 (mo + 7) (32 * b + j)) (by omega)
      rw [w_mul, hv, t]
      · rfl
      · rw [hv, t, ← qb]; omega
      · rw [hv, t, ← qb]; omega
    have hval : ((mmul_l54 c mo d a b i y0 v2 S j (mo + 8) (i + j)) + (v2 * (S.1 (mo + 7) (32 * b + j)).toInt64)).toInt = ri y0 (mo + 8) (i + j) + A * (mq S.1 mo b j : Int) := by
      have e : (mmul_l54 c mo d a b i y0 v2 S j (mo + 8) (i + j)).toInt = ri y0 (mo + 8) (i + j) := hcell
      rw [w_add, e, hmul]
      · rw [e, hmul]; omega
      · rw [e, hmul]; omega
    have hnew : ∀ k, ri (mmul_l54 c mo d a b i y0 v2 S (j + 1)) (mo + 8) k = if k = i + j then ri (mmul_l54 c mo d a b i y0 v2 S j) (mo + 8) k + A * (mq S.1 mo b j : Int) else ri (mmul_l54 c mo d a b i y0 v2 S j) (mo + 8) k := by
      intro k
      show (va_up (mmul_l54 c mo d a b i y0 v2 S j) (mo + 8) (vp_updL (mmul_l54 c mo d a b i y0 v2 S j (mo + 8)) (i + j) ((mmul_l54 c mo d a b i y0 v2 S j (mo + 8) (i + j)) + (v2 * (S.1 (mo + 7) (32 * b + j)).toInt64))) (mo + 8) k).toInt = _
      rw [vu_s]
      by_cases e : k = i + j
      · subst e
        rw [if_pos rfl, pk_uLs, hval, hcell]
      · rw [if_neg e, pk_uLn e]; rfl
    refine ⟨fun k hk => ?_, ?_, fun r hr => ?_⟩
    · rw [hnew k]
      by_cases e : k = i + j
      · subst e
        rw [if_pos rfl, hcell, if_pos (by omega), show i + j - i = j from by omega]
      · rw [if_neg e, h1 k hk]
        by_cases e2 : i ≤ k ∧ k < i + j
        · rw [if_pos e2, if_pos (by omega)]
        · rw [if_neg e2, if_neg (by omega)]
    · rw [rv_congr (g := fun k => if k = i + j then ri (mmul_l54 c mo d a b i y0 v2 S j) (mo + 8) k + A * (mq S.1 mo b j : Int) else ri (mmul_l54 c mo d a b i y0 v2 S j) (mo + 8) k) 64 (fun k _ => hnew k), rv_at 16 _ (i + j) _ 64 (by omega), h2]
      show _ + _ = _ + _ * (rv 16 (fun k => (mq S.1 mo b k : Int)) j + (mq S.1 mo b j : Int) * 2 ^ (16 * j))
      rw [Nat.mul_add, Int.pow_add]
      generalize rv 16 (ri y0 (mo + 8)) 64 = X
      generalize rv 16 (fun k => (mq S.1 mo b k : Int)) j = D
      generalize (mq S.1 mo b j : Int) = z
      generalize (2 : Int) ^ (16 * i) = P
      generalize (2 : Int) ^ (16 * j) = Q
      clear hnew hval hmul qb hcell hc hp1 hp2 hbj h1 h2 h3 hw hA hb hL hv
      grind
    · show va_up (mmul_l54 c mo d a b i y0 v2 S j) (mo + 8) _ r = _
      rw [vu_n hr, h3 r hr]
theorem mmul_out (c : Bool) (mo d a b : Nat) (S : StT) (hz : ∀ k, k < 64 → S.2.1 (mo + 8) k = 0) (ha : ∀ j, j < 32 → mq S.1 mo a j < 2 ^ 16) (hb : ∀ j, j < 32 → mq S.1 mo b j < 2 ^ 16) :
    ∀ i : Nat, i ≤ pN c → (∀ k, k < 64 → 0 ≤ ri (mmul_l27 c mo d a b S i) (mo + 8) k ∧ ri (mmul_l27 c mo d a b S i) (mo + 8) k ≤ (i : Int) * 2 ^ 32) ∧ (∀ k, 2 * pN c ≤ k → k < 64 → ri (mmul_l27 c mo d a b S i) (mo + 8) k = 0) ∧ rv 16 (ri (mmul_l27 c mo d a b S i) (mo + 8)) 64 = rv 16 (fun k => (mq S.1 mo a k : Int)) i * rv 16 (fun k => (mq S.1 mo b k : Int)) (pN c) ∧ ∀ r, r ≠ mo + 8 → mmul_l27 c mo d a b S i r = S.2.1 r := by
  have hL := pN_b c
  intro i
  induction i with
  | zero =>
    intro _
    have e : ∀ k, k < 64 → ri S.2.1 (mo + 8) k = 0 := fun k hk => by show (S.2.1 (mo + 8) k).toInt = 0; rw [hz k hk]; rfl
    refine ⟨fun k hk => ?_, fun k _ hk => e k hk, ?_, fun _ _ => rfl⟩
    · show 0 ≤ ri S.2.1 (mo + 8) k ∧ ri S.2.1 (mo + 8) k ≤ _
      rw [e k hk]
      omega
    · show rv 16 (ri S.2.1 (mo + 8)) 64 = 0 * _
      rw [rv_congr (g := fun k => 0 * 0) 64 (fun k hk => e k hk), rv_smul 16 0 (fun _ => 0), Int.zero_mul, Int.zero_mul]
  | succ i ih =>
    intro hi
    obtain ⟨h1, h9, h2, h3⟩ := ih (by omega)
    have la : uN (S.1 (mo + 7) (32 * a + i)) < 2 ^ 16 := ha i (by omega)
    have hv : ((S.1 (mo + 7) (32 * a + i)).toInt64).toInt = (mq S.1 mo a i : Int) := i64 (by omega)
    have hA : 0 ≤ (mq S.1 mo a i : Int) ∧ (mq S.1 mo a i : Int) < 2 ^ 16 := by
      have : (mq S.1 mo a i : Int) = (uN (S.1 (mo + 7) (32 * a + i)) : Int) := rfl
      omega
    obtain ⟨g1, g2, g3⟩ := mmul_in c mo d a b i (mmul_l27 c mo d a b S i) ((S.1 (mo + 7) (32 * a + i)).toInt64) (S.1, mmul_l27 c mo d a b S i, S.2.2) rfl (by omega) ((i : Int) * 2 ^ 32) (mq S.1 mo a i : Int) (by omega) (by omega) h1 hv hA hb (pN c) (Nat.le_refl _)
    have en : mmul_l27 c mo d a b S (i + 1) = mmul_l54 c mo d a b i (mmul_l27 c mo d a b S i) ((S.1 (mo + 7) (32 * a + i)).toInt64) (S.1, mmul_l27 c mo d a b S i, S.2.2) (pN c) := rfl
    have ec : ((i + 1 : Nat) : Int) = (i : Int) + 1 := by omega
    rw [en, ec]
    refine ⟨fun k hk => ?_, fun k hk1 hk => by rw [g1 k hk, if_neg (by omega), h9 k hk1 hk]; rfl, ?_, fun r hr => (g3 r hr).trans (h3 r hr)⟩
    · rw [g1 k hk]
      have q := h1 k hk
      by_cases e : i ≤ k ∧ k < i + pN c
      · rw [if_pos e]
        have lb : mq S.1 mo b (k - i) < 2 ^ 16 := hb (k - i) (by omega)
        have hp1 : 0 ≤ (mq S.1 mo a i : Int) * (mq S.1 mo b (k - i) : Int) := Int.mul_nonneg hA.1 (by omega)
        have hp2 : (mq S.1 mo a i : Int) * (mq S.1 mo b (k - i) : Int) ≤ 2 ^ 16 * 2 ^ 16 := Int.mul_le_mul (by omega) (by omega) (by omega) (by decide)
        show 0 ≤ _ + (mq S.1 mo a i : Int) * (mq S.1 mo b (k - i) : Int) ∧ _ + (mq S.1 mo a i : Int) * (mq S.1 mo b (k - i) : Int) ≤ _
        omega
      · rw [if_neg e]; omega
    · rw [g2, h2]
      show _ = (rv 16 (fun k => (mq S.1 mo a k : Int)) i + (mq S.1 mo a i : Int) * 2 ^ (16 * i)) * _
      show _ + (mq S.1 mo a i : Int) * 2 ^ (16 * i) * rv 16 (fun k => (mq S.1 mo b k : Int)) (pN c) = _
      generalize rv 16 (fun k => (mq S.1 mo a k : Int)) i = X
      generalize rv 16 (fun k => (mq S.1 mo b k : Int)) (pN c) = Y
      generalize (mq S.1 mo a i : Int) = x
      generalize (2 : Int) ^ (16 * i) = P
      clear g1 g2 g3 h1 h9 h2 h3 hz ha hb en ec hL la hv hA
      grind
theorem mmul_m (c : Bool) (mo d a b : Nat) (S : StT) {u v : Zp c} (hd : d ≠ 9 + bN c) (hp : MD S.1 mo (9 + bN c) (nt_p c)) (ha : MV c S.1 mo a u) (hb : MV c S.1 mo b v) :
    MV c (mmul_f c mo d a b S).1 mo d (u * v) ∧ MF mo d (mmul_f c mo d a b S).1 S.1 ∧ (∀ r, r ≠ mo + 8 → (mmul_f c mo d a b S).2.1 r = S.2.1 r) ∧ (mmul_f c mo d a b S).2.2 = S.2.2 := by
  obtain ⟨p1, p2⟩ := pw_loop (S0 := S.2.1) (lp := mmul_l3 c mo d a b S) (to := mo + 8) (F := fun _ _ => 0) rfl (fun i => rfl) (fun y i h => rfl) 64
  have hpn := pN_b c
  obtain ⟨m1, m2, m3, m4⟩ := mmul_out c mo d a b (S.1, mmul_l3 c mo d a b S 64, S.2.2) (fun k hk => p1 k hk) (fun j hj => MD_lt ha hj) (fun j hj => MD_lt hb hj) (pN c) (Nat.le_refl _)
  have m5 : ∀ r, r ≠ mo + 8 → mmul_l27 c mo d a b (S.1, mmul_l3 c mo d a b S 64, S.2.2) (pN c) r = S.2.1 r := fun r hr => (m4 r hr).trans (funext fun j => p2 r j (Or.inl hr))
  have hva := MV_rv ha
  have hvb := MV_rv hb
  have m6 : rv 16 (ri (mmul_l27 c mo d a b (S.1, mmul_l3 c mo d a b S 64, S.2.2) (pN c)) (mo + 8)) 64 = (u.val : Int) * (v.val : Int) := by
    rw [← hva, ← hvb]
    exact m3
  unfold mmul_f
  dsimp only
  clear m3 m4
  generalize mmul_l27 c mo d a b (S.1, mmul_l3 c mo d a b S 64, S.2.2) (pN c) = J at m1 m2 m5 m6 ⊢
  obtain ⟨f1, f2, f3, f4⟩ := mfold_m c mo d (S.1, J, S.2.2) (u := u * v) hd hp (fun k hk => by
    have q := m1 k (by omega)
    show 0 ≤ ri J (mo + 8) k ∧ ri J (mo + 8) k ≤ 2 ^ 38
    omega) (by
    show fz c (rv 16 (ri J (mo + 8)) (2 * pN c)) = u * v
    rw [← rv_zero 16 (ri J (mo + 8)) (2 * pN c) 64 (fun k h1 h2 => m2 k h1 h2) (by omega), m6, fz_mul, fz_val, fz_val])
  exact ⟨f1, f2, fun r hr => (f3 r hr).trans (m5 r hr), f4⟩
end
