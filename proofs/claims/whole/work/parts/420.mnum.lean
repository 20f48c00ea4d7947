section
/-! THE MODEL'S NUMBERS: pieces of 16 bits in one row. -/
def mq (I : Nat → Nat → Int32) (mo a : Nat) : Nat → Nat := fun i => uN (I (mo + 7) (32 * a + i))
/-- place a holds n -/
def MD (I : Nat → Nat → Int32) (mo a n : Nat) : Prop := n < 2 ^ 448 ∧ ∀ i, i < 32 → mq I mo a i = n / 2 ^ (16 * i) % 2 ^ 16
/-- nothing but place d changed -/
def MF (mo d : Nat) (I K : Nat → Nat → Int32) : Prop := (∀ r, r ≠ mo + 7 → I r = K r) ∧ ∀ j, (j < 32 * d ∨ 32 * d + 32 ≤ j) → I (mo + 7) j = K (mo + 7) j
theorem MF_rfl (mo d : Nat) (I : Nat → Nat → Int32) : MF mo d I I := ⟨fun _ _ => rfl, fun _ _ => rfl⟩
theorem MF_tr {mo d : Nat} {I K L : Nat → Nat → Int32} (h1 : MF mo d I K) (h2 : MF mo d K L) : MF mo d I L := ⟨fun r hr => (h1.1 r hr).trans (h2.1 r hr), fun j hj => (h1.2 j hj).trans (h2.2 j hj)⟩
theorem mq_fr {mo d a : Nat} {I K : Nat → Nat → Int32} (h : MF mo d I K) (ne : a ≠ d) {i : Nat} (hi : i < 32) : mq I mo a i = mq K mo a i := by
  unfold mq
  rw [h.2 (32 * a + i) (by omega)]
theorem MD_fr {mo d a n : Nat} {I K : Nat → Nat → Int32} (h : MF mo d I K) (ne : a ≠ d) (hk : MD K mo a n) : MD I mo a n := ⟨hk.1, fun i hi => (mq_fr h ne hi).trans (hk.2 i hi)⟩
theorem mq_up (y : Nat → Nat → Int32) (mo a i j : Nat) (v : Int32) : mq (va_up y (mo + 7) (upd (y (mo + 7)) j v)) mo a i = if 32 * a + i = j then uN v else mq y mo a i := by
  unfold mq
  rw [vu_s]
  show uN (if 32 * a + i = j then v else y (mo + 7) (32 * a + i)) = _
  split <;> rfl
theorem mf_up (y : Nat → Nat → Int32) (mo d k : Nat) (v : Int32) (hk : k < 32) : MF mo d (va_up y (mo + 7) (upd (y (mo + 7)) (32 * d + k) v)) y := by
  refine ⟨fun r hr => vu_n hr, fun j hj => ?_⟩
  rw [vu_s]
  exact if_neg (by omega)
theorem md_succ (V i : Nat) : V % 2 ^ (16 * (i + 1)) = V % 2 ^ (16 * i) + (V / 2 ^ (16 * i) % 2 ^ 16) * (2 ^ 16) ^ i := by
  have h1 := rvN_dg 16 V (i + 1)
  have h2 := rvN_dg 16 V i
  rw [← h1, ← h2]
  rfl
theorem MD_rv {I : Nat → Nat → Int32} {mo a n : Nat} (h : MD I mo a n) {m : Nat} (hm : m ≤ 32) : rvN (2 ^ 16) (mq I mo a) m = n % 2 ^ (16 * m) := (rvN_congr m (fun j hj => h.2 j (by omega))).trans (rvN_dg 16 n m)
theorem MD_28 {I : Nat → Nat → Int32} {mo a n : Nat} (h : MD I mo a n) : rvN (2 ^ 16) (mq I mo a) 28 = n := (MD_rv h (by decide)).trans (Nat.mod_eq_of_lt h.1)
theorem MD_lt {I : Nat → Nat → Int32} {mo a n : Nat} (h : MD I mo a n) {i : Nat} (hi : i < 32) : mq I mo a i < 2 ^ 16 := by
  rw [h.2 i hi]
  exact Nat.mod_lt _ (by decide)
theorem MD_of {I : Nat → Nat → Int32} {mo a : Nat} (h1 : ∀ i, i < 28 → mq I mo a i < 2 ^ 16) (h2 : ∀ i, 28 ≤ i → i < 32 → mq I mo a i = 0) : MD I mo a (rvN (2 ^ 16) (mq I mo a) 28) := by
  have hl : rvN (2 ^ 16) (mq I mo a) 28 < 2 ^ 448 := by
    have := rvN_lt (2 ^ 16) (mq I mo a) (by decide) 28 h1
    rw [← Nat.pow_mul] at this
    exact this
  refine ⟨hl, fun i hi => ?_⟩
  by_cases h : i < 28
  · have e := rvN_dig (2 ^ 16) (mq I mo a) (by decide) 28 h1 i h
    rw [← Nat.pow_mul] at e
    rw [e]
    have := h1 i h
    generalize rvN (2 ^ 16) (mq I mo a) 28 / (2 ^ 16) ^ (i + 1) = z
    omega
  · rw [h2 i (by omega) hi, Nat.div_eq_of_lt (Nat.lt_of_lt_of_le hl (Nat.pow_le_pow_right (by decide) (by omega)))]
theorem i_and (x : Int32) : ((uN (x &&& nI 65535) : Nat) : Int) = x.toInt % 2 ^ 16 := by
  have h1 : uN (x &&& nI (2 ^ 16 - 1)) = uN x % 2 ^ 16 := uN_and (by decide)
  have h2 : uN (x &&& nI 65535) = uN x % 2 ^ 16 := h1
  rw [h2]
  have e : x.toInt = if 2 * x.toBitVec.toNat < 2 ^ 32 then (x.toBitVec.toNat : Int) else (x.toBitVec.toNat : Int) - (2 ^ 32 : Nat) := BitVec.toInt_eq_toNat_cond x.toBitVec
  have e2 : uN x = x.toBitVec.toNat := rfl
  rw [← e2] at e
  by_cases h : 2 * uN x < 2 ^ 32
  · rw [if_pos h] at e
    omega
  · rw [if_neg h] at e
    omega
theorem i_add {a b : Int32} (h1 : -2 ^ 31 ≤ a.toInt + b.toInt) (h2 : a.toInt + b.toInt < 2 ^ 31) : (a + b).toInt = a.toInt + b.toInt := by
  rw [Int32.toInt_add]
  exact Int.bmod_eq_of_le (by omega) (by omega)
theorem i_sub {a b : Int32} (h1 : -2 ^ 31 ≤ a.toInt - b.toInt) (h2 : a.toInt - b.toInt < 2 ^ 31) : (a - b).toInt = a.toInt - b.toInt := by
  rw [Int32.toInt_sub]
  exact Int.bmod_eq_of_le (by omega) (by omega)
theorem lit65 : (65535 : Int32) = nI 65535 := by decide
theorem zero28_lp (mo a : Nat) (S : StT) : ∀ n, n ≤ 32 → (∀ k, k < n → mq (zero28_l2 mo a S n) mo a k = 0) ∧ MF mo a (zero28_l2 mo a S n) S.1 := by
  intro n
  induction n with
  | zero => exact fun _ => ⟨fun k hk => absurd hk (Nat.not_lt_zero _), MF_rfl _ _ _⟩
  | succ n ih =>
    intro hn
    obtain ⟨h1, h2⟩ := ih (by omega)
    refine ⟨fun k hk => ?_, MF_tr (mf_up _ mo a n (nI 0) (by omega)) h2⟩
    show mq (va_up (zero28_l2 mo a S n) (mo + 7) (upd (zero28_l2 mo a S n (mo + 7)) (32 * a + n) (nI 0))) mo a k = 0
    rw [mq_up]
    by_cases e : k = n
    · rw [if_pos (by omega)]; decide
    · rw [if_neg (by omega)]; exact h1 k (by omega)
theorem zero28_m (mo a : Nat) (S : StT) : (∀ k, k < 32 → mq (zero28_f mo a S).1 mo a k = 0) ∧ MF mo a (zero28_f mo a S).1 S.1 ∧ (zero28_f mo a S).2 = S.2 := by
  obtain ⟨h1, h2⟩ := zero28_lp mo a S 32 (Nat.le_refl _)
  exact ⟨h1, h2, rfl⟩
theorem mzero_m (mo a : Nat) (S : StT) : MD (mzero_f mo a S).1 mo a 0 ∧ MF mo a (mzero_f mo a S).1 S.1 ∧ (mzero_f mo a S).2 = S.2 := by
  obtain ⟨h1, h2, h3⟩ := zero28_m mo a S
  refine ⟨⟨Nat.pow_pos (by decide), fun i hi => ?_⟩, h2, h3⟩
  rw [Nat.zero_div]
  exact h1 i hi
theorem uN_ushr (v : Int32) : uN ((v.toUInt32 >>> ((nI 16).toUInt32 &&& Int32.toUInt32 31)).toInt32) = uN v / 2 ^ 16 := by
  have e : ((nI 16).toUInt32 &&& Int32.toUInt32 31) = (16 : UInt32) := by decide
  rw [e]
  show (v.toUInt32 >>> (16 : UInt32)).toNat = v.toUInt32.toNat / 2 ^ 16
  rw [UInt32.toNat_shiftRight, Nat.shiftRight_eq_div_pow]
  rfl
theorem msmall_m (mo a : Nat) (v : Int32) (S : StT) : MD (msmall_f mo a v S).1 mo a (uN v) ∧ MF mo a (msmall_f mo a v S).1 S.1 ∧ (msmall_f mo a v S).2 = S.2 := by
  obtain ⟨h1, h2, h3⟩ := zero28_m mo a S
  unfold msmall_f
  dsimp only
  generalize zero28_f mo a S = T at h1 h2 h3 ⊢
  have hv := uN_lt v
  refine ⟨⟨Nat.lt_of_lt_of_le hv (by decide +kernel), fun i hi => ?_⟩, ?_, h3⟩
  · rw [mq_up, mq_up]
    by_cases e1 : i = 1
    · rw [if_pos (by omega), uN_ushr, e1]
      omega
    · rw [if_neg (by omega)]
      by_cases e0 : i = 0
      · rw [if_pos (by omega), e0, lit65]
        have h : uN (v &&& nI (2 ^ 16 - 1)) = uN v % 2 ^ 16 := uN_and (by decide)
        rw [Nat.mul_zero, Nat.pow_zero, Nat.div_one]
        exact h
      · rw [if_neg (by omega), h1 i hi, Nat.div_eq_of_lt (Nat.lt_of_lt_of_le hv (Nat.pow_le_pow_right (by decide) (by omega)))]
  · have f1 := mf_up T.1 mo a 0 (v &&& 65535) (by decide)
    exact MF_tr (mf_up _ mo a 1 _ (by decide)) (MF_tr f1 h2)
theorem mcopy_lp (mo d a : Nat) (S : StT) : ∀ n, n ≤ 32 → (∀ k, k < n → mq (mcopy_l2 mo d a S n) mo d k = mq S.1 mo a k) ∧ (∀ k, n ≤ k → k < 32 → mcopy_l2 mo d a S n (mo + 7) (32 * d + k) = S.1 (mo + 7) (32 * d + k)) ∧ MF mo d (mcopy_l2 mo d a S n) S.1 := by
  intro n
  induction n with
  | zero => exact fun _ => ⟨fun k hk => absurd hk (Nat.not_lt_zero _), fun _ _ _ => rfl, MF_rfl _ _ _⟩
  | succ n ih =>
    intro hn
    obtain ⟨h1, h3, h2⟩ := ih (by omega)
    have e : mcopy_l2 mo d a S n (mo + 7) (32 * a + n) = S.1 (mo + 7) (32 * a + n) := by
      by_cases q : a = d
      · have q2 := h3 n (Nat.le_refl _) (by omega)
        rw [← q] at q2
        rw [← q]
        exact q2
      · exact h2.2 _ (by omega)
    refine ⟨fun k hk => ?_, fun k h4 h5 => ?_, MF_tr (mf_up _ mo d n _ (by omega)) h2⟩
    · show mq (va_up (mcopy_l2 mo d a S n) (mo + 7) (upd (mcopy_l2 mo d a S n (mo + 7)) (32 * d + n) (mcopy_l2 mo d a S n (mo + 7) (32 * a + n)))) mo d k = _
      rw [mq_up]
      by_cases q : k = n
      · rw [if_pos (by omega), e, q]; rfl
      · rw [if_neg (by omega)]; exact h1 k (by omega)
    · show va_up (mcopy_l2 mo d a S n) (mo + 7) (upd (mcopy_l2 mo d a S n (mo + 7)) (32 * d + n) _) (mo + 7) (32 * d + k) = _
      rw [vu_s]
      exact (if_neg (by omega)).trans (h3 k (by omega) h5)
theorem mcopy_m (mo d a : Nat) (S : StT) {n : Nat} (ha : MD S.1 mo a n) : MD (mcopy_f mo d a S).1 mo d n ∧ MF mo d (mcopy_f mo d a S).1 S.1 ∧ (mcopy_f mo d a S).2 = S.2 := by
  obtain ⟨h1, _, h2⟩ := mcopy_lp mo d a S 32 (Nat.le_refl _)
  exact ⟨⟨ha.1, fun i hi => (h1 i hi).trans (ha.2 i hi)⟩, h2, rfl⟩
theorem i_le {x y : Int32} (hx : uN x < 2 ^ 16) (hy : uN y < 2 ^ 16) : x ≤ y ↔ uN x ≤ uN y := by
  rw [Int32.le_iff_toInt_le, uN_int (by omega), uN_int (by omega)]
  omega
theorem dg_up (n f : Nat) : n / 2 ^ (16 * f) = (n / 2 ^ (16 * (f + 1))) * 2 ^ 16 + n / 2 ^ (16 * f) % 2 ^ 16 := by
  have e : n / 2 ^ (16 * (f + 1)) = n / 2 ^ (16 * f) / 2 ^ 16 := by
    rw [Nat.mul_add, Nat.mul_one, Nat.pow_add, Nat.div_div_eq_div_mul]
  rw [e]
  generalize n / 2 ^ (16 * f) = z
  omega
theorem atLeast_m (mo a b : Nat) (S : StT) {n m : Nat} (ha : MD S.1 mo a n) (hb : MD S.1 mo b m) : (atLeast_f mo a b S).1 = (if m ≤ n then nI 1 else nI 0) ∧ (atLeast_f mo a b S).2 = S := by
  have key : ∀ f i, f + i = 28 → n / 2 ^ (16 * f) = m / 2 ^ (16 * f) → (atLeast_s3 mo a b S f i).1 = (if m ≤ n then nI 1 else nI 0) ∧ (atLeast_s3 mo a b S f i).2 = S := by
    intro f
    induction f with
    | zero =>
      intro i _ h
      rw [Nat.mul_zero, Nat.pow_zero, Nat.div_one, Nat.div_one] at h
      rw [if_pos (by omega)]
      exact ⟨rfl, rfl⟩
    | succ f ih =>
      intro i hi h
      have ea := dg_up n f
      have eb := dg_up m f
      have da : uN (S.1 (mo + 7) (32 * a + f)) = n / 2 ^ (16 * f) % 2 ^ 16 := ha.2 f (by omega)
      have db : uN (S.1 (mo + 7) (32 * b + f)) = m / 2 ^ (16 * f) % 2 ^ 16 := hb.2 f (by omega)
      rw [h] at ea
      have hmono : ∀ {x y : Nat}, x ≤ y → x / 2 ^ (16 * f) ≤ y / 2 ^ (16 * f) := fun hxy => Nat.div_le_div_right hxy
      unfold atLeast_s3
      rw [show 28 - 1 - i = f from by omega]
      generalize m / 2 ^ (16 * (f + 1)) = t at ea eb
      by_cases e : S.1 (mo + 7) (32 * a + f) = S.1 (mo + 7) (32 * b + f)
      · rw [if_pos e]
        refine ih (i + 1) (by omega) ?_
        rw [e] at da
        rw [ea, eb, ← da, ← db]
      · rw [if_neg e]
        have ne : uN (S.1 (mo + 7) (32 * a + f)) ≠ uN (S.1 (mo + 7) (32 * b + f)) := fun q => e (uN_ext q)
        by_cases l : S.1 (mo + 7) (32 * a + f) ≤ S.1 (mo + 7) (32 * b + f)
        · rw [if_pos l]
          have l2 := (i_le (by rw [da]; exact Nat.mod_lt _ (by decide)) (by rw [db]; exact Nat.mod_lt _ (by decide))).mp l
          have : ¬ m ≤ n := by
            intro q
            have q2 := hmono q
            generalize n / 2 ^ (16 * f) = x at ea da q2
            generalize m / 2 ^ (16 * f) = y at eb db q2
            omega
          rw [if_neg this]
          exact ⟨rfl, rfl⟩
        · rw [if_neg l]
          have l2 : ¬ uN (S.1 (mo + 7) (32 * a + f)) ≤ uN (S.1 (mo + 7) (32 * b + f)) := fun q => l ((i_le (by rw [da]; exact Nat.mod_lt _ (by decide)) (by rw [db]; exact Nat.mod_lt _ (by decide))).mpr q)
          have : m ≤ n := by
            rcases Nat.le_total m n with q | q
            · exact q
            · have q2 := hmono q
              generalize n / 2 ^ (16 * f) = x at ea da q2
              generalize m / 2 ^ (16 * f) = y at eb db q2
              omega
          rw [if_pos this]
          exact ⟨rfl, rfl⟩
  exact key 28 0 rfl (by rw [Nat.div_eq_of_lt (show n < 2 ^ (16 * 28) from ha.1), Nat.div_eq_of_lt (show m < 2 ^ (16 * 28) from hb.1)])
theorem mequal_m (mo a b : Nat) (S : StT) {n m : Nat} (ha : MD S.1 mo a n) (hb : MD S.1 mo b m) : (mequal_f mo a b S).1 = (if n = m then nI 1 else nI 0) ∧ (mequal_f mo a b S).2 = S := by
  have key : ∀ f i, f + i = 28 → n % 2 ^ (16 * i) = m % 2 ^ (16 * i) → (mequal_s2 mo a b S f i).1 = (if n = m then nI 1 else nI 0) ∧ (mequal_s2 mo a b S f i).2 = S := by
    intro f
    induction f with
    | zero =>
      intro i hi h
      have h28 : i = 28 := by omega
      rw [h28, Nat.mod_eq_of_lt (show n < 2 ^ (16 * 28) from ha.1), Nat.mod_eq_of_lt (show m < 2 ^ (16 * 28) from hb.1)] at h
      rw [if_pos h]
      exact ⟨rfl, rfl⟩
    | succ f ih =>
      intro i hi h
      have da : uN (S.1 (mo + 7) (32 * a + i)) = n / 2 ^ (16 * i) % 2 ^ 16 := ha.2 i (by omega)
      have db : uN (S.1 (mo + 7) (32 * b + i)) = m / 2 ^ (16 * i) % 2 ^ 16 := hb.2 i (by omega)
      unfold mequal_s2
      by_cases e : S.1 (mo + 7) (32 * a + i) = S.1 (mo + 7) (32 * b + i)
      · rw [if_pos e]
        refine ih (i + 1) (by omega) ?_
        rw [md_succ, md_succ, h, ← da, ← db, e]
      · rw [if_neg e]
        have : ¬ n = m := fun q => e (uN_ext (by rw [da, db, q]))
        rw [if_neg this]
        exact ⟨rfl, rfl⟩
  refine key 28 0 rfl ?_
  rw [Nat.mul_zero, Nat.pow_zero, Nat.mod_one, Nat.mod_one]
theorem misZero_m (mo a : Nat) (S : StT) {n : Nat} (ha : MD S.1 mo a n) : (misZero_f mo a S).1 = (if n = 0 then nI 1 else nI 0) ∧ (misZero_f mo a S).2 = S := by
  have key : ∀ f i, f + i = 28 → n % 2 ^ (16 * i) = 0 → (misZero_s2 mo a S f i).1 = (if n = 0 then nI 1 else nI 0) ∧ (misZero_s2 mo a S f i).2 = S := by
    intro f
    induction f with
    | zero =>
      intro i hi h
      have h28 : i = 28 := by omega
      rw [h28, Nat.mod_eq_of_lt (show n < 2 ^ (16 * 28) from ha.1)] at h
      rw [if_pos h]
      exact ⟨rfl, rfl⟩
    | succ f ih =>
      intro i hi h
      have da : uN (S.1 (mo + 7) (32 * a + i)) = n / 2 ^ (16 * i) % 2 ^ 16 := ha.2 i (by omega)
      unfold misZero_s2
      by_cases e : S.1 (mo + 7) (32 * a + i) = 0
      · rw [if_pos e]
        refine ih (i + 1) (by omega) ?_
        rw [e, show uN (0 : Int32) = 0 from rfl] at da
        rw [md_succ, h, ← da, Nat.zero_mul]
      · rw [if_neg e]
        have : ¬ n = 0 := by
          intro q
          refine e (uN_ext ?_)
          rw [da, q, Nat.zero_div]
          rfl
        rw [if_neg this]
        exact ⟨rfl, rfl⟩
  refine key 28 0 rfl ?_
  rw [Nat.mul_zero, Nat.pow_zero, Nat.mod_one]
theorem takeOff_lp (mo a b : Nat) (S : StT) (hab : a ≠ b) (ha : ∀ i, i < 32 → mq S.1 mo a i < 2 ^ 16) (hb : ∀ i, i < 32 → mq S.1 mo b i < 2 ^ 16) : ∀ n, n ≤ 28 →
    ((takeOff_l5 mo a b S 0 n).1 : Int) = -cy 16 (fun i => (mq S.1 mo a i : Int) - (mq S.1 mo b i : Int)) n ∧ (takeOff_l5 mo a b S 0 n).1 ≤ 1 ∧ (∀ k, k < n → (mq (takeOff_l5 mo a b S 0 n).2 mo a k : Int) = ((mq S.1 mo a k : Int) - (mq S.1 mo b k : Int) + cy 16 (fun i => (mq S.1 mo a i : Int) - (mq S.1 mo b i : Int)) k) % 2 ^ 16) ∧ (∀ k, n ≤ k → k < 32 → (takeOff_l5 mo a b S 0 n).2 (mo + 7) (32 * a + k) = S.1 (mo + 7) (32 * a + k)) ∧ MF mo a (takeOff_l5 mo a b S 0 n).2 S.1 := by
  intro n
  induction n with
  | zero => exact fun _ => ⟨rfl, Nat.zero_le _, fun k hk => absurd hk (Nat.not_lt_zero _), fun _ _ _ => rfl, MF_rfl _ _ _⟩
  | succ n ih =>
    intro hn
    obtain ⟨h1, h2, h3, h4, h5⟩ := ih (by omega)
    have st : takeOff_l5 mo a b S 0 (n + 1) = ((if 0 ≤ ((((takeOff_l5 mo a b S 0 n).2 (mo + 7) (32 * a + n)) - ((takeOff_l5 mo a b S 0 n).2 (mo + 7) (32 * b + n))) - (nI (takeOff_l5 mo a b S 0 n).1)) then 0 else 1), va_up (takeOff_l5 mo a b S 0 n).2 (mo + 7) (upd ((takeOff_l5 mo a b S 0 n).2 (mo + 7)) (32 * a + n) (((((takeOff_l5 mo a b S 0 n).2 (mo + 7) (32 * a + n)) - ((takeOff_l5 mo a b S 0 n).2 (mo + 7) (32 * b + n))) - (nI (takeOff_l5 mo a b S 0 n).1)) &&& (65535)))) := rfl
    have ea : (takeOff_l5 mo a b S 0 n).2 (mo + 7) (32 * a + n) = S.1 (mo + 7) (32 * a + n) := h4 n (Nat.le_refl _) (by omega)
    have eb : (takeOff_l5 mo a b S 0 n).2 (mo + 7) (32 * b + n) = S.1 (mo + 7) (32 * b + n) := h5.2 _ (by omega)
    rw [ea, eb] at st
    rw [st]
    clear st
    have la : uN (S.1 (mo + 7) (32 * a + n)) < 2 ^ 16 := ha n (by omega)
    have lb : uN (S.1 (mo + 7) (32 * b + n)) < 2 ^ 16 := hb n (by omega)
    have qa : (mq S.1 mo a n : Int) = (uN (S.1 (mo + 7) (32 * a + n)) : Int) := rfl
    have qb : (mq S.1 mo b n : Int) = (uN (S.1 (mo + 7) (32 * b + n)) : Int) := rfl
    have cs : cy 16 (fun i => (mq S.1 mo a i : Int) - (mq S.1 mo b i : Int)) (n + 1) = ((mq S.1 mo a n : Int) - (mq S.1 mo b n : Int) + cy 16 (fun i => (mq S.1 mo a i : Int) - (mq S.1 mo b i : Int)) n) / 2 ^ 16 := rfl
    generalize hz : (takeOff_l5 mo a b S 0 n).1 = z at h1 h2 ⊢
    generalize (takeOff_l5 mo a b S 0 n).2 = Y at h3 h4 h5 ⊢
    have t1 : (S.1 (mo + 7) (32 * a + n) - S.1 (mo + 7) (32 * b + n)).toInt = (uN (S.1 (mo + 7) (32 * a + n)) : Int) - (uN (S.1 (mo + 7) (32 * b + n)) : Int) := by
      have ua := uN_int (x := S.1 (mo + 7) (32 * a + n)) (by omega)
      have ub := uN_int (x := S.1 (mo + 7) (32 * b + n)) (by omega)
      rw [i_sub (by rw [ua, ub]; omega) (by rw [ua, ub]; omega), ua, ub]
    have tz : (nI z).toInt = (z : Int) := by
      rw [uN_int (by rw [uN_nI (by omega)]; omega), uN_nI (by omega)]
    have t2 : (S.1 (mo + 7) (32 * a + n) - S.1 (mo + 7) (32 * b + n) - nI z).toInt = (mq S.1 mo a n : Int) - (mq S.1 mo b n : Int) + cy 16 (fun i => (mq S.1 mo a i : Int) - (mq S.1 mo b i : Int)) n := by
      rw [i_sub (by rw [t1, tz]; omega) (by rw [t1, tz]; omega), t1, tz, qa, qb]
      omega
    generalize S.1 (mo + 7) (32 * a + n) - S.1 (mo + 7) (32 * b + n) - nI z = t at t2 ⊢
    have tl : -2 ^ 16 ≤ t.toInt ∧ t.toInt < 2 ^ 16 := by rw [t2, qa, qb]; omega
    refine ⟨?_, ?_, fun k hk => ?_, fun k h6 h7 => ?_, MF_tr (mf_up Y mo a n _ (by omega)) h5⟩
    · rw [cs, ← t2]
      by_cases hp : (0 : Int32) ≤ t
      · have := Int32.le_iff_toInt_le.mp hp
        rw [show (0 : Int32).toInt = 0 from rfl] at this
        show ((if (0 : Int32) ≤ t then 0 else 1 : Nat) : Int) = _
        rw [if_pos hp]
        omega
      · have : ¬ (0 : Int32).toInt ≤ t.toInt := fun q => hp (Int32.le_iff_toInt_le.mpr q)
        rw [show (0 : Int32).toInt = 0 from rfl] at this
        show ((if (0 : Int32) ≤ t then 0 else 1 : Nat) : Int) = _
        rw [if_neg hp]
        omega
    · show (if (0 : Int32) ≤ t then 0 else 1 : Nat) ≤ 1
      split <;> decide
    · rw [mq_up]
      by_cases e : k = n
      · rw [if_pos (by omega), lit65, i_and, t2, e]
      · rw [if_neg (by omega)]
        exact h3 k (by omega)
    · show va_up Y (mo + 7) (upd (Y (mo + 7)) (32 * a + n) _) (mo + 7) (32 * a + k) = _
      rw [vu_s]
      exact (if_neg (by omega)).trans (h4 k (by omega) h7)
theorem rv_sub (b : Nat) (f g : Nat → Int) : ∀ n, rv b (fun i => f i - g i) n = rv b f n - rv b g n := by
  intro n
  induction n with
  | zero => rfl
  | succ n ih =>
    show rv b (fun i => f i - g i) n + (f n - g n) * 2 ^ (b * n) = rv b f n + f n * 2 ^ (b * n) - (rv b g n + g n * 2 ^ (b * n))
    rw [ih, Int.sub_mul]
    omega
theorem rv_b0 (f : Nat → Int) (b : Nat) : ∀ n, (∀ i, i < n → 0 ≤ f i ∧ f i < 2 ^ b) → 0 ≤ rv b f n ∧ rv b f n < 2 ^ (b * n) := by
  intro n
  induction n with
  | zero => exact fun _ => ⟨Int.le_refl _, by show (0 : Int) < 2 ^ (b * 0); rw [Nat.mul_zero, Int.pow_zero]; decide⟩
  | succ n ih =>
    intro h
    obtain ⟨h1, h2⟩ := ih (fun i hi => h i (by omega))
    obtain ⟨h3, h4⟩ := h n (by omega)
    show 0 ≤ rv b f n + f n * 2 ^ (b * n) ∧ rv b f n + f n * 2 ^ (b * n) < 2 ^ (b * (n + 1))
    have hp : (0 : Int) < 2 ^ (b * n) := Int.pow_pos (by decide)
    have e : (2 : Int) ^ (b * (n + 1)) = 2 ^ b * 2 ^ (b * n) := by rw [Nat.mul_add, Nat.mul_one, Int.pow_add, Int.mul_comm]
    have m1 : 0 ≤ f n * 2 ^ (b * n) := Int.mul_nonneg h3 (by omega)
    have m2 : (f n + 1) * 2 ^ (b * n) ≤ 2 ^ b * 2 ^ (b * n) := Int.mul_le_mul_of_nonneg_right (by omega) (by omega)
    rw [Int.add_mul, Int.one_mul] at m2
    rw [e]
    omega
theorem takeOff_m (mo a b : Nat) (S : StT) {n m : Nat} (ha : MD S.1 mo a n) (hb : MD S.1 mo b m) (hab : a ≠ b) (hmn : m ≤ n) : MD (takeOff_f mo a b S).1 mo a (n - m) ∧ MF mo a (takeOff_f mo a b S).1 S.1 ∧ (takeOff_f mo a b S).2 = S.2 := by
  obtain ⟨h1, h2, h3, h4, h5⟩ := takeOff_lp mo a b S hab (fun i hi => MD_lt ha hi) (fun i hi => MD_lt hb hi) 28 (Nat.le_refl _)
  have hs := cy_sum 16 (fun i => (mq S.1 mo a i : Int) - (mq S.1 mo b i : Int)) 28
  rw [rv_sub 16 (fun i => (mq S.1 mo a i : Int)) (fun i => (mq S.1 mo b i : Int)) 28, rv_nat (b := 16) (f := fun i => (mq S.1 mo a i : Int)) (g := mq S.1 mo a) 28 (fun _ _ => rfl), rv_nat (b := 16) (f := fun i => (mq S.1 mo b i : Int)) (g := mq S.1 mo b) 28 (fun _ _ => rfl), MD_28 ha, MD_28 hb] at hs
  have hn := ha.1
  have q1 : ∀ k, k < 28 → mq (takeOff_f mo a b S).1 mo a k < 2 ^ 16 := by
    intro k hk
    have e := h3 k hk
    have e2 : ((mq (takeOff_f mo a b S).1 mo a k : Nat) : Int) < 2 ^ 16 := by
      show ((mq (takeOff_l5 mo a b S 0 28).2 mo a k : Nat) : Int) < 2 ^ 16
      rw [e]
      exact Int.emod_lt_of_pos _ (by decide)
    omega
  have q2 : ∀ k, 28 ≤ k → k < 32 → mq (takeOff_f mo a b S).1 mo a k = 0 := by
    intro k h6 h7
    have e : mq (takeOff_f mo a b S).1 mo a k = mq S.1 mo a k := congrArg uN (h4 k h6 h7)
    rw [e, ha.2 k h7, Nat.div_eq_of_lt (Nat.lt_of_lt_of_le hn (Nat.pow_le_pow_right (by decide) (by omega)))]
  have e1 : rv 16 (fun i => ((mq S.1 mo a i : Int) - (mq S.1 mo b i : Int) + cy 16 (fun i => (mq S.1 mo a i : Int) - (mq S.1 mo b i : Int)) i) % 2 ^ 16) 28 = (rvN (2 ^ 16) (mq (takeOff_f mo a b S).1 mo a) 28 : Int) := rv_nat 28 (fun i hi => (h3 i hi).symm)
  have md := MD_of q1 q2
  rw [e1] at hs
  have hval : rvN (2 ^ 16) (mq (takeOff_f mo a b S).1 mo a) 28 = n - m := by
    have hz := h1
    have hz2 := h2
    generalize cy 16 (fun i => (mq S.1 mo a i : Int) - (mq S.1 mo b i : Int)) 28 = z at hs hz
    have hv := md.1
    generalize rvN (2 ^ 16) (mq (takeOff_f mo a b S).1 mo a) 28 = V at hs hv ⊢
    have ep : (2 : Int) ^ (16 * 28) = ((2 ^ 448 : Nat) : Int) := by rw [Int.natCast_pow]; rfl
    rw [ep] at hs
    generalize 2 ^ 448 = P at hs hv hn
    have hzz : z = 0 ∨ z = -1 := by omega
    rcases hzz with h | h
    · rw [h] at hs
      omega
    · rw [h] at hs
      omega
  rw [hval] at md
  exact ⟨md, h5, rfl⟩
end
