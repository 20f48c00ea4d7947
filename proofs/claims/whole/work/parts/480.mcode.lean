section
/-! THE MODEL'S CODES. -/
theorem dg_mod {N m k w : Nat} (h : k + w ≤ m) : N % 2 ^ m / 2 ^ k % 2 ^ w = N / 2 ^ k % 2 ^ w := by
  have e1 : (2 : Nat) ^ m = 2 ^ k * 2 ^ (m - k) := by rw [← Nat.pow_add, show k + (m - k) = m from by omega]
  rw [e1, Nat.mod_mul_right_div_self]
  have e2 : (2 : Nat) ^ (m - k) = 2 ^ w * 2 ^ (m - k - w) := by rw [← Nat.pow_add, show w + (m - k - w) = m - k from by omega]
  rw [e2, Nat.mod_mul_right_mod]
theorem uN_shl {x : Int32} {s : Nat} (hs : s < 32) : uN (x <<< (nI s &&& 31)) = uN x * 2 ^ s % 2 ^ 32 := by
  have e : ∀ s : Fin 32, ((nI s.val &&& 31).toBitVec.smod 32).toNat = s.val := by decide
  unfold uN
  show (x.toBitVec <<< ((nI s &&& 31).toBitVec.smod 32).toNat).toNat = _
  rw [e ⟨s, hs⟩, BitVec.toNat_shiftLeft, Nat.shiftLeft_eq]
/-- bytes into pieces: one byte more -/
theorem pc_step {M n b k : Nat} (hM : M < 2 ^ (8 * n)) (hb : b < 256) : (M + b * 2 ^ (8 * n)) / 2 ^ (16 * k) % 2 ^ 16 = if k = n / 2 then M / 2 ^ (16 * k) % 2 ^ 16 + b * 2 ^ (8 * (n % 2)) else M / 2 ^ (16 * k) % 2 ^ 16 := by
  have hp : 0 < 2 ^ (16 * k) := Nat.pow_pos (by decide)
  by_cases h : k = n / 2
  · rw [if_pos h]
    have e : 2 ^ (8 * n) = 2 ^ (8 * (n % 2)) * 2 ^ (16 * k) := by
      rw [← Nat.pow_add, show 8 * (n % 2) + 16 * k = 8 * n from by omega]
    rw [e] at hM ⊢
    rw [← Nat.mul_assoc, Nat.add_mul_div_right _ _ hp]
    have h2 : M / 2 ^ (16 * k) < 2 ^ (8 * (n % 2)) := (Nat.div_lt_iff_lt_mul hp).mpr hM
    generalize M / 2 ^ (16 * k) = z at h2 ⊢
    rcases Nat.mod_two_eq_zero_or_one n with q | q
    · rw [q] at h2 ⊢
      rw [Nat.mul_zero, Nat.pow_zero] at h2 ⊢
      omega
    · rw [q] at h2 ⊢
      rw [Nat.mul_one] at h2 ⊢
      omega
  · rw [if_neg h]
    rcases Nat.lt_or_ge k (n / 2) with q | q
    · have e : b * 2 ^ (8 * n) = (2 ^ 16 * (b * 2 ^ (8 * n - 16 * k - 16))) * 2 ^ (16 * k) := by
        have e2 : 2 ^ (8 * n) = 2 ^ 16 * 2 ^ (8 * n - 16 * k - 16) * 2 ^ (16 * k) := by
          rw [← Nat.pow_add, ← Nat.pow_add, show 16 + (8 * n - 16 * k - 16) + 16 * k = 8 * n from by omega]
        rw [e2]
        generalize 2 ^ (8 * n - 16 * k - 16) = A
        generalize 2 ^ (16 * k) = B
        generalize 2 ^ 16 = C
        rw [Nat.mul_comm b, Nat.mul_right_comm, Nat.mul_assoc C A b, Nat.mul_comm A b]
      rw [e, Nat.add_mul_div_right _ _ hp]
      generalize b * 2 ^ (8 * n - 16 * k - 16) = w
      generalize M / 2 ^ (16 * k) = z
      omega
    · have h1 : M + b * 2 ^ (8 * n) < 2 ^ (16 * k) := by
        have h3 : (b + 1) * 2 ^ (8 * n) ≤ 256 * 2 ^ (8 * n) := Nat.mul_le_mul_right _ (by omega)
        have h4 : 256 * 2 ^ (8 * n) ≤ 2 ^ (16 * k) := by
          rw [show (256 : Nat) = 2 ^ 8 from rfl, ← Nat.pow_add]
          exact Nat.pow_le_pow_right (by decide) (by omega)
        rw [Nat.add_mul, Nat.one_mul] at h3
        omega
      rw [Nat.div_eq_of_lt h1, Nat.div_eq_of_lt (Nat.lt_of_le_of_lt (Nat.le_add_right _ _) h1)]
theorem or_sh {x y s : Nat} (hs : s = 0 ∧ x = 0 ∨ s = 8 ∧ x < 256) : x ||| y * 2 ^ s = x + y * 2 ^ s := by
  rcases hs with ⟨h1, h2⟩ | ⟨h1, h2⟩
  · rw [h2, Nat.zero_or, Nat.zero_add]
  · rw [h1, Nat.mul_comm, or_add h2]
/-- bytes into pieces -/
theorem mdec_lp (c : Bool) (mo d nb at_ : Nat) (v1 : Int32) (S : StT) {N : Nat} (hnb : nb ≠ mo + 7) (hz : ∀ k, k < 32 → mq S.1 mo 50 k = 0) (hB : ∀ i, i < cB c → uN (S.1 nb (at_ + i)) = N / 2 ^ (8 * i) % 256) : ∀ n, n ≤ cB c →
    (∀ k, k < 32 → mq (mdec_l28 c mo d nb at_ v1 S n) mo 50 k = (N % 2 ^ (8 * cK c + 7) % 2 ^ (8 * n)) / 2 ^ (16 * k) % 2 ^ 16) ∧ MF mo 50 (mdec_l28 c mo d nb at_ v1 S n) S.1 := by
  have hk := cK_s c
  have hk2 : cK c ≤ 56 := by cases c <;> decide
  intro n
  induction n with
  | zero =>
    intro _
    refine ⟨fun k hk => ?_, MF_rfl _ _ _⟩
    rw [Nat.mul_zero, Nat.pow_zero, Nat.mod_one, Nat.zero_div]
    exact hz k hk
  | succ n ih =>
    intro hn
    obtain ⟨h1, h2⟩ := ih (by omega)
    have er : mdec_l28 c mo d nb at_ v1 S n nb = S.1 nb := h2.1 nb hnb
    have st : mdec_l28 c mo d nb at_ v1 S (n + 1) = va_up (mdec_l28 c mo d nb at_ v1 S n) (mo + 7) (upd (mdec_l28 c mo d nb at_ v1 S n (mo + 7)) (1600 + (n / 2 ^ 1)) ((mdec_l28 c mo d nb at_ v1 S n (mo + 7) (1600 + (n / 2 ^ 1))) ||| ((if (nI n) ≠ (nI (cB c - 1)) then mdec_l28 c mo d nb at_ v1 S n (nb) (at_ + n) else (mdec_l28 c mo d nb at_ v1 S n (nb) (at_ + n)) &&& (nI (127))) <<< ((nI (8 * (n % 2 ^ 1))) &&& 31)))) := rfl
    rw [er] at st
    rw [st]
    clear st
    generalize mdec_l28 c mo d nb at_ v1 S n = Y at h1 h2 ⊢
    have hb : uN (if (nI n) ≠ (nI (cB c - 1)) then S.1 nb (at_ + n) else (S.1 nb (at_ + n)) &&& (nI (127))) = N % 2 ^ (8 * cK c + 7) / 2 ^ (8 * n) % 256 := by
      by_cases q : n = cK c
      · rw [if_neg (fun h => h (by rw [q]; rfl))]
        have e1 : uN (S.1 nb (at_ + n) &&& nI (2 ^ 7 - 1)) = uN (S.1 nb (at_ + n)) % 2 ^ 7 := uN_and (by decide)
        have e2 : uN (S.1 nb (at_ + n) &&& nI 127) = uN (S.1 nb (at_ + n)) % 2 ^ 7 := e1
        rw [e2, hB n (by omega), q]
        have e3 : N % 2 ^ (8 * cK c + 7) / 2 ^ (8 * cK c) % 2 ^ 7 = N / 2 ^ (8 * cK c) % 2 ^ 7 := dg_mod (Nat.le_refl _)
        have e4 : N % 2 ^ (8 * cK c + 7) / 2 ^ (8 * cK c) < 128 := lo_7 (Nat.mod_lt _ (Nat.pow_pos (by decide)))
        generalize N % 2 ^ (8 * cK c + 7) / 2 ^ (8 * cK c) = x at e3 e4 ⊢
        generalize N / 2 ^ (8 * cK c) = y at e3 ⊢
        omega
      · have ne : nI n ≠ nI (cB c - 1) := by
          intro h
          have h3 := congrArg uN h
          rw [uN_nI (by omega), uN_nI (by omega)] at h3
          omega
        rw [if_pos ne, hB n (by omega)]
        exact (dg_mod (w := 8) (by omega)).symm
    generalize (if (nI n) ≠ (nI (cB c - 1)) then S.1 nb (at_ + n) else (S.1 nb (at_ + n)) &&& (nI (127))) = b at hb ⊢
    generalize N % 2 ^ (8 * cK c + 7) = M at h1 hb ⊢
    have hbl : uN b < 256 := by rw [hb]; exact Nat.mod_lt _ (by decide)
    have hs : M % 2 ^ (8 * (n + 1)) = M % 2 ^ (8 * n) + uN b * 2 ^ (8 * n) := by
      have q1 := rvN_dg 8 M (n + 1)
      have q2 := rvN_dg 8 M n
      rw [← q1, ← q2, hb]
      show rvN (2 ^ 8) (fun j => M / 2 ^ (8 * j) % 2 ^ 8) n + (M / 2 ^ (8 * n) % 2 ^ 8) * (2 ^ 8) ^ n = _
      rw [← Nat.pow_mul]
    have hl : M % 2 ^ (8 * n) < 2 ^ (8 * n) := Nat.mod_lt _ (Nat.pow_pos (by decide))
    refine ⟨fun k hk3 => ?_, ?_⟩
    · rw [mq_up, hs, pc_step hl hbl]
      by_cases q : k = n / 2
      · rw [if_pos (by omega), if_pos q]
        have o1 := h1 (n / 2) (by omega)
        have o2 : uN (Y (mo + 7) (1600 + n / 2 ^ 1)) = (M % 2 ^ (8 * n)) / 2 ^ (16 * (n / 2)) % 2 ^ 16 := o1
        have hsm : (M % 2 ^ (8 * n)) / 2 ^ (16 * (n / 2)) < 2 ^ (8 * (n % 2)) := by
          refine (Nat.div_lt_iff_lt_mul (Nat.pow_pos (by decide))).mpr ?_
          rw [← Nat.pow_add, show 8 * (n % 2) + 16 * (n / 2) = 8 * n from by omega]
          exact hl
        have hsh : uN (b <<< ((nI (8 * (n % 2 ^ 1))) &&& 31)) = uN b * 2 ^ (8 * (n % 2)) := by
          rw [uN_shl (by omega)]
          show uN b * 2 ^ (8 * (n % 2)) % 2 ^ 32 = _
          rcases Nat.mod_two_eq_zero_or_one n with z | z
          · rw [z]; omega
          · rw [z]; omega
        rw [uN_or, hsh, o2, q]
        generalize (M % 2 ^ (8 * n)) / 2 ^ (16 * (n / 2)) = z at hsm
        rcases Nat.mod_two_eq_zero_or_one n with z2 | z2
        · rw [z2] at hsm ⊢
          rw [or_sh (Or.inl ⟨rfl, by omega⟩)]
        · rw [z2] at hsm ⊢
          rw [or_sh (Or.inr ⟨rfl, by omega⟩)]
      · rw [if_neg (by omega), if_neg q]
        exact h1 k hk3
    · exact MF_tr (mf_up Y mo 50 (n / 2 ^ 1) _ (by omega)) h2
def mdD (d x : Nat) : Prop := (23 ≤ x ∧ x ≤ 28) ∨ x = 50 ∨ x = 51 ∨ (d ≤ x ∧ x ≤ d + 2)
/-- the answer's last rows -/
theorem mput_m (c : Bool) (mo d : Nat) (S : StT) {x y : Zp c} (qd : d + 2 < 50 ∨ 51 < d) (on : pO c (x, y)) (h1 : MV c S.1 mo 51 x) (h0 : MV c S.1 mo 50 y) :
    MP c (msmall_f mo (d + 2) (nI 1) (mcopy_f mo (d + 1) 50 (mcopy_f mo d 51 S))).1 mo d (x, y) ∧ MX mo (mdD d) (msmall_f mo (d + 2) (nI 1) (mcopy_f mo (d + 1) 50 (mcopy_f mo d 51 S))) S := by
  obtain ⟨a1, a2, a3⟩ := mcopy_v c mo d 51 S h1
  have x1 : MX mo (mdD d) (mcopy_f mo d 51 S) S := MX_of2 (by unfold mdD; omega) a2 a3
  have r0 : MV c (mcopy_f mo d 51 S).1 mo 50 y := MV_fr a2 (by omega) h0
  generalize mcopy_f mo d 51 S = A at a1 x1 r0 ⊢
  obtain ⟨b1, b2, b3⟩ := mcopy_v c mo (d + 1) 50 A r0
  have x2 : MX mo (mdD d) (mcopy_f mo (d + 1) 50 A) S := MX_tr (MX_of2 (by unfold mdD; omega) b2 b3) x1
  have s1 : MV c (mcopy_f mo (d + 1) 50 A).1 mo d x := MV_fr b2 (by omega) a1
  generalize mcopy_f mo (d + 1) 50 A = B at b1 x2 s1 ⊢
  obtain ⟨c1, c2, c3⟩ := mone_v c mo (d + 2) B
  exact ⟨⟨on, x, y, 1, MV_fr c2 (by omega) s1, MV_fr c2 (by omega) b1, c1, fp_10 c, (Lean.Grind.Semiring.mul_one _).symm, (Lean.Grind.Semiring.mul_one _).symm⟩, MX_tr (MX_of2 (by unfold mdD; omega) c2 c3) x2⟩
theorem par_m {c : Bool} {I : Nat → Nat → Int32} {mo a : Nat} {x : Zp c} (h : MV c I mo a x) : uN (I (mo + 7) (32 * a) &&& nI 1) = x.val % 2 := by
  have e1 : uN (I (mo + 7) (32 * a) &&& nI (2 ^ 1 - 1)) = uN (I (mo + 7) (32 * a)) % 2 ^ 1 := uN_and (by decide)
  have e2 : uN (I (mo + 7) (32 * a) &&& nI 1) = uN (I (mo + 7) (32 * a)) % 2 ^ 1 := e1
  have e3 : uN (I (mo + 7) (32 * a)) = x.val / 2 ^ (16 * 0) % 2 ^ 16 := h.2 0 (by decide)
  rw [Nat.mul_zero, Nat.pow_zero, Nat.div_one] at e3
  rw [e2, e3]
  omega
theorem mdec_m (c : Bool) (mo d nb at_ : Nat) (S : StT) {N : Nat} (qd : d + 2 < 50 ∨ 51 < d) (hnb7 : nb ≠ mo + 7) (hnb9 : nb ≠ mo + 9) (hN : N < 2 ^ (8 * cB c)) (hB : ∀ i, i < cB c → uN (S.1 nb (at_ + i)) = N / 2 ^ (8 * i) % 256) (hC : MC c S.1 mo) :
    (((mdec_f c mo d nb at_ S).1 = nI 1 ∧ (∃ P, Dec c N P ∧ MP c (mdec_f c mo d nb at_ S).2.1 mo d P)) ∨ ((mdec_f c mo d nb at_ S).1 = nI 0 ∧ (∀ P, ¬ Dec c N P) ∧ MX mo (fun x => (23 ≤ x ∧ x ≤ 28) ∨ x = 50 ∨ x = 51) (mdec_f c mo d nb at_ S).2 S)) ∧ MX mo (mdD d) (mdec_f c mo d nb at_ S).2 S := by
  have hbN := bN_le c
  have hk := cK_s c
  have hk2 : cK c = 31 ∨ cK c = 56 := by cases c <;> decide
  obtain ⟨a1, a2, a3⟩ := zero28_m mo 50 S
  have en0 : mzero_f mo 50 S = zero28_f mo 50 S := rfl
  have hB0 : ∀ i, i < cB c → uN ((zero28_f mo 50 S).1 nb (at_ + i)) = N / 2 ^ (8 * i) % 256 := fun i hi => by rw [a2.1 nb hnb7]; exact hB i hi
  have hv1 : uN ((S.1 nb (at_ + (cB c - 1))) >>> (nI 7 &&& 31)) = N / 2 ^ (8 * cK c + 7) := by
    have q := hB (cK c) (by omega)
    have q2 : uN (S.1 nb (at_ + (cB c - 1))) = N / 2 ^ (8 * cK c) % 256 := q
    rw [sh_nat (by rw [q2]; omega) (by decide), q2, Nat.pow_add, ← Nat.div_div_eq_div_mul]
    have q3 : N / 2 ^ (8 * cK c) < 256 := by
      refine (Nat.div_lt_iff_lt_mul (Nat.pow_pos (by decide))).mpr ?_
      rw [show 2 ^ (8 * cB c) = 256 * 2 ^ (8 * cK c) from by rw [hk, Nat.mul_add, Nat.mul_one, Nat.pow_add, Nat.mul_comm]] at hN
      exact hN
    rw [Nat.mod_eq_of_lt q3]
  unfold mdec_f
  dsimp only
  rw [en0]
  generalize (S.1 nb (at_ + (cB c - 1))) >>> (nI 7 &&& 31) = v1 at hv1 ⊢
  obtain ⟨l1, l2⟩ := mdec_lp c mo d nb at_ v1 (zero28_f mo 50 S) hnb7 a1 hB0 (cB c) (Nat.le_refl _)
  have hMl : N % 2 ^ (8 * cK c + 7) < 2 ^ (8 * cK c + 7) := Nat.mod_lt _ (Nat.pow_pos (by decide))
  rw [Nat.mod_eq_of_lt (Nat.lt_of_lt_of_le hMl (Nat.pow_le_pow_right (by decide) (show 8 * cK c + 7 ≤ 8 * cB c by omega)))] at l1
  have lF : MF mo 50 (mdec_l28 c mo d nb at_ v1 (zero28_f mo 50 S) (cB c)) S.1 := MF_tr l2 a2
  clear l2 a1 a2 hB0
  rw [a3]
  generalize mdec_l28 c mo d nb at_ v1 (zero28_f mo 50 S) (cB c) = I0 at l1 lF ⊢
  have hDv : ∀ P, Dec c N P → N % 2 ^ (8 * cK c + 7) = P.2.val := fun P h => (Dec_val h).1
  have hDb : ∀ P, Dec c N P → N / 2 ^ (8 * cK c + 7) = P.1.val % 2 := fun P h => (Dec_val h).2
  have hDe : ∀ x y : Zp c, pO c (x, y) → y.val = N % 2 ^ (8 * cK c + 7) → x.val % 2 = N / 2 ^ (8 * cK c + 7) → Dec c N (x, y) := by
    intro x y h1 h2 h3
    refine ⟨h1, ?_⟩
    show y.val + x.val % 2 * 2 ^ (8 * cK c + 7) = N
    rw [h2, h3, Nat.mul_comm (N / 2 ^ (8 * cK c + 7)) (2 ^ (8 * cK c + 7))]
    exact Nat.mod_add_div N _
  have hb2 : N / 2 ^ (8 * cK c + 7) < 2 := by
    refine (Nat.div_lt_iff_lt_mul (Nat.pow_pos (by decide))).mpr ?_
    rw [hk, show 8 * (cK c + 1) = (8 * cK c + 7) + 1 from by omega, Nat.pow_succ] at hN
    omega
  have hM5 : N % 2 ^ (8 * cK c + 7) < 2 ^ 455 := Nat.lt_of_lt_of_le hMl (Nat.pow_le_pow_right (by decide) (by omega))
  generalize N % 2 ^ (8 * cK c + 7) = M at l1 hDv hDe hM5
  generalize N / 2 ^ (8 * cK c + 7) = b at hv1 hDb hDe hb2
  have x0 : MX mo (fun x => x = 50) (I0, S.2.1, S.2.2) S := MX_of rfl lF (fun _ _ => rfl) rfl
  have xa : MX mo (fun x => (23 ≤ x ∧ x ≤ 28) ∨ x = 50 ∨ x = 51) (I0, S.2.1, S.2.2) S := MX_le (fun x hx => Or.inr (Or.inl hx)) x0
  have le1 : ∀ T, MX mo (fun x => (23 ≤ x ∧ x ≤ 28) ∨ x = 50 ∨ x = 51) T S → MX mo (mdD d) T S := fun T h => MX_le (fun x hx => by unfold mdD; omega) h
  have p28 : uN (I0 (mo + 7) 1628) = M / 2 ^ 448 % 2 ^ 16 := l1 28 (by decide)
  have hq : M / 2 ^ 448 < 2 ^ 7 := by
    refine (Nat.div_lt_iff_lt_mul (Nat.pow_pos (by decide))).mpr ?_
    rw [← Nat.pow_add]
    exact hM5
  by_cases h28 : I0 (mo + 7) 1628 = 0
  · rw [if_neg (fun h => h h28)]
    rw [h28, show uN (0 : Int32) = 0 from rfl] at p28
    have hM : M < 2 ^ 448 := by
      rcases Nat.lt_or_ge M (2 ^ 448) with q | q
      · exact q
      · have := (Nat.le_div_iff_mul_le (Nat.pow_pos (by decide) : 0 < 2 ^ 448)).mpr (show 1 * 2 ^ 448 ≤ M by omega)
        omega
    have md : MD I0 mo 50 M := ⟨hM, l1⟩
    have C0 : MC c I0 mo := MC_mx (T := (I0, S.2.1, S.2.2)) x0 (by omega) (by omega) hC
    obtain ⟨m1, _⟩ := atLeast_m mo 50 (9 + bN c) (I0, S.2.1, S.2.2) md C0.1
    rw [m1]
    by_cases hp : nt_p c ≤ M
    · rw [if_pos hp, if_pos (by decide)]
      refine ⟨Or.inr ⟨rfl, fun P hD => ?_, xa⟩, le1 _ xa⟩
      have q1 := hDv P hD
      have q2 := fz_lt P.2
      omega
    · rw [if_neg hp, if_neg (by decide)]
      obtain ⟨yv, hyv⟩ : ∃ yv : Zp c, yv.val = M := by
        refine ⟨fz c (M : Int), ?_⟩
        have h := fz_vl c (M : Int)
        rw [Int.emod_eq_of_lt (by omega) (by omega)] at h
        omega
      have my : MV c I0 mo 50 yv := by unfold MV; rw [hyv]; exact md
      obtain ⟨r1, r2⟩ := mroot_m c mo 51 50 (I0, S.2.1, S.2.2) (by decide) (by decide) (by decide) C0 my
      generalize mroot_f c mo 51 50 (I0, S.2.1, S.2.2) = R at r1 r2 ⊢
      have xR : MX mo (fun x => (23 ≤ x ∧ x ≤ 28) ∨ x = 50 ∨ x = 51) R.2 S := MX_tr (MX_le (fun x hx => by unfold mrD at hx; omega) r2) xa
      have y5 : MV c R.2.1 mo 50 yv := MV_mx r2 (by unfold mrD; omega) my
      have CR : MC c R.2.1 mo := MC_mx r2 (by unfold mrD; omega) (by unfold mrD; omega) C0
      have hyP : ∀ P, Dec c N P → P.2 = yv := fun P hD => valE.mp ((hDv P hD).symm.trans hyv.symm)
      rcases r1 with ⟨r1, x, on, mx⟩ | ⟨r1, no⟩
      · rw [if_pos (show R.1 ≠ 0 by rw [r1]; decide)]
        obtain ⟨z1, _⟩ := misZero_m mo 51 R.2 mx
        have par : uN (R.2.1 (mo + 7) 1632 &&& nI 1) = x.val % 2 := par_m mx
        have fin : (x ≠ 0 ∨ b = 0) → ∀ E : Int32 × StT, E = (if (R.2.1 (mo + 7) 1632 &&& nI 1) = v1 then (nI 1, msmall_f mo (d + 2) (nI 1) (mcopy_f mo (d + 1) 50 (mcopy_f mo d 51 R.2))) else (nI 1, msmall_f mo (d + 2) (nI 1) (mcopy_f mo (d + 1) 50 (mcopy_f mo d 51 (mminus_f c mo 51 25 51 (mzero_f mo 25 R.2)))))) → (E.1 = nI 1 ∧ (∃ P, Dec c N P ∧ MP c E.2.1 mo d P)) ∧ MX mo (mdD d) E.2 S := by
          intro hxb E hE
          by_cases hv : (R.2.1 (mo + 7) 1632 &&& nI 1) = v1
          · rw [if_pos hv] at hE
            rw [hE]
            obtain ⟨g1, g2⟩ := mput_m c mo d R.2 (by omega) on mx y5
            have hxp : x.val % 2 = b := by rw [← par, hv, hv1]
            exact ⟨⟨rfl, (x, yv), hDe x yv on hyv hxp, g1⟩, MX_tr g2 (le1 _ xR)⟩
          · rw [if_neg hv] at hE
            rw [hE]
            have hxp : x.val % 2 ≠ b := fun q => hv (uN_ext (by rw [par, hv1, q]))
            have hx0 : x ≠ 0 := by
              rcases hxb with q | q
              · exact q
              · intro e
                rw [e, q] at hxp
                exact hxp rfl
            obtain ⟨w1, w2, w3⟩ := mzero_v c mo 25 R.2
            have xW : MX mo (fun x => x = 25 ∨ x = 51) (mzero_f mo 25 R.2) R.2 := MX_of2 (Or.inl rfl) w2 w3
            have mx2 : MV c (mzero_f mo 25 R.2).1 mo 51 x := MV_fr w2 (by decide) mx
            generalize mzero_f mo 25 R.2 = W at w1 xW mx2 ⊢
            obtain ⟨n1, n2, n3, n4⟩ := mminus_m c mo 51 25 51 W (by omega) (MD_mx xW (by omega) CR.1) w1 mx2
            rw [zsub] at n1
            have xN : MX mo (fun x => x = 25 ∨ x = 51) (mminus_f c mo 51 25 51 W) R.2 := MX_tr (MX_of (Or.inr rfl) n2 n3 n4) xW
            generalize mminus_f c mo 51 25 51 W = V at n1 xN ⊢
            obtain ⟨g1, g2⟩ := mput_m c mo d V (by omega) (pN_on on) n1 (MV_mx xN (by omega) y5)
            have hnp := neg_par hx0
            refine ⟨⟨rfl, (-x, yv), hDe (-x) yv (pN_on on) hyv (by omega), g1⟩, MX_tr g2 (MX_tr (MX_le (fun q hq => by unfold mdD; omega) xN) (le1 _ xR))⟩
        rw [z1]
        by_cases hx : x.val = 0
        · rw [if_pos hx, if_neg (by decide)]
          by_cases hb : b = 1
          · have hv : v1 = nI 1 := uN_ext (by rw [hv1, hb]; decide)
            rw [if_neg (fun h => h hv)]
            refine ⟨Or.inr ⟨rfl, fun P hD => ?_, xR⟩, le1 _ xR⟩
            have e1 := hDb P hD
            have e2 := hyP P hD
            obtain ⟨px, py⟩ := P
            have e2' : py = yv := e2
            subst e2'
            have hx' : x = 0 := val0.mp hx
            have e1' : b = px.val % 2 := e1
            rcases x_two hD.1 on with e | e
            · rw [e, hx, hb] at e1'
              exact absurd e1' (by decide)
            · rw [e, hx', show (-0 : Zp c) = 0 from by grind, zero_val, hb] at e1'
              exact absurd e1' (by decide)
          · have hv : v1 ≠ nI 1 := by
              intro q
              rw [q] at hv1
              exact hb (hv1.symm.trans (by decide))
            rw [if_pos hv]
            obtain ⟨g1, g2⟩ := fin (Or.inr (by omega)) _ rfl
            exact ⟨Or.inl g1, g2⟩
        · rw [if_neg hx, if_pos (by decide)]
          obtain ⟨g1, g2⟩ := fin (Or.inl (fun q => hx (val0.mpr q))) _ rfl
          exact ⟨Or.inl g1, g2⟩
      · rw [if_neg (show ¬ (R.1 ≠ 0) from fun h => h (r1.trans (by decide)))]
        refine ⟨Or.inr ⟨rfl, fun P hD => no P.1 ?_, xR⟩, le1 _ xR⟩
        rw [← hyP P hD]
        exact hD.1
  · rw [if_pos h28]
    refine ⟨Or.inr ⟨rfl, fun P hD => ?_, xa⟩, le1 _ xa⟩
    have q1 := hDv P hD
    have q2 := Nat.lt_trans (fz_lt P.2) (nt_448 c)
    rw [Nat.div_eq_of_lt (by rw [q1]; exact q2)] at p28
    exact h28 (uN_ext (p28.trans (by decide)))
/-- bytes out of pieces -/
theorem by_pc {I : Nat → Nat → Int32} {mo a n i : Nat} (h : MD I mo a n) (hi : i < 57) : uN (((I (mo + 7) (32 * a + (i / 2 ^ 1))) >>> ((nI (8 * (i % 2 ^ 1))) &&& 31)) &&& (nI (255))) = n / 2 ^ (8 * i) % 256 := by
  have e0 : uN (I (mo + 7) (32 * a + (i / 2 ^ 1))) = n / 2 ^ (16 * (i / 2)) % 2 ^ 16 := h.2 (i / 2) (by omega)
  have hl : uN (I (mo + 7) (32 * a + (i / 2 ^ 1))) < 2 ^ 16 := by rw [e0]; exact Nat.mod_lt _ (by decide)
  have e1 : uN (((I (mo + 7) (32 * a + (i / 2 ^ 1))) >>> ((nI (8 * (i % 2 ^ 1))) &&& 31)) &&& nI (2 ^ 8 - 1)) = uN ((I (mo + 7) (32 * a + (i / 2 ^ 1))) >>> ((nI (8 * (i % 2 ^ 1))) &&& 31)) % 2 ^ 8 := uN_and (by decide)
  rw [sh_nat (by omega) (by omega), e0] at e1
  refine Eq.trans e1 ?_
  have e2 : n / 2 ^ (16 * (i / 2)) % 2 ^ 16 / 2 ^ (8 * (i % 2)) % 2 ^ 8 = n / 2 ^ (16 * (i / 2)) / 2 ^ (8 * (i % 2)) % 2 ^ 8 := dg_mod (by omega)
  refine Eq.trans e2 ?_
  rw [Nat.div_div_eq_div_mul, ← Nat.pow_add, show 16 * (i / 2) + 8 * (i % 2) = 8 * i from by omega]
theorem menc_lp (c : Bool) (mo a : Nat) (S1 S : StT) {n : Nat} (h : MD S.1 mo 52 n) (hn : n < 2 ^ (16 * pN c)) : ∀ m, m ≤ 57 →
    (∀ i, i < m → uN (menc_l31 c mo a S1 S m (mo + 27) i) = n / 2 ^ (8 * i) % 256) ∧ (∀ i, m ≤ i → menc_l31 c mo a S1 S m (mo + 27) i = S.1 (mo + 27) i) ∧ ∀ r, r ≠ mo + 27 → menc_l31 c mo a S1 S m r = S.1 r := by
  have hpn := pN_b c
  intro m
  induction m with
  | zero => exact fun _ => ⟨fun i hi => absurd hi (Nat.not_lt_zero _), fun _ _ => rfl, fun _ _ => rfl⟩
  | succ m ih =>
    intro hm
    obtain ⟨h1, h2, h3⟩ := ih (by omega)
    have st : menc_l31 c mo a S1 S (m + 1) = va_up (menc_l31 c mo a S1 S m) (mo + 27) (upd (menc_l31 c mo a S1 S m (mo + 27)) m ((if (nI (2 * (pN c))) ≤ (nI m) then nI (0) else ((menc_l31 c mo a S1 S m (mo + 7) (1664 + (m / 2 ^ 1))) >>> ((nI (8 * (m % 2 ^ 1))) &&& 31)) &&& (nI (255))))) := rfl
    rw [h3 (mo + 7) (by omega)] at st
    rw [st]
    clear st
    have hv : uN (if (nI (2 * (pN c))) ≤ (nI m) then nI (0) else ((S.1 (mo + 7) (1664 + (m / 2 ^ 1))) >>> ((nI (8 * (m % 2 ^ 1))) &&& 31)) &&& (nI (255))) = n / 2 ^ (8 * m) % 256 := by
      by_cases q : 2 * pN c ≤ m
      · rw [if_pos ((nle (by omega) (by omega)).mpr q), Nat.div_eq_of_lt (Nat.lt_of_lt_of_le hn (Nat.pow_le_pow_right (by decide) (by omega)))]
        decide
      · rw [if_neg (fun z => q ((nle (by omega) (by omega)).mp z))]
        have q3 := by_pc (a := 52) (i := m) h (by omega)
        rw [show 32 * 52 = 1664 from rfl] at q3
        exact q3
    generalize (if (nI (2 * (pN c))) ≤ (nI m) then nI (0) else ((S.1 (mo + 7) (1664 + (m / 2 ^ 1))) >>> ((nI (8 * (m % 2 ^ 1))) &&& 31)) &&& (nI (255))) = w at hv ⊢
    refine ⟨fun i hi => ?_, fun i hi => ?_, fun r hr => (vu_n hr).trans (h3 r hr)⟩
    · rw [vu_s]
      show uN (if i = m then w else _) = _
      by_cases q : i = m
      · rw [if_pos q, hv, q]
      · rw [if_neg q]; exact h1 i (by omega)
    · rw [vu_s]
      exact (if_neg (by omega)).trans (h2 i (by omega))
theorem cN_lt {c : Bool} (P : Pt c) : cN c P < 2 ^ (8 * cB c) := by
  have h1 := Nat.lt_trans (fz_lt P.2) (nt_lt c)
  have e : 2 ^ (8 * cB c) = 2 * 2 ^ (8 * cK c + 7) := by
    rw [cK_s c, show 8 * (cK c + 1) = (8 * cK c + 7) + 1 from by omega, Nat.pow_succ, Nat.mul_comm]
  unfold cN
  rw [e]
  rcases Nat.mod_two_eq_zero_or_one P.1.val with h | h <;> rw [h] <;> omega
def meD (x : Nat) : Prop := x = 23 ∨ x = 24 ∨ (50 ≤ x ∧ x ≤ 52)
theorem menc_m (c : Bool) (mo a : Nat) (S : StT) {P : Pt c} (qa : a + 2 < 23 ∨ (24 < a ∧ a + 2 < 50) ∨ 52 < a) (hC : MC c S.1 mo) (h : MP c S.1 mo a P) :
    (∀ i, i < 57 → uN ((menc_f c mo a S).1 (mo + 27) i) = cN c P / 2 ^ (8 * i) % 256) ∧ (∀ i, 57 ≤ i → (menc_f c mo a S).1 (mo + 27) i = S.1 (mo + 27) i) ∧ (∀ r, r ≠ mo + 7 → r ≠ mo + 9 → r ≠ mo + 27 → (menc_f c mo a S).1 r = S.1 r) ∧ (∀ x, ¬ meD x → ∀ i, i < 32 → (menc_f c mo a S).1 (mo + 7) (32 * x + i) = S.1 (mo + 7) (32 * x + i)) ∧ (∀ r, r ≠ mo + 8 → (menc_f c mo a S).2.1 r = S.2.1 r) ∧ (menc_f c mo a S).2.2 = S.2.2 := by
  have hbN := bN_le c
  have hk := cK_s c
  have hk2 : cK c = 31 ∨ cK c = 56 := by cases c <;> decide
  obtain ⟨hp, _⟩ := hC
  obtain ⟨on, x, y, z, q1, q2, q3, q4⟩ := h
  obtain ⟨n1, n2⟩ := ed_rp_enc (fp_K c) q4
  obtain ⟨a1, a2⟩ := minv_m c mo 50 (a + 2) S hp (by omega) q3
  have x1 : MX mo meD (minv_f c mo 50 (a + 2) S) S := MX_le (fun x hx => by unfold meD; omega) a2
  have r1 : MV c (minv_f c mo 50 (a + 2) S).1 mo a x := MV_mx a2 (by omega) q1
  have r2 : MV c (minv_f c mo 50 (a + 2) S).1 mo (a + 1) y := MV_mx a2 (by omega) q2
  have hp1 := MD_mx a2 (by omega) hp
  unfold menc_f
  dsimp only
  generalize minv_f c mo 50 (a + 2) S = A at a1 x1 r1 r2 hp1 ⊢
  obtain ⟨b1, b2, b3, b4⟩ := mmul_m c mo 51 a 50 A (by omega) hp1 r1 a1
  have x2 : MX mo meD (mmul_f c mo 51 a 50 A) S := MX_tr (MX_of (by unfold meD; omega) b2 b3 b4) x1
  have s2 : MV c (mmul_f c mo 51 a 50 A).1 mo (a + 1) y := MV_fr b2 (by omega) r2
  have s0 : MV c (mmul_f c mo 51 a 50 A).1 mo 50 (fp_iv c z) := MV_fr b2 (by omega) a1
  have hp2 := MD_fr b2 (by omega) hp1
  generalize mmul_f c mo 51 a 50 A = B at b1 x2 s2 s0 hp2 ⊢
  obtain ⟨c1, c2, c3, c4⟩ := mmul_m c mo 52 (a + 1) 50 B (by omega) hp2 s2 s0
  have x3 : MX mo meD (mmul_f c mo 52 (a + 1) 50 B) S := MX_tr (MX_of (by unfold meD; omega) c2 c3 c4) x2
  have t1 : MV c (mmul_f c mo 52 (a + 1) 50 B).1 mo 51 (x * fp_iv c z) := MV_fr c2 (by omega) b1
  generalize mmul_f c mo 52 (a + 1) 50 B = T at c1 x3 t1 ⊢
  rw [n1] at t1
  rw [n2] at c1
  obtain ⟨l1, l2, l3⟩ := menc_lp c mo a T T c1 (Nat.lt_trans (fz_lt P.2) (nt_16 c)) 57 (Nat.le_refl _)
  generalize menc_l31 c mo a T T 57 = I1 at l1 l2 l3 ⊢
  have par : uN (I1 (mo + 7) 1632 &&& nI 1) = P.1.val % 2 := by
    rw [l3 (mo + 7) (by omega)]
    exact par_m t1
  generalize (I1 (mo + 7) 1632 &&& nI 1) = w at par ⊢
  have hsh : uN (w <<< (nI 7 &&& 31)) = 2 ^ 7 * (P.1.val % 2) := by
    rw [uN_shl (by decide), par]
    omega
  generalize (w <<< (nI 7 &&& 31)) = g at hsh ⊢
  have hv2 : P.2.val < 2 ^ (8 * cK c + 7) := Nat.lt_trans (fz_lt P.2) (nt_lt c)
  have ecN : cN c P = P.2.val + P.1.val % 2 * 2 ^ (8 * cK c + 7) := rfl
  have hone : P.1.val % 2 = 0 ∨ P.1.val % 2 = 1 := Nat.mod_two_eq_zero_or_one _
  generalize P.1.val % 2 = b at hsh hone ecN
  generalize P.2.val = yv at l1 hv2 ecN
  have key : ∀ i, i < 57 → uN (va_up I1 (mo + 27) (upd (I1 (mo + 27)) (cB c - 1) (I1 (mo + 27) (cB c - 1) ||| g)) (mo + 27) i) = cN c P / 2 ^ (8 * i) % 256 := by
    intro i hi
    rw [vu_s]
    rw [ecN]
    show uN (if i = cK c then I1 (mo + 27) (cK c) ||| g else I1 (mo + 27) i) = (yv + b * 2 ^ (8 * cK c + 7)) / 2 ^ (8 * i) % 256
    have hlo := lo_7 hv2
    have hlo2 : yv / 2 ^ (8 * cK c) % 256 < 2 ^ 7 := by
      generalize yv / 2 ^ (8 * cK c) = z at hlo ⊢
      omega
    by_cases e : i = cK c
    · rw [if_pos e, uN_or, hsh, l1 (cK c) (by omega), or_add hlo2, e]
      rcases hone with q | q
      · rw [q, Nat.mul_zero, Nat.zero_mul, Nat.add_zero, Nat.add_zero]
      · rw [q, Nat.one_mul, by_hi hv2 (Nat.le_refl _), if_pos rfl]
    · rw [if_neg e, l1 i hi]
      rcases hone with q | q
      · rw [q, Nat.zero_mul, Nat.add_zero]
      · rw [q, Nat.one_mul]
        rcases Nat.lt_or_ge i (cK c) with h1 | h1
        · rw [by_hi hv2 (by omega), if_neg e]
        · have hs : yv + 2 ^ (8 * cK c + 7) < 2 ^ (8 * i) := by
            have h2 : 2 ^ (8 * cK c + 8) ≤ 2 ^ (8 * i) := Nat.pow_le_pow_right (by decide) (by omega)
            have h3 : 2 ^ (8 * cK c + 8) = 2 * 2 ^ (8 * cK c + 7) := by rw [show 8 * cK c + 8 = (8 * cK c + 7) + 1 from by omega, Nat.pow_succ, Nat.mul_comm]
            omega
          rw [Nat.div_eq_of_lt hs, Nat.div_eq_of_lt (Nat.lt_of_le_of_lt (Nat.le_add_right _ _) hs)]
  refine ⟨key, fun i hi => ?_, fun r h7 h9 h27 => ?_, fun q hq i hi => ?_, x3.2.2.1, x3.2.2.2⟩
  · rw [vu_s]
    refine (if_neg (by omega)).trans ((l2 i hi).trans ?_)
    rw [x3.1 (mo + 27) (by omega) (by omega)]
  · exact (vu_n h27).trans ((l3 r h27).trans (x3.1 r h7 h9))
  · show va_up I1 (mo + 27) _ (mo + 7) (32 * q + i) = _
    rw [vu_n (show mo + 7 ≠ mo + 27 by omega), l3 (mo + 7) (by omega)]
    exact x3.2.1 q hq i hi
end
