section
/-! SHAKE256: the same digest. -/
def ab (A : Nat → Int64) (p : Nat) (v : Int32) : Nat → Int64 := vp_updL A (p / 2 ^ 3) ((A (p / 2 ^ 3)) ^^^ (((v).toInt64) <<< ((nI (8 * (p % 2 ^ 3))).toInt64 &&& 63)))
theorem ab_congr {A B : Nat → Int64} (h : ∀ i, i < 25 → A i = B i) {p : Nat} (hp : p < 200) (v : Int32) : ∀ i, i < 25 → ab A p v i = ab B p v i := by
  intro i hi
  unfold ab
  by_cases e : i = p / 2 ^ 3
  · rw [e, pk_uLs, pk_uLs, h (p / 2 ^ 3) (by omega)]
  · rw [pk_uLn e, pk_uLn e, h i hi]
def abn (g : Nat → Int32) (A : Nat → Int64) : Nat → Nat → Int64
  | 0 => A
  | j + 1 => ab (abn g A j) j (g j)
theorem abn_s (g : Nat → Int32) (A : Nat → Int64) (j : Nat) : abn g A (j + 1) = ab (abn g A j) j (g j) := rfl
theorem abn_congr {f g : Nat → Int32} {A B : Nat → Int64} (h : ∀ i, i < 25 → A i = B i) : ∀ n, n ≤ 136 → (∀ j, j < n → f j = g j) → ∀ i, i < 25 → abn f A n i = abn g B n i := by
  intro n
  induction n with
  | zero => exact fun _ _ => h
  | succ n ih =>
    intro hn hg
    rw [abn_s, abn_s, hg n (by omega)]
    exact ab_congr (ih (by omega) (fun j hj => hg j (by omega))) (by omega) _
theorem ab_0 (A : Nat → Int64) {p : Nat} : ab A p (nI 0) = A := by
  funext i
  unfold ab
  have e : ((nI 0).toInt64 <<< ((nI (8 * (p % 2 ^ 3))).toInt64 &&& 63)) = 0 := by
    refine uL_ext ?_
    rw [uL_shl _ (by omega), show uL (nI 0).toInt64 = 0 from by decide, Nat.zero_mul]
    decide
  rw [e, Int64.xor_zero]
  by_cases q : i = p / 2 ^ 3
  · rw [q, pk_uLs]
  · rw [pk_uLn q]
theorem ab_2 (A : Nat → Int64) : ab (ab A 135 (nI 31)) 135 (nI 128) = ab A 135 (nI 31 ^^^ nI 128) := by
  funext i
  unfold ab
  by_cases q : i = 135 / 2 ^ 3
  · rw [q, pk_uLs, pk_uLs, pk_uLs, Int64.xor_assoc]
    congr 1
  · rw [pk_uLn q, pk_uLn q, pk_uLn q]
theorem abn_0 {g : Nat → Int32} {A : Nat → Int64} {r : Nat} : ∀ n, (∀ j, r ≤ j → j < r + n → g j = nI 0) → abn g A (r + n) = abn g A r := by
  intro n
  induction n with
  | zero => exact fun _ => rfl
  | succ n ih =>
    intro h
    rw [← Nat.add_assoc, abn_s, h (r + n) (by omega) (by omega), ab_0]
    exact ih (fun j h1 h2 => h j h1 (by omega))
/-- lanes behind b blocks -/
def kB (g : Nat → Int32) (Z : Nat → Int64) : Nat → Nat → Int64
  | 0 => Z
  | b + 1 => kN (abn (fun j => g (136 * b + j)) (kB g Z b) 136) 24
theorem kB_s (g : Nat → Int32) (Z : Nat → Int64) (b : Nat) : kB g Z (b + 1) = kN (abn (fun j => g (136 * b + j)) (kB g Z b) 136) 24 := rfl
theorem kB_congr {f g : Nat → Int32} {Y Z : Nat → Int64} (h : ∀ i, i < 25 → Y i = Z i) : ∀ b, (∀ j, j < 136 * b → f j = g j) → ∀ i, i < 25 → kB f Y b i = kB g Z b i := by
  intro b
  induction b with
  | zero => exact fun _ => h
  | succ b ih =>
    intro hg
    rw [kB_s, kB_s]
    exact kN_congr (abn_congr (ih (fun j hj => hg j (by omega))) 136 (Nat.le_refl _) (fun j hj => hg (136 * b + j) (by omega))) 24
theorem smix_s (so at_ : Nat) (v : Int32) (S : StT) : (smix_f so at_ v S).2.1 (so + 1) = ab (S.2.1 (so + 1)) at_ v ∧ ∀ r, r ≠ so + 1 → (smix_f so at_ v S).2.1 r = S.2.1 r := by
  unfold smix_f
  exact ⟨vu_s, fun r hr => vu_n hr⟩
set_option maxRecDepth 100000 in
theorem sdig_st (so ro : Nat) (S : StT) (n : Nat) : sdig_l14 so ro S (n + 1) = (if (nI (n % 136 + 1)) ≠ (nI (136)) then (smix_f (so) (n % 136) (S.1 (ro + 1) n) (S.1, sdig_l14 so ro S n, S.2.2)).2.1 else (sperm_f (so) (S.1, (smix_f (so) (n % 136) (S.1 (ro + 1) n) (S.1, sdig_l14 so ro S n, S.2.2)).2.1, S.2.2)).2.1) := by
  dsimp only [sdig_l14]
theorem sdig_lp (so ro : Nat) (S : StT) : ∀ n, (∀ i, i < 25 → sdig_l14 so ro S n (so + 1) i = abn (fun j => S.1 (ro + 1) (136 * (n / 136) + j)) (kB (S.1 (ro + 1)) (S.2.1 (so + 1)) (n / 136)) (n % 136) i) ∧ ∀ r, r ≠ so + 1 → r ≠ so + 2 → sdig_l14 so ro S n r = S.2.1 r := by
  intro n
  induction n with
  | zero => exact ⟨fun _ _ => rfl, fun _ _ _ => rfl⟩
  | succ n ih =>
    obtain ⟨h1, h2⟩ := ih
    rw [sdig_st]
    generalize sdig_l14 so ro S n = Y at h1 h2 ⊢
    obtain ⟨m1, m2⟩ := smix_s so (n % 136) (S.1 (ro + 1) n) (S.1, Y, S.2.2)
    have m3 : (smix_f so (n % 136) (S.1 (ro + 1) n) (S.1, Y, S.2.2)).2.1 (so + 1) = ab (Y (so + 1)) (n % 136) (S.1 (ro + 1) n) := m1
    have m4 : ∀ r, r ≠ so + 1 → (smix_f so (n % 136) (S.1 (ro + 1) n) (S.1, Y, S.2.2)).2.1 r = Y r := m2
    generalize smix_f so (n % 136) (S.1 (ro + 1) n) (S.1, Y, S.2.2) = X at m3 m4 ⊢
    have key : ∀ i, i < 25 → X.2.1 (so + 1) i = abn (fun j => S.1 (ro + 1) (136 * (n / 136) + j)) (kB (S.1 (ro + 1)) (S.2.1 (so + 1)) (n / 136)) (n % 136 + 1) i := by
      intro i hi
      rw [m3, abn_s]
      have e : S.1 (ro + 1) (136 * (n / 136) + n % 136) = S.1 (ro + 1) n := by rw [Nat.div_add_mod]
      show _ = ab _ (n % 136) (S.1 (ro + 1) (136 * (n / 136) + n % 136)) i
      rw [e]
      exact ab_congr h1 (by omega) _ i hi
    by_cases q : n % 136 + 1 = 136
    · rw [if_neg (fun z => z (by rw [q]))]
      obtain ⟨p1, p2⟩ := sperm_s so (S.1, X.2.1, S.2.2)
      refine ⟨fun i hi => ?_, fun r q1 q2 => (p2 r q1 q2).trans ((m4 r q1).trans (h2 r q1 q2))⟩
      rw [p1 i hi, show (n + 1) / 136 = n / 136 + 1 from by omega, show (n + 1) % 136 = 0 from by omega, kB_s]
      show kN (X.2.1 (so + 1)) 24 i = kN _ 24 i
      rw [q] at key
      exact kN_congr key 24 i hi
    · have ne : nI (n % 136 + 1) ≠ nI 136 := by
        intro z
        have z2 := congrArg uN z
        rw [uN_nI (by omega), uN_nI (by omega)] at z2
        exact q z2
      rw [if_pos ne, show (n + 1) / 136 = n / 136 from by omega, show (n + 1) % 136 = n % 136 + 1 from by omega]
      exact ⟨key, fun r q1 q2 => (m4 r q1).trans (h2 r q1 q2)⟩
/-- the model's padded bytes -/
def kpd (mo q : Nat) (S : StT) : Nat → Nat → Int32 := va_up (mshake_l21 mo q (va_up S.1 (mo + 11) (upd (S.1 (mo + 11)) (q) (nI (31))), S.2.1, S.2.2) (skN q)) (mo + 11) (upd ((mshake_l21 mo q (va_up S.1 (mo + 11) (upd (S.1 (mo + 11)) (q) (nI (31))), S.2.1, S.2.2) (skN q)) (mo + 11)) (q + 1 + (skN q) - 1) (((mshake_l21 mo q (va_up S.1 (mo + 11) (upd (S.1 (mo + 11)) (q) (nI (31))), S.2.1, S.2.2) (skN q)) (mo + 11) (q + 1 + (skN q) - 1)) ^^^ (nI (128))))
theorem l21_lp (mo q : Nat) (S : StT) : ∀ n, (∀ k, q + 1 ≤ k → k < q + 1 + n → mshake_l21 mo q S n (mo + 11) k = nI 0) ∧ (∀ k, (k < q + 1 ∨ q + 1 + n ≤ k) → mshake_l21 mo q S n (mo + 11) k = S.1 (mo + 11) k) ∧ ∀ r, r ≠ mo + 11 → mshake_l21 mo q S n r = S.1 r := by
  intro n
  induction n with
  | zero => exact ⟨fun k h1 h2 => by omega, fun _ _ => rfl, fun _ _ => rfl⟩
  | succ n ih =>
    obtain ⟨h1, h2, h3⟩ := ih
    unfold mshake_l21
    dsimp only
    refine ⟨fun k hk1 hk2 => ?_, fun k hk => ?_, fun r hr => (vu_n hr).trans (h3 r hr)⟩
    · rw [vu_s]
      show (if k = q + 1 + n then nI 0 else _) = nI 0
      split
      · rfl
      · exact h1 k hk1 (by omega)
    · rw [vu_s]
      exact (if_neg (by omega)).trans (h2 k (by omega))
theorem skN_v (q : Nat) : q + 1 + skN q = 136 * (q / 136 + 1) ∧ skN q < 136 := by
  unfold skN
  omega
theorem kpd_v (mo q : Nat) (S : StT) : (∀ k, k < q → kpd mo q S (mo + 11) k = S.1 (mo + 11) k) ∧ (skN q = 0 → kpd mo q S (mo + 11) q = nI 31 ^^^ nI 128) ∧ (0 < skN q → kpd mo q S (mo + 11) q = nI 31 ∧ (∀ k, q < k → k < q + skN q → kpd mo q S (mo + 11) k = nI 0) ∧ kpd mo q S (mo + 11) (q + skN q) = nI 128) ∧ ∀ r, r ≠ mo + 11 → kpd mo q S r = S.1 r := by
  obtain ⟨a1, a2, a3⟩ := l21_lp mo q (va_up S.1 (mo + 11) (upd (S.1 (mo + 11)) q (nI 31)), S.2.1, S.2.2) (skN q)
  have em : ∀ j, va_up S.1 (mo + 11) (upd (S.1 (mo + 11)) q (nI 31)) (mo + 11) j = if j = q then nI 31 else S.1 (mo + 11) j := fun j => by rw [vu_s]; rfl
  have a4 : ∀ k, (k < q + 1 ∨ q + 1 + skN q ≤ k) → mshake_l21 mo q (va_up S.1 (mo + 11) (upd (S.1 (mo + 11)) q (nI 31)), S.2.1, S.2.2) (skN q) (mo + 11) k = if k = q then nI 31 else S.1 (mo + 11) k := fun k hk => (a2 k hk).trans (em k)
  have a5 : ∀ r, r ≠ mo + 11 → mshake_l21 mo q (va_up S.1 (mo + 11) (upd (S.1 (mo + 11)) q (nI 31)), S.2.1, S.2.2) (skN q) r = S.1 r := fun r hr => (a3 r hr).trans (vu_n hr)
  unfold kpd
  clear a2 a3
  generalize mshake_l21 mo q (va_up S.1 (mo + 11) (upd (S.1 (mo + 11)) q (nI 31)), S.2.1, S.2.2) (skN q) = I1 at a1 a4 a5 ⊢
  have ek : ∀ k, va_up I1 (mo + 11) (upd (I1 (mo + 11)) (q + 1 + skN q - 1) (I1 (mo + 11) (q + 1 + skN q - 1) ^^^ nI 128)) (mo + 11) k = if k = q + skN q then I1 (mo + 11) (q + skN q) ^^^ nI 128 else I1 (mo + 11) k := by
    intro k
    rw [vu_s, show q + 1 + skN q - 1 = q + skN q from by omega]
    rfl
  refine ⟨fun k hk => ?_, fun h0 => ?_, fun h0 => ⟨?_, fun k h1 h2 => ?_, ?_⟩, fun r hr => (vu_n hr).trans (a5 r hr)⟩
  · rw [ek, if_neg (by omega), a4 k (by omega), if_neg (by omega)]
  · rw [ek, if_pos (by omega), show q + skN q = q from by omega, a4 q (by omega), if_pos rfl]
  · rw [ek, if_neg (by omega), a4 q (by omega), if_pos rfl]
  · rw [ek, if_neg (by omega), a1 k (by omega) (by omega)]
  · rw [ek, if_pos rfl, a1 (q + skN q) (by omega) (by omega)]
    decide
theorem msk114 (mo t : Nat) (S : StT) : ∀ n, mshake_l114 mo t S n (mo + 17) = abn (fun j => S.1 (mo + 11) (136 * t + j)) (S.2.1 (mo + 17)) n ∧ ∀ r, r ≠ mo + 17 → mshake_l114 mo t S n r = S.2.1 r := by
  intro n
  induction n with
  | zero => exact ⟨rfl, fun _ _ => rfl⟩
  | succ n ih =>
    obtain ⟨h1, h2⟩ := ih
    unfold mshake_l114
    dsimp only
    rw [h1, abn_s]
    exact ⟨vu_s, fun r hr => (vu_n hr).trans (h2 r hr)⟩
set_option maxRecDepth 100000 in
theorem mshk_st (mo q : Nat) (S : StT) (n : Nat) : mshake_l104 mo q S (n + 1) = ((mperm_f mo ((mshake_l104 mo q S n).1, (mshake_l114 mo n ((mshake_l104 mo q S n).1, (mshake_l104 mo q S n).2, S.2.2) 136), fs S.2.2 (mo) 17 (nI (q + 1 + (skN q))))).1, (mperm_f mo ((mshake_l104 mo q S n).1, (mshake_l114 mo n ((mshake_l104 mo q S n).1, (mshake_l104 mo q S n).2, S.2.2) 136), fs S.2.2 (mo) 17 (nI (q + 1 + (skN q))))).2.1) := by
  dsimp only [mshake_l104]
theorem mshk_lp (mo q : Nat) (S : StT) : ∀ n, (∀ i, i < 25 → (mshake_l104 mo q S n).2 (mo + 17) i = kB (S.1 (mo + 11)) (S.2.1 (mo + 17)) n i) ∧ (mshake_l104 mo q S n).1 = S.1 ∧ ∀ r, r ≠ mo + 17 → r ≠ mo + 18 → r ≠ mo + 19 → (mshake_l104 mo q S n).2 r = S.2.1 r := by
  intro n
  induction n with
  | zero => exact ⟨fun _ _ => rfl, rfl, fun _ _ _ _ => rfl⟩
  | succ n ih =>
    obtain ⟨h1, h2, h3⟩ := ih
    rw [mshk_st, h2]
    generalize (mshake_l104 mo q S n).2 = Y at h1 h3 ⊢
    obtain ⟨a1, a2⟩ := msk114 mo n (S.1, Y, S.2.2) 136
    have a3 : mshake_l114 mo n (S.1, Y, S.2.2) 136 (mo + 17) = abn (fun j => S.1 (mo + 11) (136 * n + j)) (Y (mo + 17)) 136 := a1
    have a4 : ∀ r, r ≠ mo + 17 → mshake_l114 mo n (S.1, Y, S.2.2) 136 r = Y r := a2
    generalize mshake_l114 mo n (S.1, Y, S.2.2) 136 = X at a3 a4 ⊢
    obtain ⟨p1, p2, p3, _⟩ := mperm_s mo (S.1, X, fs S.2.2 mo 17 (nI (q + 1 + skN q)))
    refine ⟨fun i hi => ?_, p3, fun r q1 q2 q3 => (p2 r q1 q2 q3).trans ((a4 r q1).trans (h3 r q1 q2 q3))⟩
    refine (p1 i hi).trans ?_
    rw [kB_s]
    show kN (X (mo + 17)) 24 i = _
    rw [a3]
    exact kN_congr (abn_congr h1 136 (Nat.le_refl _) (fun _ _ => rfl)) 24 i hi
set_option maxRecDepth 100000 in
theorem sdig_v (so to ro q nn : Nat) (S : StT) : sdig_f so to ro q nn S = ((sdig_l85 so to (S.1, (sperm_f so (S.1, (smix_f so 135 (nI 128) (S.1, (smix_f so (q % 136) (nI 31) (S.1, sdig_l14 so ro (S.1, (fill_f (so + 1) 25 0 S).2.1, S.2.2) q, S.2.2)).2.1, S.2.2)).2.1, S.2.2)).2.1, S.2.2) nn), (sperm_f so (S.1, (smix_f so 135 (nI 128) (S.1, (smix_f so (q % 136) (nI 31) (S.1, sdig_l14 so ro (S.1, (fill_f (so + 1) 25 0 S).2.1, S.2.2) q, S.2.2)).2.1, S.2.2)).2.1, S.2.2)).2.1, S.2.2) := by
  dsimp only [sdig_f]
set_option maxRecDepth 100000 in
theorem mshk_v (mo nn q : Nat) (S : StT) : mshake_f mo nn q S = ((mshake_l176 mo ((mshake_l104 mo q (kpd mo q S, (mshake_l83 mo (kpd mo q S, S.2.1, S.2.2) 25), S.2.2) ((q + 1 + skN q) / 136)).1, (mshake_l104 mo q (kpd mo q S, (mshake_l83 mo (kpd mo q S, S.2.1, S.2.2) 25), S.2.2) ((q + 1 + skN q) / 136)).2, S.2.2) nn), (mshake_l104 mo q (kpd mo q S, (mshake_l83 mo (kpd mo q S, S.2.1, S.2.2) 25), S.2.2) ((q + 1 + skN q) / 136)).2, fs S.2.2 (mo) 17 (nI (q + 1 + (skN q)))) := by
  dsimp only [mshake_f, kpd]
theorem shake_eq (so to ro mo q nn : Nat) (S M : StT) (hn : nn ≤ 128) (h : ∀ i, i < q → S.1 (ro + 1) i = M.1 (mo + 11) i) :
    (∀ i, i < nn → (sdig_f so to ro q nn S).1 to i = (mshake_f mo nn q M).1 (mo + 12) i) ∧ (∀ i, nn ≤ i → (sdig_f so to ro q nn S).1 to i = S.1 to i) ∧ (∀ r, r ≠ to → (sdig_f so to ro q nn S).1 r = S.1 r) ∧ (∀ r, r ≠ so + 1 → r ≠ so + 2 → (sdig_f so to ro q nn S).2.1 r = S.2.1 r) ∧ (∀ r, r ≠ mo + 11 → r ≠ mo + 12 → (mshake_f mo nn q M).1 r = M.1 r) ∧ (∀ i, nn ≤ i → (mshake_f mo nn q M).1 (mo + 12) i = M.1 (mo + 12) i) ∧ (∀ r, r ≠ mo + 17 → r ≠ mo + 18 → r ≠ mo + 19 → (mshake_f mo nn q M).2.1 r = M.2.1 r) ∧ (mshake_f mo nn q M).2.2 = fs M.2.2 mo 17 (nI (q + 1 + skN q)) := by
  obtain ⟨f1, f2⟩ := fill_s (so + 1) 25 S
  obtain ⟨c1, c2⟩ := sdig_lp so ro (S.1, (fill_f (so + 1) 25 0 S).2.1, S.2.2) q
  obtain ⟨k1, k2, k3, k4⟩ := kpd_v mo q M
  obtain ⟨hs1, hs2⟩ := skN_v q
  rw [sdig_v, mshk_v, show (q + 1 + skN q) / 136 = q / 136 + 1 from by omega]
  have z83 : ∀ n, (∀ i, i < n → mshake_l83 mo (kpd mo q M, M.2.1, M.2.2) n (mo + 17) i = 0) ∧ ∀ r, r ≠ mo + 17 → mshake_l83 mo (kpd mo q M, M.2.1, M.2.2) n r = M.2.1 r := by
    intro n
    induction n with
    | zero => exact ⟨fun i hi => absurd hi (Nat.not_lt_zero _), fun _ _ => rfl⟩
    | succ n ih =>
      obtain ⟨h1, h2⟩ := ih
      unfold mshake_l83
      dsimp only
      refine ⟨fun i hi => ?_, fun r hr => (vu_n hr).trans (h2 r hr)⟩
      rw [vu_s]
      by_cases e : i = n
      · rw [e, pk_uLs]
      · rw [pk_uLn e]; exact h1 i (by omega)
  obtain ⟨z1, z2⟩ := z83 25
  generalize mshake_l83 mo (kpd mo q M, M.2.1, M.2.2) 25 = K0 at z1 z2 ⊢
  obtain ⟨m1, m2, m3⟩ := mshk_lp mo q (kpd mo q M, K0, M.2.2) (q / 136 + 1)
  have c3 : ∀ r, r ≠ so + 1 → r ≠ so + 2 → sdig_l14 so ro (S.1, (fill_f (so + 1) 25 0 S).2.1, S.2.2) q r = S.2.1 r := fun r q1 q2 => (c2 r q1 q2).trans (f2 r q1)
  have c4 : ∀ i, i < 25 → sdig_l14 so ro (S.1, (fill_f (so + 1) 25 0 S).2.1, S.2.2) q (so + 1) i = abn (fun j => S.1 (ro + 1) (136 * (q / 136) + j)) (kB (S.1 (ro + 1)) ((fill_f (so + 1) 25 0 S).2.1 (so + 1)) (q / 136)) (q % 136) i := c1
  clear c1 c2
  have hZ : ∀ i, i < 25 → (fill_f (so + 1) 25 0 S).2.1 (so + 1) i = K0 (mo + 17) i := fun i hi => by rw [f1 i hi, z1 i hi]
  generalize (fill_f (so + 1) 25 0 S).2.1 (so + 1) = Z0 at c4 hZ
  generalize sdig_l14 so ro (S.1, (fill_f (so + 1) 25 0 S).2.1, S.2.2) q = Y at c3 c4 ⊢
  obtain ⟨x1, x2⟩ := smix_s so (q % 136) (nI 31) (S.1, Y, S.2.2)
  have x3 : (smix_f so (q % 136) (nI 31) (S.1, Y, S.2.2)).2.1 (so + 1) = ab (Y (so + 1)) (q % 136) (nI 31) := x1
  have x4 : ∀ r, r ≠ so + 1 → (smix_f so (q % 136) (nI 31) (S.1, Y, S.2.2)).2.1 r = Y r := x2
  generalize smix_f so (q % 136) (nI 31) (S.1, Y, S.2.2) = X at x3 x4 ⊢
  obtain ⟨y1, y2⟩ := smix_s so 135 (nI 128) (S.1, X.2.1, S.2.2)
  have y3 : (smix_f so 135 (nI 128) (S.1, X.2.1, S.2.2)).2.1 (so + 1) = ab (X.2.1 (so + 1)) 135 (nI 128) := y1
  have y4 : ∀ r, r ≠ so + 1 → (smix_f so 135 (nI 128) (S.1, X.2.1, S.2.2)).2.1 r = X.2.1 r := y2
  generalize smix_f so 135 (nI 128) (S.1, X.2.1, S.2.2) = V at y3 y4 ⊢
  obtain ⟨p1, p2⟩ := sperm_s so (S.1, V.2.1, S.2.2)
  have p3 : ∀ i, i < 25 → (sperm_f so (S.1, V.2.1, S.2.2)).2.1 (so + 1) i = kN (V.2.1 (so + 1)) 24 i := p1
  have p4 : ∀ r, r ≠ so + 1 → r ≠ so + 2 → (sperm_f so (S.1, V.2.1, S.2.2)).2.1 r = V.2.1 r := p2
  clear p1 p2 x1 x2 y1 y2
  generalize sperm_f so (S.1, V.2.1, S.2.2) = U at p3 p4 ⊢
  have hlanes : ∀ i, i < 25 → U.2.1 (so + 1) i = (mshake_l104 mo q (kpd mo q M, K0, M.2.2) (q / 136 + 1)).2 (mo + 17) i := by
    intro i hi
    rw [p3 i hi, m1 i hi, kB_s]
    refine kN_congr (fun a ha => ?_) 24 i hi
    have hKB : ∀ i, i < 25 → kB (S.1 (ro + 1)) Z0 (q / 136) i = kB (kpd mo q M (mo + 11)) (K0 (mo + 17)) (q / 136) i := kB_congr hZ (q / 136) (fun j hj => by rw [k1 j (by omega)]; exact h j (by omega))
    have e1 : ∀ a, a < 25 → Y (so + 1) a = abn (fun j => kpd mo q M (mo + 11) (136 * (q / 136) + j)) (kB (kpd mo q M (mo + 11)) (K0 (mo + 17)) (q / 136)) (q % 136) a := by
      intro a ha
      rw [c4 a ha]
      exact abn_congr hKB (q % 136) (by omega) (fun j hj => by rw [k1 _ (by omega)]; exact h _ (by omega)) a ha
    show V.2.1 (so + 1) a = abn (fun j => kpd mo q M (mo + 11) (136 * (q / 136) + j)) (kB (kpd mo q M (mo + 11)) (K0 (mo + 17)) (q / 136)) 136 a
    have e2 : V.2.1 (so + 1) a = ab (ab (abn (fun j => kpd mo q M (mo + 11) (136 * (q / 136) + j)) (kB (kpd mo q M (mo + 11)) (K0 (mo + 17)) (q / 136)) (q % 136)) (q % 136) (nI 31)) 135 (nI 128) a := by
      rw [y3]
      refine ab_congr (fun b hb => ?_) (by decide) _ a ha
      rw [x3]
      exact ab_congr e1 (by omega) _ b hb
    rw [e2]
    generalize kB (kpd mo q M (mo + 11)) (K0 (mo + 17)) (q / 136) = B0
    by_cases h0 : skN q = 0
    · have hr : q % 136 = 135 := by omega
      have g1 : kpd mo q M (mo + 11) (136 * (q / 136) + 135) = nI 31 ^^^ nI 128 := by
        rw [show 136 * (q / 136) + 135 = q from by omega]
        exact k2 h0
      rw [hr, ab_2]
      show _ = ab (abn (fun j => kpd mo q M (mo + 11) (136 * (q / 136) + j)) B0 135) 135 (kpd mo q M (mo + 11) (136 * (q / 136) + 135)) a
      rw [g1]
    · obtain ⟨j1, j2, j3⟩ := k3 (by omega)
      have e3 : abn (fun j => kpd mo q M (mo + 11) (136 * (q / 136) + j)) B0 136 = ab (abn (fun j => kpd mo q M (mo + 11) (136 * (q / 136) + j)) B0 135) 135 (nI 128) := by
        show ab (abn (fun j => kpd mo q M (mo + 11) (136 * (q / 136) + j)) B0 135) 135 (kpd mo q M (mo + 11) (136 * (q / 136) + 135)) = _
        rw [show 136 * (q / 136) + 135 = q + skN q from by omega, j3]
      have e4 : abn (fun j => kpd mo q M (mo + 11) (136 * (q / 136) + j)) B0 135 = abn (fun j => kpd mo q M (mo + 11) (136 * (q / 136) + j)) B0 (q % 136 + 1) := by
        have := abn_0 (g := fun j => kpd mo q M (mo + 11) (136 * (q / 136) + j)) (A := B0) (r := q % 136 + 1) (135 - (q % 136 + 1)) (fun j h1 h2 => j2 _ (by omega) (by omega))
        rw [show q % 136 + 1 + (135 - (q % 136 + 1)) = 135 from by omega] at this
        exact this
      have e5 : abn (fun j => kpd mo q M (mo + 11) (136 * (q / 136) + j)) B0 (q % 136 + 1) = ab (abn (fun j => kpd mo q M (mo + 11) (136 * (q / 136) + j)) B0 (q % 136)) (q % 136) (nI 31) := by
        show ab (abn (fun j => kpd mo q M (mo + 11) (136 * (q / 136) + j)) B0 (q % 136)) (q % 136) (kpd mo q M (mo + 11) (136 * (q / 136) + q % 136)) = _
        rw [Nat.div_add_mod, j1]
      rw [e3, e4, e5]
  rw [m2]
  show (∀ i, i < nn → sdig_l85 so to (S.1, U.2.1, S.2.2) nn to i = mshake_l176 mo (kpd mo q M, (mshake_l104 mo q (kpd mo q M, K0, M.2.2) (q / 136 + 1)).2, M.2.2) nn (mo + 12) i) ∧ _
  generalize (mshake_l104 mo q (kpd mo q M, K0, M.2.2) (q / 136 + 1)).2 = W at hlanes m3 ⊢
  have o1 : ∀ n, (∀ i, i < n → sdig_l85 so to (S.1, U.2.1, S.2.2) n to i = ((((U.2.1 (so + 1) (i / 2 ^ 3)).toUInt64 >>> ((nI (8 * (i % 2 ^ 3))).toInt64.toUInt64 &&& Int64.toUInt64 63)).toInt64).toInt32) &&& (nI (255))) ∧ (∀ i, n ≤ i → sdig_l85 so to (S.1, U.2.1, S.2.2) n to i = S.1 to i) ∧ ∀ r, r ≠ to → sdig_l85 so to (S.1, U.2.1, S.2.2) n r = S.1 r := by
    intro n
    induction n with
    | zero => exact ⟨fun i hi => absurd hi (Nat.not_lt_zero _), fun _ _ => rfl, fun _ _ => rfl⟩
    | succ n ih =>
      obtain ⟨h1, h2, h3⟩ := ih
      unfold sdig_l85
      dsimp only
      refine ⟨fun i hi => ?_, fun i hi => ?_, fun r hr => (vu_n hr).trans (h3 r hr)⟩
      · rw [vu_s]
        show (if i = n then _ else _) = _
        by_cases e : i = n
        · rw [if_pos e, e]
        · rw [if_neg e]; exact h1 i (by omega)
      · rw [vu_s]
        exact (if_neg (by omega)).trans (h2 i (by omega))
  have o2 : ∀ n, (∀ i, i < n → mshake_l176 mo (kpd mo q M, W, M.2.2) n (mo + 12) i = (((W (mo + 17) (i / 2 ^ 3)) >>> ((nI (8 * (i % 2 ^ 3))).toInt64 &&& 63)).toInt32) &&& (nI (255))) ∧ (∀ i, n ≤ i → mshake_l176 mo (kpd mo q M, W, M.2.2) n (mo + 12) i = kpd mo q M (mo + 12) i) ∧ ∀ r, r ≠ mo + 12 → mshake_l176 mo (kpd mo q M, W, M.2.2) n r = kpd mo q M r := by
    intro n
    induction n with
    | zero => exact ⟨fun i hi => absurd hi (Nat.not_lt_zero _), fun _ _ => rfl, fun _ _ => rfl⟩
    | succ n ih =>
      obtain ⟨h1, h2, h3⟩ := ih
      unfold mshake_l176
      dsimp only
      refine ⟨fun i hi => ?_, fun i hi => ?_, fun r hr => (vu_n hr).trans (h3 r hr)⟩
      · rw [vu_s]
        show (if i = n then _ else _) = _
        by_cases e : i = n
        · rw [if_pos e, e]
        · rw [if_neg e]; exact h1 i (by omega)
      · rw [vu_s]
        exact (if_neg (by omega)).trans (h2 i (by omega))
  obtain ⟨u1, u2, u3⟩ := o1 nn
  obtain ⟨r1, r2, r3⟩ := o2 nn
  refine ⟨fun i hi => ?_, u2, u3, fun r q1 q2 => (p4 r q1 q2).trans ((y4 r q1).trans ((x4 r q1).trans (c3 r q1 q2))), fun r q1 q2 => (r3 r q2).trans (k4 r q1), fun i hi => (r2 i hi).trans (by rw [k4 (mo + 12) (by omega)]), fun r q1 q2 q3 => (m3 r q1 q2 q3).trans (z2 r q1), rfl⟩
  refine (u1 i hi).trans (Eq.trans ?_ (r1 i hi).symm)
  rw [by64 _ (by omega), hlanes (i / 2 ^ 3) (by omega)]
end
