/-! VALUES: a product of numbers of 14 pieces (out of part 440) -/
theorem tm_in (mo d a b i : Nat) (y0 : Nat → Nat → Int64) (v2 : Int64) (S : StT) (hS : S.2.1 = y0) (hi : i < 14) (B A : Int) (hB : 0 ≤ B) (hB2 : B + 2 ^ 32 ≤ 2 ^ 62) (hw : ∀ k, k < 64 → 0 ≤ ri y0 (mo + 8) k ∧ ri y0 (mo + 8) k ≤ B) (hv : v2.toInt = A) (hA : 0 ≤ A ∧ A < 2 ^ 16) (hb : ∀ j, j < 32 → mq S.1 mo b j < 2 ^ 16) :
    ∀ j, j ≤ 14 → (∀ k, k < 64 → ri (mt28_l52 mo d a b i y0 v2 S j) (mo + 8) k = ri y0 (mo + 8) k + (if i ≤ k ∧ k < i + j then A * (mq S.1 mo b (k - i) : Int) else 0)) ∧ (rv 16 (ri (mt28_l52 mo d a b i y0 v2 S j) (mo + 8)) 64 = rv 16 (ri y0 (mo + 8)) 64 + A * 2 ^ (16 * i) * rv 16 (fun k => (mq S.1 mo b k : Int)) j) ∧ ∀ r, r ≠ mo + 8 → mt28_l52 mo d a b i y0 v2 S j r = y0 r := by
  intro j
  induction j with
  | zero =>
    intro _
    have e : mt28_l52 mo d a b i y0 v2 S 0 = y0 := hS
    rw [e]
    refine ⟨fun k _ => ?_, ?_, fun _ _ => rfl⟩
    · rw [if_neg (by omega)]; omega
    · show _ = _ + _ * 0; omega
  | succ j ih =>
    intro hj
    obtain ⟨h1, h2, h3⟩ := ih (by omega)
    have hbj : uN (S.1 (mo + 7) (32 * b + j)) < 2 ^ 16 := hb j (by omega)
    have qb : (mq S.1 mo b j : Int) = (uN (S.1 (mo + 7) (32 * b + j)) : Int) := rfl
    have hp1 : 0 ≤ A * (mq S.1 mo b j : Int) := Int.mul_nonneg hA.1 (by omega)
    have hp2 : A * (mq S.1 mo b j : Int) ≤ 2 ^ 16 * 2 ^ 16 := Int.mul_le_mul (by omega) (by omega) (by omega) (by decide)
    have hc := hw (i + j) (by omega)
    have hcell : ri (mt28_l52 mo d a b i y0 v2 S j) (mo + 8) (i + j) = ri y0 (mo + 8) (i + j) := by
      rw [h1 (i + j) (by omega), if_neg (by omega)]; omega
    have hmul : (v2 * (S.1 (mo + 7) (32 * b + j)).toInt64).toInt = A * (mq S.1 mo b j : Int) := by
      have t := i64 (x := S.1 (mo + 7) (32 * b + j)) (by omega)
      rw [w_mul, hv, t]
      · rfl
      · rw [hv, t, ← qb]; omega
      · rw [hv, t, ← qb]; omega
    have hval : ((mt28_l52 mo d a b i y0 v2 S j (mo + 8) (i + j)) + (v2 * (S.1 (mo + 7) (32 * b + j)).toInt64)).toInt = ri y0 (mo + 8) (i + j) + A * (mq S.1 mo b j : Int) := by
      have e : (mt28_l52 mo d a b i y0 v2 S j (mo + 8) (i + j)).toInt = ri y0 (mo + 8) (i + j) := hcell
      rw [w_add, e, hmul]
      · rw [e, hmul]; omega
      · rw [e, hmul]; omega
    have hnew : ∀ k, ri (mt28_l52 mo d a b i y0 v2 S (j + 1)) (mo + 8) k = if k = i + j then ri (mt28_l52 mo d a b i y0 v2 S j) (mo + 8) k + A * (mq S.1 mo b j : Int) else ri (mt28_l52 mo d a b i y0 v2 S j) (mo + 8) k := by
      intro k
      show (va_up (mt28_l52 mo d a b i y0 v2 S j) (mo + 8) (vp_updL (mt28_l52 mo d a b i y0 v2 S j (mo + 8)) (i + j) ((mt28_l52 mo d a b i y0 v2 S j (mo + 8) (i + j)) + (v2 * (S.1 (mo + 7) (32 * b + j)).toInt64))) (mo + 8) k).toInt = _
      rw [vu_s]
      by_cases e : k = i + j
      · subst e
        rw [if_pos rfl, pk_uLs, hval, hcell]
      · rw [if_neg e, pk_uLn e]; rfl
    refine ⟨fun k hk => ?_, ?_, fun r hr => ?_⟩
    · rw [hnew k]
      by_cases e : k = i + j
      · subst e
        rw [if_pos rfl, hcell, if_pos (by omega), show i + j - i = j from by omega]
      · rw [if_neg e, h1 k hk]
        by_cases e2 : i ≤ k ∧ k < i + j
        · rw [if_pos e2, if_pos (by omega)]
        · rw [if_neg e2, if_neg (by omega)]
    · rw [rv_congr (g := fun k => if k = i + j then ri (mt28_l52 mo d a b i y0 v2 S j) (mo + 8) k + A * (mq S.1 mo b j : Int) else ri (mt28_l52 mo d a b i y0 v2 S j) (mo + 8) k) 64 (fun k _ => hnew k), rv_at 16 _ (i + j) _ 64 (by omega), h2]
      show _ + _ = _ + _ * (rv 16 (fun k => (mq S.1 mo b k : Int)) j + (mq S.1 mo b j : Int) * 2 ^ (16 * j))
      rw [Nat.mul_add, Int.pow_add]
      generalize rv 16 (ri y0 (mo + 8)) 64 = X
      generalize rv 16 (fun k => (mq S.1 mo b k : Int)) j = D
      generalize (mq S.1 mo b j : Int) = z
      generalize (2 : Int) ^ (16 * i) = P
      generalize (2 : Int) ^ (16 * j) = Q
      clear hnew hval hmul qb hcell hc hp1 hp2 hbj h1 h2 h3 hw hA hb hv
      grind
    · show va_up (mt28_l52 mo d a b i y0 v2 S j) (mo + 8) _ r = _
      rw [vu_n hr, h3 r hr]
theorem tm_out (mo d a b : Nat) (S : StT) (hz : ∀ k, k < 64 → S.2.1 (mo + 8) k = 0) (ha : ∀ j, j < 32 → mq S.1 mo a j < 2 ^ 16) (hb : ∀ j, j < 32 → mq S.1 mo b j < 2 ^ 16) :
    ∀ i : Nat, i ≤ 14 → (∀ k, k < 64 → 0 ≤ ri (mt28_l27 mo d a b S i) (mo + 8) k ∧ ri (mt28_l27 mo d a b S i) (mo + 8) k ≤ (i : Int) * 2 ^ 32) ∧ (∀ k, 28 ≤ k → k < 64 → ri (mt28_l27 mo d a b S i) (mo + 8) k = 0) ∧ rv 16 (ri (mt28_l27 mo d a b S i) (mo + 8)) 64 = rv 16 (fun k => (mq S.1 mo a k : Int)) i * rv 16 (fun k => (mq S.1 mo b k : Int)) 14 ∧ ∀ r, r ≠ mo + 8 → mt28_l27 mo d a b S i r = S.2.1 r := by
  intro i
  induction i with
  | zero =>
    intro _
    have e : ∀ k, k < 64 → ri S.2.1 (mo + 8) k = 0 := fun k hk => by show (S.2.1 (mo + 8) k).toInt = 0; rw [hz k hk]; rfl
    refine ⟨fun k hk => ?_, fun k _ hk => e k hk, ?_, fun _ _ => rfl⟩
    · show 0 ≤ ri S.2.1 (mo + 8) k ∧ ri S.2.1 (mo + 8) k ≤ _
      rw [e k hk]
      omega
    · show rv 16 (ri S.2.1 (mo + 8)) 64 = 0 * _
      rw [rv_congr (g := fun k => 0 * 0) 64 (fun k hk => e k hk), rv_smul 16 0 (fun _ => 0), Int.zero_mul, Int.zero_mul]
  | succ i ih =>
    intro hi
    obtain ⟨h1, h9, h2, h3⟩ := ih (by omega)
    have la : uN (S.1 (mo + 7) (32 * a + i)) < 2 ^ 16 := ha i (by omega)
    have hv : ((S.1 (mo + 7) (32 * a + i)).toInt64).toInt = (mq S.1 mo a i : Int) := i64 (by omega)
    have hA : 0 ≤ (mq S.1 mo a i : Int) ∧ (mq S.1 mo a i : Int) < 2 ^ 16 := by
      have : (mq S.1 mo a i : Int) = (uN (S.1 (mo + 7) (32 * a + i)) : Int) := rfl
      omega
    obtain ⟨g1, g2, g3⟩ := tm_in mo d a b i (mt28_l27 mo d a b S i) ((S.1 (mo + 7) (32 * a + i)).toInt64) (S.1, mt28_l27 mo d a b S i, S.2.2) rfl (by omega) ((i : Int) * 2 ^ 32) (mq S.1 mo a i : Int) (by omega) (by omega) h1 hv hA hb 14 (Nat.le_refl _)
    have en : mt28_l27 mo d a b S (i + 1) = mt28_l52 mo d a b i (mt28_l27 mo d a b S i) ((S.1 (mo + 7) (32 * a + i)).toInt64) (S.1, mt28_l27 mo d a b S i, S.2.2) 14 := rfl
    have ec : ((i + 1 : Nat) : Int) = (i : Int) + 1 := by omega
    rw [en, ec]
    refine ⟨fun k hk => ?_, fun k hk1 hk => by rw [g1 k hk, if_neg (by omega), h9 k hk1 hk]; rfl, ?_, fun r hr => (g3 r hr).trans (h3 r hr)⟩
    · rw [g1 k hk]
      have q := h1 k hk
      by_cases e : i ≤ k ∧ k < i + 14
      · rw [if_pos e]
        have lb : mq S.1 mo b (k - i) < 2 ^ 16 := hb (k - i) (by omega)
        have hp1 : 0 ≤ (mq S.1 mo a i : Int) * (mq S.1 mo b (k - i) : Int) := Int.mul_nonneg hA.1 (by omega)
        have hp2 : (mq S.1 mo a i : Int) * (mq S.1 mo b (k - i) : Int) ≤ 2 ^ 16 * 2 ^ 16 := Int.mul_le_mul (by omega) (by omega) (by omega) (by decide)
        show 0 ≤ _ + (mq S.1 mo a i : Int) * (mq S.1 mo b (k - i) : Int) ∧ _ + (mq S.1 mo a i : Int) * (mq S.1 mo b (k - i) : Int) ≤ _
        omega
      · rw [if_neg e]; omega
    · rw [g2, h2]
      show _ = (rv 16 (fun k => (mq S.1 mo a k : Int)) i + (mq S.1 mo a i : Int) * 2 ^ (16 * i)) * _
      show _ + (mq S.1 mo a i : Int) * 2 ^ (16 * i) * rv 16 (fun k => (mq S.1 mo b k : Int)) 14 = _
      generalize rv 16 (fun k => (mq S.1 mo a k : Int)) i = X
      generalize rv 16 (fun k => (mq S.1 mo b k : Int)) 14 = Y
      generalize (mq S.1 mo a i : Int) = x
      generalize (2 : Int) ^ (16 * i) = P
      clear g1 g2 g3 h1 h9 h2 h3 hz ha hb en ec la hv hA
      grind

/-- the carries -/
theorem tm_cy (mo d a b : Nat) (S1 S : StT) (hw : ∀ k, k < 28 → 0 ≤ ri S.2.1 (mo + 8) k ∧ ri S.2.1 (mo + 8) k ≤ 2 ^ 40) : ∀ n, n ≤ 28 →
    (0 ≤ (mt28_l111 mo d a b S1 S 0 n).1.toInt ∧ (mt28_l111 mo d a b S1 S 0 n).1.toInt ≤ 2 ^ 41) ∧ rv 16 (ri S.2.1 (mo + 8)) n = rv 16 (fun k => (mq (mt28_l111 mo d a b S1 S 0 n).2 mo d k : Int)) n + (mt28_l111 mo d a b S1 S 0 n).1.toInt * 2 ^ (16 * n) ∧ (∀ k, k < n → mq (mt28_l111 mo d a b S1 S 0 n).2 mo d k < 2 ^ 16) ∧ MF mo d (mt28_l111 mo d a b S1 S 0 n).2 S.1 ∧ ∀ k, n ≤ k → k < 32 → mq (mt28_l111 mo d a b S1 S 0 n).2 mo d k = mq S.1 mo d k := by
  intro n
  induction n with
  | zero => exact fun _ => ⟨⟨show (0 : Int) ≤ (0 : Int64).toInt by decide, show (0 : Int64).toInt ≤ 2 ^ 41 by decide⟩, (show (0 : Int) = 0 + (0 : Int64).toInt * 2 ^ (16 * 0) by decide), fun k hk => absurd hk (Nat.not_lt_zero _), MF_rfl _ _ _, fun _ _ _ => rfl⟩
  | succ n ih =>
    intro hn
    obtain ⟨⟨c1, c2⟩, h2, h3, h4, h5⟩ := ih (by omega)
    have hk := hw n (by omega)
    have hri : ri S.2.1 (mo + 8) n = (S.2.1 (mo + 8) n).toInt := rfl
    generalize hL : mt28_l111 mo d a b S1 S 0 n = Y at c1 c2 h2 h3 h4 h5
    have hs : (Y.1 + S.2.1 (mo + 8) n).toInt = Y.1.toInt + ri S.2.1 (mo + 8) n := by
      rw [w_add]
      · rfl
      · omega
      · omega
    have en : mt28_l111 mo d a b S1 S 0 (n + 1) = ((Y.1 + S.2.1 (mo + 8) n) >>> ((nI 16).toInt64 &&& 63), va_up Y.2 (mo + 7) (upd (Y.2 (mo + 7)) (32 * d + n) (((Y.1 + S.2.1 (mo + 8) n) &&& 65535).toInt32))) := by
      show (((mt28_l111 mo d a b S1 S 0 n).1 + S.2.1 (mo + 8) n) >>> ((nI 16).toInt64 &&& 63), va_up (mt28_l111 mo d a b S1 S 0 n).2 (mo + 7) (upd ((mt28_l111 mo d a b S1 S 0 n).2 (mo + 7)) (32 * d + n) ((((mt28_l111 mo d a b S1 S 0 n).1 + S.2.1 (mo + 8) n) &&& 65535).toInt32))) = _
      rw [hL]
    rw [en]
    have hx : 0 ≤ (Y.1 + S.2.1 (mo + 8) n).toInt ∧ (Y.1 + S.2.1 (mo + 8) n).toInt ≤ 2 ^ 42 := by rw [hs]; omega
    generalize hz : Y.1 + S.2.1 (mo + 8) n = z at hs hx
    have hsh : (z >>> ((nI 16).toInt64 &&& 63)).toInt = z.toInt / 2 ^ 16 := w_shr _ _ 16 sh16
    have hlo : ((uN ((z &&& 65535).toInt32) : Nat) : Int) = z.toInt % 2 ^ 16 := by
      obtain ⟨u1, u2⟩ := uL_of_int hx.1
      rw [uN_of64, uL_and (k := 16) (by decide)]
      omega
    have hm : ∀ k, mq (va_up Y.2 (mo + 7) (upd (Y.2 (mo + 7)) (32 * d + n) ((z &&& 65535).toInt32))) mo d k = if k = n then uN ((z &&& 65535).toInt32) else mq Y.2 mo d k := by
      intro k
      rw [mq_up]
      by_cases e : k = n
      · rw [if_pos (by omega), if_pos e]
      · rw [if_neg (by omega), if_neg e]
    refine ⟨?_, ?_, fun k hk2 => ?_, MF_tr (mf_up _ mo d n _ (by omega)) h4, fun k h1 h6 => ?_⟩
    · show 0 ≤ (z >>> ((nI 16).toInt64 &&& 63)).toInt ∧ (z >>> ((nI 16).toInt64 &&& 63)).toInt ≤ 2 ^ 41
      rw [hsh]
      omega
    · show rv 16 (ri S.2.1 (mo + 8)) n + ri S.2.1 (mo + 8) n * 2 ^ (16 * n) = (rv 16 (fun k => (mq (va_up Y.2 (mo + 7) (upd (Y.2 (mo + 7)) (32 * d + n) ((z &&& 65535).toInt32))) mo d k : Int)) n + (mq (va_up Y.2 (mo + 7) (upd (Y.2 (mo + 7)) (32 * d + n) ((z &&& 65535).toInt32))) mo d n : Int) * 2 ^ (16 * n)) + (z >>> ((nI 16).toInt64 &&& 63)).toInt * 2 ^ (16 * (n + 1))
      have hc : rv 16 (fun k => (mq (va_up Y.2 (mo + 7) (upd (Y.2 (mo + 7)) (32 * d + n) ((z &&& 65535).toInt32))) mo d k : Int)) n = rv 16 (fun k => (mq Y.2 mo d k : Int)) n := rv_congr n (fun k hk3 => by rw [hm k, if_neg (by omega)])
      rw [hc, h2, hm n, if_pos rfl, hlo, hsh, Nat.mul_add, Int.pow_add]
      have hdm := Int.mul_ediv_add_emod z.toInt (2 ^ 16)
      rw [hs] at hdm ⊢
      generalize (Y.1.toInt + ri S.2.1 (mo + 8) n) / 2 ^ 16 = Q at *
      generalize (Y.1.toInt + ri S.2.1 (mo + 8) n) % 2 ^ 16 = R at *
      generalize rv 16 (fun k => (mq Y.2 mo d k : Int)) n = W at *
      generalize ri S.2.1 (mo + 8) n = u at *
      generalize Y.1.toInt = v at *
      generalize (2 : Int) ^ (16 * n) = P at *
      clear hm hlo hsh h2 h3 h4 h5 hw en hx hs hz hL hri c1 c2 hk
      have hu : u = 2 ^ 16 * Q + R - v := by omega
      rw [hu]
      grind
    · rw [hm k]
      by_cases e : k = n
      · rw [if_pos e]
        omega
      · rw [if_neg e]
        exact h3 k (by omega)
    · rw [hm k, if_neg (by omega)]
      exact h5 k (by omega) h6

theorem mt28_m (mo d a b : Nat) (S : StT) {u v : Nat} (ha : MD S.1 mo a u) (hb : MD S.1 mo b v) (hu : u < 2 ^ 224) (hv : v < 2 ^ 224) :
    MD (mt28_f mo d a b S).1 mo d (u * v) ∧ MF mo d (mt28_f mo d a b S).1 S.1 ∧ ∀ r, r ≠ mo + 8 → (mt28_f mo d a b S).2.1 r = S.2.1 r := by
  obtain ⟨p1, p2⟩ := pw_loop (S0 := S.2.1) (lp := mt28_l3 mo d a b S) (to := mo + 8) (F := fun _ _ => 0) rfl (fun i => rfl) (fun y i h => rfl) 64
  obtain ⟨m1, m2, m3, m4⟩ := tm_out mo d a b (S.1, mt28_l3 mo d a b S 64, S.2.2) (fun k hk => p1 k hk) (fun j hj => MD_lt ha hj) (fun j hj => MD_lt hb hj) 14 (Nat.le_refl _)
  have m5 : ∀ r, r ≠ mo + 8 → mt28_l27 mo d a b (S.1, mt28_l3 mo d a b S 64, S.2.2) 14 r = S.2.1 r := fun r hr => (m4 r hr).trans (funext fun j => p2 r j (Or.inl hr))
  have ea : rv 16 (fun k => (mq S.1 mo a k : Int)) 14 = (u : Int) := by
    rw [rv_nat (b := 16) (g := mq S.1 mo a) 14 (fun _ _ => rfl), MD_rv ha (by decide), Nat.mod_eq_of_lt hu]
  have eb : rv 16 (fun k => (mq S.1 mo b k : Int)) 14 = (v : Int) := by
    rw [rv_nat (b := 16) (g := mq S.1 mo b) 14 (fun _ _ => rfl), MD_rv hb (by decide), Nat.mod_eq_of_lt hv]
  have m6 : rv 16 (ri (mt28_l27 mo d a b (S.1, mt28_l3 mo d a b S 64, S.2.2) 14) (mo + 8)) 64 = (u : Int) * (v : Int) := by
    rw [← ea, ← eb]
    exact m3
  unfold mt28_f
  dsimp only
  generalize mt28_l27 mo d a b (S.1, mt28_l3 mo d a b S 64, S.2.2) 14 = J at m1 m2 m5 m6 ⊢
  obtain ⟨z1, z2, z3⟩ := zero28_m mo d (S.1, J, S.2.2)
  have zJ : (zero28_f mo d (S.1, J, S.2.2)).2.1 = J := rfl
  generalize zero28_f mo d (S.1, J, S.2.2) = T at z1 z2 z3 zJ ⊢
  obtain ⟨⟨c1, -⟩, c2, c3, c4, c5⟩ := tm_cy mo d a b T T (fun k hk => by rw [zJ]; have := m1 k (by omega); omega) 28 (Nat.le_refl _)
  rw [zJ] at c2
  have e28 : rv 16 (ri J (mo + 8)) 28 = (u : Int) * (v : Int) := by
    rw [← m6]
    exact (rv_zero 16 _ 28 64 (fun k h1 h2 => m2 k h1 h2) (by decide)).symm
  rw [e28] at c2
  generalize mt28_l111 mo d a b T T 0 28 = Y at c1 c2 c3 c4 c5 ⊢
  rw [rv_nat (b := 16) (g := mq Y.2 mo d) 28 (fun _ _ => rfl)] at c2
  have huv : u * v < 2 ^ 448 := by
    have : u * v < 2 ^ 224 * 2 ^ 224 := Nat.mul_lt_mul'' hu hv
    rwa [← Nat.pow_add] at this
  have huvI : ((u * v : Nat) : Int) = (u : Int) * (v : Int) := by push_cast; rfl
  rw [← huvI] at c2
  have hc0 : Y.1.toInt = 0 := by
    have h448 : (2 : Int) ^ (16 * 28) = ((2 ^ 448 : Nat) : Int) := by push_cast; rfl
    rw [h448] at c2
    by_cases h : Y.1.toInt = 0
    · exact h
    · exfalso
      have h1 : 1 ≤ Y.1.toInt := by omega
      have h2 : (1 : Int) * ((2 ^ 448 : Nat) : Int) ≤ Y.1.toInt * ((2 ^ 448 : Nat) : Int) := Int.mul_le_mul_of_nonneg_right h1 (by omega)
      have h3 : ((u * v : Nat) : Int) < ((2 ^ 448 : Nat) : Int) := Int.ofNat_lt.mpr huv
      omega
  rw [hc0, Int.zero_mul, Int.add_zero] at c2
  have hN : rvN (2 ^ 16) (mq Y.2 mo d) 28 = u * v := by omega
  have hD := MD_of (I := Y.2) (mo := mo) (a := d) c3 (fun i h1 h2 => by rw [c5 i h1 h2]; exact z1 i h2)
  rw [hN] at hD
  refine ⟨hD, MF_tr c4 z2, fun r hr => ?_⟩
  show T.2.1 r = S.2.1 r
  rw [zJ]
  exact m5 r hr
