section
/-! NUMBERS. Primes by certificates (Lucas), Fermat, no divisors of zero. No word of the machine here. -/
def nt_pr (n : Nat) : Prop := 1 < n ∧ ∀ m, m ∣ n → m = 1 ∨ m = n
/-- prime, and Fermat's theorem -/
def nt_ok (n : Nat) : Prop := nt_pr n ∧ ∀ a, 0 < a → a < n → a ^ (n - 1) % n = 1
/-- b ^ e modulo n, by squaring -/
def nt_pm (n : Nat) : Nat → Nat → Nat → Nat
  | 0, _, _ => 1 % n
  | f + 1, b, e => cond (Nat.beq e 0) (1 % n) (cond (Nat.beq (e % 2) 1) (b * nt_pm n f (b * b % n) (e / 2) % n) (nt_pm n f (b * b % n) (e / 2)))
theorem nt_pm_eq (n : Nat) : ∀ f b e, e < 2 ^ f → nt_pm n f b e = b ^ e % n := by
  intro f
  induction f with
  | zero =>
    intro b e h
    have h0 : e = 0 := by
      have : e < 1 := h
      omega
    subst h0
    rfl
  | succ f ih =>
    intro b e h
    unfold nt_pm
    have h2 : e / 2 < 2 ^ f := by
      rw [Nat.pow_succ] at h
      omega
    have hs : (b * b % n) ^ (e / 2) % n = b ^ (2 * (e / 2)) % n := by
      rw [← Nat.pow_mod, Nat.pow_mul, Nat.pow_two]
    rw [ih _ _ h2, hs]
    by_cases h0 : e = 0
    · subst h0
      rfl
    · have hb : Nat.beq e 0 = false := by
        cases he : Nat.beq e 0 with
        | false => rfl
        | true => exact absurd (Nat.eq_of_beq_eq_true he) h0
      rw [hb]
      show cond (Nat.beq (e % 2) 1) _ _ = _
      cases ho : Nat.beq (e % 2) 1 with
      | true =>
        have h1 := Nat.eq_of_beq_eq_true ho
        show b * (b ^ (2 * (e / 2)) % n) % n = _
        rw [Nat.mul_mod_mod, ← Nat.pow_succ', show (2 * (e / 2)).succ = e from by omega]
      | false =>
        have h1 : e % 2 ≠ 1 := by
          intro q
          rw [q] at ho
          exact absurd ho (by decide)
        show b ^ (2 * (e / 2)) % n = _
        rw [show 2 * (e / 2) = e from by omega]
theorem nt_min {P : Nat → Prop} : ∀ k, P k → ∃ d, P d ∧ ∀ m, m < d → ¬ P m := by
  intro k
  induction k using Nat.strongRecOn with
  | ind k ih =>
    intro hk
    by_cases h : ∃ m, m < k ∧ P m
    · obtain ⟨m, hm, hp⟩ := h
      exact ih m hm hp
    · exact ⟨k, hk, fun m hm hp => h ⟨m, hm, hp⟩⟩
/-- a function that hits no value twice hits all -/
theorem nt_hit : ∀ (N : Nat) (f : Nat → Nat), (∀ i, i < N → f i < N) → (∀ i j, i < N → j < N → f i = f j → i = j) → ∀ v, v < N → ∃ i, i < N ∧ f i = v := by
  intro N
  induction N with
  | zero => intro f _ _ v hv; exact absurd hv (Nat.not_lt_zero _)
  | succ N ih =>
    intro f hb hi v hv
    have hw := hb N (Nat.lt_succ_self _)
    have hg := ih (fun i => if f i = N then f N else f i)
      (by
        intro i h
        have h1 := hb i (by omega)
        show (if f i = N then f N else f i) < N
        by_cases hc : f i = N
        · rw [if_pos hc]
          have : f N ≠ N := by
            intro q
            have := hi i N (by omega) (by omega) (by rw [hc, q])
            omega
          omega
        · rw [if_neg hc]
          omega)
      (by
        intro i j h1 h2 he
        have he' : (if f i = N then f N else f i) = (if f j = N then f N else f j) := he
        by_cases ci : f i = N
        · by_cases cj : f j = N
          · exact hi i j (by omega) (by omega) (by rw [ci, cj])
          · rw [if_pos ci, if_neg cj] at he'
            have := hi N j (by omega) (by omega) he'
            omega
        · by_cases cj : f j = N
          · rw [if_neg ci, if_pos cj] at he'
            have := hi i N (by omega) (by omega) he'
            omega
          · rw [if_neg ci, if_neg cj] at he'
            exact hi i j (by omega) (by omega) he')
    by_cases c1 : v = f N
    · exact ⟨N, by omega, c1.symm⟩
    by_cases c2 : v = N
    · have hne : f N ≠ N := fun q => c1 (by rw [q]; exact c2)
      obtain ⟨i, h1, h2⟩ := hg (f N) (by omega)
      have h2' : (if f i = N then f N else f i) = f N := h2
      by_cases ci : f i = N
      · exact ⟨i, by omega, by rw [ci, c2]⟩
      · rw [if_neg ci] at h2'
        have := hi i N (by omega) (by omega) h2'
        omega
    · obtain ⟨i, h1, h2⟩ := hg v (by omega)
      have h2' : (if f i = N then f N else f i) = v := h2
      by_cases ci : f i = N
      · rw [if_pos ci] at h2'
        exact absurd h2'.symm c1
      · rw [if_neg ci] at h2'
        exact ⟨i, by omega, h2'⟩
theorem nt_pow1 {n x : Nat} (hn : 1 < n) (h : x % n = 1) (q : Nat) : x ^ q % n = 1 := by
  rw [Nat.pow_mod, h, Nat.one_pow]
  exact Nat.mod_eq_of_lt hn
theorem nt_ord {n g d k : Nat} (hn : 1 < n) (h0 : 0 < d) (hd : g ^ d % n = 1) (hm : ∀ m, m < d → ¬ (0 < m ∧ g ^ m % n = 1)) (hk : g ^ k % n = 1) : d ∣ k := by
  have e : g ^ k % n = g ^ (k % d) % n := by
    have h1 := Nat.div_add_mod k d
    have h2 : g ^ k = g ^ (d * (k / d)) * g ^ (k % d) := by rw [← Nat.pow_add, h1]
    rw [h2, Nat.mul_mod, Nat.pow_mul, nt_pow1 hn hd, Nat.one_mul, Nat.mod_mod]
  by_cases hz : k % d = 0
  · exact Nat.dvd_of_mod_eq_zero hz
  · exact absurd ⟨by omega, by rw [← e]; exact hk⟩ (hm (k % d) (Nat.mod_lt _ h0))
def nt_pd : List Nat → Nat
  | [] => 1
  | q :: r => q * nt_pd r
theorem nt_pick : ∀ (qs : List Nat) (m : Nat), m ∣ nt_pd qs → 1 < m → (∀ q ∈ qs, nt_pr q) → ∃ q, q ∈ qs ∧ q ∣ m := by
  intro qs
  induction qs with
  | nil =>
    intro m h h1 _
    have : m = 1 := Nat.dvd_one.1 h
    omega
  | cons q r ih =>
    intro m h h1 hp
    by_cases c : q ∣ m
    · exact ⟨q, List.mem_cons_self, c⟩
    · have hc : Nat.Coprime m q := by
        have hq := (hp q List.mem_cons_self).2 (Nat.gcd m q) (Nat.gcd_dvd_right m q)
        rcases hq with e | e
        · exact e
        · exact absurd (by rw [← e]; exact Nat.gcd_dvd_left m q) c
      obtain ⟨x, hx, hd⟩ := ih m (Nat.Coprime.dvd_of_dvd_mul_left hc h) h1 (fun y hy => hp y (List.mem_cons_of_mem _ hy))
      exact ⟨x, List.mem_cons_of_mem _ hx, hd⟩
theorem nt_ord_all {n g : Nat} {qs : List Nat} (hn : 1 < n) (hg : g ^ (n - 1) % n = 1) (hq : nt_pd qs = n - 1) (hp : ∀ q ∈ qs, nt_pr q) (hne : ∀ q ∈ qs, g ^ ((n - 1) / q) % n ≠ 1) : ∀ m, 0 < m → m < n - 1 → g ^ m % n ≠ 1 := by
  obtain ⟨d, ⟨d0, d1⟩, dm⟩ := nt_min (P := fun d => 0 < d ∧ g ^ d % n = 1) (n - 1) ⟨by omega, hg⟩
  have hdv := nt_ord hn d0 d1 dm hg
  have hd : d = n - 1 := by
    obtain ⟨c, hc⟩ := hdv
    by_cases c1 : c = 1
    · rw [c1, Nat.mul_one] at hc
      exact hc.symm
    · have hc0 : c ≠ 0 := by
        intro z
        rw [z, Nat.mul_zero] at hc
        omega
      have hcd : c ∣ nt_pd qs := by rw [hq, hc]; exact Nat.dvd_mul_left c d
      obtain ⟨q, hm, c', hc'⟩ := nt_pick qs c hcd (by omega) hp
      have hq0 : 0 < q := by have := (hp q hm).1; omega
      have he : (n - 1) / q = d * c' := by
        rw [hc, hc', show d * (q * c') = q * (d * c') from by rw [← Nat.mul_assoc, Nat.mul_comm d q, Nat.mul_assoc]]
        exact Nat.mul_div_cancel_left _ hq0
      have := hne q hm
      rw [he, Nat.pow_mul] at this
      exact absurd (nt_pow1 hn d1 c') this
  intro m h0 h1 h2
  exact dm m (by omega) ⟨h0, h2⟩
theorem nt_lucas {n g : Nat} {qs : List Nat} (hn : 1 < n) (hg : g ^ (n - 1) % n = 1) (hq : nt_pd qs = n - 1) (hp : ∀ q ∈ qs, nt_pr q) (hne : ∀ q ∈ qs, g ^ ((n - 1) / q) % n ≠ 1) : nt_ok n := by
  have hA := nt_ord_all hn hg hq hp hne
  have hz : ∀ i, i < n - 1 → g ^ i % n ≠ 0 := by
    intro i hi h
    have e : g ^ (n - 1) = g ^ i * g ^ (n - 1 - i) := by rw [← Nat.pow_add]; congr 1; omega
    rw [e, Nat.mul_mod, h, Nat.zero_mul, Nat.zero_mod] at hg
    omega
  have hlt : ∀ i j, i < j → j < n - 1 → g ^ i % n ≠ g ^ j % n := by
    intro i j hij hj h
    have e1 : g ^ j * g ^ (n - 1 - j) = g ^ (n - 1) := by rw [← Nat.pow_add]; congr 1; omega
    have e2 : g ^ i * g ^ (n - 1 - j) = g ^ (i + (n - 1 - j)) := by rw [← Nat.pow_add]
    have e3 : g ^ (i + (n - 1 - j)) % n = 1 := by
      rw [← e2, Nat.mul_mod, h, ← Nat.mul_mod, e1]
      exact hg
    exact hA _ (by omega) (by omega) e3
  have hF : ∀ a, 0 < a → a < n → a ^ (n - 1) % n = 1 := by
    intro a h0 h1
    obtain ⟨i, hi, he⟩ := nt_hit (n - 1) (fun i => g ^ i % n - 1)
      (by
        intro i hi
        have := hz i hi
        have := Nat.mod_lt (g ^ i) (show n > 0 by omega)
        show g ^ i % n - 1 < n - 1
        omega)
      (by
        intro i j hi hj he
        have he' : g ^ i % n - 1 = g ^ j % n - 1 := he
        have a1 := hz i hi
        have a2 := hz j hj
        rcases Nat.lt_trichotomy i j with c | c | c
        · exact absurd (show g ^ i % n = g ^ j % n by omega) (hlt i j c hj)
        · exact c
        · exact absurd (show g ^ j % n = g ^ i % n by omega) (hlt j i c hi))
      (a - 1) (by omega)
    have he' : g ^ i % n - 1 = a - 1 := he
    have a1 := hz i hi
    have ha : a = g ^ i % n := by omega
    rw [ha, ← Nat.pow_mod, ← Nat.pow_mul, Nat.mul_comm, Nat.pow_mul]
    exact nt_pow1 hn hg i
  refine ⟨⟨hn, fun m hm => ?_⟩, hF⟩
  by_cases c : m = n
  · exact Or.inr c
  · have hle := Nat.le_of_dvd (by omega) hm
    have hpos := Nat.pos_of_dvd_of_pos hm (by omega)
    have h1 := hF m hpos (by omega)
    have hd : m ∣ m ^ (n - 1) := by
      have : n - 1 = (n - 2) + 1 := by omega
      rw [this, Nat.pow_succ]
      exact Nat.dvd_mul_left m _
    have := (Nat.dvd_mod_iff hm).2 hd
    rw [h1] at this
    exact Or.inl (Nat.dvd_one.1 this)
theorem nt_cert {n g : Nat} (qs : List Nat) (hn : 1 < n) (hl : n < 2 ^ 512) (hg : nt_pm n 512 g (n - 1) = 1) (hq : nt_pd qs = n - 1) (hp : ∀ q ∈ qs, nt_pr q) (hne : qs.all (fun q => ! Nat.beq (nt_pm n 512 g ((n - 1) / q)) 1) = true) : nt_ok n := by
  have hb : ∀ x, x ≤ n → x < 2 ^ 512 := fun x hx => Nat.lt_of_le_of_lt hx hl
  refine nt_lucas (g := g) hn ?_ hq hp ?_
  · rw [← nt_pm_eq n 512 g (n - 1) (hb _ (Nat.sub_le _ _))]
    exact hg
  · intro q hm h
    have h1 := List.all_eq_true.1 hne q hm
    rw [nt_pm_eq n 512 g _ (hb _ (Nat.le_trans (Nat.div_le_self _ _) (Nat.sub_le _ _))), h] at h1
    exact absurd h1 (by decide)
/-- trial -/
def nt_td (q : Nat) : Nat → Nat → Bool
  | 0, _ => true
  | f + 1, m => cond (Nat.beq (q % m) 0) false (nt_td q f (m + 1))
theorem nt_td_no (q : Nat) : ∀ f m, nt_td q f m = true → ∀ k, m ≤ k → k < m + f → ¬ k ∣ q := by
  intro f
  induction f with
  | zero => intro m _ k h1 h2; omega
  | succ f ih =>
    intro m h k h1 h2 hd
    unfold nt_td at h
    cases hb : Nat.beq (q % m) 0 with
    | true => rw [hb] at h; exact absurd (show false = true from h) (by decide)
    | false =>
      rw [hb] at h
      by_cases c : k = m
      · subst c
        have := Nat.mod_eq_zero_of_dvd hd
        rw [this] at hb
        exact absurd hb (by decide)
      · exact ih (m + 1) h k (by omega) (by omega) hd
theorem nt_small {q : Nat} (f : Nat) (h1 : 1 < q) (h : nt_td q f 2 = true) (hf : q < (f + 2) * (f + 2)) : nt_pr q := by
  refine ⟨h1, fun m hm => ?_⟩
  by_cases c1 : m = 1
  · exact Or.inl c1
  by_cases c2 : m = q
  · exact Or.inr c2
  obtain ⟨c, hc⟩ := hm
  have m0 : m ≠ 0 := by
    intro z
    rw [z, Nat.zero_mul] at hc
    omega
  have c0 : c ≠ 0 := by
    intro z
    rw [z, Nat.mul_zero] at hc
    omega
  have cne : c ≠ 1 := by
    intro z
    rw [z, Nat.mul_one] at hc
    omega
  have a1 : ¬ m < f + 2 := fun q' => nt_td_no q f 2 h m (by omega) (by omega) ⟨c, hc⟩
  have a2 : ¬ c < f + 2 := fun q' => nt_td_no q f 2 h c (by omega) (by omega) ⟨m, by rw [hc, Nat.mul_comm]⟩
  have := Nat.mul_le_mul (show f + 2 ≤ m by omega) (show f + 2 ≤ c by omega)
  omega
theorem nt_an : ∀ q ∈ ([] : List Nat), nt_pr q := fun q h => absurd h List.not_mem_nil
theorem nt_ac {q : Nat} {r : List Nat} (h : nt_pr q) (hr : ∀ x ∈ r, nt_pr x) : ∀ x ∈ q :: r, nt_pr x := by
  intro x hx
  rcases List.mem_cons.1 hx with e | e
  · rw [e]; exact h
  · exact hr x e
theorem nt_q2 : nt_pr 2 := nt_small 0 (by decide) (by decide +kernel) (by decide)
theorem nt_q3 : nt_pr 3 := nt_small 0 (by decide) (by decide +kernel) (by decide)
theorem nt_q5 : nt_pr 5 := nt_small 1 (by decide) (by decide +kernel) (by decide)
theorem nt_q7 : nt_pr 7 := nt_small 1 (by decide) (by decide +kernel) (by decide)
theorem nt_q13 : nt_pr 13 := nt_small 2 (by decide) (by decide +kernel) (by decide)
theorem nt_q17 : nt_pr 17 := nt_small 3 (by decide) (by decide +kernel) (by decide)
theorem nt_q19 : nt_pr 19 := nt_small 3 (by decide) (by decide +kernel) (by decide)
theorem nt_q23 : nt_pr 23 := nt_small 3 (by decide) (by decide +kernel) (by decide)
theorem nt_q29 : nt_pr 29 := nt_small 4 (by decide) (by decide +kernel) (by decide)
theorem nt_q31 : nt_pr 31 := nt_small 4 (by decide) (by decide +kernel) (by decide)
theorem nt_q37 : nt_pr 37 := nt_small 5 (by decide) (by decide +kernel) (by decide)
theorem nt_q43 : nt_pr 43 := nt_small 5 (by decide) (by decide +kernel) (by decide)
theorem nt_q47 : nt_pr 47 := nt_small 5 (by decide) (by decide +kernel) (by decide)
theorem nt_q59 : nt_pr 59 := nt_small 6 (by decide) (by decide +kernel) (by decide)
theorem nt_q61 : nt_pr 61 := nt_small 6 (by decide) (by decide +kernel) (by decide)
theorem nt_q67 : nt_pr 67 := nt_small 7 (by decide) (by decide +kernel) (by decide)
theorem nt_q97 : nt_pr 97 := nt_small 8 (by decide) (by decide +kernel) (by decide)
theorem nt_q103 : nt_pr 103 := nt_small 9 (by decide) (by decide +kernel) (by decide)
theorem nt_q107 : nt_pr 107 := nt_small 9 (by decide) (by decide +kernel) (by decide)
theorem nt_q109 : nt_pr 109 := nt_small 9 (by decide) (by decide +kernel) (by decide)
theorem nt_q127 : nt_pr 127 := nt_small 10 (by decide) (by decide +kernel) (by decide)
theorem nt_q131 : nt_pr 131 := nt_small 10 (by decide) (by decide +kernel) (by decide)
theorem nt_q137 : nt_pr 137 := nt_small 10 (by decide) (by decide +kernel) (by decide)
theorem nt_q151 : nt_pr 151 := nt_small 11 (by decide) (by decide +kernel) (by decide)
theorem nt_q197 : nt_pr 197 := nt_small 13 (by decide) (by decide +kernel) (by decide)
theorem nt_q223 : nt_pr 223 := nt_small 13 (by decide) (by decide +kernel) (by decide)
theorem nt_q229 : nt_pr 229 := nt_small 14 (by decide) (by decide +kernel) (by decide)
theorem nt_q271 : nt_pr 271 := nt_small 15 (by decide) (by decide +kernel) (by decide)
theorem nt_q353 : nt_pr 353 := nt_small 17 (by decide) (by decide +kernel) (by decide)
theorem nt_q419 : nt_pr 419 := nt_small 19 (by decide) (by decide +kernel) (by decide)
theorem nt_q443 : nt_pr 443 := nt_small 20 (by decide) (by decide +kernel) (by decide)
theorem nt_q463 : nt_pr 463 := nt_small 20 (by decide) (by decide +kernel) (by decide)
theorem nt_q479 : nt_pr 479 := nt_small 20 (by decide) (by decide +kernel) (by decide)
theorem nt_q487 : nt_pr 487 := nt_small 21 (by decide) (by decide +kernel) (by decide)
theorem nt_q593 : nt_pr 593 := nt_small 23 (by decide) (by decide +kernel) (by decide)
theorem nt_q613 : nt_pr 613 := nt_small 23 (by decide) (by decide +kernel) (by decide)
theorem nt_q641 : nt_pr 641 := nt_small 24 (by decide) (by decide +kernel) (by decide)
theorem nt_q991 : nt_pr 991 := nt_small 30 (by decide) (by decide +kernel) (by decide)
theorem nt_q1723 : nt_pr 1723 := nt_small 40 (by decide) (by decide +kernel) (by decide)
theorem nt_q1979 : nt_pr 1979 := nt_small 43 (by decide) (by decide +kernel) (by decide)
theorem nt_q2437 : nt_pr 2437 := nt_small 48 (by decide) (by decide +kernel) (by decide)
theorem nt_q2531 : nt_pr 2531 := nt_small 49 (by decide) (by decide +kernel) (by decide)
theorem nt_q2683 : nt_pr 2683 := nt_small 50 (by decide) (by decide +kernel) (by decide)
theorem nt_q2963 : nt_pr 2963 := nt_small 53 (by decide) (by decide +kernel) (by decide)
theorem nt_q3727 : nt_pr 3727 := nt_small 60 (by decide) (by decide +kernel) (by decide)
theorem nt_q4153 : nt_pr 4153 := nt_small 63 (by decide) (by decide +kernel) (by decide)
theorem nt_q6197 : nt_pr 6197 := nt_small 77 (by decide) (by decide +kernel) (by decide)
theorem nt_q9463 : nt_pr 9463 := nt_small 96 (by decide) (by decide +kernel) (by decide)
theorem nt_q9749 : nt_pr 9749 := nt_small 97 (by decide) (by decide +kernel) (by decide)
theorem nt_q17449 : nt_pr 17449 := nt_small 131 (by decide) (by decide +kernel) (by decide)
theorem nt_q18287 : nt_pr 18287 := nt_small 134 (by decide) (by decide +kernel) (by decide)
theorem nt_P0 : nt_ok 32573 := nt_cert (g := 2) [2, 2, 17, 479] (by decide +kernel) (by decide +kernel) (by decide +kernel) (by decide +kernel) (nt_ac nt_q2 (nt_ac nt_q2 (nt_ac nt_q17 (nt_ac nt_q479 nt_an)))) (by decide +kernel)
theorem nt_P1 : nt_ok 65147 := nt_cert (g := 2) [2, 32573] (by decide +kernel) (by decide +kernel) (by decide +kernel) (by decide +kernel) (nt_ac nt_q2 (nt_ac nt_P0.1 nt_an)) (by decide +kernel)
theorem nt_P2 : nt_ok 57467 := nt_cert (g := 2) [2, 59, 487] (by decide +kernel) (by decide +kernel) (by decide +kernel) (by decide +kernel) (nt_ac nt_q2 (nt_ac nt_q59 (nt_ac nt_q487 nt_an))) (by decide +kernel)
theorem nt_P3 : nt_ok 132049 := nt_cert (g := 26) [2, 2, 2, 2, 3, 3, 7, 131] (by decide +kernel) (by decide +kernel) (by decide +kernel) (by decide +kernel) (nt_ac nt_q2 (nt_ac nt_q2 (nt_ac nt_q2 (nt_ac nt_q2 (nt_ac nt_q3 (nt_ac nt_q3 (nt_ac nt_q7 (nt_ac nt_q131 nt_an)))))))) (by decide +kernel)
theorem nt_P4 : nt_ok 1923133 := nt_cert (g := 2) [2, 2, 3, 43, 3727] (by decide +kernel) (by decide +kernel) (by decide +kernel) (by decide +kernel) (nt_ac nt_q2 (nt_ac nt_q2 (nt_ac nt_q3 (nt_ac nt_q43 (nt_ac nt_q3727 nt_an))))) (by decide +kernel)
theorem nt_P5 : nt_ok 430751 := nt_cert (g := 17) [2, 5, 5, 5, 1723] (by decide +kernel) (by decide +kernel) (by decide +kernel) (by decide +kernel) (nt_ac nt_q2 (nt_ac nt_q5 (nt_ac nt_q5 (nt_ac nt_q5 (nt_ac nt_q1723 nt_an))))) (by decide +kernel)
theorem nt_P6 : nt_ok 31757755568855353 := nt_cert (g := 10) [2, 2, 2, 3, 31, 107, 223, 4153, 430751] (by decide +kernel) (by decide +kernel) (by decide +kernel) (by decide +kernel) (nt_ac nt_q2 (nt_ac nt_q2 (nt_ac nt_q2 (nt_ac nt_q3 (nt_ac nt_q31 (nt_ac nt_q107 (nt_ac nt_q223 (nt_ac nt_q4153 (nt_ac nt_P5.1 nt_an))))))))) (by decide +kernel)
theorem nt_P7 : nt_ok 37853 := nt_cert (g := 2) [2, 2, 9463] (by decide +kernel) (by decide +kernel) (by decide +kernel) (by decide +kernel) (nt_ac nt_q2 (nt_ac nt_q2 (nt_ac nt_q9463 nt_an))) (by decide +kernel)
theorem nt_P8 : nt_ok 75707 := nt_cert (g := 2) [2, 37853] (by decide +kernel) (by decide +kernel) (by decide +kernel) (by decide +kernel) (nt_ac nt_q2 (nt_ac nt_P7.1 nt_an)) (by decide +kernel)
theorem nt_P9 : nt_ok 569003 := nt_cert (g := 2) [2, 7, 97, 419] (by decide +kernel) (by decide +kernel) (by decide +kernel) (by decide +kernel) (nt_ac nt_q2 (nt_ac nt_q7 (nt_ac nt_q97 (nt_ac nt_q419 nt_an)))) (by decide +kernel)
theorem nt_P10 : nt_ok 2773320623 := nt_cert (g := 5) [2, 2437, 569003] (by decide +kernel) (by decide +kernel) (by decide +kernel) (by decide +kernel) (nt_ac nt_q2 (nt_ac nt_q2437 (nt_ac nt_P9.1 nt_an))) (by decide +kernel)
theorem nt_P11 : nt_ok 72106336199 := nt_cert (g := 7) [2, 13, 2773320623] (by decide +kernel) (by decide +kernel) (by decide +kernel) (by decide +kernel) (nt_ac nt_q2 (nt_ac nt_q13 (nt_ac nt_P10.1 nt_an))) (by decide +kernel)
theorem nt_P12 : nt_ok 8574133 := nt_cert (g := 2) [2, 2, 3, 7, 103, 991] (by decide +kernel) (by decide +kernel) (by decide +kernel) (by decide +kernel) (nt_ac nt_q2 (nt_ac nt_q2 (nt_ac nt_q3 (nt_ac nt_q7 (nt_ac nt_q103 (nt_ac nt_q991 nt_an)))))) (by decide +kernel)
theorem nt_P13 : nt_ok 1919519569386763 := nt_cert (g := 2) [2, 3, 7, 19, 47, 47, 127, 8574133] (by decide +kernel) (by decide +kernel) (by decide +kernel) (by decide +kernel) (nt_ac nt_q2 (nt_ac nt_q3 (nt_ac nt_q7 (nt_ac nt_q19 (nt_ac nt_q47 (nt_ac nt_q47 (nt_ac nt_q127 (nt_ac nt_P12.1 nt_an)))))))) (by decide +kernel)
theorem nt_P14 : nt_ok 75445702479781427272750846543864801 := nt_cert (g := 7) [2, 2, 2, 2, 2, 3, 3, 5, 5, 75707, 72106336199, 1919519569386763] (by decide +kernel) (by decide +kernel) (by decide +kernel) (by decide +kernel) (nt_ac nt_q2 (nt_ac nt_q2 (nt_ac nt_q2 (nt_ac nt_q2 (nt_ac nt_q2 (nt_ac nt_q3 (nt_ac nt_q3 (nt_ac nt_q5 (nt_ac nt_q5 (nt_ac nt_P8.1 (nt_ac nt_P11.1 (nt_ac nt_P13.1 nt_an)))))))))))) (by decide +kernel)
theorem nt_P15 : nt_ok 74058212732561358302231226437062788676166966415465897661863160754340907 := nt_cert (g := 2) [2, 3, 353, 57467, 132049, 1923133, 31757755568855353, 75445702479781427272750846543864801] (by decide +kernel) (by decide +kernel) (by decide +kernel) (by decide +kernel) (nt_ac nt_q2 (nt_ac nt_q3 (nt_ac nt_q353 (nt_ac nt_P2.1 (nt_ac nt_P3.1 (nt_ac nt_P4.1 (nt_ac nt_P6.1 (nt_ac nt_P14.1 nt_an)))))))) (by decide +kernel)
theorem nt_P16 : nt_ok 57896044618658097711785492504343953926634992332820282019728792003956564819949 := nt_cert (g := 2) [2, 2, 3, 65147, 74058212732561358302231226437062788676166966415465897661863160754340907] (by decide +kernel) (by decide +kernel) (by decide +kernel) (by decide +kernel) (nt_ac nt_q2 (nt_ac nt_q2 (nt_ac nt_q3 (nt_ac nt_P1.1 (nt_ac nt_P15.1 nt_an))))) (by decide +kernel)
theorem nt_P17 : nt_ok 196687 := nt_cert (g := 3) [2, 3, 3, 7, 7, 223] (by decide +kernel) (by decide +kernel) (by decide +kernel) (by decide +kernel) (nt_ac nt_q2 (nt_ac nt_q3 (nt_ac nt_q3 (nt_ac nt_q7 (nt_ac nt_q7 (nt_ac nt_q223 nt_an)))))) (by decide +kernel)
theorem nt_P18 : nt_ok 1466449 := nt_cert (g := 7) [2, 2, 2, 2, 3, 137, 223] (by decide +kernel) (by decide +kernel) (by decide +kernel) (by decide +kernel) (nt_ac nt_q2 (nt_ac nt_q2 (nt_ac nt_q2 (nt_ac nt_q2 (nt_ac nt_q3 (nt_ac nt_q137 (nt_ac nt_q223 nt_an))))))) (by decide +kernel)
theorem nt_P19 : nt_ok 2916841 := nt_cert (g := 13) [2, 2, 2, 3, 5, 109, 223] (by decide +kernel) (by decide +kernel) (by decide +kernel) (by decide +kernel) (nt_ac nt_q2 (nt_ac nt_q2 (nt_ac nt_q2 (nt_ac nt_q3 (nt_ac nt_q5 (nt_ac nt_q109 (nt_ac nt_q223 nt_an))))))) (by decide +kernel)
theorem nt_P20 : nt_ok 6700417 := nt_cert (g := 5) [2, 2, 2, 2, 2, 2, 2, 3, 17449] (by decide +kernel) (by decide +kernel) (by decide +kernel) (by decide +kernel) (nt_ac nt_q2 (nt_ac nt_q2 (nt_ac nt_q2 (nt_ac nt_q2 (nt_ac nt_q2 (nt_ac nt_q2 (nt_ac nt_q2 (nt_ac nt_q3 (nt_ac nt_q17449 nt_an))))))))) (by decide +kernel)
theorem nt_P21 : nt_ok 411743 := nt_cert (g := 10) [2, 29, 31, 229] (by decide +kernel) (by decide +kernel) (by decide +kernel) (by decide +kernel) (nt_ac nt_q2 (nt_ac nt_q29 (nt_ac nt_q31 (nt_ac nt_q229 nt_an)))) (by decide +kernel)
theorem nt_P22 : nt_ok 1609403 := nt_cert (g := 2) [2, 23, 59, 593] (by decide +kernel) (by decide +kernel) (by decide +kernel) (by decide +kernel) (nt_ac nt_q2 (nt_ac nt_q23 (nt_ac nt_q59 (nt_ac nt_q593 nt_an)))) (by decide +kernel)
theorem nt_P23 : nt_ok 3402277943 := nt_cert (g := 5) [2, 7, 151, 1609403] (by decide +kernel) (by decide +kernel) (by decide +kernel) (by decide +kernel) (nt_ac nt_q2 (nt_ac nt_q7 (nt_ac nt_q151 (nt_ac nt_P22.1 nt_an)))) (by decide +kernel)
theorem nt_P24 : nt_ok 1469495262398780123809 := nt_cert (g := 17) [2, 2, 2, 2, 2, 3, 7, 7, 223, 411743, 3402277943] (by decide +kernel) (by decide +kernel) (by decide +kernel) (by decide +kernel) (nt_ac nt_q2 (nt_ac nt_q2 (nt_ac nt_q2 (nt_ac nt_q2 (nt_ac nt_q2 (nt_ac nt_q3 (nt_ac nt_q7 (nt_ac nt_q7 (nt_ac nt_q223 (nt_ac nt_P21.1 (nt_ac nt_P23.1 nt_an))))))))))) (by decide +kernel)
theorem nt_P25 : nt_ok 47497 := nt_cert (g := 5) [2, 2, 2, 3, 1979] (by decide +kernel) (by decide +kernel) (by decide +kernel) (by decide +kernel) (nt_ac nt_q2 (nt_ac nt_q2 (nt_ac nt_q2 (nt_ac nt_q3 (nt_ac nt_q1979 nt_an))))) (by decide +kernel)
theorem nt_P26 : nt_ok 189989 := nt_cert (g := 2) [2, 2, 47497] (by decide +kernel) (by decide +kernel) (by decide +kernel) (by decide +kernel) (nt_ac nt_q2 (nt_ac nt_q2 (nt_ac nt_P25.1 nt_an))) (by decide +kernel)
theorem nt_P27 : nt_ok 379979 := nt_cert (g := 2) [2, 189989] (by decide +kernel) (by decide +kernel) (by decide +kernel) (by decide +kernel) (nt_ac nt_q2 (nt_ac nt_P26.1 nt_an)) (by decide +kernel)
theorem nt_P28 : nt_ok 97859369123353 := nt_cert (g := 5) [2, 2, 2, 3, 3, 67, 197, 271, 379979] (by decide +kernel) (by decide +kernel) (by decide +kernel) (by decide +kernel) (nt_ac nt_q2 (nt_ac nt_q2 (nt_ac nt_q2 (nt_ac nt_q3 (nt_ac nt_q3 (nt_ac nt_q67 (nt_ac nt_q197 (nt_ac nt_q271 (nt_ac nt_P27.1 nt_an))))))))) (by decide +kernel)
theorem nt_P29 : nt_ok 167773885276849215533569 := nt_cert (g := 17) [2, 2, 2, 2, 2, 2, 2, 2, 2, 3, 3, 3, 7, 7, 2531, 97859369123353] (by decide +kernel) (by decide +kernel) (by decide +kernel) (by decide +kernel) (nt_ac nt_q2 (nt_ac nt_q2 (nt_ac nt_q2 (nt_ac nt_q2 (nt_ac nt_q2 (nt_ac nt_q2 (nt_ac nt_q2 (nt_ac nt_q2 (nt_ac nt_q2 (nt_ac nt_q3 (nt_ac nt_q3 (nt_ac nt_q3 (nt_ac nt_q7 (nt_ac nt_q7 (nt_ac nt_q2531 (nt_ac nt_P28.1 nt_an)))))))))))))))) (by decide +kernel)
theorem nt_P30 : nt_ok 217003 := nt_cert (g := 3) [2, 3, 59, 613] (by decide +kernel) (by decide +kernel) (by decide +kernel) (by decide +kernel) (nt_ac nt_q2 (nt_ac nt_q3 (nt_ac nt_q59 (nt_ac nt_q613 nt_an)))) (by decide +kernel)
theorem nt_P31 : nt_ok 1764234391 := nt_cert (g := 3) [2, 3, 5, 271, 217003] (by decide +kernel) (by decide +kernel) (by decide +kernel) (by decide +kernel) (nt_ac nt_q2 (nt_ac nt_q3 (nt_ac nt_q5 (nt_ac nt_q271 (nt_ac nt_P30.1 nt_an))))) (by decide +kernel)
theorem nt_P32 : nt_ok 34741861125639557 := nt_cert (g := 13) [2, 2, 7, 7, 7, 31, 463, 1764234391] (by decide +kernel) (by decide +kernel) (by decide +kernel) (by decide +kernel) (nt_ac nt_q2 (nt_ac nt_q2 (nt_ac nt_q7 (nt_ac nt_q7 (nt_ac nt_q7 (nt_ac nt_q31 (nt_ac nt_q463 (nt_ac nt_P31.1 nt_an)))))))) (by decide +kernel)
theorem nt_P33 : nt_ok 36131535570665139281 := nt_cert (g := 3) [2, 2, 2, 2, 5, 13, 34741861125639557] (by decide +kernel) (by decide +kernel) (by decide +kernel) (by decide +kernel) (nt_ac nt_q2 (nt_ac nt_q2 (nt_ac nt_q2 (nt_ac nt_q2 (nt_ac nt_q5 (nt_ac nt_q13 (nt_ac nt_P32.1 nt_an))))))) (by decide +kernel)
theorem nt_P34 : nt_ok 596242599987116128415063 := nt_cert (g := 5) [2, 37, 223, 36131535570665139281] (by decide +kernel) (by decide +kernel) (by decide +kernel) (by decide +kernel) (nt_ac nt_q2 (nt_ac nt_q37 (nt_ac nt_q223 (nt_ac nt_P33.1 nt_an)))) (by decide +kernel)
theorem nt_P35 : nt_ok 36753053 := nt_cert (g := 2) [2, 2, 7, 443, 2963] (by decide +kernel) (by decide +kernel) (by decide +kernel) (by decide +kernel) (nt_ac nt_q2 (nt_ac nt_q2 (nt_ac nt_q7 (nt_ac nt_q443 (nt_ac nt_q2963 nt_an))))) (by decide +kernel)
theorem nt_P36 : nt_ok 116989 := nt_cert (g := 10) [2, 2, 3, 9749] (by decide +kernel) (by decide +kernel) (by decide +kernel) (by decide +kernel) (nt_ac nt_q2 (nt_ac nt_q2 (nt_ac nt_q3 (nt_ac nt_q9749 nt_an)))) (by decide +kernel)
theorem nt_P37 : nt_ok 1255525949 := nt_cert (g := 2) [2, 2, 2683, 116989] (by decide +kernel) (by decide +kernel) (by decide +kernel) (by decide +kernel) (nt_ac nt_q2 (nt_ac nt_q2 (nt_ac nt_q2683 (nt_ac nt_P36.1 nt_an)))) (by decide +kernel)
theorem nt_P38 : nt_ok 1335912079 := nt_cert (g := 6) [2, 3, 19, 31, 61, 6197] (by decide +kernel) (by decide +kernel) (by decide +kernel) (by decide +kernel) (nt_ac nt_q2 (nt_ac nt_q3 (nt_ac nt_q19 (nt_ac nt_q31 (nt_ac nt_q61 (nt_ac nt_q6197 nt_an)))))) (by decide +kernel)
theorem nt_P39 : nt_ok 32061889897 := nt_cert (g := 10) [2, 2, 2, 3, 1335912079] (by decide +kernel) (by decide +kernel) (by decide +kernel) (by decide +kernel) (nt_ac nt_q2 (nt_ac nt_q2 (nt_ac nt_q2 (nt_ac nt_q3 (nt_ac nt_P38.1 nt_an))))) (by decide +kernel)
theorem nt_P40 : nt_ok 25136521679249 := nt_cert (g := 3) [2, 2, 2, 2, 7, 7, 32061889897] (by decide +kernel) (by decide +kernel) (by decide +kernel) (by decide +kernel) (nt_ac nt_q2 (nt_ac nt_q2 (nt_ac nt_q2 (nt_ac nt_q2 (nt_ac nt_q7 (nt_ac nt_q7 (nt_ac nt_P39.1 nt_an))))))) (by decide +kernel)
theorem nt_P41 : nt_ok 37414057161322375957408148834323969 := nt_cert (g := 23) [2, 2, 2, 2, 2, 2, 2, 2, 2, 3, 3, 7, 36753053, 1255525949, 25136521679249] (by decide +kernel) (by decide +kernel) (by decide +kernel) (by decide +kernel) (nt_ac nt_q2 (nt_ac nt_q2 (nt_ac nt_q2 (nt_ac nt_q2 (nt_ac nt_q2 (nt_ac nt_q2 (nt_ac nt_q2 (nt_ac nt_q2 (nt_ac nt_q2 (nt_ac nt_q3 (nt_ac nt_q3 (nt_ac nt_q7 (nt_ac nt_P35.1 (nt_ac nt_P37.1 (nt_ac nt_P40.1 nt_an))))))))))))))) (by decide +kernel)
theorem nt_P42 : nt_ok 726838724295606890549323807888004534353641360687318060281490199180612328166730772686396383698676545930088884461843637361053498018365439 := nt_cert (g := 7) [2, 641, 18287, 196687, 1466449, 2916841, 6700417, 1469495262398780123809, 167773885276849215533569, 596242599987116128415063, 37414057161322375957408148834323969] (by decide +kernel) (by decide +kernel) (by decide +kernel) (by decide +kernel) (nt_ac nt_q2 (nt_ac nt_q641 (nt_ac nt_q18287 (nt_ac nt_P17.1 (nt_ac nt_P18.1 (nt_ac nt_P19.1 (nt_ac nt_P20.1 (nt_ac nt_P24.1 (nt_ac nt_P29.1 (nt_ac nt_P34.1 (nt_ac nt_P41.1 nt_an))))))))))) (by decide +kernel)
/-- the primes: 2^255 - 19 (false), 2^448 - 2^224 - 1 (true) -/
def nt_p (c : Bool) : Nat := if c then 2 ^ 448 - 2 ^ 224 - 1 else 2 ^ 255 - 19
theorem nt_p0 : nt_p false = 57896044618658097711785492504343953926634992332820282019728792003956564819949 := by decide +kernel
theorem nt_p1 : nt_p true = 726838724295606890549323807888004534353641360687318060281490199180612328166730772686396383698676545930088884461843637361053498018365439 := by decide +kernel
theorem nt_pp (c : Bool) : nt_ok (nt_p c) := by
  cases c
  · rw [nt_p0]; exact nt_P16
  · rw [nt_p1]; exact nt_P42
end
