section
/-! MULTIPLES by numbers that lie in bytes. -/
def uN (x : Int32) : Nat := x.toBitVec.toNat
theorem uN_nI {m : Nat} (h : m < 2 ^ 32) : uN (nI m) = m := pk_tn h
theorem nI_uN (x : Int32) : nI (uN x) = x := by
  refine Int32.toBitVec_inj.mp (BitVec.eq_of_toNat_eq ?_)
  unfold uN
  rw [pk_tn x.toBitVec.isLt]
/-- a row's first n entries are bytes -/
def BY (f : Nat → Int32) (n : Nat) : Prop := ∀ i, i < n → uN (f i) < 256
/-- the number that the first n bytes are, the lowest first -/
def bv (f : Nat → Int32) (n : Nat) : Nat := rvN 256 (fun i => uN (f i)) n
theorem sh_nat {x : Int32} {s : Nat} (hx : uN x < 2 ^ 31) (hs : s < 32) : uN (x >>> (nI s &&& 31)) = uN x / 2 ^ s := by
  have e : (nI s &&& 31) = nI s := by
    refine Int32.toBitVec_inj.mp (BitVec.eq_of_toNat_eq ?_)
    rw [Int32.toBitVec_and, BitVec.toNat_and, pk_tn (by omega)]
    show s &&& 31 = s
    rw [show (31 : Nat) = 2 ^ 5 - 1 from rfl, Nat.and_two_pow_sub_one_eq_mod]
    exact Nat.mod_eq_of_lt hs
  rw [e]
  unfold uN at hx ⊢
  rw [Int32.toBitVec_shiftRight]
  have h2 : ((nI s).toBitVec.smod 32) = BitVec.ofNat 32 s := by
    have : ∀ k : Fin 32, ((nI k.val).toBitVec.smod 32) = BitVec.ofNat 32 k.val := by decide
    exact this ⟨s, hs⟩
  show (x.toBitVec.sshiftRight' ((nI s).toBitVec.smod 32)).toNat = _
  rw [h2]
  show (x.toBitVec.sshiftRight (BitVec.ofNat 32 s).toNat).toNat = _
  rw [BitVec.toNat_ofNat, Nat.mod_eq_of_lt (show s < 2 ^ 32 by omega)]
  have hm : x.toBitVec.msb = false := by
    rw [BitVec.msb_eq_decide]
    exact decide_eq_false (by omega)
  rw [BitVec.sshiftRight_eq_of_msb_false hm, BitVec.toNat_ushiftRight, Nat.shiftRight_eq_div_pow]
theorem dg4_v {f : Nat → Int32} {n : Nat} (h : BY f n) {j : Nat} (hj : j < 2 * n) : dg4 f j = uN (f (j / 2)) / 16 ^ (j % 2) % 16 := by
  have hb := h (j / 2) (by omega)
  unfold dg4
  rw [show (2 : Nat) ^ 1 = 2 from rfl]
  show uN _ % 2 ^ 4 = _
  rw [sh_nat (by omega) (by omega), Nat.pow_mul]
theorem rv_split (B k : Nat) (b : Nat → Nat) (d : Nat → Nat) (n : Nat) (hd : ∀ j, j < k * n → d j = b (j / k) / B ^ (j % k) % B) (hb : ∀ i, i < n → b i < B ^ k) (hk : 0 < k) (hB : 0 < B) : rvN B d (k * n) = rvN (B ^ k) b n := by
  have inner : ∀ i, i < n → ∀ t, t ≤ k → rvN B d (k * i + t) = rvN B d (k * i) + (b i % B ^ t) * B ^ (k * i) := by
    intro i hi t
    induction t with
    | zero => intro _; rw [Nat.pow_zero, Nat.mod_one, Nat.zero_mul]; rfl
    | succ t ih =>
      intro ht
      show rvN B d (k * i + t) + d (k * i + t) * B ^ (k * i + t) = _
      have hlt : k * i + t < k * n := by
        have : k * (i + 1) ≤ k * n := Nat.mul_le_mul_left k hi
        rw [Nat.mul_add] at this
        omega
      rw [ih (by omega), hd _ hlt, Nat.mul_add_div hk, Nat.div_eq_of_lt (show t < k by omega), Nat.add_zero, Nat.mul_add_mod, Nat.mod_eq_of_lt (show t < k by omega), Nat.pow_add]
      have e : b i % B ^ (t + 1) = b i % B ^ t + B ^ t * (b i / B ^ t % B) := by rw [Nat.pow_succ, Nat.mod_mul]
      rw [e, Nat.add_mul]
      have : b i / B ^ t % B * (B ^ (k * i) * B ^ t) = B ^ t * (b i / B ^ t % B) * B ^ (k * i) := by
        rw [Nat.mul_comm (B ^ (k * i)), ← Nat.mul_assoc, Nat.mul_comm (b i / B ^ t % B) (B ^ t)]
      omega
  have outer : ∀ i, i ≤ n → rvN B d (k * i) = rvN (B ^ k) b i := by
    intro i
    induction i with
    | zero => intro _; rfl
    | succ i ih =>
      intro hi
      show rvN B d (k * i + k) = rvN (B ^ k) b i + b i * (B ^ k) ^ i
      rw [inner i (by omega) k (Nat.le_refl _), ih (by omega), Nat.mod_eq_of_lt (hb i (by omega)), ← Nat.pow_mul]
  exact outer n (Nat.le_refl _)
theorem dg4_rv {f : Nat → Int32} {n : Nat} (h : BY f n) : rvN 16 (dg4 f) (2 * n) = bv f n :=
  rv_split 16 2 (fun i => uN (f i)) (dg4 f) n (fun j hj => dg4_v h hj) h (by decide) (by decide)
theorem dg2_lo {f g : Nat → Int32} {n : Nat} (h : BY f n) {j : Nat} (hj : j < 4 * n) : dg2 f g j % 4 = uN (f (j / 4)) / 4 ^ (j % 4) % 4 := by
  have hb := h (j / 4) (by omega)
  have h1 := lowb_lt 2 (f (j / 2 ^ 2) >>> (nI (2 * (j % 2 ^ 2)) &&& 31))
  unfold dg2
  rw [Nat.add_mul_mod_self_left, Nat.mod_eq_of_lt h1]
  rw [show (2 : Nat) ^ 2 = 4 from rfl]
  show uN _ % 2 ^ 2 = _
  rw [sh_nat (by omega) (by omega), Nat.pow_mul]
theorem dg2_hi {f g : Nat → Int32} {n : Nat} (h : BY g n) {j : Nat} (hj : j < 4 * n) : dg2 f g j / 4 = uN (g (j / 4)) / 4 ^ (j % 4) % 4 := by
  have hb := h (j / 4) (by omega)
  have h1 := lowb_lt 2 (f (j / 2 ^ 2) >>> (nI (2 * (j % 2 ^ 2)) &&& 31))
  unfold dg2
  rw [Nat.add_mul_div_left _ _ (by decide), Nat.div_eq_of_lt h1, Nat.zero_add]
  rw [show (2 : Nat) ^ 2 = 4 from rfl]
  show uN _ % 2 ^ 2 = _
  rw [sh_nat (by omega) (by omega), Nat.pow_mul]
theorem rvN_lin (B : Nat) (d : Nat → Nat) : ∀ n, rvN B (fun j => d j % 4) n + 4 * rvN B (fun j => d j / 4) n = rvN B d n := by
  intro n
  induction n with
  | zero => rfl
  | succ n ih =>
    show rvN B (fun j => d j % 4) n + d n % 4 * B ^ n + 4 * (rvN B (fun j => d j / 4) n + d n / 4 * B ^ n) = rvN B d n + d n * B ^ n
    rw [← ih]
    have e : d n * B ^ n = d n % 4 * B ^ n + 4 * (d n / 4 * B ^ n) := by
      rw [← Nat.mul_assoc, ← Nat.add_mul, Nat.mod_add_div]
    omega
/-- what a curve's rows must hold, always -/
def CI (c : Bool) (co fo : Nat) (J : Nat → Nat → Int64) : Prop := PrimeAt c fo J ∧ VL c J (fo + 1) 1 ∧ VL c J (co + 19) (fp_d c) ∧ (c = false → VL c J (co + 17) (fp_i c)) ∧ PV c J (co + 28) (0, 1)
theorem CI_fr {c : Bool} {co fo : Nat} {J K : Nat → Nat → Int64} (h : ∀ r, (r = fo + 1 ∨ r = fo + 2 ∨ r = co + 19 ∨ r = co + 17 ∨ r = co + 29 ∨ r = co + 30 ∨ r = co + 31) → J r = K r) (hk : CI c co fo K) : CI c co fo J := by
  obtain ⟨h1, h2, h3, h4, h5⟩ := hk
  exact ⟨PrimeAt_row (h _ (by omega)) h1, VL_row (h _ (by omega)) h2, VL_row (h _ (by omega)) h3, fun e => VL_row (h _ (by omega)) (h4 e), PV_row (h _ (by omega)) (h _ (by omega)) (h _ (by omega)) h5⟩
/-- rows that multiplying may change -/
def cU (co fo r : Nat) : Prop := cT co fo r ∨ (co + 3 ≤ r ∧ r ≤ co + 5) ∨ (co + 32 < r ∧ r < co + 92)
/-- a point outside of all that a curve uses but its base -/
def pX (co fo p : Nat) : Prop := (p + 3 < fo + 1 ∨ fo + 9 < p + 1) ∧ (p + 3 < co + 3 ∨ co + 91 < p + 1 ∨ p = co + 20)
theorem pX_F {co fo p : Nat} (h : pX co fo p) : pF co fo p := by unfold pX at h; unfold pF; omega
theorem pX_G {co fo p : Nat} (h : pX co fo p) : pG co p := by unfold pX at h; unfold pG; omega
theorem cU_T {co fo r : Nat} (h : ¬ cU co fo r) : ¬ cT co fo r := fun e => h (Or.inl e)
theorem cU_4 {co fo r : Nat} (h : ¬ cU co fo r) : ¬ (co + 2 + 1 ≤ r ∧ r ≤ co + 2 + 3) := fun e => h (Or.inr (Or.inl (by omega)))
theorem cU_t {co fo r : Nat} (h : ¬ cU co fo r) : ¬ (co + 32 < r ∧ r < co + 92) := fun e => h (Or.inr (Or.inr e))
theorem cmult_s (c : Bool) (co fo to nb p : Nat) (S : StT) {P : Pt c} (hfc : fo + 9 < co) (hto : pX co fo to) (hp : pX co fo p) (hne : to ≠ co + 20) (hC : CI c co fo S.2.1) (hb : BY (S.1 nb) (cB c)) (h1 : PV c S.2.1 p P) :
    PV c (cmult_f c co fo to nb p S).2.1 to (pM c P (bv (S.1 nb) (cB c))) ∧ ∀ r, ¬ cU co fo r → ¬ (to + 1 ≤ r ∧ r ≤ to + 3) → (cmult_f c co fo to nb p S).2.1 r = S.2.1 r := by
  have hx := hto
  have hy := hp
  have g4 : pF co fo (co + 2) := ⟨Or.inr (by omega), Or.inl (by omega)⟩
  unfold pX at hx hy
  obtain ⟨t1, t2⟩ := ctwice_s c co fo (co + 2) p S hfc g4 (pX_F hp) h1
  generalize e1 : ctwice_f c co fo (co + 2) p S = S1 at t1 t2
  obtain ⟨u1, u2⟩ := ctwice_s c co fo (co + 2) (co + 2) (S.1, S1.2.1, S.2.2) hfc g4 g4 t1
  generalize e2 : ctwice_f c co fo (co + 2) (co + 2) (S.1, S1.2.1, S.2.2) = S2 at u1 u2
  have f2 : ∀ r, ¬ cT co fo r → ¬ (co + 2 + 1 ≤ r ∧ r ≤ co + 2 + 3) → S2.2.1 r = S.2.1 r := fun r hr hq => (u2 r hr hq).trans (t2 r hr hq)
  have hC2 : CI c co fo S2.2.1 := CI_fr (fun r h => f2 r (by unfold cT; omega) (by omega)) hC
  obtain ⟨c1, c2, c3, c4, c5⟩ := hC2
  obtain ⟨w1, w2⟩ := cfill_s c co fo p (co + 2) (S.1, S2.2.1, S.2.2) hfc (pX_F hp) g4 (pX_G hp) (Or.inl (by omega)) c3 c5 (PV_fr f2 (pX_F hp) (by omega) h1) u1
  generalize e3 : cfill_f c co fo p (co + 2) (S.1, S2.2.1, S.2.2) = S3 at w1 w2
  have hd : VL c S3.2.1 (co + 19) (fp_d c) := VL_row (w2 _ (by unfold cT; omega) (by omega)) c3
  obtain ⟨x1, x2⟩ := cwalk_s c co fo to (2 * cB c) 4 (dg4 (S.1 nb)) ((cmult_l41 co nb (S.1, S3.2.1, S.2.2) (2 * cB c)), S3.2.1, S.2.2) hfc (pX_F hto) (pX_G hto) hd (by omega) h1.1 (u1.1) (fun j _ => lowb_lt 4 _) w1
  generalize e4 : cwalk_f c co fo to (2 * cB c) 4 (dg4 (S.1 nb)) ((cmult_l41 co nb (S.1, S3.2.1, S.2.2) (2 * cB c)), S3.2.1, S.2.2) = S4 at x1 x2
  have en : (cmult_f c co fo to nb p S).2.1 = S4.2.1 := by
    unfold cmult_f
    dsimp only
    rw [e1, e2, e3, e4]
  rw [en]
  have ev : pA c (pM c P (rvN (2 ^ 4) (fun j => dg4 (S.1 nb) j % 4) (2 * cB c))) (pM c (pA c (pA c P P) (pA c P P)) (rvN (2 ^ 4) (fun j => dg4 (S.1 nb) j / 4) (2 * cB c))) = pM c P (bv (S.1 nb) (cB c)) := by
    have e4P : pA c (pA c P P) (pA c P P) = pM c P 4 := by
      have e2P : pA c P P = pM c P 2 := by rw [show (2 : Nat) = 1 + 1 from rfl, pM_add h1.1, pM_1]
      rw [e2P, ← pM_add h1.1]
    rw [e4P, ← pM_mul h1.1, ← pM_add h1.1, show (2 : Nat) ^ 4 = 16 from rfl, rvN_lin, dg4_rv hb]
  rw [ev] at x1
  refine ⟨x1, fun r hr hq => ?_⟩
  rw [x2 r (cU_T hr) hq]
  show S3.2.1 r = _
  rw [w2 r (cU_T hr) (cU_t hr)]
  exact f2 r (cU_T hr) (cU_4 hr)
theorem cmul2_s (c : Bool) (co fo to m_ p n_ q : Nat) (S : StT) {P Q : Pt c} (hfc : fo + 9 < co) (hto : pX co fo to) (hp : pX co fo p) (hq : pX co fo q) (hne : to ≠ co + 20) (hC : CI c co fo S.2.1) (hm : BY (S.1 m_) (cB c)) (hn : BY (S.1 n_) (cB c)) (h1 : PV c S.2.1 p P) (h2 : PV c S.2.1 q Q) :
    PV c (cmul2_f c co fo to m_ p n_ q S).2.1 to (pA c (pM c P (bv (S.1 m_) (cB c))) (pM c Q (bv (S.1 n_) (cB c)))) ∧ ∀ r, ¬ cU co fo r → ¬ (to + 1 ≤ r ∧ r ≤ to + 3) → (cmul2_f c co fo to m_ p n_ q S).2.1 r = S.2.1 r := by
  have hx := hto
  unfold pX at hx
  obtain ⟨c1, c2, c3, c4, c5⟩ := hC
  obtain ⟨w1, w2⟩ := cfill_s c co fo p q S hfc (pX_F hp) (pX_F hq) (pX_G hp) (pX_G hq) c3 c5 h1 h2
  generalize e3 : cfill_f c co fo p q S = S3 at w1 w2
  have hd : VL c S3.2.1 (co + 19) (fp_d c) := VL_row (w2 _ (by unfold cT; omega) (by omega)) c3
  obtain ⟨x1, x2⟩ := cwalk_s c co fo to (4 * cB c) 2 (dg2 (S.1 m_) (S.1 n_)) ((cmul2_l18 co m_ n_ (S.1, S3.2.1, S.2.2) (4 * cB c)), S3.2.1, S.2.2) hfc (pX_F hto) (pX_G hto) hd (by omega) h1.1 h2.1 (fun j _ => dg2_lt _ _ j) w1
  generalize e4 : cwalk_f c co fo to (4 * cB c) 2 (dg2 (S.1 m_) (S.1 n_)) ((cmul2_l18 co m_ n_ (S.1, S3.2.1, S.2.2) (4 * cB c)), S3.2.1, S.2.2) = S4 at x1 x2
  have en : (cmul2_f c co fo to m_ p n_ q S).2.1 = S4.2.1 := by
    unfold cmul2_f
    dsimp only
    rw [e3, e4]
  rw [en]
  have v1 : rvN (2 ^ 2) (fun j => dg2 (S.1 m_) (S.1 n_) j % 4) (4 * cB c) = bv (S.1 m_) (cB c) := rv_split 4 4 (fun i => uN (S.1 m_ i)) _ (cB c) (fun j hj => dg2_lo hm hj) hm (by decide) (by decide)
  have v2 : rvN (2 ^ 2) (fun j => dg2 (S.1 m_) (S.1 n_) j / 4) (4 * cB c) = bv (S.1 n_) (cB c) := rv_split 4 4 (fun i => uN (S.1 n_ i)) _ (cB c) (fun j hj => dg2_hi hn hj) hn (by decide) (by decide)
  rw [v1, v2] at x1
  refine ⟨x1, fun r hr hq => ?_⟩
  rw [x2 r (cU_T hr) hq]
  show S3.2.1 r = _
  rw [w2 r (cU_T hr) (cU_t hr)]
end
