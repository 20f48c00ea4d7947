section
/-! MULTIPLES: the table, the walk. -/
def pM (c : Bool) (P : Pt c) (n : Nat) : Pt c := ed_nm (fp_a c) (fp_d c) (fp_iv c) P n
theorem pA_on {c : Bool} {P Q : Pt c} (h1 : pO c P) (h2 : pO c Q) : pO c (pA c P Q) := ed_add_on (fp_K c) h1 h2
theorem pM_on {c : Bool} {P : Pt c} (h : pO c P) (n : Nat) : pO c (pM c P n) := ed_nm_on (fp_K c) h n
theorem pA_comm (c : Bool) (P Q : Pt c) : pA c P Q = pA c Q P := ed_comm _ _ _ P Q
theorem pA_assoc {c : Bool} {P Q R : Pt c} (h1 : pO c P) (h2 : pO c Q) (h3 : pO c R) : pA c (pA c P Q) R = pA c P (pA c Q R) := ed_assoc (fp_K c) h1 h2 h3
theorem pA_zero {c : Bool} (P : Pt c) : pA c P (0, 1) = P := ed_zero (fp_K c) P
theorem pA_zl {c : Bool} (P : Pt c) : pA c (0, 1) P = P := by rw [pA_comm, pA_zero]
theorem pO_0 (c : Bool) : pO c (0, 1) := ed_on0 _ _
theorem pM_0 {c : Bool} (P : Pt c) : pM c P 0 = (0, 1) := rfl
theorem pM_s {c : Bool} (P : Pt c) (n : Nat) : pM c P (n + 1) = pA c (pM c P n) P := rfl
theorem pM_1 {c : Bool} (P : Pt c) : pM c P 1 = P := ed_nm1 (fp_K c)
theorem pM_add {c : Bool} {P : Pt c} (h : pO c P) (m n : Nat) : pM c P (m + n) = pA c (pM c P m) (pM c P n) := ed_nm_add (fp_K c) h m n
theorem pM_mul {c : Bool} {P : Pt c} (h : pO c P) (m n : Nat) : pM c P (m * n) = pM c (pM c P m) n := ed_nm_mul (fp_K c) h m n
theorem pM_dist {c : Bool} {P Q : Pt c} (h1 : pO c P) (h2 : pO c Q) (n : Nat) : pM c (pA c P Q) n = pA c (pM c P n) (pM c Q n) := ed_nm_dist (fp_K c) h1 h2 n
theorem pM_neg {c : Bool} (P : Pt c) (n : Nat) : pM c (ed_neg P) n = ed_neg (pM c P n) := ed_nm_neg (fp_K c) n
theorem pA_sw {c : Bool} {P Q R T : Pt c} (h1 : pO c P) (h2 : pO c Q) (h3 : pO c R) (h4 : pO c T) : pA c (pA c P Q) (pA c R T) = pA c (pA c P R) (pA c Q T) := ed_swap4 (fp_K c) h1 h2 h3 h4
theorem pA_neg (c : Bool) (P Q : Pt c) : ed_neg (pA c P Q) = pA c (ed_neg P) (ed_neg Q) := ed_neg_add _ _ _ P Q
theorem pA_less {c : Bool} {P : Pt c} (h : pO c P) : pA c P (ed_neg P) = (0, 1) := ed_less (fp_K c) h
theorem pN_on {c : Bool} {P : Pt c} (h : pO c P) : pO c (ed_neg P) := ed_neg_on h
theorem PV_on {c : Bool} {J : Nat → Nat → Int64} {p : Nat} {P : Pt c} (h : PV c J p P) : pO c P := h.1
def tb (c : Bool) (P Q : Pt c) (j : Nat) : Pt c := pA c (pM c P (j % 4)) (pM c Q (j / 4))
theorem tb_on {c : Bool} {P Q : Pt c} (h1 : pO c P) (h2 : pO c Q) (j : Nat) : pO c (tb c P Q j) := pA_on (pM_on h1 _) (pM_on h2 _)
theorem tb_0 {c : Bool} (P Q : Pt c) : tb c P Q 0 = (0, 1) := pA_zero (0, 1)
theorem tb_lo {c : Bool} {P Q : Pt c} (i : Nat) (h : i + 1 < 4) : pA c (tb c P Q i) P = tb c P Q (i + 1) := by
  unfold tb
  rw [Nat.div_eq_of_lt h, Nat.div_eq_of_lt (show i < 4 by omega), Nat.mod_eq_of_lt h, Nat.mod_eq_of_lt (show i < 4 by omega), pM_0, pA_zero, pA_zero]
  rfl
theorem tb_hi {c : Bool} {P Q : Pt c} (h1 : pO c P) (h2 : pO c Q) (i : Nat) : pA c (tb c P Q i) Q = tb c P Q (i + 4) := by
  unfold tb
  rw [pA_assoc (pM_on h1 _) (pM_on h2 _) h2, show (i + 4) / 4 = i / 4 + 1 by omega, show (i + 4) % 4 = i % 4 by omega]
  rfl
/-- a point that is no part of the table -/
def pG (co p : Nat) : Prop := p + 3 < co + 29 ∨ co + 91 < p + 1
theorem pF_tb {co fo : Nat} (h : fo + 9 < co) (j : Nat) : pF co fo (co + 28 + 4 * j) := ⟨Or.inr (by omega), Or.inr (by omega)⟩
theorem PV_fr {c : Bool} {J K : Nat → Nat → Int64} {co fo to p : Nat} {P : Pt c} (hf : ∀ r, ¬ cT co fo r → ¬ (to + 1 ≤ r ∧ r ≤ to + 3) → J r = K r) (hp : pF co fo p) (ht : p + 3 < to + 1 ∨ to + 3 < p + 1) (h : PV c K p P) : PV c J p P := by
  obtain ⟨h1, h2⟩ := hp
  refine PV_row (hf _ ?_ ?_) (hf _ ?_ ?_) (hf _ ?_ ?_) h <;> first | omega | (unfold cT; omega)
theorem cfill_lp (c : Bool) (co fo lo hi : Nat) (S : StT) {P Q : Pt c} (hfc : fo + 9 < co) (hlo : pF co fo lo) (hhi : pF co fo hi) (glo : pG co lo) (ghi : pG co hi) (hd : VL c S.2.1 (co + 19) (fp_d c)) (h0 : PV c S.2.1 (co + 28) (0, 1)) (h1 : PV c S.2.1 lo P) (h2 : PV c S.2.1 hi Q) :
    ∀ i, i ≤ 15 → (∀ j, j ≤ i → PV c (cfill_l2 c co fo lo hi S i).2.1 (co + 28 + 4 * j) (tb c P Q j)) ∧ ∀ r, ¬ cT co fo r → ¬ (co + 32 < r ∧ r < co + 92) → (cfill_l2 c co fo lo hi S i).2.1 r = S.2.1 r := by
  intro i
  induction i with
  | zero =>
    intro _
    refine ⟨fun j hj => ?_, fun r _ _ => rfl⟩
    have : j = 0 := by omega
    subst this
    rw [tb_0]
    exact h0
  | succ i ih =>
    intro hi'
    obtain ⟨i1, i2⟩ := ih (by omega)
    show (∀ j, j ≤ i + 1 → PV c (if (nI (4)) ≤ (nI (1 + i)) then csum_f c (co) fo (co + 28 + 4 * (1 + i)) (co + 28 + 4 * (1 + i - 4)) (hi) (cfill_l2 c co fo lo hi S i) else csum_f c (co) fo (co + 28 + 4 * (1 + i)) (co + 28 + 4 * (1 + i - 1)) (lo) (cfill_l2 c co fo lo hi S i)).2.1 _ _) ∧ ∀ r, _ → _ → (if (nI (4)) ≤ (nI (1 + i)) then csum_f c (co) fo (co + 28 + 4 * (1 + i)) (co + 28 + 4 * (1 + i - 4)) (hi) (cfill_l2 c co fo lo hi S i) else csum_f c (co) fo (co + 28 + 4 * (1 + i)) (co + 28 + 4 * (1 + i - 1)) (lo) (cfill_l2 c co fo lo hi S i)).2.1 r = S.2.1 r
    generalize cfill_l2 c co fo lo hi S i = T at i1 i2
    have gd : VL c T.2.1 (co + 19) (fp_d c) := VL_row (i2 _ (by unfold cT; omega) (by omega)) hd
    have fr : ∀ p X, pF co fo p → pG co p → PV c S.2.1 p X → PV c T.2.1 p X := by
      intro p X q1 q2 q3
      obtain ⟨h1, h2⟩ := q1
      unfold pG at q2
      refine PV_row (i2 _ ?_ ?_) (i2 _ ?_ ?_) (i2 _ ?_ ?_) q3 <;> first | omega | (unfold cT; omega)
    have fin : ∀ (U : StT) , PV c U.2.1 (co + 28 + 4 * (1 + i)) (tb c P Q (i + 1)) → (∀ r, ¬ cT co fo r → ¬ (co + 28 + 4 * (1 + i) + 1 ≤ r ∧ r ≤ co + 28 + 4 * (1 + i) + 3) → U.2.1 r = T.2.1 r) → (∀ j, j ≤ i + 1 → PV c U.2.1 (co + 28 + 4 * j) (tb c P Q j)) ∧ ∀ r, ¬ cT co fo r → ¬ (co + 32 < r ∧ r < co + 92) → U.2.1 r = S.2.1 r := by
      intro U u1 u2
      refine ⟨fun j hj => ?_, fun r hr hq => (u2 r hr (by omega)).trans (i2 r hr hq)⟩
      by_cases e : j = i + 1
      · subst e
        rw [Nat.add_comm i 1] at u1 ⊢
        exact u1
      · exact PV_fr u2 (pF_tb hfc j) (by omega) (i1 j (by omega))
    by_cases h4 : 4 ≤ 1 + i
    · rw [if_pos ((nI_leI (by decide) (by omega)).mpr h4)]
      obtain ⟨s1, s2⟩ := csum_s c co fo (co + 28 + 4 * (1 + i)) (co + 28 + 4 * (1 + i - 4)) hi T hfc (pF_tb hfc _) (pF_tb hfc _) hhi gd (i1 (1 + i - 4) (by omega)) (fr hi Q hhi ghi h2)
      rw [tb_hi h1.1 h2.1, show 1 + i - 4 + 4 = i + 1 by omega] at s1
      exact fin _ s1 s2
    · rw [if_neg (fun h => h4 ((nI_leI (by decide) (by omega)).mp h))]
      obtain ⟨s1, s2⟩ := csum_s c co fo (co + 28 + 4 * (1 + i)) (co + 28 + 4 * (1 + i - 1)) lo T hfc (pF_tb hfc _) (pF_tb hfc _) hlo gd (i1 (1 + i - 1) (by omega)) (fr lo P hlo glo h1)
      rw [show 1 + i - 1 = i by omega, tb_lo i (by omega)] at s1
      rw [show 1 + i - 1 = i by omega] at s2
      rw [show 1 + i - 1 = i by omega]
      exact fin _ s1 s2
theorem cfill_s (c : Bool) (co fo lo hi : Nat) (S : StT) {P Q : Pt c} (hfc : fo + 9 < co) (hlo : pF co fo lo) (hhi : pF co fo hi) (glo : pG co lo) (ghi : pG co hi) (hd : VL c S.2.1 (co + 19) (fp_d c)) (h0 : PV c S.2.1 (co + 28) (0, 1)) (h1 : PV c S.2.1 lo P) (h2 : PV c S.2.1 hi Q) :
    (∀ j, j < 16 → PV c (cfill_f c co fo lo hi S).2.1 (co + 28 + 4 * j) (tb c P Q j)) ∧ ∀ r, ¬ cT co fo r → ¬ (co + 32 < r ∧ r < co + 92) → (cfill_f c co fo lo hi S).2.1 r = S.2.1 r := by
  obtain ⟨a, b⟩ := cfill_lp c co fo lo hi S hfc hlo hhi glo ghi hd h0 h1 h2 15 (Nat.le_refl _)
  exact ⟨fun j hj => a j (by omega), b⟩
theorem cw68_s (c : Bool) (co fo to : Nat) (S : StT) {A : Pt c} (hfc : fo + 9 < co) (hto : pF co fo to) (h : PV c S.2.1 to A) : ∀ i, PV c (cwalk1_l68 c co fo to S i) to (pM c A (2 ^ i)) ∧ ∀ r, ¬ cT co fo r → ¬ (to + 1 ≤ r ∧ r ≤ to + 3) → cwalk1_l68 c co fo to S i r = S.2.1 r := by
  intro i
  induction i with
  | zero =>
    rw [Nat.pow_zero, pM_1]
    exact ⟨h, fun _ _ _ => rfl⟩
  | succ i ih =>
    obtain ⟨i1, i2⟩ := ih
    show PV c (ctwice_f c co fo to to (S.1, cwalk1_l68 c co fo to S i, S.2.2)).2.1 to _ ∧ ∀ r, _ → _ → (ctwice_f c co fo to to (S.1, cwalk1_l68 c co fo to S i, S.2.2)).2.1 r = _
    obtain ⟨s1, s2⟩ := ctwice_s c co fo to to (S.1, cwalk1_l68 c co fo to S i, S.2.2) hfc hto hto i1
    rw [Nat.pow_succ, Nat.mul_two, pM_add h.1]
    exact ⟨s1, fun r hr hq => (s2 r hr hq).trans (i2 r hr hq)⟩
/-- digits from the highest on -/
def hv (B : Nat) (f : Nat → Nat) (top : Nat) : Nat → Nat
  | 0 => f top
  | i + 1 => hv B f top i * B + f (top - 1 - i)
def rvN (B : Nat) (f : Nat → Nat) : Nat → Nat
  | 0 => 0
  | n + 1 => rvN B f n + f n * B ^ n
theorem hv_rv (B : Nat) (f : Nat → Nat) (top : Nat) : ∀ i, i ≤ top → hv B f top i * B ^ (top - i) + rvN B f (top - i) = rvN B f (top + 1) := by
  intro i
  induction i with
  | zero => intro _; show f top * B ^ top + rvN B f top = rvN B f top + f top * B ^ top; exact Nat.add_comm _ _
  | succ i ih =>
    intro h
    have e := ih (by omega)
    obtain ⟨m, hm⟩ : ∃ m, top - i = m + 1 := ⟨top - i - 1, by omega⟩
    have hm1 : top - (i + 1) = m := by omega
    have hm2 : top - 1 - i = m := by omega
    rw [hm] at e
    rw [hm1]
    show (hv B f top i * B + f (top - 1 - i)) * B ^ m + rvN B f m = _
    rw [hm2, ← e]
    show _ = hv B f top i * B ^ (m + 1) + (rvN B f m + f m * B ^ m)
    rw [Nat.pow_succ, Nat.add_mul, Nat.mul_assoc, Nat.mul_comm B (B ^ m)]
    omega
theorem hv_top (B : Nat) (f : Nat → Nat) (top : Nat) : hv B f top top = rvN B f (top + 1) := by
  have := hv_rv B f top top (Nat.le_refl _)
  rw [Nat.sub_self, Nat.pow_zero, Nat.mul_one] at this
  exact this
theorem rvN_z (B : Nat) (f : Nat → Nat) (m : Nat) : ∀ n, m ≤ n → (∀ j, m ≤ j → j < n → f j = 0) → rvN B f n = rvN B f m := by
  intro n
  induction n with
  | zero => intro h _; rw [show m = 0 from Nat.le_zero.mp h]
  | succ n ih =>
    intro h hz
    by_cases e : m = n + 1
    · subst e; rfl
    · show rvN B f n + f n * B ^ n = _
      rw [ih (by omega) (fun j a b => hz j a (by omega)), hz n (by omega) (by omega), Nat.zero_mul, Nat.add_zero]
theorem rvN_congr {B : Nat} {f g : Nat → Nat} : ∀ n, (∀ j, j < n → f j = g j) → rvN B f n = rvN B g n := by
  intro n
  induction n with
  | zero => intro _; rfl
  | succ n ih => intro h; show rvN B f n + f n * _ = rvN B g n + g n * _; rw [ih (fun j hj => h j (by omega)), h n (by omega)]
theorem walk_st {c : Bool} {P Q : Pt c} (h1 : pO c P) (h2 : pO c Q) (m n B u v : Nat) : pA c (pM c (pA c (pM c P m) (pM c Q n)) B) (pA c (pM c P u) (pM c Q v)) = pA c (pM c P (m * B + u)) (pM c Q (n * B + v)) := by
  rw [pM_dist (pM_on h1 _) (pM_on h2 _), ← pM_mul h1, ← pM_mul h2, pA_sw (pM_on h1 _) (pM_on h2 _) (pM_on h1 _) (pM_on h2 _), ← pM_add h1, ← pM_add h2]
theorem cw60_s (c : Bool) (co fo to wd lf : Nat) (dg : Nat → Nat) (S : StT) {P Q : Pt c} (hfc : fo + 9 < co) (hto : pF co fo to) (gto : pG co to) (hd : VL c S.2.1 (co + 19) (fp_d c)) (ht19 : to + 3 < co + 19 ∨ co + 19 < to + 1) (hP : pO c P) (hQ : pO c Q) (hdg : ∀ j, j < lf → dg j < 16)
    (ht : ∀ j, j < 16 → PV c S.2.1 (co + 28 + 4 * j) (tb c P Q j)) (h0 : PV c S.2.1 to (tb c P Q (dg (lf - 1)))) :
    ∀ i, i < lf → PV c (cwalk1_l60 c co fo to wd lf dg S i) to (pA c (pM c P (hv (2 ^ wd) (fun j => dg j % 4) (lf - 1) i)) (pM c Q (hv (2 ^ wd) (fun j => dg j / 4) (lf - 1) i))) ∧ ∀ r, ¬ cT co fo r → ¬ (to + 1 ≤ r ∧ r ≤ to + 3) → cwalk1_l60 c co fo to wd lf dg S i r = S.2.1 r := by
  intro i
  induction i with
  | zero => intro _; exact ⟨h0, fun _ _ _ => rfl⟩
  | succ i ih =>
    intro hi
    obtain ⟨i1, i2⟩ := ih (by omega)
    show PV c (if (nI (dg (lf - 1 - 1 - i))) = 0 then (cwalk1_l68 c co fo to (S.1, cwalk1_l60 c co fo to wd lf dg S i, S.2.2) wd) else (csum_f c (co) fo (to) (to) (co + 28 + 4 * (dg (lf - 1 - 1 - i))) (S.1, (cwalk1_l68 c co fo to (S.1, cwalk1_l60 c co fo to wd lf dg S i, S.2.2) wd), S.2.2)).2.1) to (pA c (pM c P (hv (2 ^ wd) (fun j => dg j % 4) (lf - 1) i * 2 ^ wd + dg (lf - 1 - 1 - i) % 4)) (pM c Q (hv (2 ^ wd) (fun j => dg j / 4) (lf - 1) i * 2 ^ wd + dg (lf - 1 - 1 - i) / 4))) ∧ ∀ r, _ → _ → (if (nI (dg (lf - 1 - 1 - i))) = 0 then (cwalk1_l68 c co fo to (S.1, cwalk1_l60 c co fo to wd lf dg S i, S.2.2) wd) else (csum_f c (co) fo (to) (to) (co + 28 + 4 * (dg (lf - 1 - 1 - i))) (S.1, (cwalk1_l68 c co fo to (S.1, cwalk1_l60 c co fo to wd lf dg S i, S.2.2) wd), S.2.2)).2.1) r = S.2.1 r
    generalize hv (2 ^ wd) (fun j => dg j % 4) (lf - 1) i = m at i1 ⊢
    generalize hv (2 ^ wd) (fun j => dg j / 4) (lf - 1) i = n at i1 ⊢
    generalize cwalk1_l60 c co fo to wd lf dg S i = T at i1 i2 ⊢
    obtain ⟨d1, d2⟩ := cw68_s c co fo to (S.1, T, S.2.2) hfc hto i1 wd
    generalize cwalk1_l68 c co fo to (S.1, T, S.2.2) wd = U at d1 d2 ⊢
    have fr : ∀ r, ¬ cT co fo r → ¬ (to + 1 ≤ r ∧ r ≤ to + 3) → U r = S.2.1 r := fun r hr hq => (d2 r hr hq).trans (i2 r hr hq)
    have hlt := hdg (lf - 1 - 1 - i) (by omega)
    generalize dg (lf - 1 - 1 - i) = g at hlt ⊢
    rw [← walk_st hP hQ]
    by_cases hg : g = 0
    · subst hg
      rw [if_pos (show nI 0 = 0 from rfl)]
      rw [show (0 : Nat) % 4 = 0 from rfl, show (0 : Nat) / 4 = 0 from rfl, pM_0, pM_0, pA_zero (0, 1), pA_zero]
      exact ⟨d1, fr⟩
    · rw [if_neg (nI_nz (by omega) hg)]
      unfold pG at gto
      obtain ⟨s1, s2⟩ := csum_s c co fo to to (co + 28 + 4 * g) (S.1, U, S.2.2) hfc hto hto (pF_tb hfc g) (VL_row (fr _ (by unfold cT; omega) (by omega)) hd) d1 (PV_fr fr (pF_tb hfc g) (by omega) (ht g hlt))
      exact ⟨s1, fun r hr hq => (s2 r hr hq).trans (fr r hr hq)⟩
theorem cwalk_s (c : Bool) (co fo to cnt wd : Nat) (dg : Nat → Nat) (S : StT) {P Q : Pt c} (hfc : fo + 9 < co) (hto : pF co fo to) (gto : pG co to) (hd : VL c S.2.1 (co + 19) (fp_d c)) (ht19 : to + 3 < co + 19 ∨ co + 19 < to + 1) (hP : pO c P) (hQ : pO c Q) (hdg : ∀ j, j < cnt → dg j < 16)
    (ht : ∀ j, j < 16 → PV c S.2.1 (co + 28 + 4 * j) (tb c P Q j)) :
    PV c (cwalk_f c co fo to cnt wd dg S).2.1 to (pA c (pM c P (rvN (2 ^ wd) (fun j => dg j % 4) cnt)) (pM c Q (rvN (2 ^ wd) (fun j => dg j / 4) cnt))) ∧ ∀ r, ¬ cT co fo r → ¬ (to + 1 ≤ r ∧ r ≤ to + 3) → (cwalk_f c co fo to cnt wd dg S).2.1 r = S.2.1 r := by
  have hle := lfN_le dg cnt
  have hz := lfN_z dg cnt
  rw [rvN_z (2 ^ wd) (fun j => dg j % 4) (lfN dg cnt) cnt hle (fun j a b => by show dg j % 4 = 0; rw [hz j a b]), rvN_z (2 ^ wd) (fun j => dg j / 4) (lfN dg cnt) cnt hle (fun j a b => by show dg j / 4 = 0; rw [hz j a b])]
  unfold cwalk_f
  generalize lfN dg cnt = lf at hle hz ⊢
  unfold pG at gto
  by_cases h : lf = 0
  · rw [if_pos h, h]
    show PV c (ccopy_f c co fo to (co + 28 + 4 * 0) S).2.1 to (pA c (0, 1) (0, 1)) ∧ ∀ r, _ → _ → (ccopy_f c co fo to (co + 28 + 4 * 0) S).2.1 r = _
    rw [pA_zero]
    have h0 := ht 0 (by decide)
    rw [tb_0] at h0
    obtain ⟨s1, s2⟩ := ccopy_s c co fo to (co + 28 + 4 * 0) S (by omega) h0
    exact ⟨s1, fun r _ hq => s2 r hq⟩
  · rw [if_neg h]
    obtain ⟨s1, s2⟩ := ccopy_s c co fo to (co + 28 + 4 * (dg (lf - 1))) S (by have := hdg (lf - 1) (by omega); omega) (ht _ (hdg (lf - 1) (by omega)))
    show PV c (cwalk1_l60 c co fo to wd lf dg (S.1, (ccopy_f c co fo to (co + 28 + 4 * (dg (lf - 1))) S).2.1, S.2.2) (lf - 1)) to _ ∧ ∀ r, _ → _ → cwalk1_l60 c co fo to wd lf dg (S.1, (ccopy_f c co fo to (co + 28 + 4 * (dg (lf - 1))) S).2.1, S.2.2) (lf - 1) r = _
    generalize (ccopy_f c co fo to (co + 28 + 4 * (dg (lf - 1))) S).2.1 = U at s1 s2 ⊢
    obtain ⟨w1, w2⟩ := cw60_s c co fo to wd lf dg (S.1, U, S.2.2) hfc hto gto (VL_row (s2 _ (by omega)) hd) ht19 hP hQ (fun j hj => hdg j (by omega)) (fun j hj => PV_row (s2 _ (by omega)) (s2 _ (by omega)) (s2 _ (by omega)) (ht j hj)) s1 (lf - 1) (by omega)
    rw [hv_top, hv_top, show lf - 1 + 1 = lf by omega] at w1
    exact ⟨w1, fun r hr hq => (w2 r hr hq).trans (s2 r hq)⟩
end
