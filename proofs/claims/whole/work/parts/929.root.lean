/-! VALUES: roots, bit by bit -/
def rt (e P : Nat) : Nat → Nat
  | 0 => 0
  | n + 1 => if (rt e P n + 2 ^ (70 - 1 - n)) ^ e ≤ P then rt e P n + 2 ^ (70 - 1 - n) else rt e P n
theorem rt_s (e P : Nat) : ∀ n, n ≤ 70 → 2 ^ (70 - n) ∣ rt e P n ∧ rt e P n + 2 ^ (70 - n) ≤ 2 ^ 70 := by
  intro n
  induction n with
  | zero => exact fun _ => ⟨Nat.dvd_zero _, show 0 + 2 ^ (70 - 0) ≤ 2 ^ 70 by decide⟩
  | succ n ih =>
    intro hn
    obtain ⟨h1, h2⟩ := ih (by omega)
    have e1 : 70 - n = (70 - (n + 1)) + 1 := by omega
    have e2 : 70 - 1 - n = 70 - (n + 1) := by omega
    rw [e1, Nat.pow_succ] at h1 h2
    show 2 ^ (70 - (n + 1)) ∣ (if (rt e P n + 2 ^ (70 - 1 - n)) ^ e ≤ P then rt e P n + 2 ^ (70 - 1 - n) else rt e P n) ∧ (if (rt e P n + 2 ^ (70 - 1 - n)) ^ e ≤ P then rt e P n + 2 ^ (70 - 1 - n) else rt e P n) + _ ≤ _
    rw [e2]
    have h3 : 2 ^ (70 - (n + 1)) ∣ rt e P n := Nat.dvd_trans (Nat.dvd_mul_right _ _) h1
    split
    · exact ⟨Nat.dvd_add h3 (Nat.dvd_refl _), by omega⟩
    · exact ⟨h3, by omega⟩
theorem un_bit {I K : Nat → Nat → Int32} {mo r q : Nat} {y : Int32} (hI : MD I mo 21 r) (hK : ∀ k, k < 32 → K (mo + 7) (672 + k) = if k = q then I (mo + 7) (672 + k) + y else I (mo + 7) (672 + k)) (hq : q < 32) : MD (va_up K (mo + 7) (upd (K (mo + 7)) (672 + q) (K (mo + 7) (672 + q) - y))) mo 21 r := by
  refine ⟨hI.1, fun k hk => ?_⟩
  rw [← hI.2 k hk]
  show uN (va_up K (mo + 7) (upd (K (mo + 7)) (672 + q) (K (mo + 7) (672 + q) - y)) (mo + 7) (32 * 21 + k)) = uN (I (mo + 7) (32 * 21 + k))
  rw [vu_s]
  by_cases e : k = q
  · subst e
    rw [show 32 * 21 + k = 672 + k from by omega, pk_us, hK k hk, if_pos rfl, Int32.add_sub_cancel]
  · rw [show 32 * 21 + k = 672 + k from by omega, pk_un (by omega), hK k hk, if_neg e]
theorem MD_one {I : Nat → Nat → Int32} {mo a q : Nat} {p : Int32} (h0 : MD I mo a 0) (hq : q < 28) (hp : uN p < 2 ^ 16) : MD (va_up I (mo + 7) (upd (I (mo + 7)) (32 * a + q) p)) mo a (uN p * (2 ^ 16) ^ q) := by
  refine MD_set (q := q) (x := uN p) h0 (fun k hk => ?_) hq hp ?_
  · rw [mq_up]
    by_cases e : k = q
    · rw [if_pos (by omega), if_pos e]
    · rw [if_neg (by omega), if_neg e]
  · rw [h0.2 q (by omega), Nat.zero_div]
    omega
/-- the end of a bit's turn: the power in place 22 is held against the number in place 23 -/
def rbT (mo e q : Nat) (p y : Int32) (F : Nat → Nat → Int32) (X : StT) : (Nat → Nat → Int32) × (Nat → Nat → Int64) :=
  if (atLeast_f mo 23 22 (va_up (zero28_f mo 23 (X.1, X.2.1, F)).1 (mo + 7) (upd ((zero28_f mo 23 (X.1, X.2.1, F)).1 (mo + 7)) (736 + (4 * e)) p), (zero28_f mo 23 (X.1, X.2.1, F)).2.1, F)).1 ≠ 0 then (va_up (zero28_f mo 23 (X.1, X.2.1, F)).1 (mo + 7) (upd ((zero28_f mo 23 (X.1, X.2.1, F)).1 (mo + 7)) (736 + (4 * e)) p), (zero28_f mo 23 (X.1, X.2.1, F)).2.1)
  else (va_up (va_up (zero28_f mo 23 (X.1, X.2.1, F)).1 (mo + 7) (upd ((zero28_f mo 23 (X.1, X.2.1, F)).1 (mo + 7)) (736 + (4 * e)) p)) (mo + 7) (upd ((va_up (zero28_f mo 23 (X.1, X.2.1, F)).1 (mo + 7) (upd ((zero28_f mo 23 (X.1, X.2.1, F)).1 (mo + 7)) (736 + (4 * e)) p)) (mo + 7)) (672 + q) ((va_up (zero28_f mo 23 (X.1, X.2.1, F)).1 (mo + 7) (upd ((zero28_f mo 23 (X.1, X.2.1, F)).1 (mo + 7)) (736 + (4 * e)) p)) (mo + 7) (672 + q) - y)), (zero28_f mo 23 (X.1, X.2.1, F)).2.1)
theorem rbT_s {mo e q r c m : Nat} {p y : Int32} {F : Nat → Nat → Int32} {X : StT} {I : Nat → Nat → Int32} (he : 4 * e < 28) (hq : q < 32) (hp : uN p < 2 ^ 16) (hr : MD I mo 21 r) (hc : MD X.1 mo 21 c) (hm : MD X.1 mo 22 m) (hK : ∀ k, k < 32 → X.1 (mo + 7) (672 + k) = if k = q then I (mo + 7) (672 + k) + y else I (mo + 7) (672 + k)) :
    MD (rbT mo e q p y F X).1 mo 21 (if m ≤ uN p * (2 ^ 16) ^ (4 * e) then c else r) ∧ MY mo (fun x => 21 ≤ x ∧ x ≤ 23) ((rbT mo e q p y F X).1, (rbT mo e q p y F X).2, F) X := by
  unfold rbT
  obtain ⟨z1, z2, z3⟩ := mzero_m mo 23 (X.1, X.2.1, F)
  have zz : mzero_f mo 23 (X.1, X.2.1, F) = zero28_f mo 23 (X.1, X.2.1, F) := rfl
  rw [zz] at z1 z2 z3
  generalize zero28_f mo 23 (X.1, X.2.1, F) = Z at z1 z2 z3 ⊢
  have zJ : Z.2.1 = X.2.1 := by rw [z3]
  have h23 : MD (va_up Z.1 (mo + 7) (upd (Z.1 (mo + 7)) (736 + (4 * e)) p)) mo 23 (uN p * (2 ^ 16) ^ (4 * e)) := MD_one z1 he hp
  have hF : MF mo 23 (va_up Z.1 (mo + 7) (upd (Z.1 (mo + 7)) (736 + (4 * e)) p)) X.1 := MF_tr (mf_up Z.1 mo 23 (4 * e) p (by omega)) z2
  generalize va_up Z.1 (mo + 7) (upd (Z.1 (mo + 7)) (736 + (4 * e)) p) = K at h23 hF ⊢
  have hm' := MD_fr hF (by decide) hm
  have hc' := MD_fr hF (by decide) hc
  have hK' : ∀ k, k < 32 → K (mo + 7) (672 + k) = if k = q then I (mo + 7) (672 + k) + y else I (mo + 7) (672 + k) := fun k hk => (hF.2 (672 + k) (by omega)).trans (hK k hk)
  obtain ⟨a1, -⟩ := atLeast_m mo 23 22 (K, Z.2.1, F) h23 hm'
  rw [a1]
  have m1 : MY mo (fun x => 21 ≤ x ∧ x ≤ 23) (K, Z.2.1, F) X := ⟨fun r h1 _ => hF.1 r h1, fun x hx i hi => hF.2 _ (by omega), fun r _ => by rw [zJ]⟩
  by_cases h : m ≤ uN p * (2 ^ 16) ^ (4 * e)
  · rw [if_pos h, if_pos h, if_pos (by decide)]
    exact ⟨hc', m1⟩
  · rw [if_neg h, if_neg h, if_neg (by decide)]
    refine ⟨un_bit hr hK' hq, MY_tr (U := (K, Z.2.1, F)) ⟨fun r h1 _ => vu_n h1, fun x hx i hi => ?_, fun _ _ => rfl⟩ m1⟩
    show va_up K (mo + 7) _ (mo + 7) (32 * x + i) = K (mo + 7) (32 * x + i)
    rw [vu_s, pk_un (by omega)]
theorem rb_lp (mo e : Nat) (p : Int32) (S : StT) (he : e = 2 ∨ e = 3) (hp : uN p < 2 ^ 16) (h21 : MD S.1 mo 21 0) : ∀ n, n ≤ 70 → MD (mrtB_l9 mo e p S n).1 mo 21 (rt e (uN p * (2 ^ 16) ^ (4 * e)) n) ∧ MY mo (fun x => 21 ≤ x ∧ x ≤ 23) ((mrtB_l9 mo e p S n).1, (mrtB_l9 mo e p S n).2, S.2.2) S := by
  intro n
  induction n with
  | zero => exact fun _ => ⟨h21, fun _ _ _ => rfl, fun _ _ _ _ => rfl, fun _ _ => rfl⟩
  | succ n ih =>
    intro hn
    obtain ⟨i1, i2⟩ := ih (by omega)
    obtain ⟨r1, r2⟩ := rt_s e (uN p * (2 ^ 16) ^ (4 * e)) n (by omega)
    generalize hT : mrtB_l9 mo e p S (n + 1) = T
    have hrt : rt e (uN p * (2 ^ 16) ^ (4 * e)) (n + 1) = if (rt e (uN p * (2 ^ 16) ^ (4 * e)) n + 2 ^ (70 - 1 - n)) ^ e ≤ uN p * (2 ^ 16) ^ (4 * e) then rt e (uN p * (2 ^ 16) ^ (4 * e)) n + 2 ^ (70 - 1 - n) else rt e (uN p * (2 ^ 16) ^ (4 * e)) n := rfl
    rw [hrt]
    clear hrt
    dsimp only [mrtB_l9] at hT
    generalize mrtB_l9 mo e p S n = Y at i1 i2 hT
    generalize rt e (uN p * (2 ^ 16) ^ (4 * e)) n = r at i1 r1 r2 ⊢
    have hb : 70 - 1 - n < 70 := by omega
    have hbn : 70 - n = (70 - 1 - n) + 1 := by omega
    rw [hbn] at r1 r2
    generalize 70 - 1 - n = b at hb r1 r2 hT ⊢
    have hbp : 2 ^ (b + 1) = 2 ^ b + 2 ^ b := by rw [Nat.pow_succ]; omega
    have hc : MD (va_up Y.1 (mo + 7) (upd (Y.1 (mo + 7)) (672 + b / 2 ^ 4) (Y.1 (mo + 7) (672 + b / 2 ^ 4) + (nI 1 <<< (nI (b % 2 ^ 4) &&& 31))))) mo 21 (r + 2 ^ b) := MD_bit i1 hb (Nat.mod_eq_zero_of_dvd r1)
    have hq : b / 2 ^ 4 < 32 := by omega
    generalize b / 2 ^ 4 = q at hc hq hT
    generalize nI 1 <<< (nI (b % 2 ^ 4) &&& 31) = y at hc hT
    have hK : ∀ k, k < 32 → (va_up Y.1 (mo + 7) (upd (Y.1 (mo + 7)) (672 + q) (Y.1 (mo + 7) (672 + q) + y))) (mo + 7) (672 + k) = if k = q then Y.1 (mo + 7) (672 + k) + y else Y.1 (mo + 7) (672 + k) := by
      intro k hk
      rw [vu_s]
      by_cases h : k = q
      · subst h
        rw [pk_us, if_pos rfl]
      · rw [pk_un (by omega), if_neg h]
    have m3 : MY mo (fun x => 21 ≤ x ∧ x ≤ 23) (va_up Y.1 (mo + 7) (upd (Y.1 (mo + 7)) (672 + q) (Y.1 (mo + 7) (672 + q) + y)), Y.2, S.2.2) S := by
      refine MY_tr (U := (Y.1, Y.2, S.2.2)) ⟨fun r h1 _ => vu_n h1, fun x hx i hi => ?_, fun _ _ => rfl⟩ i2
      show va_up Y.1 (mo + 7) _ (mo + 7) (32 * x + i) = Y.1 (mo + 7) (32 * x + i)
      rw [vu_s, pk_un (by omega)]
    generalize va_up Y.1 (mo + 7) (upd (Y.1 (mo + 7)) (672 + q) (Y.1 (mo + 7) (672 + q) + y)) = I3 at hc hK m3 hT
    have hc70 : r + 2 ^ b < 2 ^ 71 := by
      have : 2 ^ 70 < 2 ^ 71 := by decide
      omega
    generalize r + 2 ^ b = c at hc hc70 ⊢
    obtain ⟨t1, t2, t3⟩ := mt28_m mo 22 21 21 (I3, Y.2, S.2.2) hc hc (Nat.lt_trans hc70 (by decide)) (Nat.lt_trans hc70 (by decide))
    have hc4 := MD_fr t2 (by decide) hc
    have hK4 : ∀ k, k < 32 → (mt28_f mo 22 21 21 (I3, Y.2, S.2.2)).1 (mo + 7) (672 + k) = if k = q then Y.1 (mo + 7) (672 + k) + y else Y.1 (mo + 7) (672 + k) := fun k hk => (t2.2 (672 + k) (by omega)).trans (hK k hk)
    have m4 : MY mo (fun x => 21 ≤ x ∧ x ≤ 23) (mt28_f mo 22 21 21 (I3, Y.2, S.2.2)) S := MY_tr ⟨fun r h1 _ => t2.1 r h1, fun x hx i hi => t2.2 _ (by omega), t3⟩ m3
    generalize mt28_f mo 22 21 21 (I3, Y.2, S.2.2) = S4 at t1 hc4 hK4 m4 hT
    have hcc : c * c < 2 ^ 142 := Nat.lt_of_lt_of_le (Nat.mul_lt_mul'' hc70 hc70) (by decide)
    rcases he with rfl | rfl
    · rw [if_pos (by decide)] at hT
      obtain ⟨u1, u2⟩ := rbT_s (F := S.2.2) (e := 2) (by decide) hq hp i1 hc4 t1 hK4
      rw [show rbT mo 2 q p y S.2.2 S4 = T from hT] at u1 u2
      rw [show c ^ 2 = c * c from Nat.pow_two c]
      exact ⟨u1, MY_tr u2 m4⟩
    · rw [if_neg (by decide)] at hT
      obtain ⟨v1, v2, v3⟩ := mt28_m mo 22 22 21 (S4.1, S4.2.1, S.2.2) t1 hc4 (Nat.lt_trans hcc (by decide)) (Nat.lt_trans hc70 (by decide))
      have hc5 := MD_fr v2 (by decide) hc4
      have hK5 : ∀ k, k < 32 → (mt28_f mo 22 22 21 (S4.1, S4.2.1, S.2.2)).1 (mo + 7) (672 + k) = if k = q then Y.1 (mo + 7) (672 + k) + y else Y.1 (mo + 7) (672 + k) := fun k hk => (v2.2 (672 + k) (by omega)).trans (hK4 k hk)
      have m5 : MY mo (fun x => 21 ≤ x ∧ x ≤ 23) (mt28_f mo 22 22 21 (S4.1, S4.2.1, S.2.2)) S := MY_tr ⟨fun r h1 _ => v2.1 r h1, fun x hx i hi => v2.2 _ (by omega), v3⟩ m4
      generalize mt28_f mo 22 22 21 (S4.1, S4.2.1, S.2.2) = S5 at v1 hc5 hK5 m5 hT
      obtain ⟨u1, u2⟩ := rbT_s (F := S.2.2) (e := 3) (by decide) hq hp i1 hc5 v1 hK5
      rw [show rbT mo 3 q p y S.2.2 S5 = T from hT] at u1 u2
      rw [show c ^ 3 = c * c * c from by rw [Nat.pow_succ, Nat.pow_two]]
      exact ⟨u1, MY_tr u2 m5⟩
