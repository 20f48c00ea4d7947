section
/-! THE SIGNER OF THE MODEL: verify. -/
theorem grp_eq {c : Bool} {P Q R : Pt c} (hP : pO c P) (hQ : pO c Q) (hR : pO c R) : pA c (pA c P (ed_neg Q)) (ed_neg R) = (0, 1) ↔ pA c R Q = P := by
  have e : pA c (pA c P (ed_neg Q)) (ed_neg R) = pA c P (ed_neg (pA c R Q)) := by
    rw [pA_assoc hP (pN_on hQ) (pN_on hR), pA_neg, pA_comm c (ed_neg R)]
  have hW : pO c (pA c R Q) := pA_on hR hQ
  rw [e]
  generalize pA c R Q = W at hW ⊢
  constructor
  · intro h
    have h2 : pA c (pA c P (ed_neg W)) W = P := by
      rw [pA_assoc hP (pN_on hW) hW, pA_comm c (ed_neg W), pA_less hW, pA_zero]
    rw [h, pA_zl] at h2
    exact h2
  · intro h
    rw [h]
    exact pA_less hP
theorem ver_eq {c : Bool} {B0 PA PR : Pt c} (hB : pO c B0) (hA : pO c PA) (hR : pO c PR) (s k n : Nat) : pM c (pA c (pA c (pM c B0 s) (pM c (ed_neg PA) k)) (ed_neg PR)) n = (0, 1) ↔ pM c (pA c PR (pM c PA k)) n = pM c (pM c B0 s) n := by
  have hs := pM_on hB s
  have hk := pM_on hA k
  rw [pM_neg, pM_dist (pA_on hs (pN_on hk)) (pN_on hR), pM_dist hs (pN_on hk), pM_neg, pM_neg, grp_eq (pM_on hs n) (pM_on hk n) (pM_on hR n), pM_dist hR hk]
theorem mveri_l43_s (c : Bool) (mo : Nat) (S : StT) {M : Nat} (hz : ∀ k, k < 32 → mq S.1 mo 53 k = 0) (hB : ∀ i, i < cB c → uN (S.1 (mo + 3) (cB c + i)) = M / 2 ^ (8 * i) % 256) : ∀ n, n ≤ cB c →
    (∀ k, k < 32 → mq (mveri_l43 c mo S n) mo 53 k = (M % 2 ^ (8 * n)) / 2 ^ (16 * k) % 2 ^ 16) ∧ (∀ j, (j < 1696 ∨ 1728 ≤ j) → mveri_l43 c mo S n (mo + 7) j = S.1 (mo + 7) j) ∧ (∀ i, i < n → mveri_l43 c mo S n (mo + 23) i = S.1 (mo + 3) (cB c + i)) ∧ ∀ r, r ≠ mo + 7 → r ≠ mo + 23 → mveri_l43 c mo S n r = S.1 r := by
  have hcB := cB_b c
  intro n
  induction n with
  | zero =>
    intro _
    refine ⟨fun k hk => ?_, fun _ _ => rfl, fun i hi => absurd hi (Nat.not_lt_zero _), fun _ _ _ => rfl⟩
    rw [Nat.mul_zero, Nat.pow_zero, Nat.mod_one, Nat.zero_div]
    exact hz k hk
  | succ n ih =>
    intro hn
    obtain ⟨h1, h2, h3, h4⟩ := ih (by omega)
    have e3 : mveri_l43 c mo S n (mo + 3) = S.1 (mo + 3) := h4 _ (by omega) (by omega)
    unfold mveri_l43
    dsimp only
    rw [e3, show ∀ u, va_up (mveri_l43 c mo S n) (mo + 7) u (mo + 3) = S.1 (mo + 3) from fun u => (vu_n (by omega)).trans e3]
    generalize mveri_l43 c mo S n = Y at h1 h2 h3 h4 ⊢
    have hb : uN (S.1 (mo + 3) (cB c + n)) = M / 2 ^ (8 * n) % 256 := hB n (by omega)
    generalize hb0 : S.1 (mo + 3) (cB c + n) = b at hb ⊢
    have hbl : uN b < 256 := by rw [hb]; exact Nat.mod_lt _ (by decide)
    have hs : M % 2 ^ (8 * (n + 1)) = M % 2 ^ (8 * n) + uN b * 2 ^ (8 * n) := by
      have q1 := rvN_dg 8 M (n + 1)
      have q2 := rvN_dg 8 M n
      rw [← q1, ← q2, hb]
      show rvN (2 ^ 8) (fun j => M / 2 ^ (8 * j) % 2 ^ 8) n + (M / 2 ^ (8 * n) % 2 ^ 8) * (2 ^ 8) ^ n = _
      rw [← Nat.pow_mul]
    have hl : M % 2 ^ (8 * n) < 2 ^ (8 * n) := Nat.mod_lt _ (Nat.pow_pos (by decide))
    generalize hV : va_up Y (mo + 7) (upd (Y (mo + 7)) (1696 + n / 2 ^ 1) (Y (mo + 7) (1696 + n / 2 ^ 1) ||| b <<< (nI (8 * (n % 2 ^ 1)) &&& 31))) = V
    have v7 : ∀ w, va_up V (mo + 23) w (mo + 7) = V (mo + 7) := fun w => vu_n (by omega)
    refine ⟨fun k hk3 => ?_, fun j hj => ?_, fun i hi => ?_, fun r q1 q2 => ?_⟩
    · have e : ∀ w, mq (va_up V (mo + 23) w) mo 53 k = mq V mo 53 k := fun w => by unfold mq; rw [v7]
      rw [e, ← hV, mq_up, hs, pc_step hl hbl]
      by_cases q : k = n / 2
      · rw [if_pos (by omega), if_pos q]
        have o1 := h1 (n / 2) (by omega)
        have o2 : uN (Y (mo + 7) (1696 + n / 2 ^ 1)) = (M % 2 ^ (8 * n)) / 2 ^ (16 * (n / 2)) % 2 ^ 16 := o1
        have hsm : (M % 2 ^ (8 * n)) / 2 ^ (16 * (n / 2)) < 2 ^ (8 * (n % 2)) := by
          refine (Nat.div_lt_iff_lt_mul (Nat.pow_pos (by decide))).mpr ?_
          rw [← Nat.pow_add, show 8 * (n % 2) + 16 * (n / 2) = 8 * n from by omega]
          exact hl
        have hsh : uN (b <<< ((nI (8 * (n % 2 ^ 1))) &&& 31)) = uN b * 2 ^ (8 * (n % 2)) := by
          rw [uN_shl (by omega)]
          show uN b * 2 ^ (8 * (n % 2)) % 2 ^ 32 = _
          rcases Nat.mod_two_eq_zero_or_one n with z | z
          · rw [z]; omega
          · rw [z]; omega
        rw [uN_or, hsh, o2, q]
        generalize (M % 2 ^ (8 * n)) / 2 ^ (16 * (n / 2)) = z at hsm
        rcases Nat.mod_two_eq_zero_or_one n with z2 | z2
        · rw [z2] at hsm ⊢
          rw [or_sh (Or.inl ⟨rfl, by omega⟩)]
        · rw [z2] at hsm ⊢
          rw [or_sh (Or.inr ⟨rfl, by omega⟩)]
      · rw [if_neg (by omega), if_neg q]
        exact h1 k hk3
    · rw [v7, ← hV, vu_s]
      show (if j = 1696 + n / 2 ^ 1 then _ else Y (mo + 7) j) = _
      rw [if_neg (by omega)]
      exact h2 j hj
    · have v23 : V (mo + 23) = Y (mo + 23) := by rw [← hV]; exact vu_n (by omega)
      rw [vu_s, v23]
      show (if i = n then b else Y (mo + 23) i) = _
      by_cases e : i = n
      · rw [if_pos e]
        rw [e]; exact hb0.symm
      · rw [if_neg e]; exact h3 i (by omega)
    · rw [vu_n q2, ← hV, vu_n q1]
      exact h4 r q1 q2
theorem mveri_l235_s (c : Bool) (mo mg cx : Nat) (ph : Bool) (S : StT) {P Q : Pt c} (hC : MC c S.1 mo) (h1 : MP c S.1 mo 54 P) (h2 : MP c S.1 mo 57 Q) : ∀ n, MP c (mveri_l235 c mo mg cx ph S n).1 mo 54 (pM c P (2 ^ n)) ∧ MP c (mveri_l235 c mo mg cx ph S n).1 mo 57 (pM c Q (2 ^ n)) ∧ MX mo (fun x => (30 ≤ x ∧ x ≤ 39) ∨ (54 ≤ x ∧ x ≤ 59)) ((mveri_l235 c mo mg cx ph S n).1, (mveri_l235 c mo mg cx ph S n).2, S.2.2) S := by
  have hbN := bN_le c
  intro n
  induction n with
  | zero =>
    rw [Nat.pow_zero, pM_1, pM_1]
    exact ⟨h1, h2, MX_rfl _ _ _⟩
  | succ n ih =>
    obtain ⟨i1, i2, i3⟩ := ih
    generalize hT : mveri_l235 c mo mg cx ph S (n + 1) = T
    unfold mveri_l235 at hT
    dsimp only at hT
    generalize mveri_l235 c mo mg cx ph S n = Y at i1 i2 i3 hT
    generalize fs S.2.2 mo 17 (nI (haN c (dmN c ph cx + cB c + cB c + (if ph then 64 else mg)))) = F at hT
    have hC1 : MC c Y.1 mo := MC_mx i3 (by omega) (by omega) hC
    obtain ⟨a1, a2⟩ := msum_m c mo 54 54 54 (Y.1, Y.2, F) (by omega) (by omega) (by omega) hC1 i1 i1
    have i2' : MP c (msum_f c mo 54 54 54 (Y.1, Y.2, F)).1 mo 57 (pM c Q (2 ^ n)) := MP_mx a2 (by unfold msD; omega) (by unfold msD; omega) (by unfold msD; omega) i2
    have hC2 : MC c (msum_f c mo 54 54 54 (Y.1, Y.2, F)).1 mo := MC_mx a2 (by unfold msD; omega) (by unfold msD; omega) hC1
    generalize msum_f c mo 54 54 54 (Y.1, Y.2, F) = U at a1 a2 i2' hC2 hT
    obtain ⟨b1, b2⟩ := msum_m c mo 57 57 57 (U.1, U.2.1, F) (by omega) (by omega) (by omega) hC2 i2' i2'
    have a1' : MP c (msum_f c mo 57 57 57 (U.1, U.2.1, F)).1 mo 54 (pA c (pM c P (2 ^ n)) (pM c P (2 ^ n))) := MP_mx b2 (by unfold msD; omega) (by unfold msD; omega) (by unfold msD; omega) a1
    generalize msum_f c mo 57 57 57 (U.1, U.2.1, F) = W at b1 b2 a1' hT
    rw [← hT]
    rw [← pM_add h1.1, show 2 ^ n + 2 ^ n = 2 ^ (n + 1) from by rw [Nat.pow_succ]; omega] at a1'
    rw [← pM_add h2.1, show 2 ^ n + 2 ^ n = 2 ^ (n + 1) from by rw [Nat.pow_succ]; omega] at b1
    refine ⟨a1', b1, fun r q1 q2 => (b2.1 r q1 q2).trans ((a2.1 r q1 q2).trans (i3.1 r q1 q2)), fun x hx i hi => ?_, fun r hr => (b2.2.2.1 r hr).trans ((a2.2.2.1 r hr).trans (i3.2.2.1 r hr)), rfl⟩
    exact (b2.2.1 x (by unfold msD; omega) i hi).trans ((a2.2.1 x (by unfold msD; omega) i hi).trans (i3.2.1 x hx i hi))
end
