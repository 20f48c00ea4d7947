section
/-! SQUARES in the class's field. -/
/-- how many products stand in column k when i limbs are done -/
def sq (L : Nat) : Nat → Nat → Nat
  | 0, _ => 0
  | i + 1, k => sq L i k + (if k = 2 * i then 1 else 0) + (if 2 * i < k ∧ k < i + L then 2 else 0)
theorem sq_le (c : Bool) : ∀ i, i < 17 → i ≤ fL c → ∀ k, k < 32 → sq (fL c) i k ≤ fL c ∧ (2 * fL c - 1 ≤ k → sq (fL c) i k = 0) := by cases c <;> decide +kernel
/-- twice a limb times those behind it -/
theorem sqr_in (c : Bool) (o to a i : Nat) (y0 J2 : Nat → Nat → Int64) (S : StT) (hS : S.2.1 = J2) (hao : a ≠ o + 3) (hi : i < fL c) (hJ : J2 a = y0 a) (N : Nat → Nat) (hN : ∀ k, k < 32 → N k + (if 2 * i < k ∧ k < i + fL c then 2 else 0) ≤ fL c) (hw : ∀ k, k < 32 → -((N k : Int) * pb c) ≤ ri J2 (o + 3) k ∧ ri J2 (o + 3) k ≤ (N k : Int) * pb c) (ha : ∀ j, j < fL c → -(2 ^ fb c + 64) ≤ ri y0 a j ∧ ri y0 a j ≤ 2 ^ fb c + 64) :
    ∀ j, j ≤ fL c - (i + 1) → (∀ k, k < 32 → ri (sqr_l60 c o to a i y0 J2 S j) (o + 3) k = ri J2 (o + 3) k + (if 2 * i + 1 ≤ k ∧ k < 2 * i + 1 + j then 2 * ri y0 a i * ri y0 a (k - i) else 0)) ∧ (rv (fb c) (ri (sqr_l60 c o to a i y0 J2 S j) (o + 3)) 32 = rv (fb c) (ri J2 (o + 3)) 32 + 2 * ri y0 a i * 2 ^ (fb c * i) * (rv (fb c) (ri y0 a) (i + 1 + j) - rv (fb c) (ri y0 a) (i + 1))) ∧ ∀ r, r ≠ o + 3 → sqr_l60 c o to a i y0 J2 S j r = J2 r := by
  have hL := fL_le c
  have hp := pb_le c
  have hpb : pb c = (2 ^ fb c + 64) * (2 ^ fb c + 64) := rfl
  have hai := ha i hi
  have hpf := pw_fb c
  intro j
  induction j with
  | zero =>
    intro _
    have e : sqr_l60 c o to a i y0 J2 S 0 = J2 := hS
    rw [e]
    refine ⟨fun k _ => ?_, ?_, fun _ _ => rfl⟩
    · rw [if_neg (by omega)]; omega
    · rw [Nat.add_zero, Int.sub_self, Int.mul_zero, Int.add_zero]
  | succ j ih =>
    intro hj
    obtain ⟨h1, h2, h3⟩ := ih (by omega)
    have haj := ha (i + 1 + j) (by omega)
    have hpp := abs_mul hai haj
    have hc := hw (i + ((i + 1) + j)) (by omega)
    have hNk := hN (i + ((i + 1) + j)) (by omega)
    rw [if_pos (by omega)] at hNk
    have hNb : (N (i + ((i + 1) + j)) : Int) * pb c + 2 * pb c ≤ (fL c : Int) * pb c := by
      have : ((N (i + ((i + 1) + j)) : Int) + 2) * pb c ≤ (fL c : Int) * pb c := Int.mul_le_mul_of_nonneg_right (by omega) hp.1
      rw [Int.add_mul] at this
      exact this
    have hcell : ri (sqr_l60 c o to a i y0 J2 S j) (o + 3) (i + ((i + 1) + j)) = ri J2 (o + 3) (i + ((i + 1) + j)) := by
      rw [h1 _ (by omega), if_neg (by omega)]; omega
    have har : sqr_l60 c o to a i y0 J2 S j a ((i + 1) + j) = y0 a ((i + 1) + j) := by rw [h3 a hao, hJ]
    have e2 : ((2 : Int64) * y0 a i).toInt = 2 * ri y0 a i := by
      rw [w_mul]
      · rfl
      · show -2 ^ 63 ≤ 2 * ri y0 a i; omega
      · show 2 * ri y0 a i < 2 ^ 63; omega
    have hpr : 2 * ri y0 a i * ri y0 a (i + 1 + j) = 2 * (ri y0 a i * ri y0 a (i + 1 + j)) := Int.mul_assoc _ _ _
    have hmul : (((2 : Int64) * y0 a i) * (sqr_l60 c o to a i y0 J2 S j a ((i + 1) + j))).toInt = 2 * ri y0 a i * ri y0 a (i + 1 + j) := by
      rw [har]
      have e3 : (y0 a ((i + 1) + j)).toInt = ri y0 a (i + 1 + j) := rfl
      rw [w_mul, e2, e3]
      · rw [e2, e3, hpr]; omega
      · rw [e2, e3, hpr]; omega
    have hval : ((sqr_l60 c o to a i y0 J2 S j (o + 3) (i + ((i + 1) + j))) + (((2 : Int64) * y0 a i) * (sqr_l60 c o to a i y0 J2 S j a ((i + 1) + j)))).toInt = ri J2 (o + 3) (i + ((i + 1) + j)) + 2 * ri y0 a i * ri y0 a (i + 1 + j) := by
      have e : (sqr_l60 c o to a i y0 J2 S j (o + 3) (i + ((i + 1) + j))).toInt = ri J2 (o + 3) (i + ((i + 1) + j)) := hcell
      rw [w_add, e, hmul]
      · rw [e, hmul, hpr]; omega
      · rw [e, hmul, hpr]; omega
    have hnew : ∀ k, ri (sqr_l60 c o to a i y0 J2 S (j + 1)) (o + 3) k = if k = i + ((i + 1) + j) then ri (sqr_l60 c o to a i y0 J2 S j) (o + 3) k + 2 * ri y0 a i * ri y0 a (i + 1 + j) else ri (sqr_l60 c o to a i y0 J2 S j) (o + 3) k := by
      intro k
      show (va_up (sqr_l60 c o to a i y0 J2 S j) (o + 3) (vp_updL (sqr_l60 c o to a i y0 J2 S j (o + 3)) (i + ((i + 1) + j)) _) (o + 3) k).toInt = _
      rw [vu_s]
      by_cases e : k = i + ((i + 1) + j)
      · subst e
        rw [if_pos rfl, pk_uLs, hval, hcell]
      · rw [if_neg e, pk_uLn e]; rfl
    refine ⟨fun k hk => ?_, ?_, fun r hr => ?_⟩
    · rw [hnew k]
      by_cases e : k = i + ((i + 1) + j)
      · subst e
        rw [if_pos rfl, hcell, if_pos (by omega), show i + ((i + 1) + j) - i = i + 1 + j from by omega]
      · rw [if_neg e, h1 k hk]
        by_cases e3 : 2 * i + 1 ≤ k ∧ k < 2 * i + 1 + j
        · rw [if_pos e3, if_pos (by omega)]
        · rw [if_neg e3, if_neg (by omega)]
    · rw [rv_congr (g := fun k => if k = i + ((i + 1) + j) then ri (sqr_l60 c o to a i y0 J2 S j) (o + 3) k + 2 * ri y0 a i * ri y0 a (i + 1 + j) else ri (sqr_l60 c o to a i y0 J2 S j) (o + 3) k) 32 (fun k _ => hnew k), rv_at (fb c) _ (i + ((i + 1) + j)) _ 32 (by omega), h2]
      show _ + _ = _ + _ * ((rv (fb c) (ri y0 a) (i + 1 + j) + ri y0 a (i + 1 + j) * 2 ^ (fb c * (i + 1 + j))) - _)
      rw [Nat.mul_add (fb c) i ((i + 1) + j), Int.pow_add]
      generalize rv (fb c) (ri J2 (o + 3)) 32 = A
      generalize rv (fb c) (ri y0 a) (i + 1 + j) = D
      generalize rv (fb c) (ri y0 a) (i + 1) = E
      generalize ri y0 a i = x
      generalize ri y0 a (i + 1 + j) = z
      generalize (2 : Int) ^ (fb c * i) = P
      generalize (2 : Int) ^ (fb c * (i + 1 + j)) = Q
      clear hnew hval hmul hpr e2 har hcell hNb hNk hc hpp haj h1 h2 h3 hw ha hL hN hai hpf hpb hp hJ
      grind
    · show va_up (sqr_l60 c o to a i y0 J2 S j) (o + 3) _ r = _
      rw [vu_n hr, h3 r hr]
theorem sqr_out (c : Bool) (o to a : Nat) (S : StT) (hao : a ≠ o + 3) (hz : ∀ k, k < 32 → S.2.1 (o + 3) k = 0) (ha : FK c S.2.1 a) :
    ∀ i, i ≤ fL c → (∀ k, k < 32 → -((sq (fL c) i k : Int) * pb c) ≤ ri (sqr_l19 c o to a S i) (o + 3) k ∧ ri (sqr_l19 c o to a S i) (o + 3) k ≤ (sq (fL c) i k : Int) * pb c) ∧ rv (fb c) (ri (sqr_l19 c o to a S i) (o + 3)) 32 = rv (fb c) (ri S.2.1 a) (fL c) * rv (fb c) (ri S.2.1 a) (fL c) - (rv (fb c) (ri S.2.1 a) (fL c) - rv (fb c) (ri S.2.1 a) i) * (rv (fb c) (ri S.2.1 a) (fL c) - rv (fb c) (ri S.2.1 a) i) ∧ ∀ r, r ≠ o + 3 → sqr_l19 c o to a S i r = S.2.1 r := by
  have hp := pb_le c
  have hL := fL_le c
  have hpb : pb c = (2 ^ fb c + 64) * (2 ^ fb c + 64) := rfl
  intro i
  induction i with
  | zero =>
    intro _
    have e : ∀ k, k < 32 → ri S.2.1 (o + 3) k = 0 := fun k hk => by show (S.2.1 (o + 3) k).toInt = 0; rw [hz k hk]; rfl
    refine ⟨fun k hk => ?_, ?_, fun _ _ => rfl⟩
    · show -(((0 : Nat) : Int) * pb c) ≤ ri S.2.1 (o + 3) k ∧ ri S.2.1 (o + 3) k ≤ ((0 : Nat) : Int) * pb c
      rw [e k hk, Int.natCast_zero, Int.zero_mul]
      omega
    · show rv (fb c) (ri S.2.1 (o + 3)) 32 = _ - (_ - 0) * (_ - 0)
      rw [rv_congr (g := fun k => 0 * 0) 32 (fun k hk => e k hk), rv_smul (fb c) 0 (fun _ => 0), Int.zero_mul, Int.sub_zero, Int.sub_self]
  | succ i ih =>
    intro hi
    obtain ⟨h1, h2, h3⟩ := ih (by omega)
    have hsq := fun k hk => (sq_le c (i + 1) (by omega) (by omega) k hk).1
    have ea : ri (sqr_l19 c o to a S i) a = ri S.2.1 a := by unfold ri; rw [h3 a hao]
    have hai := lim_bd ha (show i < fL c by omega)
    have hpp := abs_mul hai hai
    have hc := h1 (2 * i) (by omega)
    have hs2 := hsq (2 * i) (by omega)
    have hs3 : sq (fL c) (i + 1) (2 * i) = sq (fL c) i (2 * i) + 1 := by
      show sq (fL c) i (2 * i) + (if 2 * i = 2 * i then 1 else 0) + (if 2 * i < 2 * i ∧ _ then 2 else 0) = _
      rw [if_pos rfl, if_neg (by omega)]
    have hb2 : (sq (fL c) i (2 * i) : Int) * pb c + pb c ≤ (fL c : Int) * pb c := by
      have : ((sq (fL c) i (2 * i) : Int) + 1) * pb c ≤ (fL c : Int) * pb c := Int.mul_le_mul_of_nonneg_right (by omega) hp.1
      rw [Int.add_mul, Int.one_mul] at this
      exact this
    have exx : ((sqr_l19 c o to a S i a i) * (sqr_l19 c o to a S i a i)).toInt = ri S.2.1 a i * ri S.2.1 a i := by
      have e : (sqr_l19 c o to a S i a i).toInt = ri S.2.1 a i := by rw [h3 a hao]; rfl
      rw [w_mul, e]
      · rw [e]; omega
      · rw [e]; omega
    have ecl : (sqr_l19 c o to a S i (o + 3) (2 * i)).toInt = ri (sqr_l19 c o to a S i) (o + 3) (2 * i) := rfl
    obtain ⟨J2, hJ2⟩ : ∃ J2, J2 = va_up (sqr_l19 c o to a S i) (o + 3) (vp_updL (sqr_l19 c o to a S i (o + 3)) (2 * i) (sqr_l19 c o to a S i (o + 3) (2 * i) + sqr_l19 c o to a S i a i * sqr_l19 c o to a S i a i)) := ⟨_, rfl⟩
    have hJn : ∀ k, ri J2 (o + 3) k = if k = 2 * i then ri (sqr_l19 c o to a S i) (o + 3) k + ri S.2.1 a i * ri S.2.1 a i else ri (sqr_l19 c o to a S i) (o + 3) k := by
      intro k
      rw [hJ2]
      unfold ri
      rw [vu_s]
      by_cases e : k = 2 * i
      · subst e
        rw [if_pos rfl, pk_uLs, w_add (by rw [exx, ecl]; omega) (by rw [exx, ecl]; omega), exx, ecl]
        rfl
      · rw [if_neg e, pk_uLn e]
    have hJr : ∀ r, r ≠ o + 3 → J2 r = sqr_l19 c o to a S i r := fun r hr => by rw [hJ2, vu_n hr]
    obtain ⟨g1, g2, g3⟩ := sqr_in c o to a i (sqr_l19 c o to a S i) J2 (S.1, J2, S.2.2) rfl hao (by omega) (hJr a hao) (fun k => sq (fL c) i k + (if k = 2 * i then 1 else 0)) (fun k hk => hsq k hk)
      (fun k hk => by
        have q := h1 k hk
        rw [hJn k]
        show -(((sq (fL c) i k + (if k = 2 * i then 1 else 0) : Nat) : Int) * pb c) ≤ _ ∧ _ ≤ ((sq (fL c) i k + (if k = 2 * i then 1 else 0) : Nat) : Int) * pb c
        by_cases e : k = 2 * i
        · rw [if_pos e, if_pos e, Int.natCast_add, Int.add_mul, Int.natCast_one, Int.one_mul]
          omega
        · rw [if_neg e, if_neg e, Nat.add_zero]
          exact q)
      (fun j hj => by rw [ea]; exact lim_bd ha hj) (fL c - (i + 1)) (Nat.le_refl _)
    have en : sqr_l19 c o to a S (i + 1) = sqr_l60 c o to a i (sqr_l19 c o to a S i) J2 (S.1, J2, S.2.2) (fL c - (i + 1)) := by rw [hJ2]; rfl
    rw [en]
    refine ⟨fun k hk => ?_, ?_, fun r hr => (g3 r hr).trans ((hJr r hr).trans (h3 r hr))⟩
    · rw [g1 k hk, hJn k]
      have q := h1 k hk
      have es : (sq (fL c) (i + 1) k : Int) = (sq (fL c) i k : Int) + (if k = 2 * i then 1 else 0) + (if 2 * i < k ∧ k < i + fL c then 2 else 0) := by
        show ((sq (fL c) i k + (if k = 2 * i then 1 else 0) + (if 2 * i < k ∧ k < i + fL c then 2 else 0) : Nat) : Int) = _
        rw [Int.natCast_add, Int.natCast_add]
        congr 1
        · congr 1
          split <;> rfl
        · split <;> rfl
      rw [es, Int.add_mul, Int.add_mul]
      by_cases e : k = 2 * i
      · rw [if_pos e, if_pos e, if_neg (by omega), if_neg (by omega), Int.one_mul, Int.zero_mul]
        omega
      · rw [if_neg e, if_neg e, Int.zero_mul]
        by_cases e2 : 2 * i < k ∧ k < i + fL c
        · rw [if_pos e2, if_pos (by omega), ea, Int.mul_assoc]
          have := abs_mul hai (lim_bd ha (show k - i < fL c by omega))
          omega
        · rw [if_neg e2, if_neg (by omega), Int.zero_mul]
          omega
    · rw [g2, rv_congr (g := fun k => if k = 2 * i then ri (sqr_l19 c o to a S i) (o + 3) k + ri S.2.1 a i * ri S.2.1 a i else ri (sqr_l19 c o to a S i) (o + 3) k) 32 (fun k _ => hJn k), rv_at (fb c) _ (2 * i) _ 32 (by omega), h2, ea, show i + 1 + (fL c - (i + 1)) = fL c from by omega, show fb c * (2 * i) = fb c * i + fb c * i from by rw [Nat.mul_left_comm]; omega, Int.pow_add]
      show _ = _ - (_ - (rv (fb c) (ri S.2.1 a) i + ri S.2.1 a i * 2 ^ (fb c * i))) * (_ - (rv (fb c) (ri S.2.1 a) i + ri S.2.1 a i * 2 ^ (fb c * i)))
      show _ + _ * (_ - (rv (fb c) (ri S.2.1 a) i + ri S.2.1 a i * 2 ^ (fb c * i))) = _
      generalize rv (fb c) (ri S.2.1 a) (fL c) = A
      generalize rv (fb c) (ri S.2.1 a) i = B
      generalize ri S.2.1 a i = x
      generalize (2 : Int) ^ (fb c * i) = P
      clear g1 g2 g3 h1 h2 h3 hz ha ea en hJn hJr hJ2 exx ecl hb2 hs3 hs2 hc hpp hai hsq hpb hL hp
      grind
theorem sqr_s (c : Bool) (o to a : Nat) (S : StT) (hao : a ≠ o + 3) (ha : FK c S.2.1 a) :
    FK c (sqr_f c o to a S).2.1 to ∧ FV c (sqr_f c o to a S).2.1 to = FV c S.2.1 a * FV c S.2.1 a ∧ ∀ r, r ≠ to → r ≠ o + 3 → (sqr_f c o to a S).2.1 r = S.2.1 r := by
  have hL := fL_le c
  have hp := pb_le c
  obtain ⟨f1, f2⟩ := fill_s (o + 3) 32 S
  obtain ⟨m1, m3, m4⟩ := sqr_out c o to a (fill_f (o + 3) 32 0 S) hao f1 (FK_row (f2 a hao) ha) (fL c) (Nat.le_refl _)
  have hs := fun k hk => sq_le c (fL c) (by omega) (Nat.le_refl _) k hk
  obtain ⟨q1, q2, q3⟩ := prod_fin c o to ((fill_f (o + 3) 32 0 S).1, sqr_l19 c o to a (fill_f (o + 3) 32 0 S) (fL c), (fill_f (o + 3) 32 0 S).2.2)
    (fun k hk => by
      have h1 := m1 k hk
      have h2 : (sq (fL c) (fL c) k : Int) * pb c ≤ (fL c : Int) * pb c := Int.mul_le_mul_of_nonneg_right (by have := (hs k hk).1; omega) hp.1
      show _ ≤ ri (sqr_l19 c o to a (fill_f (o + 3) 32 0 S) (fL c)) (o + 3) k ∧ ri (sqr_l19 c o to a (fill_f (o + 3) 32 0 S) (fL c)) (o + 3) k ≤ _
      omega)
    (fun k hk1 hk => by
      have h1 := m1 k hk
      rw [(hs k hk).2 hk1, Int.natCast_zero, Int.zero_mul] at h1
      show ri (sqr_l19 c o to a (fill_f (o + 3) 32 0 S) (fL c)) (o + 3) k = 0
      omega)
  refine ⟨q1, q2.trans ?_, fun r h1 h2 => (q3 r h1 h2).trans ((m4 r h2).trans (f2 r h2))⟩
  show fz c (rv (fb c) (ri (sqr_l19 c o to a (fill_f (o + 3) 32 0 S) (fL c)) (o + 3)) 32) = _
  have ea : ri (fill_f (o + 3) 32 0 S).2.1 a = ri S.2.1 a := by unfold ri; rw [f2 a hao]
  rw [m3, Int.sub_self, Int.mul_zero, Int.sub_zero, fz_mul, ea]
  rfl
end
