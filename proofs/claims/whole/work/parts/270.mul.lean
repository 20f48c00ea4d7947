section
/-! PRODUCTS: the columns. -/
theorem fill_s (a m : Nat) (S : StT) : (∀ j, j < m → (fill_f a m 0 S).2.1 a j = 0) ∧ ∀ r, r ≠ a → (fill_f a m 0 S).2.1 r = S.2.1 r := by
  obtain ⟨p1, p2⟩ := pw_loop (S0 := S.2.1) (lp := fill_l6 a m 0 S) (to := a) (F := fun _ _ => 0) rfl (fun i => rfl) (fun y i h => rfl) m
  exact ⟨fun j hj => p1 j hj, fun r hr => row_ext (fun j => p2 r j (Or.inl hr))⟩
/-- how large a product of two limbs may be -/
def pb (c : Bool) : Int := (2 ^ fb c + 64) * (2 ^ fb c + 64)
theorem pb_le (c : Bool) : 0 ≤ pb c ∧ (fL c : Int) * pb c ≤ 2 ^ 62 - 2 ^ 60 ∧ (c = true → 4 * (16 * pb c) ≤ 5 * 2 ^ 60) := by cases c <;> decide
theorem lim_bd {c : Bool} {J : Nat → Nat → Int64} {r : Nat} (h : FK c J r) {i : Nat} (hi : i < fL c) : -(2 ^ fb c + 64) ≤ ri J r i ∧ ri J r i ≤ 2 ^ fb c + 64 := by
  have h1 := h i hi
  have h2 : (2 : Int) ^ fw c i ≤ 2 ^ fb c := by
    unfold fw
    split
    · cases c <;> decide
    · exact Int.le_refl _
  have h3 := pw_fb c
  omega
theorem abs_mul {x y w : Int} (hx : -w ≤ x ∧ x ≤ w) (hy : -w ≤ y ∧ y ≤ w) : -(w * w) ≤ x * y ∧ x * y ≤ w * w := by
  have hw : 0 ≤ w := by omega
  have a1 : 0 ≤ (w - x) * (w + y) := Int.mul_nonneg (by omega) (by omega)
  have a2 : 0 ≤ (w + x) * (w - y) := Int.mul_nonneg (by omega) (by omega)
  have a3 : 0 ≤ (w - x) * (w - y) := Int.mul_nonneg (by omega) (by omega)
  have a4 : 0 ≤ (w + x) * (w + y) := Int.mul_nonneg (by omega) (by omega)
  have e1 : (w - x) * (w + y) = w * w + w * y - x * w - x * y := by grind
  have e2 : (w + x) * (w - y) = w * w - w * y + x * w - x * y := by grind
  have e3 : (w - x) * (w - y) = w * w - w * y - x * w + x * y := by grind
  have e4 : (w + x) * (w + y) = w * w + w * y + x * w + x * y := by grind
  rw [e1] at a1
  rw [e2] at a2
  rw [e3] at a3
  rw [e4] at a4
  generalize x * y = p at *
  generalize w * w = q at *
  generalize w * y = r at *
  generalize x * w = t at *
  omega
/-- one limb of a times all of b -/
theorem mul_in (c : Bool) (o to a b i : Nat) (y0 : Nat → Nat → Int64) (S : StT) (hS : S.2.1 = y0) (hbo : b ≠ o + 3) (hi : i < fL c) (B : Int) (hB : 0 ≤ B) (hB2 : B + pb c ≤ 2 ^ 62) (hw : ∀ k, k < 32 → -B ≤ ri y0 (o + 3) k ∧ ri y0 (o + 3) k ≤ B) (ha : -(2 ^ fb c + 64) ≤ ri y0 a i ∧ ri y0 a i ≤ 2 ^ fb c + 64) (hb : ∀ j, j < fL c → -(2 ^ fb c + 64) ≤ ri y0 b j ∧ ri y0 b j ≤ 2 ^ fb c + 64) :
    ∀ j, j ≤ fL c → (∀ k, k < 32 → ri (mul_l37 c o to a b i y0 S j) (o + 3) k = ri y0 (o + 3) k + (if i ≤ k ∧ k < i + j then ri y0 a i * ri y0 b (k - i) else 0)) ∧ (rv (fb c) (ri (mul_l37 c o to a b i y0 S j) (o + 3)) 32 = rv (fb c) (ri y0 (o + 3)) 32 + ri y0 a i * 2 ^ (fb c * i) * rv (fb c) (ri y0 b) j) ∧ ∀ r, r ≠ o + 3 → mul_l37 c o to a b i y0 S j r = y0 r := by
  have hL := fL_le c
  intro j
  induction j with
  | zero =>
    intro _
    have e : mul_l37 c o to a b i y0 S 0 = y0 := hS
    rw [e]
    refine ⟨fun k _ => ?_, ?_, fun _ _ => rfl⟩
    · rw [if_neg (by omega)]; omega
    · show _ = _ + _ * 0; omega
  | succ j ih =>
    intro hj
    obtain ⟨h1, h2, h3⟩ := ih (by omega)
    have hbj := hb j (by omega)
    have hp := abs_mul ha hbj
    have hc := hw (i + j) (by omega)
    have hcell : ri (mul_l37 c o to a b i y0 S j) (o + 3) (i + j) = ri y0 (o + 3) (i + j) := by
      rw [h1 (i + j) (by omega), if_neg (by omega)]; omega
    have hpb : pb c = (2 ^ fb c + 64) * (2 ^ fb c + 64) := rfl
    have hbr : mul_l37 c o to a b i y0 S j b j = y0 b j := by rw [h3 b hbo]
    have hmul : ((y0 a i) * (mul_l37 c o to a b i y0 S j b j)).toInt = ri y0 a i * ri y0 b j := by
      rw [hbr]
      refine w_mul ?_ ?_
      · show _ ≤ ri y0 a i * ri y0 b j; omega
      · show ri y0 a i * ri y0 b j < _; omega
    have hval : ((mul_l37 c o to a b i y0 S j (o + 3) (i + j)) + ((y0 a i) * (mul_l37 c o to a b i y0 S j b j))).toInt = ri y0 (o + 3) (i + j) + ri y0 a i * ri y0 b j := by
      have e : (mul_l37 c o to a b i y0 S j (o + 3) (i + j)).toInt = ri y0 (o + 3) (i + j) := hcell
      rw [w_add, e, hmul]
      · rw [e, hmul]; omega
      · rw [e, hmul]; omega
    have hnew : ∀ k, ri (mul_l37 c o to a b i y0 S (j + 1)) (o + 3) k = if k = i + j then ri (mul_l37 c o to a b i y0 S j) (o + 3) k + ri y0 a i * ri y0 b j else ri (mul_l37 c o to a b i y0 S j) (o + 3) k := by
      intro k
      show (va_up (mul_l37 c o to a b i y0 S j) (o + 3) (vp_updL (mul_l37 c o to a b i y0 S j (o + 3)) (i + j) _) (o + 3) k).toInt = _
      rw [vu_s]
      by_cases e : k = i + j
      · subst e
        rw [if_pos rfl, pk_uLs, hval, hcell]
      · rw [if_neg e, pk_uLn e]; rfl
    refine ⟨fun k hk => ?_, ?_, fun r hr => ?_⟩
    · rw [hnew k]
      by_cases e : k = i + j
      · subst e
        rw [if_pos rfl, hcell, if_pos (by omega), show i + j - i = j from by omega]
      · rw [if_neg e, h1 k hk]
        by_cases e2 : i ≤ k ∧ k < i + j
        · rw [if_pos e2, if_pos (by omega)]
        · rw [if_neg e2, if_neg (by omega)]
    · rw [rv_congr (g := fun k => if k = i + j then ri (mul_l37 c o to a b i y0 S j) (o + 3) k + ri y0 a i * ri y0 b j else ri (mul_l37 c o to a b i y0 S j) (o + 3) k) 32 (fun k _ => hnew k), rv_at (fb c) _ (i + j) _ 32 (by omega), h2]
      show _ + _ = _ + _ * (rv (fb c) (ri y0 b) j + ri y0 b j * 2 ^ (fb c * j))
      rw [Nat.mul_add, Int.pow_add]
      generalize rv (fb c) (ri y0 (o + 3)) 32 = A
      generalize rv (fb c) (ri y0 b) j = D
      generalize ri y0 a i = x
      generalize ri y0 b j = z
      generalize (2 : Int) ^ (fb c * i) = P
      generalize (2 : Int) ^ (fb c * j) = Q
      clear hnew hval hmul hbr hpb hcell hc hp hbj h1 h2 h3 hw ha hb hL
      grind
    · show va_up (mul_l37 c o to a b i y0 S j) (o + 3) _ r = _
      rw [vu_n hr, h3 r hr]
end
