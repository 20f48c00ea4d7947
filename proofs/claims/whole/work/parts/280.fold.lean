section
/-! PRODUCTS: all columns; their upper half comes down. -/
theorem mul_out (c : Bool) (o to a b : Nat) (S : StT) (hao : a ≠ o + 3) (hbo : b ≠ o + 3) (hz : ∀ k, k < 32 → S.2.1 (o + 3) k = 0) (ha : FK c S.2.1 a) (hb : FK c S.2.1 b) :
    ∀ i, i ≤ fL c → (∀ k, k < 32 → -((i : Int) * pb c) ≤ ri (mul_l21 c o to a b S i) (o + 3) k ∧ ri (mul_l21 c o to a b S i) (o + 3) k ≤ (i : Int) * pb c) ∧ (∀ k, 2 * fL c - 1 ≤ k → k < 32 → ri (mul_l21 c o to a b S i) (o + 3) k = 0) ∧ rv (fb c) (ri (mul_l21 c o to a b S i) (o + 3)) 32 = rv (fb c) (ri S.2.1 a) i * rv (fb c) (ri S.2.1 b) (fL c) ∧ ∀ r, r ≠ o + 3 → mul_l21 c o to a b S i r = S.2.1 r := by
  have hp := pb_le c
  intro i
  induction i with
  | zero =>
    intro _
    have e : ∀ k, k < 32 → ri S.2.1 (o + 3) k = 0 := fun k hk => by show (S.2.1 (o + 3) k).toInt = 0; rw [hz k hk]; rfl
    refine ⟨fun k hk => ?_, fun k _ hk => e k hk, ?_, fun _ _ => rfl⟩
    · show _ ≤ ri S.2.1 (o + 3) k ∧ ri S.2.1 (o + 3) k ≤ _
      rw [e k hk]
      have : ((0 : Nat) : Int) * pb c = 0 := by rw [Int.natCast_zero, Int.zero_mul]
      omega
    · show rv (fb c) (ri S.2.1 (o + 3)) 32 = 0 * _
      rw [rv_congr (g := fun k => 0 * 0) 32 (fun k hk => e k hk), rv_smul (fb c) 0 (fun _ => 0), Int.zero_mul, Int.zero_mul]
  | succ i ih =>
    intro hi
    obtain ⟨h1, h9, h2, h3⟩ := ih (by omega)
    have hle : ((i : Int) + 1) * pb c ≤ (fL c : Int) * pb c := Int.mul_le_mul_of_nonneg_right (by omega) hp.1
    have hex : ((i : Int) + 1) * pb c = (i : Int) * pb c + pb c := by rw [Int.add_mul, Int.one_mul]
    have hi0 : 0 ≤ (i : Int) * pb c := Int.mul_nonneg (by omega) hp.1
    have ea : ri (mul_l21 c o to a b S i) a = ri S.2.1 a := by unfold ri; rw [h3 a hao]
    have eb : ri (mul_l21 c o to a b S i) b = ri S.2.1 b := by unfold ri; rw [h3 b hbo]
    obtain ⟨g1, g2, g3⟩ := mul_in c o to a b i (mul_l21 c o to a b S i) (S.1, mul_l21 c o to a b S i, S.2.2) rfl hbo (by omega) ((i : Int) * pb c) hi0 (by omega) h1 (by rw [ea]; exact lim_bd ha (by omega)) (fun j hj => by rw [eb]; exact lim_bd hb hj) (fL c) (Nat.le_refl _)
    have en : mul_l21 c o to a b S (i + 1) = mul_l37 c o to a b i (mul_l21 c o to a b S i) (S.1, mul_l21 c o to a b S i, S.2.2) (fL c) := rfl
    have ec : ((i + 1 : Nat) : Int) = (i : Int) + 1 := by omega
    rw [en, ec]
    refine ⟨fun k hk => ?_, fun k hk1 hk => by rw [g1 k hk, if_neg (by omega), h9 k hk1 hk]; rfl, ?_, fun r hr => (g3 r hr).trans (h3 r hr)⟩
    · rw [g1 k hk, hex]
      have q := h1 k hk
      by_cases e : i ≤ k ∧ k < i + fL c
      · rw [if_pos e, ea, eb]
        have := abs_mul (lim_bd ha (show i < fL c by omega)) (lim_bd hb (show k - i < fL c by omega))
        have hpb : pb c = (2 ^ fb c + 64) * (2 ^ fb c + 64) := rfl
        omega
      · rw [if_neg e]; omega
    · rw [g2, h2, ea, eb]
      show _ = (rv (fb c) (ri S.2.1 a) i + ri S.2.1 a i * 2 ^ (fb c * i)) * _
      generalize rv (fb c) (ri S.2.1 a) i = A
      generalize rv (fb c) (ri S.2.1 b) (fL c) = B
      generalize ri S.2.1 a i = x
      generalize (2 : Int) ^ (fb c * i) = P
      clear g1 g2 g3 h1 h9 h2 h3 hz ha hb ea eb en ec hex hle hi0 hp
      grind
/-- two places more -/
theorem rv_at2 (b : Nat) (f g : Nat → Int) (p q : Nat) (d e : Int) (n : Nat) (hp : p < n) (hq : q < n) (hpq : p ≠ q) (h : ∀ k, k < n → g k = (if k = q then (if k = p then f k + d else f k) + e else (if k = p then f k + d else f k))) : rv b g n = rv b f n + d * 2 ^ (b * p) + e * 2 ^ (b * q) := by
  rw [rv_congr n h, rv_at b (fun k => if k = p then f k + d else f k) q e n hq, rv_at b f p d n hp]
theorem fold_0 (o : Nat) (S : StT) (hb : ∀ k, k < 32 → -(2 ^ 62 - 2 ^ 60) ≤ ri S.2.1 (o + 3) k ∧ ri S.2.1 (o + 3) k ≤ 2 ^ 62 - 2 ^ 60) :
    ∀ i : Nat, i ≤ 8 → (∀ k, k < 32 → -(2 ^ 62 - 2 ^ 60) - (i : Int) * 2 ^ 45 ≤ ri (ffold_l9 false o S i) (o + 3) k ∧ ri (ffold_l9 false o S i) (o + 3) k ≤ 2 ^ 62 - 2 ^ 60 + (i : Int) * 2 ^ 45) ∧ fz false (rv 29 (ri (ffold_l9 false o S i) (o + 3)) (17 - i)) = fz false (rv 29 (ri S.2.1 (o + 3)) 17) ∧ ∀ r, r ≠ o + 3 → ffold_l9 false o S i r = S.2.1 r := by
  intro i
  induction i with
  | zero => intro _; exact ⟨fun k hk => by have := hb k hk; show _ ≤ ri S.2.1 (o + 3) k ∧ ri S.2.1 (o + 3) k ≤ _; omega, rfl, fun _ _ => rfl⟩
  | succ i ih =>
    intro hi
    obtain ⟨h1, h2, h3⟩ := ih (by omega)
    generalize hy : ffold_l9 false o S i = y at h1 h2 h3
    have hx := h1 (16 - i) (by omega)
    have eM : (y (o + 3) (16 - i) &&& fM false).toInt = ri y (o + 3) (16 - i) % 2 ^ 29 := w_and _ _ 29 (by decide) (mk_fM false)
    have eS : (y (o + 3) (16 - i) >>> ((nI (fb false)).toInt64 &&& 63)).toInt = ri y (o + 3) (16 - i) / 2 ^ 29 := w_shr _ _ 29 (sh_fb false)
    have hdm := Int.emod_add_mul_ediv (ri y (o + 3) (16 - i)) (2 ^ 29)
    have hm0 := Int.emod_nonneg (ri y (o + 3) (16 - i)) (show (2 : Int) ^ 29 ≠ 0 by decide)
    have hm1 := Int.emod_lt_of_pos (ri y (o + 3) (16 - i)) (show (0 : Int) < 2 ^ 29 by decide)
    generalize hX : ri y (o + 3) (16 - i) = x at hx eM eS hdm hm0 hm1
    generalize x % 2 ^ 29 = lo at eM hdm hm0 hm1
    generalize x / 2 ^ 29 = hh at eS hdm
    have e1 : ((1216 : Int64) * (y (o + 3) (16 - i) &&& fM false)).toInt = 1216 * lo := by
      rw [w_mul]
      · rw [eM]; rfl
      · rw [eM]; show -2 ^ 63 ≤ 1216 * lo; omega
      · rw [eM]; show 1216 * lo < 2 ^ 63; omega
    have e2 : ((1216 : Int64) * (y (o + 3) (16 - i) >>> ((nI (fb false)).toInt64 &&& 63))).toInt = 1216 * hh := by
      rw [w_mul]
      · rw [eS]; rfl
      · rw [eS]; show -2 ^ 63 ≤ 1216 * hh; omega
      · rw [eS]; show 1216 * hh < 2 ^ 63; omega
    have hp1 := h1 (16 - i - 9) (by omega)
    have hp2 := h1 (16 - i - 9 + 1) (by omega)
    have hnew : ∀ k, ri (ffold_l9 false o S (i + 1)) (o + 3) k = (if k = 16 - i - 9 + 1 then (if k = 16 - i - 9 then ri y (o + 3) k + 1216 * lo else ri y (o + 3) k) + 1216 * hh else (if k = 16 - i - 9 then ri y (o + 3) k + 1216 * lo else ri y (o + 3) k)) := by
      intro k
      have en : ffold_l9 false o S (i + 1) = va_up (va_up y (o + 3) (vp_updL (y (o + 3)) (16 - i - 9) (y (o + 3) (16 - i - 9) + 1216 * (y (o + 3) (16 - i) &&& fM false)))) (o + 3) (vp_updL (va_up y (o + 3) (vp_updL (y (o + 3)) (16 - i - 9) (y (o + 3) (16 - i - 9) + 1216 * (y (o + 3) (16 - i) &&& fM false))) (o + 3)) (16 - i - 9 + 1) (va_up y (o + 3) (vp_updL (y (o + 3)) (16 - i - 9) (y (o + 3) (16 - i - 9) + 1216 * (y (o + 3) (16 - i) &&& fM false))) (o + 3) (16 - i - 9 + 1) + 1216 * (y (o + 3) (16 - i) >>> ((nI (fb false)).toInt64 &&& 63)))) := by rw [← hy]; rfl
      rw [en]
      unfold ri
      rw [vu_s, vu_s]
      by_cases q : k = 16 - i - 9 + 1
      · subst q
        rw [if_pos rfl, if_neg (by omega), pk_uLs, pk_uLn (by omega)]
        have a2 : (y (o + 3) (16 - i - 9 + 1)).toInt = ri y (o + 3) (16 - i - 9 + 1) := rfl
        rw [w_add (by rw [e2, a2]; omega) (by rw [e2, a2]; omega), e2]
      · rw [if_neg q, pk_uLn q]
        by_cases q2 : k = 16 - i - 9
        · subst q2
          have a1 : (y (o + 3) (16 - i - 9)).toInt = ri y (o + 3) (16 - i - 9) := rfl
          rw [if_pos rfl, pk_uLs, w_add (by rw [e1, a1]; omega) (by rw [e1, a1]; omega), e1]
        · rw [if_neg q2, pk_uLn q2]
    refine ⟨fun k hk => ?_, ?_, fun r hr => ?_⟩
    · have q := h1 k hk
      rw [hnew k]
      have ec : ((i + 1 : Nat) : Int) = (i : Int) + 1 := by omega
      rw [ec]
      by_cases q1 : k = 16 - i - 9 + 1
      · rw [if_pos q1, if_neg (by omega)]; omega
      · rw [if_neg q1]
        by_cases q2 : k = 16 - i - 9
        · rw [if_pos q2]; omega
        · rw [if_neg q2]; omega
    · rw [← h2, show 17 - (i + 1) = 16 - i from by omega, show 17 - i = (16 - i) + 1 from by omega]
      have er := rv_at2 29 (ri y (o + 3)) (ri (ffold_l9 false o S (i + 1)) (o + 3)) (16 - i - 9) (16 - i - 9 + 1) (1216 * lo) (1216 * hh) (16 - i) (by omega) (by omega) (by omega) (fun k _ => hnew k)
      refine fz_of (u := 64 * x * 2 ^ (29 * (16 - i - 9))) ?_
      rw [er]
      show _ = rv 29 (ri y (o + 3)) (16 - i) + ri y (o + 3) (16 - i) * 2 ^ (29 * (16 - i)) - _
      rw [hX, show 29 * (16 - i) = 29 * (16 - i - 9) + 261 from by omega, show 29 * (16 - i - 9 + 1) = 29 * (16 - i - 9) + 29 from by omega, Int.pow_add, Int.pow_add, nt_p0, ← hdm]
      generalize rv 29 (ri y (o + 3)) (16 - i) = A
      generalize (2 : Int) ^ (29 * (16 - i - 9)) = P
      clear hnew er hp1 hp2 e1 e2 hm0 hm1 hdm eS eM hx hX h1 h2 h3 hy hb
      grind
    · obtain ⟨v1, v2, en⟩ : ∃ v1 v2, ffold_l9 false o S (i + 1) = va_up (va_up y (o + 3) v1) (o + 3) v2 := ⟨_, _, by rw [← hy]; rfl⟩
      rw [en, vu_n hr, vu_n hr, h3 r hr]
/-- how often a column may be counted -/
def cn : Nat → Nat → Nat
  | 0, _ => 1
  | i + 1, k => cn i k + (if k = 30 - i - 16 then cn i (30 - i) else 0) + (if k = 30 - i - 8 then cn i (30 - i) else 0)
theorem cn_le : ∀ i, i < 16 → ∀ k, k < 32 → cn i k ≤ 4 := by decide +kernel
theorem fold_1 (o : Nat) (S : StT) (B : Int) (hB : 0 ≤ B) (hB4 : 4 * B ≤ 5 * 2 ^ 60) (hb : ∀ k, k < 32 → -B ≤ ri S.2.1 (o + 3) k ∧ ri S.2.1 (o + 3) k ≤ B) :
    ∀ i : Nat, i ≤ 15 → (∀ k, k < 32 → -((cn i k : Int) * B) ≤ ri (ffold_l9 true o S i) (o + 3) k ∧ ri (ffold_l9 true o S i) (o + 3) k ≤ (cn i k : Int) * B) ∧ fz true (rv 28 (ri (ffold_l9 true o S i) (o + 3)) (31 - i)) = fz true (rv 28 (ri S.2.1 (o + 3)) 31) ∧ ∀ r, r ≠ o + 3 → ffold_l9 true o S i r = S.2.1 r := by
  have hcb : ∀ i, i < 16 → ∀ k, k < 32 → (cn i k : Int) * B ≤ 5 * 2 ^ 60 := fun i hi k hk => by
    have h1 := cn_le i hi k hk
    have h2 : (cn i k : Int) * B ≤ 4 * B := Int.mul_le_mul_of_nonneg_right (by omega) hB
    omega
  intro i
  induction i with
  | zero =>
    intro _
    refine ⟨fun k hk => ?_, rfl, fun _ _ => rfl⟩
    have := hb k hk
    show -(((1 : Nat) : Int) * B) ≤ ri S.2.1 (o + 3) k ∧ ri S.2.1 (o + 3) k ≤ ((1 : Nat) : Int) * B
    omega
  | succ i ih =>
    intro hi
    obtain ⟨h1, h2, h3⟩ := ih (by omega)
    generalize hy : ffold_l9 true o S i = y at h1 h2 h3
    have hx := h1 (30 - i) (by omega)
    have hp1 := h1 (30 - i - 16) (by omega)
    have hp2 := h1 (30 - i - 8) (by omega)
    have hc0 := hcb i (by omega) (30 - i) (by omega)
    have hc1 := hcb (i + 1) (by omega) (30 - i - 16) (by omega)
    have hc2 := hcb (i + 1) (by omega) (30 - i - 8) (by omega)
    have x1 : (cn (i + 1) (30 - i - 16) : Int) * B = (cn i (30 - i - 16) : Int) * B + (cn i (30 - i) : Int) * B := by
      show ((cn i (30 - i - 16) + (if 30 - i - 16 = 30 - i - 16 then cn i (30 - i) else 0) + (if 30 - i - 16 = 30 - i - 8 then cn i (30 - i) else 0) : Nat) : Int) * B = _
      rw [if_pos rfl, if_neg (by omega), Nat.add_zero, Int.natCast_add, Int.add_mul]
    have x2 : (cn (i + 1) (30 - i - 8) : Int) * B = (cn i (30 - i - 8) : Int) * B + (cn i (30 - i) : Int) * B := by
      show ((cn i (30 - i - 8) + (if 30 - i - 8 = 30 - i - 16 then cn i (30 - i) else 0) + (if 30 - i - 8 = 30 - i - 8 then cn i (30 - i) else 0) : Nat) : Int) * B = _
      rw [if_neg (by omega), if_pos rfl, Nat.add_zero, Int.natCast_add, Int.add_mul]
    have eX : (y (o + 3) (30 - i)).toInt = ri y (o + 3) (30 - i) := rfl
    generalize hX : ri y (o + 3) (30 - i) = x at hx eX
    have hnew : ∀ k, ri (ffold_l9 true o S (i + 1)) (o + 3) k = (if k = 30 - i - 8 then (if k = 30 - i - 16 then ri y (o + 3) k + x else ri y (o + 3) k) + x else (if k = 30 - i - 16 then ri y (o + 3) k + x else ri y (o + 3) k)) := by
      intro k
      have en : ffold_l9 true o S (i + 1) = va_up (va_up y (o + 3) (vp_updL (y (o + 3)) (30 - i - 16) (y (o + 3) (30 - i - 16) + y (o + 3) (30 - i)))) (o + 3) (vp_updL (va_up y (o + 3) (vp_updL (y (o + 3)) (30 - i - 16) (y (o + 3) (30 - i - 16) + y (o + 3) (30 - i))) (o + 3)) (30 - i - 8) (va_up y (o + 3) (vp_updL (y (o + 3)) (30 - i - 16) (y (o + 3) (30 - i - 16) + y (o + 3) (30 - i))) (o + 3) (30 - i - 8) + y (o + 3) (30 - i))) := by rw [← hy]; rfl
      rw [en]
      unfold ri
      rw [vu_s, vu_s]
      by_cases q : k = 30 - i - 8
      · subst q
        rw [if_pos rfl, if_neg (by omega), pk_uLs, pk_uLn (by omega)]
        have a2 : (y (o + 3) (30 - i - 8)).toInt = ri y (o + 3) (30 - i - 8) := rfl
        rw [w_add (by rw [eX, a2]; omega) (by rw [eX, a2]; omega), eX]
      · rw [if_neg q, pk_uLn q]
        by_cases q2 : k = 30 - i - 16
        · subst q2
          have a1 : (y (o + 3) (30 - i - 16)).toInt = ri y (o + 3) (30 - i - 16) := rfl
          rw [if_pos rfl, pk_uLs, w_add (by rw [eX, a1]; omega) (by rw [eX, a1]; omega), eX]
        · rw [if_neg q2, pk_uLn q2]
    refine ⟨fun k hk => ?_, ?_, fun r hr => ?_⟩
    · rw [hnew k]
      by_cases q1 : k = 30 - i - 8
      · subst q1
        rw [if_pos rfl, if_neg (by omega), x2]; omega
      · rw [if_neg q1]
        by_cases q2 : k = 30 - i - 16
        · subst q2
          rw [if_pos rfl, x1]; omega
        · rw [if_neg q2]
          have q := h1 k hk
          have x3 : (cn (i + 1) k : Int) * B = (cn i k : Int) * B := by
            show ((cn i k + (if k = 30 - i - 16 then cn i (30 - i) else 0) + (if k = 30 - i - 8 then cn i (30 - i) else 0) : Nat) : Int) * B = _
            rw [if_neg q2, if_neg q1, Nat.add_zero]
          rw [x3]
          exact q
    · rw [← h2, show 31 - (i + 1) = 30 - i from by omega, show 31 - i = (30 - i) + 1 from by omega]
      have er := rv_at2 28 (ri y (o + 3)) (ri (ffold_l9 true o S (i + 1)) (o + 3)) (30 - i - 16) (30 - i - 8) x x (30 - i) (by omega) (by omega) (by omega) (fun k _ => hnew k)
      refine fz_of (u := x * 2 ^ (28 * (30 - i - 16))) ?_
      rw [er]
      show _ = rv 28 (ri y (o + 3)) (30 - i) + ri y (o + 3) (30 - i) * 2 ^ (28 * (30 - i)) - _
      rw [hX, show 28 * (30 - i) = 28 * (30 - i - 16) + 448 from by omega, show 28 * (30 - i - 8) = 28 * (30 - i - 16) + 224 from by omega, Int.pow_add, Int.pow_add, nt_p1]
      generalize rv 28 (ri y (o + 3)) (30 - i) = A
      generalize (2 : Int) ^ (28 * (30 - i - 16)) = P
      clear hnew er hp1 hp2 hx hX eX h1 h2 h3 hy hb hc0 hc1 hc2 x1 x2 hcb hB hB4
      grind
    · obtain ⟨v1, v2, en⟩ : ∃ v1 v2, ffold_l9 true o S (i + 1) = va_up (va_up y (o + 3) v1) (o + 3) v2 := ⟨_, _, by rw [← hy]; rfl⟩
      rw [en, vu_n hr, vu_n hr, h3 r hr]
end
