section
/-! A PRODUCT AND A SUM in bytes: the model's combine. -/
theorem rvN_set (B : Nat) (f g : Nat → Nat) (j x : Nat) : ∀ n, j < n → (∀ k, k < n → g k = if k = j then x else f k) → rvN B g n + f j * B ^ j = rvN B f n + x * B ^ j := by
  intro n
  induction n with
  | zero => exact fun h => absurd h (Nat.not_lt_zero _)
  | succ n ih =>
    intro hj hg
    show rvN B g n + g n * B ^ n + f j * B ^ j = rvN B f n + f n * B ^ n + x * B ^ j
    by_cases e : j = n
    · subst e
      have e1 : rvN B g j = rvN B f j := rvN_congr j (fun k hk => by rw [hg k (by omega), if_neg (by omega)])
      rw [e1, hg j (by omega), if_pos rfl]
      omega
    · have := ih (by omega) (fun k hk => hg k (by omega))
      rw [hg n (by omega), if_neg (fun q => e q.symm)]
      omega
theorem by8 (x : Int32) : uN (x &&& nI 255) = uN x % 256 := by
  have e1 : uN (x &&& nI (2 ^ 8 - 1)) = uN x % 2 ^ 8 := uN_and (by decide)
  exact e1
theorem sh8 {x : Int32} (h : uN x < 2 ^ 31) : uN (x >>> (nI 8 &&& 31)) = uN x / 256 := by
  rw [sh_nat h (by decide)]
theorem uN_addl {x y : Int32} (h : uN x + uN y < 2 ^ 32) : uN (x + y) = uN x + uN y := by
  unfold uN at *
  rw [Int32.toBitVec_add, BitVec.toNat_add]
  exact Nat.mod_eq_of_lt h
theorem uN_mull {x y : Int32} (h : uN x * uN y < 2 ^ 32) : uN (x * y) = uN x * uN y := by
  unfold uN at *
  rw [Int32.toBitVec_mul, BitVec.toNat_mul]
  exact Nat.mod_eq_of_lt h
theorem rw_up (Y : Nat → Nat → Int32) (r j : Nat) (v : Int32) (k : Nat) : uN (va_up Y r (upd (Y r) j v) r k) = if k = j then uN v else uN (Y r k) := by
  rw [vu_s]
  show uN (if k = j then v else Y r k) = _
  split <;> rfl
theorem mcb_in (c : Bool) (mo i : Nat) (y0 : Nat → Nat → Int32) (S : StT) (hi : i < 57) (hW : BY (S.1 (mo + 26)) 128) (hA : uN (S.1 (mo + 24) i) < 256) (hB : BY (S.1 (mo + 20)) 57) : ∀ j, j ≤ 57 →
    uN (mcomb_l34 c mo i y0 S (nI 0) j).1 < 256 ∧ BY ((mcomb_l34 c mo i y0 S (nI 0) j).2 (mo + 26)) 128 ∧ (∀ k, i + j ≤ k → (mcomb_l34 c mo i y0 S (nI 0) j).2 (mo + 26) k = S.1 (mo + 26) k) ∧ rvN 256 (fun k => uN ((mcomb_l34 c mo i y0 S (nI 0) j).2 (mo + 26) k)) 128 + uN (mcomb_l34 c mo i y0 S (nI 0) j).1 * 256 ^ (i + j) = rvN 256 (fun k => uN (S.1 (mo + 26) k)) 128 + uN (S.1 (mo + 24) i) * 256 ^ i * rvN 256 (fun k => uN (S.1 (mo + 20) k)) j ∧ ∀ r, r ≠ mo + 26 → (mcomb_l34 c mo i y0 S (nI 0) j).2 r = S.1 r := by
  intro j
  induction j with
  | zero =>
    intro _
    refine ⟨by show uN (nI 0) < 256; decide, hW, fun _ _ => rfl, ?_, fun _ _ => rfl⟩
    show rvN 256 (fun k => uN (S.1 (mo + 26) k)) 128 + uN (nI 0) * 256 ^ (i + 0) = _ + _ * 0
    rw [show uN (nI 0) = 0 from by decide, Nat.zero_mul, Nat.mul_zero]
  | succ j ih =>
    intro hj
    obtain ⟨h1, h2, h3, h4, h5⟩ := ih (by omega)
    have st : mcomb_l34 c mo i y0 S (nI 0) (j + 1) = (((((mcomb_l34 c mo i y0 S (nI 0) j).2 (mo + 26) (i + j)) + (((mcomb_l34 c mo i y0 S (nI 0) j).2 (mo + 24) i) * ((mcomb_l34 c mo i y0 S (nI 0) j).2 (mo + 20) j))) + ((mcomb_l34 c mo i y0 S (nI 0) j).1)) >>> ((nI (8)) &&& 31), va_up (mcomb_l34 c mo i y0 S (nI 0) j).2 (mo + 26) (upd ((mcomb_l34 c mo i y0 S (nI 0) j).2 (mo + 26)) (i + j) (((((mcomb_l34 c mo i y0 S (nI 0) j).2 (mo + 26) (i + j)) + (((mcomb_l34 c mo i y0 S (nI 0) j).2 (mo + 24) i) * ((mcomb_l34 c mo i y0 S (nI 0) j).2 (mo + 20) j))) + ((mcomb_l34 c mo i y0 S (nI 0) j).1)) &&& (nI (255))))) := rfl
    rw [h5 (mo + 24) (by omega), h5 (mo + 20) (by omega)] at st
    rw [st]
    clear st
    have hw := h2 (i + j) (by omega)
    have hb := hB j (by omega)
    generalize (mcomb_l34 c mo i y0 S (nI 0) j).1 = z at h1 h4 ⊢
    generalize (mcomb_l34 c mo i y0 S (nI 0) j).2 = Y at h2 h3 h4 h5 hw ⊢
    have hp : uN (S.1 (mo + 24) i) * uN (S.1 (mo + 20) j) ≤ 255 * 255 := Nat.mul_le_mul (by omega) (by omega)
    have e1 := uN_mull (x := S.1 (mo + 24) i) (y := S.1 (mo + 20) j) (by omega)
    have e2 : uN (Y (mo + 26) (i + j) + S.1 (mo + 24) i * S.1 (mo + 20) j) = uN (Y (mo + 26) (i + j)) + uN (S.1 (mo + 24) i) * uN (S.1 (mo + 20) j) := by
      rw [uN_addl (by rw [e1]; omega), e1]
    have e3 : uN (Y (mo + 26) (i + j) + S.1 (mo + 24) i * S.1 (mo + 20) j + z) = uN (Y (mo + 26) (i + j)) + uN (S.1 (mo + 24) i) * uN (S.1 (mo + 20) j) + uN z := by
      rw [uN_addl (by rw [e2]; omega), e2]
    generalize Y (mo + 26) (i + j) + S.1 (mo + 24) i * S.1 (mo + 20) j + z = w at e3 ⊢
    have e4 := sh8 (x := w) (by rw [e3]; omega)
    have e5 := by8 w
    refine ⟨?_, fun k hk => ?_, fun k hk => ?_, ?_, fun r hr => (vu_n hr).trans (h5 r hr)⟩
    · show uN (w >>> (nI 8 &&& 31)) < 256
      rw [e4, e3]
      omega
    · rw [rw_up]
      split
      · rw [e5]; omega
      · exact h2 k hk
    · show va_up Y (mo + 26) (upd (Y (mo + 26)) (i + j) _) (mo + 26) k = _
      rw [vu_s]
      exact (if_neg (by omega)).trans (h3 k (by omega))
    · have q := rvN_set 256 (fun k => uN (Y (mo + 26) k)) (fun k => uN (va_up Y (mo + 26) (upd (Y (mo + 26)) (i + j) (w &&& nI 255)) (mo + 26) k)) (i + j) (uN (w &&& nI 255)) 128 (by omega) (fun k _ => rw_up Y (mo + 26) (i + j) (w &&& nI 255) k)
      show rvN 256 (fun k => uN (va_up Y (mo + 26) (upd (Y (mo + 26)) (i + j) (w &&& nI 255)) (mo + 26) k)) 128 + uN (w >>> (nI 8 &&& 31)) * 256 ^ (i + (j + 1)) = rvN 256 (fun k => uN (S.1 (mo + 26) k)) 128 + uN (S.1 (mo + 24) i) * 256 ^ i * (rvN 256 (fun k => uN (S.1 (mo + 20) k)) j + uN (S.1 (mo + 20) j) * 256 ^ j)
      generalize rvN 256 (fun k => uN (va_up Y (mo + 26) (upd (Y (mo + 26)) (i + j) (w &&& nI 255)) (mo + 26) k)) 128 = X at q ⊢
      rw [e5] at q
      rw [e4]
      generalize rvN 256 (fun k => uN (S.1 (mo + 26) k)) 128 = X0 at h4 ⊢
      generalize rvN 256 (fun k => uN (S.1 (mo + 20) k)) j = D at h4 ⊢
      have q2 : X + uN (Y (mo + 26) (i + j)) * 256 ^ (i + j) = rvN 256 (fun k => uN (Y (mo + 26) k)) 128 + uN w % 256 * 256 ^ (i + j) := q
      generalize rvN 256 (fun k => uN (Y (mo + 26) k)) 128 = X1 at h4 q2
      have hdm := Nat.div_add_mod (uN w) 256
      have ex : (256 : Nat) ^ (i + (j + 1)) = 256 * 256 ^ (i + j) := by rw [← Nat.add_assoc, Nat.pow_succ, Nat.mul_comm]
      have ey : (256 : Nat) ^ i * 256 ^ j = 256 ^ (i + j) := (Nat.pow_add _ _ _).symm
      rw [ex]
      rw [e3] at hdm
      rw [e3] at q2 ⊢
      generalize uN (Y (mo + 26) (i + j)) = y at *
      generalize uN (S.1 (mo + 24) i) = a at *
      generalize uN (S.1 (mo + 20) j) = b at *
      generalize uN z = z' at *
      generalize (256 : Nat) ^ (i + j) = P at *
      generalize (256 : Nat) ^ i = Q at *
      generalize (256 : Nat) ^ j = R at *
      generalize (y + a * b + z') / 256 = u at *
      generalize (y + a * b + z') % 256 = m at *
      have f1 : (256 * u + m) * P = (y + a * b + z') * P := by rw [hdm]
      rw [Nat.add_mul, Nat.add_mul, Nat.add_mul] at f1
      have f2 : a * Q * (D + b * R) = a * Q * D + a * b * P := by
        rw [Nat.mul_add, ← ey]
        congr 1
        rw [Nat.mul_assoc, Nat.mul_assoc, Nat.mul_left_comm Q b R]
      rw [f2]
      have f3 : u * (256 * P) = 256 * u * P := by rw [Nat.mul_left_comm, ← Nat.mul_assoc]
      rw [f3]
      omega
theorem mcb_out (c : Bool) (mo : Nat) (S : StT) (hz : ∀ k, k < 128 → S.1 (mo + 26) k = nI 0) (hA : BY (S.1 (mo + 24)) 57) (hB : BY (S.1 (mo + 20)) 57) : ∀ i, i ≤ 57 →
    BY (mcomb_l24 c mo S i (mo + 26)) 128 ∧ (∀ k, i + 57 ≤ k → k < 128 → mcomb_l24 c mo S i (mo + 26) k = nI 0) ∧ rvN 256 (fun k => uN (mcomb_l24 c mo S i (mo + 26) k)) 128 = rvN 256 (fun k => uN (S.1 (mo + 24) k)) i * rvN 256 (fun k => uN (S.1 (mo + 20) k)) 57 ∧ ∀ r, r ≠ mo + 26 → mcomb_l24 c mo S i r = S.1 r := by
  intro i
  induction i with
  | zero =>
    intro _
    have e : ∀ k, k < 128 → uN (S.1 (mo + 26) k) = 0 := fun k hk => by rw [hz k hk]; decide
    refine ⟨fun k hk => ?_, fun k _ hk => hz k hk, ?_, fun _ _ => rfl⟩
    · show uN (S.1 (mo + 26) k) < 256
      rw [e k hk]
      decide
    · show rvN 256 (fun k => uN (S.1 (mo + 26) k)) 128 = 0 * _
      rw [Nat.zero_mul]
      exact rvN_z 256 _ 0 128 (by decide) (fun j _ hj => e j hj)
  | succ i ih =>
    intro hi
    obtain ⟨h1, h2, h3, h4⟩ := ih (by omega)
    have e24 : mcomb_l24 c mo S i (mo + 24) = S.1 (mo + 24) := h4 _ (by omega)
    have e20 : mcomb_l24 c mo S i (mo + 20) = S.1 (mo + 20) := h4 _ (by omega)
    obtain ⟨g1, g2, g3, g4, g5⟩ := mcb_in c mo i (mcomb_l24 c mo S i) (mcomb_l24 c mo S i, S.2.1, S.2.2) (by omega) h1 (by show uN (mcomb_l24 c mo S i (mo + 24) i) < 256; rw [e24]; exact hA i (by omega)) (by show BY (mcomb_l24 c mo S i (mo + 20)) 57; rw [e20]; exact hB) 57 (Nat.le_refl _)
    have st : mcomb_l24 c mo S (i + 1) = va_up (mcomb_l34 c mo i (mcomb_l24 c mo S i) (mcomb_l24 c mo S i, S.2.1, S.2.2) (nI (0)) 57).2 (mo + 26) (upd ((mcomb_l34 c mo i (mcomb_l24 c mo S i) (mcomb_l24 c mo S i, S.2.1, S.2.2) (nI (0)) 57).2 (mo + 26)) (i + 57) ((mcomb_l34 c mo i (mcomb_l24 c mo S i) (mcomb_l24 c mo S i, S.2.1, S.2.2) (nI (0)) 57).1)) := rfl
    rw [st]
    clear st
    have g3' : ∀ k, i + 57 ≤ k → (mcomb_l34 c mo i (mcomb_l24 c mo S i) (mcomb_l24 c mo S i, S.2.1, S.2.2) (nI (0)) 57).2 (mo + 26) k = mcomb_l24 c mo S i (mo + 26) k := g3
    have g5' : ∀ r, r ≠ mo + 26 → (mcomb_l34 c mo i (mcomb_l24 c mo S i) (mcomb_l24 c mo S i, S.2.1, S.2.2) (nI (0)) 57).2 r = mcomb_l24 c mo S i r := g5
    have g4' : rvN 256 (fun k => uN ((mcomb_l34 c mo i (mcomb_l24 c mo S i) (mcomb_l24 c mo S i, S.2.1, S.2.2) (nI 0) 57).2 (mo + 26) k)) 128 + uN (mcomb_l34 c mo i (mcomb_l24 c mo S i) (mcomb_l24 c mo S i, S.2.1, S.2.2) (nI 0) 57).1 * 256 ^ (i + 57) = rvN 256 (fun k => uN (mcomb_l24 c mo S i (mo + 26) k)) 128 + uN (mcomb_l24 c mo S i (mo + 24) i) * 256 ^ i * rvN 256 (fun k => uN (mcomb_l24 c mo S i (mo + 20) k)) 57 := g4
    rw [e24, e20, h3] at g4'
    clear g3 g4 g5
    generalize mcomb_l34 c mo i (mcomb_l24 c mo S i) (mcomb_l24 c mo S i, S.2.1, S.2.2) (nI (0)) 57 = R at g1 g2 g3' g4' g5' ⊢
    refine ⟨fun k hk => ?_, fun k hk1 hk2 => ?_, ?_, fun r hr => (vu_n hr).trans ((g5' r hr).trans (h4 r hr))⟩
    · rw [rw_up]
      split
      · exact g1
      · exact g2 k hk
    · rw [vu_s]
      exact (if_neg (by omega)).trans ((g3' k (by omega)).trans (h2 k (by omega) hk2))
    · have q := rvN_set 256 (fun k => uN (R.2 (mo + 26) k)) (fun k => uN (va_up R.2 (mo + 26) (upd (R.2 (mo + 26)) (i + 57) R.1) (mo + 26) k)) (i + 57) (uN R.1) 128 (by omega) (fun k _ => rw_up R.2 (mo + 26) (i + 57) R.1 k)
      have q0 : uN (R.2 (mo + 26) (i + 57)) = 0 := by rw [g3' (i + 57) (Nat.le_refl _), h2 (i + 57) (Nat.le_refl _) (by omega)]; decide
      have q2 : rvN 256 (fun k => uN (va_up R.2 (mo + 26) (upd (R.2 (mo + 26)) (i + 57) R.1) (mo + 26) k)) 128 + uN (R.2 (mo + 26) (i + 57)) * 256 ^ (i + 57) = rvN 256 (fun k => uN (R.2 (mo + 26) k)) 128 + uN R.1 * 256 ^ (i + 57) := q
      rw [q0, Nat.zero_mul, Nat.add_zero, g4'] at q2
      rw [q2]
      show _ = (rvN 256 (fun k => uN (S.1 (mo + 24) k)) i + uN (S.1 (mo + 24) i) * 256 ^ i) * rvN 256 (fun k => uN (S.1 (mo + 20) k)) 57
      rw [Nat.add_mul]
theorem mcb_add (c : Bool) (mo : Nat) (S : StT) (hW : BY (S.1 (mo + 26)) 128) (hC : BY (S.1 (mo + 23)) 57) : ∀ n, n ≤ 128 →
    uN (mcomb_l112 c mo S (nI 0) n).1 < 2 ∧ BY ((mcomb_l112 c mo S (nI 0) n).2 (mo + 26)) 128 ∧ (∀ k, n ≤ k → (mcomb_l112 c mo S (nI 0) n).2 (mo + 26) k = S.1 (mo + 26) k) ∧ rvN 256 (fun k => uN ((mcomb_l112 c mo S (nI 0) n).2 (mo + 26) k)) n + uN (mcomb_l112 c mo S (nI 0) n).1 * 256 ^ n = rvN 256 (fun k => uN (S.1 (mo + 26) k)) n + rvN 256 (fun k => if 57 ≤ k then 0 else uN (S.1 (mo + 23) k)) n ∧ ∀ r, r ≠ mo + 26 → (mcomb_l112 c mo S (nI 0) n).2 r = S.1 r := by
  intro n
  induction n with
  | zero => exact fun _ => ⟨by show uN (nI 0) < 2; decide, hW, fun _ _ => rfl, by show 0 + uN (nI 0) * _ = 0 + 0; rw [show uN (nI 0) = 0 from by decide, Nat.zero_mul], fun _ _ => rfl⟩
  | succ n ih =>
    intro hn
    obtain ⟨h1, h2, h3, h4, h5⟩ := ih (by omega)
    have st : mcomb_l112 c mo S (nI 0) (n + 1) = ((((((mcomb_l112 c mo S (nI 0) n).2 (mo + 26) n) + ((if (nI (57)) ≤ (nI n) then nI (0) else (mcomb_l112 c mo S (nI 0) n).2 (mo + 23) n)))) + ((mcomb_l112 c mo S (nI 0) n).1)) >>> ((nI (8)) &&& 31), va_up (mcomb_l112 c mo S (nI 0) n).2 (mo + 26) (upd ((mcomb_l112 c mo S (nI 0) n).2 (mo + 26)) n ((((((mcomb_l112 c mo S (nI 0) n).2 (mo + 26) n) + ((if (nI (57)) ≤ (nI n) then nI (0) else (mcomb_l112 c mo S (nI 0) n).2 (mo + 23) n)))) + ((mcomb_l112 c mo S (nI 0) n).1)) &&& (nI (255))))) := rfl
    rw [h5 (mo + 23) (by omega), h3 n (Nat.le_refl _)] at st
    rw [st]
    clear st
    have hw := hW n (by omega)
    have hb : uN (if (nI (57)) ≤ (nI n) then nI (0) else S.1 (mo + 23) n) = (if 57 ≤ n then 0 else uN (S.1 (mo + 23) n)) ∧ uN (if (nI (57)) ≤ (nI n) then nI (0) else S.1 (mo + 23) n) < 256 := by
      by_cases q : 57 ≤ n
      · rw [if_pos ((nle (by omega) (by omega)).mpr q), if_pos q]
        decide
      · rw [if_neg (fun z => q ((nle (by omega) (by omega)).mp z)), if_neg q]
        exact ⟨rfl, hC n (by omega)⟩
    generalize (if (nI (57)) ≤ (nI n) then nI (0) else S.1 (mo + 23) n) = b at hb ⊢
    generalize (mcomb_l112 c mo S (nI 0) n).1 = z at h1 h4 ⊢
    generalize (mcomb_l112 c mo S (nI 0) n).2 = Y at h2 h3 h4 h5 ⊢
    have e2 : uN (S.1 (mo + 26) n + b) = uN (S.1 (mo + 26) n) + uN b := uN_addl (by omega)
    have e3 : uN (S.1 (mo + 26) n + b + z) = uN (S.1 (mo + 26) n) + uN b + uN z := by
      rw [uN_addl (by rw [e2]; omega), e2]
    generalize S.1 (mo + 26) n + b + z = w at e3 ⊢
    have e4 := sh8 (x := w) (by rw [e3]; omega)
    have e5 := by8 w
    refine ⟨?_, fun k hk => ?_, fun k hk => ?_, ?_, fun r hr => (vu_n hr).trans (h5 r hr)⟩
    · show uN (w >>> (nI 8 &&& 31)) < 2
      rw [e4, e3]
      omega
    · rw [rw_up]
      split
      · rw [e5]; omega
      · exact h2 k hk
    · show va_up Y (mo + 26) (upd (Y (mo + 26)) n _) (mo + 26) k = _
      rw [vu_s]
      exact (if_neg (by omega)).trans (h3 k (by omega))
    · show rvN 256 (fun k => uN (va_up Y (mo + 26) (upd (Y (mo + 26)) n (w &&& nI 255)) (mo + 26) k)) n + uN (va_up Y (mo + 26) (upd (Y (mo + 26)) n (w &&& nI 255)) (mo + 26) n) * 256 ^ n + uN (w >>> (nI 8 &&& 31)) * 256 ^ (n + 1) = rvN 256 (fun k => uN (S.1 (mo + 26) k)) n + uN (S.1 (mo + 26) n) * 256 ^ n + (rvN 256 (fun k => if 57 ≤ k then 0 else uN (S.1 (mo + 23) k)) n + (if 57 ≤ n then 0 else uN (S.1 (mo + 23) n)) * 256 ^ n)
      rw [rvN_congr (g := fun k => uN (Y (mo + 26) k)) n (fun k hk => by rw [rw_up, if_neg (by omega)]), rw_up, if_pos rfl, e4, e5, ← hb.1, Nat.pow_succ]
      have hdm := Nat.div_add_mod (uN w) 256
      generalize rvN 256 (fun k => uN (Y (mo + 26) k)) n = X at h4 ⊢
      generalize rvN 256 (fun k => uN (S.1 (mo + 26) k)) n = X0 at h4 ⊢
      generalize rvN 256 (fun k => if 57 ≤ k then 0 else uN (S.1 (mo + 23) k)) n = X1 at h4 ⊢
      generalize (256 : Nat) ^ n = P at h4 ⊢
      have f1 : (256 * (uN w / 256) + uN w % 256) * P = uN w * P := by rw [hdm]
      rw [e3, Nat.add_mul, Nat.add_mul, Nat.add_mul] at f1
      rw [e3]
      have f3 : (uN (S.1 (mo + 26) n) + uN b + uN z) / 256 * (P * 256) = 256 * ((uN (S.1 (mo + 26) n) + uN b + uN z) / 256) * P := by
        rw [Nat.mul_comm P 256, ← Nat.mul_assoc, Nat.mul_comm _ 256]
      rw [f3]
      omega
theorem mcb_z (c : Bool) (mo : Nat) (S : StT) : ∀ n, (∀ k, k < n → mcomb_l2 c mo S n (mo + 26) k = nI 0) ∧ ∀ r, r ≠ mo + 26 → mcomb_l2 c mo S n r = S.1 r := by
  intro n
  induction n with
  | zero => exact ⟨fun k hk => absurd hk (Nat.not_lt_zero _), fun _ _ => rfl⟩
  | succ n ih =>
    obtain ⟨h1, h2⟩ := ih
    refine ⟨fun k hk => ?_, fun r hr => (vu_n hr).trans (h2 r hr)⟩
    show va_up (mcomb_l2 c mo S n) (mo + 26) (upd (mcomb_l2 c mo S n (mo + 26)) n (nI 0)) (mo + 26) k = _
    rw [vu_s]
    show (if k = n then nI 0 else mcomb_l2 c mo S n (mo + 26) k) = nI 0
    split
    · rfl
    · exact h1 k (by omega)
theorem mcomb_m (c : Bool) (mo : Nat) (S : StT) (hA : BY (S.1 (mo + 24)) 57) (hB : BY (S.1 (mo + 20)) 57) (hC : BY (S.1 (mo + 23)) 57) (hO : MD S.1 mo (19 + bN c) (gO c)) :
    (∀ i, i < 57 → uN ((mcomb_f c mo S).1 (mo + 24) i) = (bv (S.1 (mo + 24)) 57 * bv (S.1 (mo + 20)) 57 + bv (S.1 (mo + 23)) 57) % gO c / 2 ^ (8 * i) % 256) ∧ (∀ i, 57 ≤ i → (mcomb_f c mo S).1 (mo + 24) i = S.1 (mo + 24) i) ∧ (∀ r, r ≠ mo + 7 → r ≠ mo + 24 → r ≠ mo + 26 → (mcomb_f c mo S).1 r = S.1 r) ∧ (∀ x, x ≠ 53 → ∀ i, i < 32 → (mcomb_f c mo S).1 (mo + 7) (32 * x + i) = S.1 (mo + 7) (32 * x + i)) ∧ (mcomb_f c mo S).2 = S.2 := by
  obtain ⟨z1, z2⟩ := mcb_z c mo S 128
  have r24 := z2 (mo + 24) (by omega)
  have r20 := z2 (mo + 20) (by omega)
  unfold mcomb_f
  dsimp only
  generalize mcomb_l2 c mo S 128 = I0 at z1 z2 r24 r20 ⊢
  obtain ⟨p1, p2, p3, p4⟩ := mcb_out c mo (I0, S.2.1, S.2.2) z1 (by show BY (I0 (mo + 24)) 57; rw [r24]; exact hA) (by show BY (I0 (mo + 20)) 57; rw [r20]; exact hB) 57 (Nat.le_refl _)
  have p5 : ∀ r, r ≠ mo + 26 → mcomb_l24 c mo (I0, S.2.1, S.2.2) 57 r = S.1 r := fun r hr => (p4 r hr).trans (z2 r hr)
  have p6 : rvN 256 (fun k => uN (mcomb_l24 c mo (I0, S.2.1, S.2.2) 57 (mo + 26) k)) 128 = bv (S.1 (mo + 24)) 57 * bv (S.1 (mo + 20)) 57 := by
    rw [p3]
    show rvN 256 (fun k => uN (I0 (mo + 24) k)) 57 * rvN 256 (fun k => uN (I0 (mo + 20) k)) 57 = _
    rw [r24, r20]
    rfl
  clear p3 p4
  generalize mcomb_l24 c mo (I0, S.2.1, S.2.2) 57 = I1 at p1 p2 p5 p6 ⊢
  have r23 := p5 (mo + 23) (by omega)
  obtain ⟨s1, s2, _, s4, s5⟩ := mcb_add c mo (I1, S.2.1, S.2.2) p1 (by show BY (I1 (mo + 23)) 57; rw [r23]; exact hC) 128 (Nat.le_refl _)
  have s6 : ∀ r, r ≠ mo + 26 → (mcomb_l112 c mo (I1, S.2.1, S.2.2) (nI 0) 128).2 r = S.1 r := fun r hr => (s5 r hr).trans (p5 r hr)
  have hAl := bv_lt hA
  have hBl := bv_lt hB
  have hCl := bv_lt hC
  have s7 : bv ((mcomb_l112 c mo (I1, S.2.1, S.2.2) (nI 0) 128).2 (mo + 26)) 128 + uN (mcomb_l112 c mo (I1, S.2.1, S.2.2) (nI 0) 128).1 * 256 ^ 128 = bv (S.1 (mo + 24)) 57 * bv (S.1 (mo + 20)) 57 + bv (S.1 (mo + 23)) 57 := by
    refine Eq.trans s4 ?_
    show rvN 256 (fun k => uN (I1 (mo + 26) k)) 128 + rvN 256 (fun k => if 57 ≤ k then 0 else uN (I1 (mo + 23) k)) 128 = _
    rw [p6, rvN_z 256 _ 57 128 (by decide) (fun j h1 _ => if_pos h1), rvN_congr (g := fun k => uN (S.1 (mo + 23) k)) 57 (fun j hj => by rw [if_neg (by omega), r23])]
    rfl
  clear s4 s5
  generalize mcomb_l112 c mo (I1, S.2.1, S.2.2) (nI 0) 128 = R at s1 s2 s6 s7 ⊢
  have hT : bv (S.1 (mo + 24)) 57 * bv (S.1 (mo + 20)) 57 + bv (S.1 (mo + 23)) 57 < 2 ^ (8 * 115) := by
    have h1 : bv (S.1 (mo + 24)) 57 * bv (S.1 (mo + 20)) 57 ≤ 2 ^ 456 * 2 ^ 456 := Nat.mul_le_mul (Nat.le_of_lt hAl) (Nat.le_of_lt hBl)
    have h2 : 2 ^ 456 * 2 ^ 456 + 2 ^ 456 < 2 ^ (8 * 115) := by decide +kernel
    exact Nat.lt_of_le_of_lt (Nat.add_le_add h1 (Nat.le_of_lt hCl)) h2
  have hz : uN R.1 = 0 := by
    rcases Nat.eq_zero_or_pos (uN R.1) with q | q
    · exact q
    · exfalso
      have h1 : 1 * 256 ^ 128 ≤ uN R.1 * 256 ^ 128 := Nat.mul_le_mul_right _ q
      have h2 : 2 ^ (8 * 115) < 1 * 256 ^ 128 := by decide +kernel
      omega
  rw [hz, Nat.zero_mul, Nat.add_zero] at s7
  have hb115 : bv (R.2 (mo + 26)) 115 = bv (S.1 (mo + 24)) 57 * bv (S.1 (mo + 20)) 57 + bv (S.1 (mo + 23)) 57 := by
    rw [bv_part s2 (show 115 ≤ 128 by decide), s7, Nat.mod_eq_of_lt hT]
  have hO2 : MD R.2 mo (19 + bN c) (gO c) := by
    refine ⟨hO.1, fun i hi => ?_⟩
    rw [← hO.2 i hi]
    unfold mq
    rw [s6 (mo + 7) (by omega)]
  obtain ⟨m1, m2, m3, m4, m5⟩ := mmod_m c mo (mo + 24) (mo + 26) 115 (R.2, S.2.1, S.2.2) (by omega) (by omega) (fun i hi => s2 i (by omega)) hO2
  have m1' : ∀ i, i < 57 → uN ((mmod_f c mo (mo + 24) (mo + 26) 115 (R.2, S.2.1, S.2.2)).1 (mo + 24) i) = bv (R.2 (mo + 26)) 115 % gO c / 2 ^ (8 * i) % 256 := m1
  rw [hb115] at m1'
  have e24 : R.2 (mo + 24) = S.1 (mo + 24) := s6 _ (by omega)
  have e7 : R.2 (mo + 7) = S.1 (mo + 7) := s6 _ (by omega)
  refine ⟨m1', fun i hi => (m2 i hi).trans (congrFun e24 i), fun r h7 h24 h26 => (m3 r h7 h24).trans (s6 r h26), fun x hx i hi => (m4 x hx i hi).trans (congrFun e7 _), m5⟩
end
