/-! MAKERS: what a hexadecimal text leaves, and where nothing is yet -/
theorem hxB_lt {nB : Nat} {f : Nat → Nat} (hx : ∀ q, q < 2 * nB → hxOk (f q)) {q : Nat} (hq : q < nB) : hxB nB f q < 256 := by
  unfold hxB
  have h1 := dg_lt (hx (2 * (nB - 1 - q)) (by omega))
  have h2 := dg_lt (hx (2 * (nB - 1 - q) + 1) (by omega))
  omega
theorem hxP_by {nB : Nat} {f : Nat → Nat} (hx : ∀ q, q < 2 * nB → hxOk (f q)) : BY (hxP nB f nB) nB := fun i hi => by
  show uN (if i < nB then nI (hxB nB f i) else 0) < 256
  have h := hxB_lt hx hi
  rw [if_pos hi, uN_nI (by omega)]
  exact h
theorem mkHx_s (j nB bits : Nat) (f : Nat → Nat) (S : StT) (hn : nB ≤ 56) (h1 : 28 ≤ bits) (h2 : bits ≤ 29) (hx : ∀ q, q < 2 * nB → hxOk (f q)) :
    (∀ q, q < 16 → uL ((mkHx j nB bits f S).2.1 (j + 1) q) = bv (hxP nB f nB) nB / 2 ^ (bits * q) % 2 ^ bits) ∧ (∀ r, r ≠ j + 1 → (mkHx j nB bits f S).2.1 r = S.2.1 r) ∧ (∀ r, r ≠ j → (mkHx j nB bits f S).1 r = S.1 r) ∧ (mkHx j nB bits f S).2.2 = S.2.2 := by
  have e0 : (va_up S.1 j (hxP nB f nB)) j = hxP nB f nB := vu_s
  obtain ⟨a, b⟩ := lfrom_s (j + 1) bits j nB (va_up S.1 j (hxP nB f nB), S.2.1, S.2.2) ⟨by omega, by omega⟩ (by omega) (by show BY ((va_up S.1 j (hxP nB f nB)) j) nB; rw [e0]; exact hxP_by hx)
  have a' : ∀ q, q < 16 → uL ((mkHx j nB bits f S).2.1 (j + 1) q) = bv ((va_up S.1 j (hxP nB f nB)) j) nB / 2 ^ (bits * q) % 2 ^ bits := a
  rw [e0] at a'
  refine ⟨a', b, fun r hr => ?_, lfrom_F _ _ _ _ _⟩
  unfold mkHx
  rw [lfrom_I]
  exact vu_n hr
theorem Zr_hx {j nB bits : Nat} {f : Nat → Nat} {S : StT} (hn : nB ≤ 56) (h1 : 28 ≤ bits) (h2 : bits ≤ 29) (hx : ∀ q, q < 2 * nB → hxOk (f q)) (hz : Zr j S) : Zr (j + 2) (mkHx j nB bits f S) := by
  obtain ⟨-, b, c, d⟩ := mkHx_s j nB bits f S hn h1 h2 hx
  intro i hi
  rw [b i (by omega), c i (by omega), d]
  exact hz i (by omega)
theorem mkPt_s (j : Nat) (S : StT) : (mkPt j S).1 = S.1 ∧ (mkPt j S).2.2 = S.2.2 ∧ (∀ r, r ≠ j + 2 → r ≠ j + 3 → (mkPt j S).2.1 r = S.2.1 r) ∧ (mkPt j S).2.1 (j + 2) = oneR ∧ (mkPt j S).2.1 (j + 3) = oneR :=
  ⟨rfl, rfl, fun r h1 h2 => (vu_n h2).trans (vu_n h1), (vu_n (by omega)).trans vu_s, vu_s⟩
theorem Zr_pt {j : Nat} {S : StT} (hz : Zr j S) : Zr (j + 4) (mkPt j S) := by
  obtain ⟨a, b, c, -⟩ := mkPt_s j S
  intro i hi
  rw [a, b, c i (by omega) (by omega)]
  exact hz i (by omega)
theorem Zr_fd0 {j : Nat} {S : StT} (hz : Zr j S) : Zr (j + 10) (mkFd0 j S) := by
  intro i hi
  refine ⟨(hz i (by omega)).1, ?_, (hz i (by omega)).2.2⟩
  exact ((vu_n (by omega)).trans (vu_n (by omega))).trans (hz i (by omega)).2.1
theorem Zr_fd1 {j : Nat} {S : StT} (hz : Zr j S) : Zr (j + 10) (mkFd1 j S) := by
  intro i hi
  refine ⟨(hz i (by omega)).1, ?_, (hz i (by omega)).2.2⟩
  exact ((vu_n (by omega)).trans (vu_n (by omega))).trans (hz i (by omega)).2.1
/-- limbs of a number, none beyond the field's bits -/
theorem VL_dg {c : Bool} {J : Nat → Nat → Int64} {r V : Nat} (hV : V < 2 ^ fW c) (h : ∀ q, q < 16 → uL (J r q) = V / 2 ^ (fb c * q) % 2 ^ fb c) : VL c J r (fz c (V : Int)) := by
  have hL := fL_le c
  have hfb := fb_le c
  have hft := ft_le c
  have lt : ∀ i, i < fL c → uL (J r i) < 2 ^ fw c i := by
    intro i hi
    rw [h i (by omega)]
    unfold fw
    by_cases e : i = fL c - 1
    · rw [if_pos e]
      refine Nat.lt_of_le_of_lt (Nat.mod_le _ _) ?_
      refine (Nat.div_lt_iff_lt_mul (Nat.two_pow_pos _)).mpr ?_
      rw [← Nat.pow_add]
      unfold fW at hV
      rw [e, Nat.add_comm]
      exact hV
    · rw [if_neg e]
      exact Nat.mod_lt _ (Nat.two_pow_pos _)
  have hfw : ∀ i, fw c i ≤ 63 := by
    intro i
    unfold fw
    split <;> omega
  have hi : ∀ i, i < fL c → ri J r i = ((V / 2 ^ (fb c * i) % 2 ^ fb c : Nat) : Int) := by
    intro i hi
    unfold ri
    rw [uL_int (uL_lt63 (lt i hi) (hfw i)), h i (by omega)]
  refine ⟨fun i hi2 => ?_, ?_⟩
  · have e1 := lt i hi2
    unfold ri
    rw [uL_int (uL_lt63 e1 (hfw i))]
    have e2 : ((uL (J r i) : Nat) : Int) < ((2 ^ fw c i : Nat) : Int) := Int.ofNat_lt.mpr e1
    have e3 : ((2 ^ fw c i : Nat) : Int) = 2 ^ fw c i := by push_cast; rfl
    omega
  · unfold FV fvl
    rw [rv_nat (fL c) hi]
    congr 1
    congr 1
    rw [rvN_dg]
    refine Nat.mod_eq_of_lt (Nat.lt_of_lt_of_le hV ?_)
    refine Nat.pow_le_pow_right (by decide) ?_
    unfold fW
    cases c <;> decide
