/-! THE LAYOUT of the suite, as it is made (start.py) -/
theorem at_l {l1 l2 : List Sh} {q : Nat} {x : Sh} (h : l1[q]? = some x) : (l1 ++ l2)[q]? = some x := by
  rw [List.getElem?_append_left (List.getElem?_eq_some_iff.mp h).1]
  exact h
theorem at_r {l1 l2 : List Sh} {n q : Nat} {x : Sh} (hn : l1.length = n) (h : l2[q]? = some x) : (l1 ++ l2)[n + q]? = some x := by
  rw [List.getElem?_append_right (by omega), show n + q - l1.length = q from by omega]
  exact h
theorem fd0_len (k : KX) (j : Nat) : (fdL0 k j).length = 10 := rfl
theorem cv0_len (k : KX) (j f : Nat) : (cvL0 k j f).length = 92 := rfl
theorem ag0_len (k : KX) (j f : Nat) : (agL0 k j f).length = 12 := rfl
theorem sg0_len (k : KX) (j f h : Nat) : (sgL0 k j f h).length = 33 := rfl
theorem fd1_len (k : KX) (j : Nat) : (fdL1 k j).length = 10 := rfl
theorem cv1_len (k : KX) (j f : Nat) : (cvL1 k j f).length = 92 := rfl
theorem ag1_len (k : KX) (j f : Nat) : (agL1 k j f).length = 12 := rfl
theorem sg1_len (k : KX) (j f h : Nat) : (sgL1 k j f h).length = 33 := rfl
theorem ptL_len (k : KX) (j : Nat) : (ptL k j).length = 4 := rfl
theorem suL_len (k : KX) : (suL k 0).length = 335 := by
  unfold suL
  simp only [List.length_cons, List.length_append, fd0_len, cv0_len, ag0_len, sg0_len, fd1_len, cv1_len, ag1_len, sg1_len, ptL_len]
def suT (k : KX) : List Sh := ((((((((((fdL0 k (0 + 29) ++ cvL0 k (0 + 39) (0 + 29)) ++ agL0 k (0 + 131) (0 + 29)) ++ sgL0 k (0 + 143) (0 + 39) (0 + 23)) ++ fdL1 k (0 + 176)) ++ cvL1 k (0 + 186) (0 + 176)) ++ agL1 k (0 + 278) (0 + 176)) ++ sgL1 k (0 + 290) (0 + 186) (0 + 26)) ++ ptL k (0 + 323)) ++ ptL k (0 + 327)) ++ ptL k (0 + 331))
theorem suT_at {k : KX} {q : Nat} {x : Sh} (h : (suT k)[q]? = some x) : (suL k 0)[29 + q]? = some x := by
  rw [Nat.add_comm]
  unfold suL
  simp only [List.getElem?_cons_succ]
  exact h
theorem suL_at {k : KX} {L : Nat → Option Sh} (h : ∀ i, i < 335 → L i = (suL k 0)[i]?) : SuiteAt k L 0 := by
  have e : ∀ i (x : Sh), i < 335 → (suL k 0)[i]? = some x → L i = some x := fun i x hi hx => (h i hi).trans hx
  have b_fd0 : ∀ q (x : Sh), (fdL0 k (0 + 29))[q]? = some x → L (29 + q) = some x := by
    intro q x hx
    have hq : q < 10 := (List.getElem?_eq_some_iff.mp hx).1
    have hy : (suT k)[0 + q]? = some x := by rw [Nat.zero_add]; exact at_l (at_l (at_l (at_l (at_l (at_l (at_l (at_l (at_l (at_l (hx))))))))))
    have := suT_at hy
    rw [← Nat.add_assoc] at this
    exact e _ _ (by omega) this
  have b_cv0 : ∀ q (x : Sh), (cvL0 k (0 + 39) (0 + 29))[q]? = some x → L (39 + q) = some x := by
    intro q x hx
    have hq : q < 92 := (List.getElem?_eq_some_iff.mp hx).1
    have hy : (suT k)[10 + q]? = some x := at_l (at_l (at_l (at_l (at_l (at_l (at_l (at_l (at_l (at_r (n := 10) (by simp only [List.length_append, fd0_len, cv0_len, ag0_len, sg0_len, fd1_len, cv1_len, ag1_len, sg1_len, ptL_len]) hx)))))))))
    have := suT_at hy
    rw [← Nat.add_assoc] at this
    exact e _ _ (by omega) this
  have b_ag0 : ∀ q (x : Sh), (agL0 k (0 + 131) (0 + 29))[q]? = some x → L (131 + q) = some x := by
    intro q x hx
    have hq : q < 12 := (List.getElem?_eq_some_iff.mp hx).1
    have hy : (suT k)[102 + q]? = some x := at_l (at_l (at_l (at_l (at_l (at_l (at_l (at_l (at_r (n := 102) (by simp only [List.length_append, fd0_len, cv0_len, ag0_len, sg0_len, fd1_len, cv1_len, ag1_len, sg1_len, ptL_len]) hx))))))))
    have := suT_at hy
    rw [← Nat.add_assoc] at this
    exact e _ _ (by omega) this
  have b_sg0 : ∀ q (x : Sh), (sgL0 k (0 + 143) (0 + 39) (0 + 23))[q]? = some x → L (143 + q) = some x := by
    intro q x hx
    have hq : q < 33 := (List.getElem?_eq_some_iff.mp hx).1
    have hy : (suT k)[114 + q]? = some x := at_l (at_l (at_l (at_l (at_l (at_l (at_l (at_r (n := 114) (by simp only [List.length_append, fd0_len, cv0_len, ag0_len, sg0_len, fd1_len, cv1_len, ag1_len, sg1_len, ptL_len]) hx)))))))
    have := suT_at hy
    rw [← Nat.add_assoc] at this
    exact e _ _ (by omega) this
  have b_fd1 : ∀ q (x : Sh), (fdL1 k (0 + 176))[q]? = some x → L (176 + q) = some x := by
    intro q x hx
    have hq : q < 10 := (List.getElem?_eq_some_iff.mp hx).1
    have hy : (suT k)[147 + q]? = some x := at_l (at_l (at_l (at_l (at_l (at_l (at_r (n := 147) (by simp only [List.length_append, fd0_len, cv0_len, ag0_len, sg0_len, fd1_len, cv1_len, ag1_len, sg1_len, ptL_len]) hx))))))
    have := suT_at hy
    rw [← Nat.add_assoc] at this
    exact e _ _ (by omega) this
  have b_cv1 : ∀ q (x : Sh), (cvL1 k (0 + 186) (0 + 176))[q]? = some x → L (186 + q) = some x := by
    intro q x hx
    have hq : q < 92 := (List.getElem?_eq_some_iff.mp hx).1
    have hy : (suT k)[157 + q]? = some x := at_l (at_l (at_l (at_l (at_l (at_r (n := 157) (by simp only [List.length_append, fd0_len, cv0_len, ag0_len, sg0_len, fd1_len, cv1_len, ag1_len, sg1_len, ptL_len]) hx)))))
    have := suT_at hy
    rw [← Nat.add_assoc] at this
    exact e _ _ (by omega) this
  have b_ag1 : ∀ q (x : Sh), (agL1 k (0 + 278) (0 + 176))[q]? = some x → L (278 + q) = some x := by
    intro q x hx
    have hq : q < 12 := (List.getElem?_eq_some_iff.mp hx).1
    have hy : (suT k)[249 + q]? = some x := at_l (at_l (at_l (at_l (at_r (n := 249) (by simp only [List.length_append, fd0_len, cv0_len, ag0_len, sg0_len, fd1_len, cv1_len, ag1_len, sg1_len, ptL_len]) hx))))
    have := suT_at hy
    rw [← Nat.add_assoc] at this
    exact e _ _ (by omega) this
  have b_sg1 : ∀ q (x : Sh), (sgL1 k (0 + 290) (0 + 186) (0 + 26))[q]? = some x → L (290 + q) = some x := by
    intro q x hx
    have hq : q < 33 := (List.getElem?_eq_some_iff.mp hx).1
    have hy : (suT k)[261 + q]? = some x := at_l (at_l (at_l (at_r (n := 261) (by simp only [List.length_append, fd0_len, cv0_len, ag0_len, sg0_len, fd1_len, cv1_len, ag1_len, sg1_len, ptL_len]) hx)))
    have := suT_at hy
    rw [← Nat.add_assoc] at this
    exact e _ _ (by omega) this
  have b_p0 : ∀ q (x : Sh), (ptL k (0 + 323))[q]? = some x → L (323 + q) = some x := by
    intro q x hx
    have hq : q < 4 := (List.getElem?_eq_some_iff.mp hx).1
    have hy : (suT k)[294 + q]? = some x := at_l (at_l (at_r (n := 294) (by simp only [List.length_append, fd0_len, cv0_len, ag0_len, sg0_len, fd1_len, cv1_len, ag1_len, sg1_len, ptL_len]) hx))
    have := suT_at hy
    rw [← Nat.add_assoc] at this
    exact e _ _ (by omega) this
  have b_p1 : ∀ q (x : Sh), (ptL k (0 + 327))[q]? = some x → L (327 + q) = some x := by
    intro q x hx
    have hq : q < 4 := (List.getElem?_eq_some_iff.mp hx).1
    have hy : (suT k)[298 + q]? = some x := at_l (at_r (n := 298) (by simp only [List.length_append, fd0_len, cv0_len, ag0_len, sg0_len, fd1_len, cv1_len, ag1_len, sg1_len, ptL_len]) hx)
    have := suT_at hy
    rw [← Nat.add_assoc] at this
    exact e _ _ (by omega) this
  have b_p2 : ∀ q (x : Sh), (ptL k (0 + 331))[q]? = some x → L (331 + q) = some x := by
    intro q x hx
    have hq : q < 4 := (List.getElem?_eq_some_iff.mp hx).1
    have hy : (suT k)[302 + q]? = some x := at_r (n := 302) (by simp only [List.length_append, fd0_len, cv0_len, ag0_len, sg0_len, fd1_len, cv1_len, ag1_len, sg1_len, ptL_len]) hx
    have := suT_at hy
    rw [← Nat.add_assoc] at this
    exact e _ _ (by omega) this
  have tb0 : ∀ i, i < 16 → PtAt k L (39 + 28 + 4 * i) := by
    intro i hi
    have hi2 : i = 0 ∨ i = 1 ∨ i = 2 ∨ i = 3 ∨ i = 4 ∨ i = 5 ∨ i = 6 ∨ i = 7 ∨ i = 8 ∨ i = 9 ∨ i = 10 ∨ i = 11 ∨ i = 12 ∨ i = 13 ∨ i = 14 ∨ i = 15 := by omega
    rcases hi2 with rfl | rfl | rfl | rfl | rfl | rfl | rfl | rfl | rfl | rfl | rfl | rfl | rfl | rfl | rfl | rfl
    · exact ⟨(b_cv0 28 _ rfl), (b_cv0 29 _ rfl), (b_cv0 30 _ rfl), (b_cv0 31 _ rfl)⟩
    · exact ⟨(b_cv0 32 _ rfl), (b_cv0 33 _ rfl), (b_cv0 34 _ rfl), (b_cv0 35 _ rfl)⟩
    · exact ⟨(b_cv0 36 _ rfl), (b_cv0 37 _ rfl), (b_cv0 38 _ rfl), (b_cv0 39 _ rfl)⟩
    · exact ⟨(b_cv0 40 _ rfl), (b_cv0 41 _ rfl), (b_cv0 42 _ rfl), (b_cv0 43 _ rfl)⟩
    · exact ⟨(b_cv0 44 _ rfl), (b_cv0 45 _ rfl), (b_cv0 46 _ rfl), (b_cv0 47 _ rfl)⟩
    · exact ⟨(b_cv0 48 _ rfl), (b_cv0 49 _ rfl), (b_cv0 50 _ rfl), (b_cv0 51 _ rfl)⟩
    · exact ⟨(b_cv0 52 _ rfl), (b_cv0 53 _ rfl), (b_cv0 54 _ rfl), (b_cv0 55 _ rfl)⟩
    · exact ⟨(b_cv0 56 _ rfl), (b_cv0 57 _ rfl), (b_cv0 58 _ rfl), (b_cv0 59 _ rfl)⟩
    · exact ⟨(b_cv0 60 _ rfl), (b_cv0 61 _ rfl), (b_cv0 62 _ rfl), (b_cv0 63 _ rfl)⟩
    · exact ⟨(b_cv0 64 _ rfl), (b_cv0 65 _ rfl), (b_cv0 66 _ rfl), (b_cv0 67 _ rfl)⟩
    · exact ⟨(b_cv0 68 _ rfl), (b_cv0 69 _ rfl), (b_cv0 70 _ rfl), (b_cv0 71 _ rfl)⟩
    · exact ⟨(b_cv0 72 _ rfl), (b_cv0 73 _ rfl), (b_cv0 74 _ rfl), (b_cv0 75 _ rfl)⟩
    · exact ⟨(b_cv0 76 _ rfl), (b_cv0 77 _ rfl), (b_cv0 78 _ rfl), (b_cv0 79 _ rfl)⟩
    · exact ⟨(b_cv0 80 _ rfl), (b_cv0 81 _ rfl), (b_cv0 82 _ rfl), (b_cv0 83 _ rfl)⟩
    · exact ⟨(b_cv0 84 _ rfl), (b_cv0 85 _ rfl), (b_cv0 86 _ rfl), (b_cv0 87 _ rfl)⟩
    · exact ⟨(b_cv0 88 _ rfl), (b_cv0 89 _ rfl), (b_cv0 90 _ rfl), (b_cv0 91 _ rfl)⟩
  have fd0 : FieldAt k L 29 false := ⟨(b_fd0 0 _ rfl), (b_fd0 1 _ rfl), (b_fd0 2 _ rfl), (b_fd0 3 _ rfl), (b_fd0 4 _ rfl), (b_fd0 5 _ rfl), (b_fd0 6 _ rfl), (b_fd0 7 _ rfl), (b_fd0 8 _ rfl), (b_fd0 9 _ rfl)⟩
  have cv0 : CurveAt k L 39 29 false := ⟨(b_cv0 0 _ rfl), fd0, (b_cv0 8 _ rfl), (b_cv0 9 _ rfl), (b_cv0 10 _ rfl), (b_cv0 11 _ rfl), (b_cv0 12 _ rfl), (b_cv0 13 _ rfl), (b_cv0 14 _ rfl), (b_cv0 15 _ rfl), (b_cv0 17 _ rfl), (b_cv0 19 _ rfl), (b_cv0 1 _ rfl), ⟨(b_cv0 2 _ rfl), (b_cv0 3 _ rfl), (b_cv0 4 _ rfl), (b_cv0 5 _ rfl)⟩, (b_cv0 6 _ rfl), (b_cv0 7 _ rfl), ⟨(b_cv0 20 _ rfl), (b_cv0 21 _ rfl), (b_cv0 22 _ rfl), (b_cv0 23 _ rfl)⟩, tb0⟩
  have ag0 : AgreeAt k L 131 29 false := ⟨(b_ag0 0 _ rfl), fd0, (b_ag0 1 _ rfl), (b_ag0 2 _ rfl), (b_ag0 3 _ rfl), (b_ag0 4 _ rfl), (b_ag0 5 _ rfl), (b_ag0 6 _ rfl), (b_ag0 7 _ rfl), (b_ag0 8 _ rfl), (b_ag0 9 _ rfl), (b_ag0 10 _ rfl), (b_ag0 11 _ rfl)⟩
  have ha0 : HashAt k L 23 false := ⟨fun z => absurd z (by decide), fun _ => ⟨(e 23 _ (by decide) rfl), (e 24 _ (by decide) rfl), (e 25 _ (by decide) rfl)⟩⟩
  have sg0 : SignAt k L 143 39 29 23 false := ⟨(b_sg0 0 _ rfl), cv0, ⟨(b_sg0 27 _ rfl), (b_sg0 28 _ rfl), (b_sg0 29 _ rfl), (b_sg0 31 _ rfl), (b_sg0 32 _ rfl)⟩, ha0, ⟨(b_sg0 1 _ rfl), (b_sg0 2 _ rfl)⟩, ⟨(b_sg0 3 _ rfl), (b_sg0 4 _ rfl)⟩, ⟨(b_sg0 5 _ rfl), (b_sg0 6 _ rfl)⟩, (b_sg0 7 _ rfl), (b_sg0 8 _ rfl), (b_sg0 9 _ rfl), (b_sg0 10 _ rfl), (b_sg0 11 _ rfl), (b_sg0 12 _ rfl), (b_sg0 13 _ rfl), (b_sg0 14 _ rfl), ⟨(b_sg0 15 _ rfl), (b_sg0 16 _ rfl), (b_sg0 17 _ rfl), (b_sg0 18 _ rfl)⟩, ⟨(b_sg0 19 _ rfl), (b_sg0 20 _ rfl), (b_sg0 21 _ rfl), (b_sg0 22 _ rfl)⟩, ⟨(b_sg0 23 _ rfl), (b_sg0 24 _ rfl), (b_sg0 25 _ rfl), (b_sg0 26 _ rfl)⟩, by intro j hj; omega⟩
  have tb1 : ∀ i, i < 16 → PtAt k L (186 + 28 + 4 * i) := by
    intro i hi
    have hi2 : i = 0 ∨ i = 1 ∨ i = 2 ∨ i = 3 ∨ i = 4 ∨ i = 5 ∨ i = 6 ∨ i = 7 ∨ i = 8 ∨ i = 9 ∨ i = 10 ∨ i = 11 ∨ i = 12 ∨ i = 13 ∨ i = 14 ∨ i = 15 := by omega
    rcases hi2 with rfl | rfl | rfl | rfl | rfl | rfl | rfl | rfl | rfl | rfl | rfl | rfl | rfl | rfl | rfl | rfl
    · exact ⟨(b_cv1 28 _ rfl), (b_cv1 29 _ rfl), (b_cv1 30 _ rfl), (b_cv1 31 _ rfl)⟩
    · exact ⟨(b_cv1 32 _ rfl), (b_cv1 33 _ rfl), (b_cv1 34 _ rfl), (b_cv1 35 _ rfl)⟩
    · exact ⟨(b_cv1 36 _ rfl), (b_cv1 37 _ rfl), (b_cv1 38 _ rfl), (b_cv1 39 _ rfl)⟩
    · exact ⟨(b_cv1 40 _ rfl), (b_cv1 41 _ rfl), (b_cv1 42 _ rfl), (b_cv1 43 _ rfl)⟩
    · exact ⟨(b_cv1 44 _ rfl), (b_cv1 45 _ rfl), (b_cv1 46 _ rfl), (b_cv1 47 _ rfl)⟩
    · exact ⟨(b_cv1 48 _ rfl), (b_cv1 49 _ rfl), (b_cv1 50 _ rfl), (b_cv1 51 _ rfl)⟩
    · exact ⟨(b_cv1 52 _ rfl), (b_cv1 53 _ rfl), (b_cv1 54 _ rfl), (b_cv1 55 _ rfl)⟩
    · exact ⟨(b_cv1 56 _ rfl), (b_cv1 57 _ rfl), (b_cv1 58 _ rfl), (b_cv1 59 _ rfl)⟩
    · exact ⟨(b_cv1 60 _ rfl), (b_cv1 61 _ rfl), (b_cv1 62 _ rfl), (b_cv1 63 _ rfl)⟩
    · exact ⟨(b_cv1 64 _ rfl), (b_cv1 65 _ rfl), (b_cv1 66 _ rfl), (b_cv1 67 _ rfl)⟩
    · exact ⟨(b_cv1 68 _ rfl), (b_cv1 69 _ rfl), (b_cv1 70 _ rfl), (b_cv1 71 _ rfl)⟩
    · exact ⟨(b_cv1 72 _ rfl), (b_cv1 73 _ rfl), (b_cv1 74 _ rfl), (b_cv1 75 _ rfl)⟩
    · exact ⟨(b_cv1 76 _ rfl), (b_cv1 77 _ rfl), (b_cv1 78 _ rfl), (b_cv1 79 _ rfl)⟩
    · exact ⟨(b_cv1 80 _ rfl), (b_cv1 81 _ rfl), (b_cv1 82 _ rfl), (b_cv1 83 _ rfl)⟩
    · exact ⟨(b_cv1 84 _ rfl), (b_cv1 85 _ rfl), (b_cv1 86 _ rfl), (b_cv1 87 _ rfl)⟩
    · exact ⟨(b_cv1 88 _ rfl), (b_cv1 89 _ rfl), (b_cv1 90 _ rfl), (b_cv1 91 _ rfl)⟩
  have fd1 : FieldAt k L 176 true := ⟨(b_fd1 0 _ rfl), (b_fd1 1 _ rfl), (b_fd1 2 _ rfl), (b_fd1 3 _ rfl), (b_fd1 4 _ rfl), (b_fd1 5 _ rfl), (b_fd1 6 _ rfl), (b_fd1 7 _ rfl), (b_fd1 8 _ rfl), (b_fd1 9 _ rfl)⟩
  have cv1 : CurveAt k L 186 176 true := ⟨(b_cv1 0 _ rfl), fd1, (b_cv1 8 _ rfl), (b_cv1 9 _ rfl), (b_cv1 10 _ rfl), (b_cv1 11 _ rfl), (b_cv1 12 _ rfl), (b_cv1 13 _ rfl), (b_cv1 14 _ rfl), (b_cv1 15 _ rfl), (b_cv1 17 _ rfl), (b_cv1 19 _ rfl), (b_cv1 1 _ rfl), ⟨(b_cv1 2 _ rfl), (b_cv1 3 _ rfl), (b_cv1 4 _ rfl), (b_cv1 5 _ rfl)⟩, (b_cv1 6 _ rfl), (b_cv1 7 _ rfl), ⟨(b_cv1 20 _ rfl), (b_cv1 21 _ rfl), (b_cv1 22 _ rfl), (b_cv1 23 _ rfl)⟩, tb1⟩
  have ag1 : AgreeAt k L 278 176 true := ⟨(b_ag1 0 _ rfl), fd1, (b_ag1 1 _ rfl), (b_ag1 2 _ rfl), (b_ag1 3 _ rfl), (b_ag1 4 _ rfl), (b_ag1 5 _ rfl), (b_ag1 6 _ rfl), (b_ag1 7 _ rfl), (b_ag1 8 _ rfl), (b_ag1 9 _ rfl), (b_ag1 10 _ rfl), (b_ag1 11 _ rfl)⟩
  have ha1 : HashAt k L 26 true := ⟨fun _ => ⟨(e 26 _ (by decide) rfl), (e 27 _ (by decide) rfl), (e 28 _ (by decide) rfl)⟩, fun z => absurd z (by decide)⟩
  have sg1 : SignAt k L 290 186 176 26 true := ⟨(b_sg1 0 _ rfl), cv1, ⟨(b_sg1 27 _ rfl), (b_sg1 28 _ rfl), (b_sg1 29 _ rfl), (b_sg1 31 _ rfl), (b_sg1 32 _ rfl)⟩, ha1, ⟨(b_sg1 1 _ rfl), (b_sg1 2 _ rfl)⟩, ⟨(b_sg1 3 _ rfl), (b_sg1 4 _ rfl)⟩, ⟨(b_sg1 5 _ rfl), (b_sg1 6 _ rfl)⟩, (b_sg1 7 _ rfl), (b_sg1 8 _ rfl), (b_sg1 9 _ rfl), (b_sg1 10 _ rfl), (b_sg1 11 _ rfl), (b_sg1 12 _ rfl), (b_sg1 13 _ rfl), (b_sg1 14 _ rfl), ⟨(b_sg1 15 _ rfl), (b_sg1 16 _ rfl), (b_sg1 17 _ rfl), (b_sg1 18 _ rfl)⟩, ⟨(b_sg1 19 _ rfl), (b_sg1 20 _ rfl), (b_sg1 21 _ rfl), (b_sg1 22 _ rfl)⟩, ⟨(b_sg1 23 _ rfl), (b_sg1 24 _ rfl), (b_sg1 25 _ rfl), (b_sg1 26 _ rfl)⟩, by intro j hj; omega⟩
  have pl : ∀ p, p < 3 → PtAt k L (323 + 4 * p) := by
    intro p hp
    have hp2 : p = 0 ∨ p = 1 ∨ p = 2 := by omega
    rcases hp2 with rfl | rfl | rfl
    · exact ⟨(b_p0 0 _ rfl), (b_p0 1 _ rfl), (b_p0 2 _ rfl), (b_p0 3 _ rfl)⟩
    · exact ⟨(b_p1 0 _ rfl), (b_p1 1 _ rfl), (b_p1 2 _ rfl), (b_p1 3 _ rfl)⟩
    · exact ⟨(b_p2 0 _ rfl), (b_p2 1 _ rfl), (b_p2 2 _ rfl), (b_p2 3 _ rfl)⟩
  exact ⟨(e 0 _ (by decide) rfl), (e 1 _ (by decide) rfl), ⟨(e 2 _ (by decide) rfl), (e 3 _ (by decide) rfl)⟩, ⟨(e 4 _ (by decide) rfl), (e 5 _ (by decide) rfl)⟩, (e 6 _ (by decide) rfl), (e 7 _ (by decide) rfl), (e 8 _ (by decide) rfl), (e 9 _ (by decide) rfl), (e 10 _ (by decide) rfl), ⟨(e 11 _ (by decide) rfl), (e 12 _ (by decide) rfl), (e 13 _ (by decide) rfl), (e 14 _ (by decide) rfl)⟩, ⟨(e 15 _ (by decide) rfl), (e 16 _ (by decide) rfl)⟩, ⟨(e 17 _ (by decide) rfl), (e 18 _ (by decide) rfl)⟩, ⟨(e 19 _ (by decide) rfl), (e 20 _ (by decide) rfl)⟩, ⟨(e 21 _ (by decide) rfl), (e 22 _ (by decide) rfl)⟩, fun c => by cases c; exact ha0; exact ha1, fun c => by cases c; exact ⟨cv0, ag0, sg0⟩; exact ⟨cv1, ag1, sg1⟩, fun p hp => by rw [Nat.zero_add]; exact pl p hp⟩
