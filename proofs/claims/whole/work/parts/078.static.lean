/-! static rows: read where they lie, at addresses below the first own one -/
/-- the static row of longs C.n holds g -/
def StJ (k : KX) (C n : String) (N : Nat) (g : Nat → Int64) (U : State) : Prop := ∃ t : Nat, va_Z C n "[J" (.ref t) (fun q => k_b k ≤ q) U (k_H k) ∧ va_T .long t N (fun j => .long (g j)) (fun q => k_b k ≤ q) U (k_H k)
def StI (k : KX) (C n : String) (N : Nat) (g : Nat → Int32) (U : State) : Prop := ∃ t : Nat, va_Z C n "[I" (.ref t) (fun q => k_b k ≤ q) U (k_H k) ∧ va_T .int t N (fun j => .int (g j)) (fun q => k_b k ≤ q) U (k_H k)
section LST
variable {X : CX} {cc : ByteArray} {nL : Nat} {own : String} {h mc ms pc : Nat} {lv : List (Nat × Value)} {rest : List Value} {P : PT} {n ce sl : Nat}
theorem rn_gets {C0 nm d : String} {v : Value} {idx : Nat} (C : OkX X cc nL own h mc ms) (hd : decode cc pc = .ok (.getstatic idx, 3)) (hw : Cond.fieldLink own idx C0 nm d ∈ gw) (hZ : va_Z C0 nm d v (fun q => k_b X.1 ≤ q) (x_s X) (k_H X.1)) (k : Rn X (pc + 3) lv (v :: rest) P n ce sl) : Rn X pc lv rest P n ce sl := by
  intro H ls locs hH hl ho
  obtain ⟨cf, kf, fi, f, a, cell, h1, h2, h3, h4, h5, h6, h7, h8⟩ := hZ
  exact W.gets C.1 C.2.1 C.2.2.2.2.1 (C.2.2.2.2.2.1 _ hw) h1 h2 h3 h4 (by rw [hH.2.1 a (Nat.not_le.mp h8)]; exact h5) (fun e => by rw [e] at h6; cases h6) h7 rfl hd (k H ls locs hH hl ho)
theorem rn_stl {t N q : Nat} {g : Nat → Int64} {i : Int32} (C : OkX X cc nL own h mc ms) (hd : decode cc pc = .ok (.laload, 1)) (hT : va_T .long t N (fun j => .long (g j)) (fun q => k_b X.1 ≤ q) (x_s X) (k_H X.1)) (hi : i = nI q) (hq : q < N) (hN : N < 2 ^ 31) (k : Rn X (pc + 1) lv (.long (g q) :: rest) P n ce sl) : Rn X pc lv (.int i :: .ref t :: rest) P n ce sl := by
  intro H ls locs hH hl ho
  obtain ⟨cell, h1, h2, h3, h4, h5, h6, h7⟩ := hT
  have e : i.toNatClampNeg = q := by rw [hi]; exact nI_clamp (by omega)
  have hin : ¬ (i < 0 ∨ cell.slots.size ≤ i.toNatClampNeg) := by
    rw [e]
    intro z
    rcases z with z | z
    · exact absurd z (by rw [hi]; exact nI_pos (by omega))
    · omega
  exact W.lald (v := .long (g q)) C.1 C.2.1 (by rw [hH.2.1 t (Nat.not_le.mp h7)]; exact h1) h2 h3 hin (by rw [e, h6 _ hq]) rfl rfl hd (k H ls locs hH hl ho)
theorem rn_sti {t N q : Nat} {g : Nat → Int32} {i : Int32} (C : OkX X cc nL own h mc ms) (hd : decode cc pc = .ok (.iaload, 1)) (hT : va_T .int t N (fun j => .int (g j)) (fun q => k_b X.1 ≤ q) (x_s X) (k_H X.1)) (hi : i = nI q) (hq : q < N) (hN : N < 2 ^ 31) (k : Rn X (pc + 1) lv (.int (g q) :: rest) P n ce sl) : Rn X pc lv (.int i :: .ref t :: rest) P n ce sl := by
  intro H ls locs hH hl ho
  obtain ⟨cell, h1, h2, h3, h4, h5, h6, h7⟩ := hT
  have e : i.toNatClampNeg = q := by rw [hi]; exact nI_clamp (by omega)
  have hin : ¬ (i < 0 ∨ cell.slots.size ≤ i.toNatClampNeg) := by
    rw [e]
    intro z
    rcases z with z | z
    · exact absurd z (by rw [hi]; exact nI_pos (by omega))
    · omega
  exact W.iald (v := .int (g q)) C.1 C.2.1 (by rw [hH.2.1 t (Nat.not_le.mp h7)]; exact h1) h2 h3 hin (by rw [e, h6 _ hq]) rfl rfl hd (k H ls locs hH hl ho)
theorem rn_stlen {t N : Nat} {ty : FieldType} {f : Nat → Value} (C : OkX X cc nL own h mc ms) (hd : decode cc pc = .ok (.arraylength, 1)) (hT : va_T ty t N f (fun q => k_b X.1 ≤ q) (x_s X) (k_H X.1)) (k : Rn X (pc + 1) lv (.int (nI N) :: rest) P n ce sl) : Rn X pc lv (.ref t :: rest) P n ce sl := by
  intro H ls locs hH hl ho
  obtain ⟨cell, h1, h2, h3, h4, h5, h6, h7⟩ := hT
  exact W.alen C.1 C.2.1 (by rw [hH.2.1 t (Nat.not_le.mp h7)]; exact h1) h2 h5 rfl rfl hd (k H ls locs hH hl ho)
end LST
