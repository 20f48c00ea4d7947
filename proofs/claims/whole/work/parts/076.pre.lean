/-! a division of small numbers -/
theorem rn_idivn {X : CX} {cc : ByteArray} {nL : Nat} {own : String} {h mc ms pc : Nat} {lv : List (Nat × Value)} {rest : List Value} {P : PT} {n ce sl a b : Nat} (C : OkX X cc nL own h mc ms) (hd : decode cc pc = .ok (.idiv, 1)) (ha : a < 2 ^ 31) (h0 : 0 < b) (hb : b < 2 ^ 31) (k : Rn X (pc + 1) lv (.int (nI (a / b)) :: rest) P n ce sl) : Rn X pc lv (.int (nI b) :: .int (nI a) :: rest) P n ce sl :=
  rn_idiv C hd (nI_ne0 h0 hb) (by rw [pk_div ha h0 hb]; exact k)
