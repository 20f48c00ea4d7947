/-! the model: small rows that its further methods stand on -/
theorem rs_gt {X : CX} {cc : ByteArray} {nL : Nat} {own : String} {h mc ms pc : Nat} {lv : List (Nat × Value)} {rest : List Value} {n ce sl : Nat} {P : PT} {x y : Int32} {off : Int} {tgt a b : Nat} (C : OkX X cc nL own h mc ms) (hd : decode cc pc = .ok (.if_icmp .gt off, 3)) (ht : (pc : Int) + off = (tgt : Int)) (hx : x = nI a) (hy : y = nI b) (ha : a < 2 ^ 31) (hb : b < 2 ^ 31) (kt : b < a → Rn X tgt lv rest P n ce sl) (kf : a ≤ b → Rn X (pc + 3) lv rest P n ce sl) : Rn X pc lv (.int y :: .int x :: rest) P n ce sl :=
  rn_icmp_gt C hd ht (fun c => kt ((nI_ltI hb ha).mp (by rw [← hx, ← hy]; exact c))) (fun c => kf (Nat.not_lt.mp (fun q => c (by rw [hx, hy]; exact (nI_ltI hb ha).mpr q))))
theorem mequal_s2_z (mo a b : Nat) (S : StT) : ∀ f i, narrow .boolean (.int (mequal_s2 mo a b S f i).1) = .int (mequal_s2 mo a b S f i).1 := by
  intro f
  induction f with
  | zero => intro i; exact nz1
  | succ f ih =>
    intro i
    unfold mequal_s2
    split
    · exact ih _
    · exact nz0
theorem mequal_z (mo a b : Nat) (S : StT) : narrow .boolean (.int (mequal_f mo a b S).1) = .int (mequal_f mo a b S).1 := mequal_s2_z mo a b S _ _
theorem cB_le (c : Bool) : 32 ≤ cB c ∧ cB c ≤ 57 := by cases c <;> decide
