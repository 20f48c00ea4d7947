/-! THE LAW: rules that its body wants -/
section LWR
variable {X : CX} {cc : ByteArray} {nL : Nat} {own : String} {h mc ms pc : Nat} {lv : List (Nat × Value)} {rest : List Value} {P : PT} {n ce sl : Nat}
theorem rn_tout {x : Int32} {d lo hi : Int} {offs : Array Int} {len tgt : Nat} (C : OkX X cc nL own h mc ms) (hd : decode cc pc = .ok (.tableswitch d lo hi offs, len)) (hx : x.toInt < lo ∨ hi < x.toInt) (ht : (pc : Int) + d = (tgt : Int)) (k : Rn X tgt lv rest P n ce sl) : Rn X pc lv (.int x :: rest) P n ce sl := fun H ls locs hH hl ho => lv_tableOut C.1 C.2.1 hd hx ht (k H ls locs hH hl ho)
theorem rn_tin {x : Int32} {d lo hi off : Int} {offs : Array Int} {len tgt : Nat} (C : OkX X cc nL own h mc ms) (hd : decode cc pc = .ok (.tableswitch d lo hi offs, len)) (h1 : ¬ x.toInt < lo) (h2 : ¬ hi < x.toInt) (ho : offs[(x.toInt - lo).toNat]? = some off) (ht : (pc : Int) + off = (tgt : Int)) (k : Rn X tgt lv rest P n ce sl) : Rn X pc lv (.int x :: rest) P n ce sl := fun H ls locs hH hl hq => lv_tableIn C.1 C.2.1 hd h1 h2 ho ht (k H ls locs hH hl hq)
theorem rn_nz {x : Int32} (C : OkX X cc nL own h mc ms) (h1 : decode cc pc = .ok (.ifCond .eq 7, 3)) (h2 : decode cc (pc + 3) = .ok (.iconst 1, 1)) (h3 : decode cc (pc + 4) = .ok (.goto 4, 3)) (h4 : decode cc (pc + 7) = .ok (.iconst 0, 1)) (k : Rn X (pc + 8) lv (.int (bI (decide (x ≠ 0))) :: rest) P n ce sl) : Rn X pc lv (.int x :: rest) P n ce sl := by
  refine rn_if_eq (tgt := pc + 7) C h1 (by omega) (fun e => ?_) (fun e => ?_)
  · rw [show decide (x ≠ 0) = false from decide_eq_false (fun z => z e)] at k
    exact rn_iconst (v := nI 0) C h4 rfl k
  · rw [show decide (x ≠ 0) = true from decide_eq_true e] at k
    refine rn_iconst (v := nI 1) C h2 rfl ?_
    exact rn_goto (tgt := pc + 8) C h3 (by omega) k
theorem rn_nzL {x : Int32} (C : OkX X cc nL own h mc ms) (h1 : decode cc pc = .ok (.ifCond .eq 7, 3)) (h2 : decode cc (pc + 3) = .ok (.lconst 1, 1)) (h3 : decode cc (pc + 4) = .ok (.goto 4, 3)) (h4 : decode cc (pc + 7) = .ok (.lconst 0, 1)) (k : Rn X (pc + 8) lv (.long (bL x) :: rest) P n ce sl) : Rn X pc lv (.int x :: rest) P n ce sl := by
  refine rn_if_eq (tgt := pc + 7) C h1 (by omega) (fun e => ?_) (fun e => ?_)
  · rw [show bL x = 0 from if_pos e] at k
    exact rn_lconst (v := 0) C h4 rfl k
  · rw [show bL x = 1 from if_neg e] at k
    refine rn_lconst (v := 1) C h2 rfl ?_
    exact rn_goto (tgt := pc + 8) C h3 (by omega) k
end LWR
theorem lgc_self (x : Int64) : lg_cmp x x = 0 := by
  unfold lg_cmp
  simp
/-- the script's length less 6 -/
theorem sub6 {N a : Nat} (hN : N ≤ 3072) (ha : a ≤ 4000) : (nI N - nI 6 < nI a) ↔ N < a + 6 := by
  rw [Int32.lt_iff_toInt_lt, Int32.toInt_sub, nI_toInt (by omega), nI_toInt (by omega), nI_toInt (by omega)]
  rw [Int.bmod_eq_of_le (by omega) (by omega)]
  omega
/-- what the law's body stands on -/
def LwH (X : CX) (L : Nat → Option Sh) (b N : Nat) (xs : Nat → Int32) (s4 s2 : Nat) : Prop :=
  OkX X cL_law 7 RL 9 601024 7293033 ∧ va_T .int b N (fun j => .int (xs j)) (fun q => k_b X.1 ≤ q) (x_s X) (k_H X.1) ∧ N ≤ 3072 ∧ SuiteAt X.1 L 0 ∧ ModelAt X.1 L 335 ∧ L 363 = some (sJ 1) ∧ (∀ U, k_F X.1 U → ExS X.1 U) ∧ (∀ U, k_F X.1 U → HsS X.1 U) ∧ StrK X.1 s4 8 lb4 ∧ StrK X.1 s2 32 lb2 ∧ (∀ U, k_F X.1 U → vk_R RX10 98 "SigEd448" s4 U) ∧ (∀ U, k_F X.1 U → vk_R RX10 100 "SigEd25519 no Ed25519 collisions" s2 U)
