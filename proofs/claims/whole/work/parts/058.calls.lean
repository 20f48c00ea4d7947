/-! THE LAYER: methods as functions of the contents -/
abbrev StT : Type := (Nat → Nat → Int32) × (Nat → Nat → Int64) × (Nat → Nat → Int32)
def Pv (k : KX) (L : Nat → Option Sh) (n : Nat) (R : StT) : Outcome → PT → Nat → Prop := fun o P' n' => o = .returned none ∧ P' = inst k L R.1 R.2.1 R.2.2 ∧ n' = n
def Pi (k : KX) (L : Nat → Option Sh) (n : Nat) (R : Int32 × StT) : Outcome → PT → Nat → Prop := fun o P' n' => o = .returned (some (.int R.1)) ∧ P' = inst k L R.2.1 R.2.2.1 R.2.2.2 ∧ n' = n
def Pl (k : KX) (L : Nat → Option Sh) (n : Nat) (R : Int64 × StT) : Outcome → PT → Nat → Prop := fun o P' n' => o = .returned (some (.long R.1)) ∧ P' = inst k L R.2.1 R.2.2.1 R.2.2.2 ∧ n' = n
section PO
variable {k : KX} {L : Nat → Option Sh} {n : Nat} {I : Nat → Nat → Int32} {J : Nat → Nat → Int64} {F : Nat → Nat → Int32}
theorem pv_of {R : StT} (e : R = (I, J, F)) : Pv k L n R (.returned none) (inst k L I J F) n := by subst e; exact ⟨rfl, rfl, rfl⟩
theorem pi_of {R : Int32 × StT} {v : Int32} (e : R = (v, I, J, F)) : Pi k L n R (.returned (some (.int v))) (inst k L I J F) n := by subst e; exact ⟨rfl, rfl, rfl⟩
theorem pl_of {R : Int64 × StT} {v : Int64} (e : R = (v, I, J, F)) : Pl k L n R (.returned (some (.long v))) (inst k L I J F) n := by subst e; exact ⟨rfl, rfl, rfl⟩
end PO
/-- what lcmp leaves -/
def lcm (x y : Int64) : Int32 := if x < y then -1 else if x = y then 0 else 1
/-- a counter that goes down: behind its last turn it is -1 -/
def dn : Nat → Int32
  | 0 => -1
  | j + 1 => nI j
theorem nI_incs (i s : Nat) : nI i + Int32.ofInt (s : Int) = nI (i + s) := by
  have : Int32.ofInt (s : Int) = nI s := rfl
  rw [this]; exact nI_add i s
theorem nI_dec (i : Nat) : nI i + Int32.ofInt (-1) = dn i := by
  cases i with
  | zero => decide
  | succ j => exact pk_m1 j
section LF
variable {X : CX} {cc : ByteArray} {nL : Nat} {own : String} {h mc ms pc : Nat} {lv : List (Nat × Value)} {rest : List Value} {L : Nat → Option Sh} {I : Nat → Nat → Int32} {J : Nat → Nat → Int64} {F : Nat → Nat → Int32} {n ce sl : Nat}
theorem rs_vv {st0 As : List Value} {y : MethodName} {bytes : ByteArray} {maxL na idx h' j ci : Nat} {fs : List (Option Value)} {q : vw_C} {ret : Option FieldType} {R : StT} (C : OkX X cc nL own h mc ms) (hd : decode cc pc = .ok (.invokevirtual idx, 3))
    (M : Mk y bytes maxL ret na) (Lk : Lv own idx y) (hM : Cs X.1 y bytes maxL ret h' 0 0 (.ref (k_b X.1 + j) :: As) (inst X.1 L I J F) n (Pv X.1 L n R)) (hL : L j = some (sO ci fs)) (hq : vwCl[ci]? = some q) (hqy : q.1 = y.cls) (hst : st0 = As.reverse ++ .ref (k_b X.1 + j) :: rest) (hna : As.length = na) (hh : h' < h) (hcat : (rest.map fun v => v.category).sum ≤ 8) (hc : ce ≤ mc) (hs : sl ≤ ms)
    (k : Rn X (pc + 3) lv rest (inst X.1 L R.1 R.2.1 R.2.2) n ce sl) : Rn X pc lv st0 (inst X.1 L I J F) n ce sl :=
  rn_callV C hd M Lk hM (inst_at hL) hq hqy hst hna hh hcat hc hs (fun v P' n' hp => by
    obtain ⟨e1, e2, e3⟩ := hp
    cases e1; subst e2; subst e3
    exact k)
theorem rs_sv {st0 As : List Value} {y : MethodName} {bytes : ByteArray} {maxL na idx h' : Nat} {ret : Option FieldType} {R : StT} (C : OkX X cc nL own h mc ms) (hd : decode cc pc = .ok (.invokestatic idx, 3))
    (M : Mk y bytes maxL ret na) (Lk : Ls own idx y) (hM : Cs X.1 y bytes maxL ret h' 0 0 As (inst X.1 L I J F) n (Pv X.1 L n R)) (hst : st0 = As.reverse ++ rest) (hna : As.length = na) (hh : h' < h) (hcat : (rest.map fun v => v.category).sum ≤ 8) (hc : ce ≤ mc) (hs : sl ≤ ms)
    (k : Rn X (pc + 3) lv rest (inst X.1 L R.1 R.2.1 R.2.2) n ce sl) : Rn X pc lv st0 (inst X.1 L I J F) n ce sl :=
  rn_callS C hd M Lk hM hst hna hh hcat hc hs (fun v P' n' hp => by
    obtain ⟨e1, e2, e3⟩ := hp
    cases e1; subst e2; subst e3
    exact k)
theorem rs_vi {st0 As : List Value} {y : MethodName} {bytes : ByteArray} {maxL na idx h' j ci : Nat} {fs : List (Option Value)} {q : vw_C} {ret : Option FieldType} {R : Int32 × StT} (C : OkX X cc nL own h mc ms) (hd : decode cc pc = .ok (.invokevirtual idx, 3))
    (M : Mk y bytes maxL ret na) (Lk : Lv own idx y) (hM : Cs X.1 y bytes maxL ret h' 0 0 (.ref (k_b X.1 + j) :: As) (inst X.1 L I J F) n (Pi X.1 L n R)) (hL : L j = some (sO ci fs)) (hq : vwCl[ci]? = some q) (hqy : q.1 = y.cls) (hst : st0 = As.reverse ++ .ref (k_b X.1 + j) :: rest) (hna : As.length = na) (hh : h' < h) (hcat : (rest.map fun v => v.category).sum ≤ 8) (hc : ce ≤ mc) (hs : sl ≤ ms)
    (k : Rn X (pc + 3) lv (.int R.1 :: rest) (inst X.1 L R.2.1 R.2.2.1 R.2.2.2) n ce sl) : Rn X pc lv st0 (inst X.1 L I J F) n ce sl :=
  rn_callV C hd M Lk hM (inst_at hL) hq hqy hst hna hh hcat hc hs (fun v P' n' hp => by
    obtain ⟨e1, e2, e3⟩ := hp
    cases e1; subst e2; subst e3
    exact k)
theorem rs_si {st0 As : List Value} {y : MethodName} {bytes : ByteArray} {maxL na idx h' : Nat} {ret : Option FieldType} {R : Int32 × StT} (C : OkX X cc nL own h mc ms) (hd : decode cc pc = .ok (.invokestatic idx, 3))
    (M : Mk y bytes maxL ret na) (Lk : Ls own idx y) (hM : Cs X.1 y bytes maxL ret h' 0 0 As (inst X.1 L I J F) n (Pi X.1 L n R)) (hst : st0 = As.reverse ++ rest) (hna : As.length = na) (hh : h' < h) (hcat : (rest.map fun v => v.category).sum ≤ 8) (hc : ce ≤ mc) (hs : sl ≤ ms)
    (k : Rn X (pc + 3) lv (.int R.1 :: rest) (inst X.1 L R.2.1 R.2.2.1 R.2.2.2) n ce sl) : Rn X pc lv st0 (inst X.1 L I J F) n ce sl :=
  rn_callS C hd M Lk hM hst hna hh hcat hc hs (fun v P' n' hp => by
    obtain ⟨e1, e2, e3⟩ := hp
    cases e1; subst e2; subst e3
    exact k)
theorem rs_vz {st0 As : List Value} {y : MethodName} {bytes : ByteArray} {maxL na idx h' j ci : Nat} {fs : List (Option Value)} {q : vw_C} {ret : Option FieldType} {R : Int32 × StT} (C : OkX X cc nL own h mc ms) (hd : decode cc pc = .ok (.invokevirtual idx, 3))
    (M : Mk y bytes maxL ret na) (Lk : Lv own idx y) (hM : Cs X.1 y bytes maxL ret h' 0 0 (.ref (k_b X.1 + j) :: As) (inst X.1 L I J F) n (Pi X.1 L n R)) (hL : L j = some (sO ci fs)) (hq : vwCl[ci]? = some q) (hqy : q.1 = y.cls) (hst : st0 = As.reverse ++ .ref (k_b X.1 + j) :: rest) (hna : As.length = na) (hh : h' < h) (hcat : (rest.map fun v => v.category).sum ≤ 8) (hc : ce ≤ mc) (hs : sl ≤ ms)
    (k : Rn X (pc + 3) lv (.int R.1 :: rest) (inst X.1 L R.2.1 R.2.2.1 R.2.2.2) n ce sl) : Rn X pc lv st0 (inst X.1 L I J F) n ce sl :=
  rn_callV C hd M Lk hM (inst_at hL) hq hqy hst hna hh hcat hc hs (fun v P' n' hp => by
    obtain ⟨e1, e2, e3⟩ := hp
    cases e1; subst e2; subst e3
    exact k)
theorem rs_sz {st0 As : List Value} {y : MethodName} {bytes : ByteArray} {maxL na idx h' : Nat} {ret : Option FieldType} {R : Int32 × StT} (C : OkX X cc nL own h mc ms) (hd : decode cc pc = .ok (.invokestatic idx, 3))
    (M : Mk y bytes maxL ret na) (Lk : Ls own idx y) (hM : Cs X.1 y bytes maxL ret h' 0 0 As (inst X.1 L I J F) n (Pi X.1 L n R)) (hst : st0 = As.reverse ++ rest) (hna : As.length = na) (hh : h' < h) (hcat : (rest.map fun v => v.category).sum ≤ 8) (hc : ce ≤ mc) (hs : sl ≤ ms)
    (k : Rn X (pc + 3) lv (.int R.1 :: rest) (inst X.1 L R.2.1 R.2.2.1 R.2.2.2) n ce sl) : Rn X pc lv st0 (inst X.1 L I J F) n ce sl :=
  rn_callS C hd M Lk hM hst hna hh hcat hc hs (fun v P' n' hp => by
    obtain ⟨e1, e2, e3⟩ := hp
    cases e1; subst e2; subst e3
    exact k)
theorem rs_vl {st0 As : List Value} {y : MethodName} {bytes : ByteArray} {maxL na idx h' j ci : Nat} {fs : List (Option Value)} {q : vw_C} {ret : Option FieldType} {R : Int64 × StT} (C : OkX X cc nL own h mc ms) (hd : decode cc pc = .ok (.invokevirtual idx, 3))
    (M : Mk y bytes maxL ret na) (Lk : Lv own idx y) (hM : Cs X.1 y bytes maxL ret h' 0 0 (.ref (k_b X.1 + j) :: As) (inst X.1 L I J F) n (Pl X.1 L n R)) (hL : L j = some (sO ci fs)) (hq : vwCl[ci]? = some q) (hqy : q.1 = y.cls) (hst : st0 = As.reverse ++ .ref (k_b X.1 + j) :: rest) (hna : As.length = na) (hh : h' < h) (hcat : (rest.map fun v => v.category).sum ≤ 8) (hc : ce ≤ mc) (hs : sl ≤ ms)
    (k : Rn X (pc + 3) lv (.long R.1 :: rest) (inst X.1 L R.2.1 R.2.2.1 R.2.2.2) n ce sl) : Rn X pc lv st0 (inst X.1 L I J F) n ce sl :=
  rn_callV C hd M Lk hM (inst_at hL) hq hqy hst hna hh hcat hc hs (fun v P' n' hp => by
    obtain ⟨e1, e2, e3⟩ := hp
    cases e1; subst e2; subst e3
    exact k)
theorem rs_sl {st0 As : List Value} {y : MethodName} {bytes : ByteArray} {maxL na idx h' : Nat} {ret : Option FieldType} {R : Int64 × StT} (C : OkX X cc nL own h mc ms) (hd : decode cc pc = .ok (.invokestatic idx, 3))
    (M : Mk y bytes maxL ret na) (Lk : Ls own idx y) (hM : Cs X.1 y bytes maxL ret h' 0 0 As (inst X.1 L I J F) n (Pl X.1 L n R)) (hst : st0 = As.reverse ++ rest) (hna : As.length = na) (hh : h' < h) (hcat : (rest.map fun v => v.category).sum ≤ 8) (hc : ce ≤ mc) (hs : sl ≤ ms)
    (k : Rn X (pc + 3) lv (.long R.1 :: rest) (inst X.1 L R.2.1 R.2.2.1 R.2.2.2) n ce sl) : Rn X pc lv st0 (inst X.1 L I J F) n ce sl :=
  rn_callS C hd M Lk hM hst hna hh hcat hc hs (fun v P' n' hp => by
    obtain ⟨e1, e2, e3⟩ := hp
    cases e1; subst e2; subst e3
    exact k)
end LF
