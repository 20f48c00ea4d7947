/-! PICTURES WITH A FIXED LAYOUT: L says what lies at a place (an object with its unchanging fields, 'none' a field of whole numbers that changes; a row of ints or longs of a length; a row of references); I, J, F are what the rows and the changing fields hold -/
abbrev Sh : Type := (Nat × List (Option Value)) ⊕ ((Nat × Nat) ⊕ (Nat × Nat × (Nat → Option Nat)))
abbrev sO (ci : Nat) (fs : List (Option Value)) : Sh := .inl (ci, fs)
abbrev sI (len : Nat) : Sh := .inr (.inl (0, len))
abbrev sJ (len : Nat) : Sh := .inr (.inl (1, len))
abbrev sA (t len : Nat) (f : Nat → Option Nat) : Sh := .inr (.inr (t, len, f))
def cell (k : KX) (I : Nat → Nat → Int32) (J : Nat → Nat → Int64) (F : Nat → Nat → Int32) (j : Nat) : Sh → va_E
  | .inl (ci, fs) => .inr (ci, fs.mapIdx (fun q o => o.getD (.int (F j q))))
  | .inr (.inl (0, len)) => eI k len (I j)
  | .inr (.inl (_ + 1, len)) => eJ k len (J j)
  | .inr (.inr (t, len, f)) => eA k t len f
def inst (k : KX) (L : Nat → Option Sh) (I : Nat → Nat → Int32) (J : Nat → Nat → Int64) (F : Nat → Nat → Int32) : PT := fun j => (L j).map (cell k I J F j)
theorem inst_at {k : KX} {L : Nat → Option Sh} {I : Nat → Nat → Int32} {J : Nat → Nat → Int64} {F : Nat → Nat → Int32} {j : Nat} {s : Sh} (h : L j = some s) : inst k L I J F j = some (cell k I J F j s) := by unfold inst; rw [h]; rfl
theorem inst_up {k : KX} {L : Nat → Option Sh} {I I' : Nat → Nat → Int32} {J J' : Nat → Nat → Int64} {F F' : Nat → Nat → Int32} {j : Nat} {s : Sh} {e : va_E} (h : L j = some s) (he : cell k I' J' F' j s = e) (hI : ∀ i, i ≠ j → I' i = I i) (hJ : ∀ i, i ≠ j → J' i = J i) (hF : ∀ i, i ≠ j → F' i = F i) : up (inst k L I J F) j e = inst k L I' J' F' := by
  funext i
  by_cases hi : i = j
  · subst hi
    rw [up_s, inst_at h, he]
  · rw [up_n hi]
    unfold inst
    cases L i with
    | none => rfl
    | some s2 =>
      show some (cell k I J F i s2) = some (cell k I' J' F' i s2)
      congr 1
      match s2 with
      | .inl (ci, fs) => unfold cell; rw [hF i hi]
      | .inr (.inl (0, len)) => unfold cell; rw [hI i hi]
      | .inr (.inl (_ + 1, len)) => unfold cell; rw [hJ i hi]
      | .inr (.inr (t, len, f)) => rfl
theorem vu_s {α : Type} {f : Nat → α} {k : Nat} {v : α} : va_up f k v k = v := if_pos rfl
theorem vu_n {α : Type} {f : Nat → α} {k j : Nat} {v : α} (h : j ≠ k) : va_up f k v j = f j := if_neg h
def Ps (k : KX) (L : Nat → Option Sh) (n : Nat) (Φ : Option Value → (Nat → Nat → Int32) → (Nat → Nat → Int64) → (Nat → Nat → Int32) → Prop) : Outcome → PT → Nat → Prop := fun o P' n' => ∃ (v : Option Value) (I : Nat → Nat → Int32) (J : Nat → Nat → Int64) (F : Nat → Nat → Int32), o = .returned v ∧ P' = inst k L I J F ∧ n' = n ∧ Φ v I J F
section LS
variable {X : CX} {cc : ByteArray} {nL : Nat} {own : String} {h mc ms pc : Nat} {lv : List (Nat × Value)} {rest : List Value} {L : Nat → Option Sh} {I : Nat → Nat → Int32} {J : Nat → Nat → Int64} {F : Nat → Nat → Int32} {n ce sl : Nat}
theorem rs_get {j idx ci q : Nat} {fs : List (Option Value)} {v : Value} (C : OkX X cc nL own h mc ms) (hd : decode cc pc = .ok (.getfield idx, 3)) (G : Fl own idx ci q) (hL : L j = some (sO ci fs)) (hv : fs[q]? = some (some v)) (k : Rn X (pc + 3) lv (v :: rest) (inst X.1 L I J F) n ce sl) : Rn X pc lv (.ref (k_b X.1 + j) :: rest) (inst X.1 L I J F) n ce sl :=
  rn_get C hd G (inst_at hL) (by rw [List.getElem?_mapIdx, hv]; rfl) k
theorem rs_getF {j idx ci q : Nat} {fs : List (Option Value)} (C : OkX X cc nL own h mc ms) (hd : decode cc pc = .ok (.getfield idx, 3)) (G : Fl own idx ci q) (hL : L j = some (sO ci fs)) (hv : fs[q]? = some none) (k : Rn X (pc + 3) lv (.int (F j q) :: rest) (inst X.1 L I J F) n ce sl) : Rn X pc lv (.ref (k_b X.1 + j) :: rest) (inst X.1 L I J F) n ce sl :=
  rn_get C hd G (inst_at hL) (by rw [List.getElem?_mapIdx, hv]; rfl) k
theorem rs_putF {j idx ci q : Nat} {fs : List (Option Value)} {x : Int32} (C : OkX X cc nL own h mc ms) (hd : decode cc pc = .ok (.putfield idx, 3)) (G : Fp own idx ci q .int false) (hL : L j = some (sO ci fs)) (hv : fs[q]? = some none) (k : Rn X (pc + 3) lv rest (inst X.1 L I J (va_up F j (upd (F j) q x))) n ce sl) : Rn X pc lv (.int x :: .ref (k_b X.1 + j) :: rest) (inst X.1 L I J F) n ce sl := by
  have hq : q < fs.length := (List.getElem?_eq_some_iff.mp hv).1
  refine rn_put C hd G (inst_at hL) rfl rfl (by rw [List.length_mapIdx]; exact hq) ?_
  rw [inst_up (I' := I) (J' := J) (F' := va_up F j (upd (F j) q x)) hL ?_ (fun _ _ => rfl) (fun _ _ => rfl) (fun i hi => vu_n hi)]
  · exact k
  · show Sum.inr (ci, _) = Sum.inr (ci, _)
    congr 2
    apply List.ext_getElem?
    intro i
    rw [List.getElem?_mapIdx, List.getElem?_set, List.getElem?_mapIdx, vu_s]
    by_cases hi : q = i
    · subst hi
      rw [if_pos rfl, if_pos (by rw [List.length_mapIdx]; exact hq), hv]
      show some (Value.int (upd (F j) q x q)) = _
      rw [pk_us]
    · rw [if_neg hi]
      cases fs[i]? with
      | none => rfl
      | some o =>
        cases o with
        | some v => rfl
        | none =>
          show some (Value.int (upd (F j) q x i)) = some (Value.int (F j i))
          rw [pk_un (fun e => hi e.symm)]
theorem rs_laload {j len q : Nat} {i : Int32} (C : OkX X cc nL own h mc ms) (hd : decode cc pc = .ok (.laload, 1)) (hL : L j = some (sJ len)) (hi : i = nI q) (hq : q < len) (hlen : len < 2 ^ 31) (k : Rn X (pc + 1) lv (.long (J j q) :: rest) (inst X.1 L I J F) n ce sl) : Rn X pc lv (.int i :: .ref (k_b X.1 + j) :: rest) (inst X.1 L I J F) n ce sl := rn_laload C hd (inst_at hL) hi hq hlen k
theorem rs_iaload {j len q : Nat} {i : Int32} (C : OkX X cc nL own h mc ms) (hd : decode cc pc = .ok (.iaload, 1)) (hL : L j = some (sI len)) (hi : i = nI q) (hq : q < len) (hlen : len < 2 ^ 31) (k : Rn X (pc + 1) lv (.int (I j q) :: rest) (inst X.1 L I J F) n ce sl) : Rn X pc lv (.int i :: .ref (k_b X.1 + j) :: rest) (inst X.1 L I J F) n ce sl := rn_iaload C hd (inst_at hL) hi hq hlen k
theorem rs_aaload {j len q t a : Nat} {D : String} {f : Nat → Option Nat} {i : Int32} (C : OkX X cc nL own h mc ms) (hd : decode cc pc = .ok (.aaload, 1)) (hL : L j = some (sA t len f)) (ht : (k_ty X.1)[t]? = some (k_c X.1 t, .object D)) (hi : i = nI q) (hq : q < len) (hlen : len < 2 ^ 31) (hf : f q = some a) (k : Rn X (pc + 1) lv (.ref a :: rest) (inst X.1 L I J F) n ce sl) : Rn X pc lv (.int i :: .ref (k_b X.1 + j) :: rest) (inst X.1 L I J F) n ce sl := rn_aaload C hd (inst_at hL) ht hi hq hlen hf k
theorem rs_alenJ {j len : Nat} (C : OkX X cc nL own h mc ms) (hd : decode cc pc = .ok (.arraylength, 1)) (hL : L j = some (sJ len)) (k : Rn X (pc + 1) lv (.int (nI len) :: rest) (inst X.1 L I J F) n ce sl) : Rn X pc lv (.ref (k_b X.1 + j) :: rest) (inst X.1 L I J F) n ce sl := rn_alen (t := 1) C hd (inst_at hL) rfl rfl k
theorem rs_alenI {j len : Nat} (C : OkX X cc nL own h mc ms) (hd : decode cc pc = .ok (.arraylength, 1)) (hL : L j = some (sI len)) (k : Rn X (pc + 1) lv (.int (nI len) :: rest) (inst X.1 L I J F) n ce sl) : Rn X pc lv (.ref (k_b X.1 + j) :: rest) (inst X.1 L I J F) n ce sl := rn_alen (t := 0) C hd (inst_at hL) rfl rfl k
theorem rs_lastore {j len q : Nat} {i : Int32} {x : Int64} (C : OkX X cc nL own h mc ms) (hd : decode cc pc = .ok (.lastore, 1)) (hL : L j = some (sJ len)) (hi : i = nI q) (hq : q < len) (hlen : len < 2 ^ 31) (k : Rn X (pc + 1) lv rest (inst X.1 L I (va_up J j (vp_updL (J j) q x)) F) n ce sl) : Rn X pc lv (.long x :: .int i :: .ref (k_b X.1 + j) :: rest) (inst X.1 L I J F) n ce sl := by
  refine rn_lastore C hd (inst_at hL) hi hq hlen ?_
  rw [inst_up (I' := I) (J' := va_up J j (vp_updL (J j) q x)) (F' := F) hL (by show eJ _ _ (va_up J j _ j) = _; rw [vu_s]) (fun _ _ => rfl) (fun i hi => vu_n hi) (fun _ _ => rfl)]
  exact k
theorem rs_iastore {j len q : Nat} {i x : Int32} (C : OkX X cc nL own h mc ms) (hd : decode cc pc = .ok (.iastore, 1)) (hL : L j = some (sI len)) (hi : i = nI q) (hq : q < len) (hlen : len < 2 ^ 31) (k : Rn X (pc + 1) lv rest (inst X.1 L (va_up I j (upd (I j) q x)) J F) n ce sl) : Rn X pc lv (.int x :: .int i :: .ref (k_b X.1 + j) :: rest) (inst X.1 L I J F) n ce sl := by
  refine rn_iastore C hd (inst_at hL) hi hq hlen ?_
  rw [inst_up (I' := va_up I j (upd (I j) q x)) (J' := J) (F' := F) hL (by show eI _ _ (va_up I j _ j) = _; rw [vu_s]) (fun i hi => vu_n hi) (fun _ _ => rfl) (fun _ _ => rfl)]
  exact k
theorem rs_callV {st0 As : List Value} {y : MethodName} {bytes : ByteArray} {maxL na idx h' j ci : Nat} {fs : List (Option Value)} {q : vw_C} {ret : Option FieldType} {Φ : Option Value → (Nat → Nat → Int32) → (Nat → Nat → Int64) → (Nat → Nat → Int32) → Prop} (C : OkX X cc nL own h mc ms) (hd : decode cc pc = .ok (.invokevirtual idx, 3))
    (M : Mk y bytes maxL ret na) (Lk : Lv own idx y) (hM : Cs X.1 y bytes maxL ret h' 0 0 (.ref (k_b X.1 + j) :: As) (inst X.1 L I J F) n (Ps X.1 L n Φ)) (hL : L j = some (sO ci fs)) (hq : vwCl[ci]? = some q) (hqy : q.1 = y.cls) (hst : st0 = As.reverse ++ .ref (k_b X.1 + j) :: rest) (hna : As.length = na) (hh : h' < h) (hcat : (rest.map fun v => v.category).sum ≤ 8) (hc : ce ≤ mc) (hs : sl ≤ ms)
    (k : ∀ v I' J' F', Φ v I' J' F' → Rn X (pc + 3) lv (v.toList ++ rest) (inst X.1 L I' J' F') n ce sl) : Rn X pc lv st0 (inst X.1 L I J F) n ce sl :=
  rn_callV C hd M Lk hM (inst_at hL) hq hqy hst hna hh hcat hc hs (fun v P' n' hp => by
    obtain ⟨v2, I', J', F', e1, e2, e3, hΦ⟩ := hp
    cases e1; subst e2; subst e3
    exact k v I' J' F' hΦ)
theorem rs_callS {st0 As : List Value} {y : MethodName} {bytes : ByteArray} {maxL na idx h' : Nat} {ret : Option FieldType} {Φ : Option Value → (Nat → Nat → Int32) → (Nat → Nat → Int64) → (Nat → Nat → Int32) → Prop} (C : OkX X cc nL own h mc ms) (hd : decode cc pc = .ok (.invokestatic idx, 3))
    (M : Mk y bytes maxL ret na) (Lk : Ls own idx y) (hM : Cs X.1 y bytes maxL ret h' 0 0 As (inst X.1 L I J F) n (Ps X.1 L n Φ)) (hst : st0 = As.reverse ++ rest) (hna : As.length = na) (hh : h' < h) (hcat : (rest.map fun v => v.category).sum ≤ 8) (hc : ce ≤ mc) (hs : sl ≤ ms)
    (k : ∀ v I' J' F', Φ v I' J' F' → Rn X (pc + 3) lv (v.toList ++ rest) (inst X.1 L I' J' F') n ce sl) : Rn X pc lv st0 (inst X.1 L I J F) n ce sl :=
  rn_callS C hd M Lk hM hst hna hh hcat hc hs (fun v P' n' hp => by
    obtain ⟨v2, I', J', F', e1, e2, e3, hΦ⟩ := hp
    cases e1; subst e2; subst e3
    exact k v I' J' F' hΦ)
/-- a branch on small numbers -/
theorem rs_ge {P : PT} {x y : Int32} {off : Int} {tgt a b : Nat} (C : OkX X cc nL own h mc ms) (hd : decode cc pc = .ok (.if_icmp .ge off, 3)) (ht : (pc : Int) + off = (tgt : Int)) (hx : x = nI a) (hy : y = nI b) (ha : a < 2 ^ 31) (hb : b < 2 ^ 31) (kt : b ≤ a → Rn X tgt lv rest P n ce sl) (kf : a < b → Rn X (pc + 3) lv rest P n ce sl) : Rn X pc lv (.int y :: .int x :: rest) P n ce sl :=
  rn_icmp_ge C hd ht (fun c => kt ((nI_leI hb ha).mp (by rw [← hx, ← hy]; exact c))) (fun c => kf (Nat.not_le.mp (fun q => c (by rw [hx, hy]; exact (nI_leI hb ha).mpr q))))
/-- a loop that counts up -/
theorem up_to {σ : Type} (G : Nat → σ → Prop) (Iv : Nat → σ → Prop) (e : Nat) (hx : ∀ s, Iv e s → G e s) (hs : ∀ i s, i < e → Iv i s → (∀ s', Iv (i + 1) s' → G (i + 1) s') → G i s) : ∀ i s, i ≤ e → Iv i s → G i s := by
  intro i
  generalize hm : e - i = m
  induction m generalizing i with
  | zero =>
    intro s hi hI
    have : i = e := by omega
    subst this
    exact hx s hI
  | succ m ih =>
    intro s hi hI
    exact hs i s (by omega) hI (fun s' hI' => ih (i + 1) (by omega) s' (by omega) hI')
end LS
