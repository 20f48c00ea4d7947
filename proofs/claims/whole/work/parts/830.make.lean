/-! MAKING: rules for new objects and rows, and layouts that grow -/
theorem ac_int : Cond.arrayClass .int ∈ gw := wt 56 (by decide +kernel) (by decide +kernel)
theorem ac_long : Cond.arrayClass .long ∈ gw := wt 83 (by decide +kernel) (by decide +kernel)
/-- a new object: the number of its kind, its first contents -/
def Nw (own : String) (idx ci N : Nat) (fs : List Value) : Prop := ∃ (C : String) (T : u_T) (ty : Nat → FieldType), vwCl[ci]? = some (C, T, N) ∧ (Cond.classLink own idx C ∈ gw ∧ Cond.instantiable C N ∈ gw ∧ Cond.initialized C ∈ gw) ∧ (∀ w ∈ u_ws C T N, w ∈ gw) ∧ (∀ k, k < N → parseFieldDescriptor (T k).2.2.1 = some (ty k)) ∧ ∀ j, j < N → defaultValue (ty j) = vp_V fs j
/-- what the tables say of rows of references -/
def ArS (U : State) : Prop := va_AO RX0 U ∧ va_AO RX1 U ∧ va_AO RX5 U ∧ va_AO RX6 U ∧ va_AO RX10 U
section LN
variable {X : CX} {cc : ByteArray} {nL : Nat} {own : String} {h mc ms pc : Nat} {lv : List (Nat × Value)} {rest : List Value} {P : PT} {n ce sl : Nat}
theorem rn_newJ {i : Int32} {len : Nat} (C : OkX X cc nL own h mc ms) (hd : decode cc pc = .ok (.newarray .long, 2)) (hi : i = nI len) (hlen : len < 2 ^ 20) (hc : ce + 1 ≤ mc) (hs : sl + len ≤ ms) (k : Rn X (pc + 2) lv (.ref (k_b X.1 + n) :: rest) (up P n (eJ X.1 len (fun _ => 0))) (n + 1) (ce + 1) (sl + len)) : Rn X pc lv (.int i :: rest) P n ce sl := by
  intro H ls locs hH hl ho
  have hts := C.2.2.2.2.2.1
  have hR : x_R X = rmv h mc ms := C.2.2.2.2.2.2.2.2.1
  refine va_newaK (N := len) C.1 C.2.1 (atype := .long) (hts _ ac_long) rfl hd rfl (by rw [hi]; exact nI_pos (by omega)) (by rw [hi]; exact nI_clamp (by omega)) (by show len * 8 ≤ 536870912; omega) (by rw [hR]; exact hc) (by rw [hR]; exact hs) (h := k_b X.1 + n) hH.1 (fun H1 cA e1 z1 o1 hA hN => ?_)
  have hcA : cA = k_c X.1 1 := Option.some.inj (hN.symm.trans (C.2.2.2.2.2.2.1.1.2 1 _ rfl).2)
  rw [hcA] at e1
  exact k H1 ls locs (hp_new hH e1 (by rw [z1, hH.1]) (fun q hq => o1 q (by rw [hH.1] at hq; exact hq))) hl ho
theorem rn_newI {i : Int32} {len : Nat} (C : OkX X cc nL own h mc ms) (hd : decode cc pc = .ok (.newarray .int, 2)) (hi : i = nI len) (hlen : len < 2 ^ 20) (hc : ce + 1 ≤ mc) (hs : sl + len ≤ ms) (k : Rn X (pc + 2) lv (.ref (k_b X.1 + n) :: rest) (up P n (eI X.1 len (fun _ => 0))) (n + 1) (ce + 1) (sl + len)) : Rn X pc lv (.int i :: rest) P n ce sl := by
  intro H ls locs hH hl ho
  have hts := C.2.2.2.2.2.1
  have hR : x_R X = rmv h mc ms := C.2.2.2.2.2.2.2.2.1
  refine va_newaK (N := len) C.1 C.2.1 (atype := .int) (hts _ ac_int) rfl hd rfl (by rw [hi]; exact nI_pos (by omega)) (by rw [hi]; exact nI_clamp (by omega)) (by show len * 4 ≤ 536870912; omega) (by rw [hR]; exact hc) (by rw [hR]; exact hs) (h := k_b X.1 + n) hH.1 (fun H1 cA e1 z1 o1 hA hN => ?_)
  have hcA : cA = k_c X.1 0 := Option.some.inj (hN.symm.trans (C.2.2.2.2.2.2.1.1.2 0 _ rfl).2)
  rw [hcA] at e1
  exact k H1 ls locs (hp_new hH e1 (by rw [z1, hH.1]) (fun q hq => o1 q (by rw [hH.1] at hq; exact hq))) hl ho
theorem rn_newA {i : Int32} {len t idx : Nat} {D : String} (C : OkX X cc nL own h mc ms) (hd : decode cc pc = .ok (.anewarray idx, 3)) (hw : Cond.classLink own idx D ∈ gw) (hO : va_AO D (x_s X)) (ht : (k_ty X.1)[t]? = some (k_c X.1 t, .object D)) (hi : i = nI len) (hlen : len < 2 ^ 20) (hc : ce + 1 ≤ mc) (hs : sl + len ≤ ms) (k : Rn X (pc + 3) lv (.ref (k_b X.1 + n) :: rest) (up P n (eA X.1 t len (fun _ => none))) (n + 1) (ce + 1) (sl + len)) : Rn X pc lv (.int i :: rest) P n ce sl := by
  intro H ls locs hH hl ho
  have hts := C.2.2.2.2.2.1
  have hR : x_R X = rmv h mc ms := C.2.2.2.2.2.2.2.2.1
  have e : i.toNatClampNeg = len := by rw [hi]; exact nI_clamp (by omega)
  refine W.anew C.1 C.2.1 C.2.2.2.2.1 (hts _ hw) (va_AO.use hO) rfl hd rfl (by rw [hi]; exact nI_pos (by omega)) (by rw [e]; omega) (by rw [hR]; exact hc) (by rw [e, hR]; exact hs) (fun cA kA comp f1 f2 f3 f4 => ?_)
  rw [e]
  obtain ⟨kA', comp', k1, k2, k3, k4⟩ := (C.2.2.2.2.2.2.1.1.2 t _ ht).2
  have hcA : cA = k_c X.1 t := Option.some.inj (f1.symm.trans k4)
  have hz : H.size = k_b X.1 + n := hH.1
  have e1 : (H.push ({ cls := cA, slots := Array.replicate len .null, vm := .none } : Cell))[k_b X.1 + n]? = some (vp_cell (k_c X.1 t) (len, .inr (.inr (.inr (.inr (fun _ => none)))))) := by
    rw [← hz, Array.getElem?_push_size, vp_cell_q, ← hcA]
    exact congrArg some (arrV_new cA len .null)
  have k' := k (H.push ({ cls := cA, slots := Array.replicate len .null, vm := .none } : Cell)) ls locs (hp_new hH e1 (by rw [Array.size_push]) (fun q hq => by rw [Array.getElem?_push, if_neg (Nat.ne_of_lt hq)])) hl ho
  rw [hz]
  exact k'
theorem rn_new {idx ci N : Nat} {fs : List Value} (C : OkX X cc nL own h mc ms) (hd : decode cc pc = .ok (.new idx, 3)) (hN : Nw own idx ci N fs) (hc : ce + 1 ≤ mc) (hs : sl + N ≤ ms) (k : Rn X (pc + 3) lv (.ref (k_b X.1 + n) :: rest) (up P n (.inr (ci, fs))) (n + 1) (ce + 1) (sl + N)) : Rn X pc lv rest P n ce sl := by
  intro H ls locs hH hl ho
  have hts := C.2.2.2.2.2.1
  have hR : x_R X = rmv h mc ms := C.2.2.2.2.2.2.2.2.1
  obtain ⟨C0, T, ty, hcl, ⟨w1, w2, w3⟩, hin, hty, hfs⟩ := hN
  have hKn := C.2.2.2.2.2.2.1.1.1 ci _ hcl
  refine W.newcK C.1 C.2.1 C.2.2.2.2.1 (hts _ w1) (hts _ w2) (hts _ w3) rfl hd (by rw [hR]; exact hc) (by rw [hR]; exact hs) hKn.2.1 (h := k_b X.1 + n) hH.1 (fun H1 kC hkC e1 z1 o1 => ?_)
  exact k H1 ls locs (hp_new hH ⟨_, hcl, (u_born ty hts hin hKn hkC e1 hty).to hfs⟩ (by rw [z1, hH.1]) (fun q hq => o1 q (by rw [hH.1] at hq; exact hq))) hl ho
/-- a final field, in the maker of its object -/
theorem rn_putI {j idx ci q : Nat} {fs : List Value} {v : Value} {ty : FieldType} (C : OkX X cc nL own h mc ms) (hI : InX X) (hd : decode cc pc = .ok (.putfield idx, 3)) (F : Fp own idx ci q ty true) (hP : P j = some (.inr (ci, fs))) (hn : narrow ty v = v) (hfit : fits ty v = true) (hlen : q < fs.length) (k : Rn X (pc + 3) lv rest (up P j (.inr (ci, fs.set q v))) n ce sl) : Rn X pc lv (v :: .ref (k_b X.1 + j) :: rest) P n ce sl := by
  intro H ls locs hH hl ho
  obtain ⟨D, T, N, ty0, hc, hk, h3, hin, hty, hnm, hfin, hdecl, hdd⟩ := F
  have hK := C.2.2.2.2.2.2.1.1
  have hts := C.2.2.2.2.2.1
  have hap := va_apart (own := own) hts hin ty0 hty hnm hK hc
  obtain ⟨r, h1, cell, q1, q2, q3, q4⟩ := hH.2.2 j _ hP
  have hr : r = (D, T, N) := Option.some.inj (h1.symm.trans hc)
  subst hr
  obtain ⟨hS, hfc, kC, hkC, hkind⟩ := hK.1 ci _ hc
  obtain ⟨cf, kf, fi, f, hi, hsl⟩ := hS q hk
  have hlay := hts _ (hin _ (u_in_lay hk))
  unfold u_lay at hlay
  rw [if_pos hfin] at hlay
  have hst := (u_facts hfc hkC (u_lays hts hin hk) hi).1
  have hcf : (x_m X).cls = cf := by
    obtain ⟨_, _, c', _, _, _, -, -, hf', -, -, -, hown2, -⟩ := Cond.laysFinal_spec hlay
    have e1 : c' = cf := by have := hi.symm.trans hf'; simp at this; exact this.1.symm
    rw [hdecl rfl] at hown2
    rw [← e1]; exact Option.some.inj (C.2.2.2.2.1.symm.trans hown2)
  have h6 := u_fits hfc hkC hkind (Or.inr hlay) hi hdd hn hfit
  refine W.putFinK C.1 C.2.1 C.2.2.2.2.1 (hts _ h3) hi hst hcf hI (by rw [q2]; exact h6) q1 q3 (by rw [hsl]; exact k2_hasslot (q4 q hk)) rfl rfl hd fun H' e1 e2 e3 => ?_
  rw [hsl] at e1 ⊢
  refine k H' ls _ (hp_set hH ⟨_, hc, t_OB.to (V := updV (vp_V fs) q v) ⟨_, e1, q2, q3, t_set q4 hap hk v⟩ (fun j _ => vp_updV_set hlen v j)⟩ e2 e3) hl (fun z hz => ?_)
  rcases List.mem_append.mp hz with g | g
  · exact ho z g
  · rw [List.mem_singleton.mp g]; exact Nat.le_add_right _ _
theorem rn_aast {j jv len q t ci : Nat} {r : vw_C} {vs : List Value} {f : Nat → Option Nat} {i : Int32} (C : OkX X cc nL own h mc ms) (hd : decode cc pc = .ok (.aastore, 1)) (hP : P j = some (eA X.1 t len f)) (ht : (k_ty X.1)[t]? = some (k_c X.1 t, .object r.1)) (hv : P jv = some (.inr (ci, vs))) (hc : vwCl[ci]? = some r) (hi : i = nI q) (hq : q < len) (hlen : len < 2 ^ 31) (k : Rn X (pc + 1) lv rest (up P j (eA X.1 t len (va_up f q (some (k_b X.1 + jv))))) n ce sl) : Rn X pc lv (.ref (k_b X.1 + jv) :: .int i :: .ref (k_b X.1 + j) :: rest) P n ce sl := by
  intro H ls locs hH hl ho
  have e : i.toNatClampNeg = q := by rw [hi]; exact nI_clamp (by omega)
  have hin := nI_ix hi hq hlen
  have h0 : ¬ i < 0 := fun q => hin (Or.inl q)
  have hK := C.2.2.2.2.2.2.1.1
  obtain ⟨r', hr', cellV, g1, g2, g3, -⟩ := hH.2.2 jv _ hv
  have hcls := (hK.1 ci r hc).2
  obtain ⟨kA, comp, k1, k2, k3, -⟩ := (hK.2 t _ ht).2
  have hcomp : comp = (k_D X.1).1 ci := Option.some.inj (k3.symm.trans hcls.1)
  subst hcomp
  obtain ⟨kC, hkC, -⟩ := hcls.2
  refine W.aast C.1 C.2.1 (hH.2.2 j _ hP) (fun q h => by cases h) (fun h => by cases h) k1 k2 rfl hkC ⟨h0, by show _ < (arrV _ _ _).slots.size; rw [arrV_size, e]; exact hq⟩ g1 (fun q h => by rw [g3] at h; cases h) (by rw [g2]; exact hkC) (by rw [g2]; exact va_assign hcls) rfl rfl hd fun H1 e1 z oq => ?_
  refine k H1 ls _ (hp_set hH ?_ z oq) hl (fun z hz => ?_)
  · show H1[_]? = some (vp_cell _ _)
    rw [e1, e]
    rw [vp_cell_q, vp_cell_q, arrV_store]
    congr 2
    funext x
    by_cases hx : x = q
    · subst hx
      simp [updV, va_up, va_rf]
    · simp [updV, va_up, hx]
  · rcases List.mem_append.mp hz with g | g
    · exact ho z g
    · rw [List.mem_singleton.mp g]; exact Nat.le_add_right _ _
theorem rn_objI {idx a : Nat} (C : OkX X cc nL own h mc ms) (hd : decode cc pc = .ok (.invokespecial idx, 3)) (hw : Cond.methodLink own idx Lib.objectInit ∈ gw ∧ Cond.instanceMethod Lib.objectInit ∈ gw ∧ Cond.code Lib.objectInit ⟨#[0xb1]⟩ 1 none ∈ gw) (hh : 1 ≤ h) (hcat : (rest.map fun v => v.category).sum ≤ 8) (k : Rn X (pc + 3) lv rest P n ce sl) : Rn X pc lv (.ref a :: rest) P n ce sl := by
  intro H ls locs hH hl ho
  have hts := C.2.2.2.2.2.1
  have hR : x_R X = rmv h mc ms := C.2.2.2.2.2.2.2.2.1
  exact W.objInit C.1 C.2.1 C.2.2.2.2.1 (hts _ hw.1) (hts _ hw.2.1) (hts _ hw.2.2) rfl (by show ls.size = _; rw [hl.1, C.2.2.1, C.2.2.2.1]) rfl hd (by rw [hR]; exact hh) (by rw [hR]; show 2 * 0 + _ + 12 ≤ 45 * h; omega) (k H ls locs hH hl ho)
theorem rn_aret {Post : Outcome → PT → Nat → Prop} {a : Nat} {rt : FieldType} (C : OkX X cc nL own h mc ms) (Rt : RetX X (some rt) mc ms Post) (hrt : (∃ n, rt = .object n) ∨ ∃ t, rt = .array t) (hd : decode cc pc = .ok (.areturn, 1)) (hp : Post (.returned (some (.ref a))) P n) (hc : ce ≤ mc) (hs : sl ≤ ms) : Rn X pc lv [.ref a] P n ce sl := by
  intro H ls locs hH hl ho
  refine W.widen hc hs ?_
  show W _ _ _ _ _ _ _ _ _ _ _ _ _ _ (x_Q X) _
  rw [Rt.2]
  exact W.aret C.1 C.2.1 Rt.1 hrt (Or.inr ⟨a, rfl⟩) (fun t ht hW => ⟨P, n, hp, ok_wd C hH ht hW⟩) ho hd (hlocks := C.2.2.2.2.2.2.2.2.2)
/-- a maker of a nest mate -/
theorem rn_callIN {st0 As : List Value} {y : MethodName} {bytes : ByteArray} {maxL na idx h' mc' ms' a : Nat} {host : String} {Post : Outcome → PT → Nat → Prop} (C : OkX X cc nL own h mc ms) (hd : decode cc pc = .ok (.invokespecial idx, 3))
    (M : Mk y bytes maxL none na) (L : va_Nw (.methodLinkNest own idx y host) (x_s X) ∧ Cond.instanceMethod y ∈ gw ∧ y.name = "<init>") (hM : Cs X.1 y bytes maxL none h' mc' ms' (.ref a :: As) P n Post) (hst : st0 = As.reverse ++ .ref a :: rest) (hna : As.length = na) (hh : h' < h) (hcat : (rest.map fun v => v.category).sum ≤ 8) (hc : ce + mc' ≤ mc) (hs : sl + ms' ≤ ms)
    (k : ∀ (v : Option Value) (P' : PT) (n' : Nat), Post (.returned v) P' n' → Rn X (pc + 3) lv (v.toList ++ rest) P' n' (ce + mc') (sl + ms')) : Rn X pc lv st0 P n ce sl := by
  refine rn_run (y := y) (ret := none) (h' := h') (free := fun _ => True) (As := (Value.ref a :: As).toArray) (fun H ls locs hH hl => ?_) k
  have hts := C.2.2.2.2.2.1
  have hR : x_R X = rmv h mc ms := C.2.2.2.2.2.2.2.2.1
  have hlo : 8 + (maxL + 11) + 45 * h' ≤ 45 * h := by have := M.2.2.2; omega
  exact va_runIN (Ts := gw) (own := own) (b := a) (host := host) (g := F0 (x_m X) pc ls st0) ⟨C.1, C.2.1, rfl, C.2.2.2.2.1, hts⟩ hM ⟨va_cnB na hts (goodIn_gw M.1) rfl rfl rfl L.1 (hts _ M.2.1) M.2.2.1 (by rw [hR]; exact ⟨hh, hlo⟩), L.2.2, hts _ L.2.1⟩ ⟨wd_blind, fun U hU hW => ⟨rfl, ok_wd C hH hU hW⟩⟩ rfl hna (by show ls.size = _; rw [hl.1, C.2.2.1, C.2.2.2.1]) hst (lv_room (rest := st0) hcat) hd (by rw [hR]; exact ⟨hc, hs⟩)
end LN
/-- a layout that ends in a list: what lies at j, j + 1, .. -/
def lay (L : Nat → Option Sh) (j : Nat) (l : List Sh) : Nat → Option Sh := fun i => if i < j then L i else l[i - j]?
theorem lay_lt {L : Nat → Option Sh} {j i : Nat} {l : List Sh} (h : i < j) : lay L j l i = L i := if_pos h
theorem lay_at (L : Nat → Option Sh) (j q : Nat) (l : List Sh) : lay L j l (j + q) = l[q]? := by
  unfold lay
  rw [if_neg (by omega), Nat.add_sub_cancel_left]
theorem lay_0 (L : Nat → Option Sh) (j : Nat) (l : List Sh) : lay L j l j = l[0]? := lay_at L j 0 l
theorem lay_lay (L : Nat → Option Sh) (j m : Nat) (l1 l2 : List Sh) (h : l1.length = m) : lay (lay L j l1) (j + m) l2 = lay L j (l1 ++ l2) := by
  funext i
  unfold lay
  by_cases h1 : i < j
  · rw [if_pos (by omega), if_pos h1, if_pos h1]
  · rw [if_neg h1, if_neg h1]
    by_cases h2 : i < j + m
    · rw [if_pos h2, List.getElem?_append_left (by omega)]
    · rw [if_neg h2, List.getElem?_append_right (by omega)]
      congr 1
      omega
theorem inst_new {k : KX} {L L' : Nat → Option Sh} {I I' : Nat → Nat → Int32} {J J' : Nat → Nat → Int64} {F F' : Nat → Nat → Int32} {j : Nat} {s : Sh} {e : va_E} (hL : ∀ i, i ≠ j → L' i = L i) (h : L' j = some s) (he : cell k I' J' F' j s = e) (hI : ∀ i, i ≠ j → I' i = I i) (hJ : ∀ i, i ≠ j → J' i = J i) (hF : ∀ i, i ≠ j → F' i = F i) : up (inst k L I J F) j e = inst k L' I' J' F' := by
  funext i
  by_cases hi : i = j
  · subst hi
    rw [up_s, inst_at h, he]
  · rw [up_n hi]
    unfold inst
    rw [hL i hi]
    cases L i with
    | none => rfl
    | some s2 =>
      show some (cell k I J F i s2) = some (cell k I' J' F' i s2)
      congr 1
      match s2 with
      | .inl (ci, fs) => unfold cell; rw [hF i hi]
      | .inr (.inl (0, len)) => unfold cell; rw [hI i hi]
      | .inr (.inl (_ + 1, len)) => unfold cell; rw [hJ i hi]
      | .inr (.inr (t, len, f)) => rfl
theorem lay_push (L : Nat → Option Sh) (j m : Nat) (l : List Sh) (s : Sh) (h : l.length = m) : (∀ i, i ≠ j + m → lay L j (l ++ [s]) i = lay L j l i) ∧ lay L j (l ++ [s]) (j + m) = some s := by
  refine ⟨fun i hi => ?_, ?_⟩
  · unfold lay
    by_cases h1 : i < j
    · rw [if_pos h1, if_pos h1]
    · rw [if_neg h1, if_neg h1]
      by_cases h2 : i - j < m
      · rw [List.getElem?_append_left (by omega)]
      · rw [List.getElem?_append_right (by omega), List.getElem?_eq_none (by simp; omega), List.getElem?_eq_none (by omega)]
  · rw [lay_at, List.getElem?_append_right (by omega), h, Nat.sub_self]
    rfl
theorem lay_set (L : Nat → Option Sh) (j q : Nat) (l : List Sh) (s : Sh) (h : q < l.length) : (∀ i, i ≠ j + q → lay L j (l.set q s) i = lay L j l i) ∧ lay L j (l.set q s) (j + q) = some s := by
  refine ⟨fun i hi => ?_, ?_⟩
  · unfold lay
    by_cases h1 : i < j
    · rw [if_pos h1, if_pos h1]
    · rw [if_neg h1, if_neg h1, List.getElem?_set, if_neg (by omega)]
  · rw [lay_at, List.getElem?_set, if_pos rfl, if_pos h]
section LNS
variable {X : CX} {cc : ByteArray} {nL : Nat} {own : String} {h mc ms pc : Nat} {lv : List (Nat × Value)} {rest : List Value} {L : Nat → Option Sh} {I : Nat → Nat → Int32} {J : Nat → Nat → Int64} {F : Nat → Nat → Int32} {j m ce sl : Nat} {l l' : List Sh}
theorem ls_newJ {i : Int32} {len : Nat} (C : OkX X cc nL own h mc ms) (hd : decode cc pc = .ok (.newarray .long, 2)) (hm : l.length = m) (hl' : l ++ [sJ len] = l') (hz : J (j + m) = fun _ => 0) (hi : i = nI len) (hlen : len < 2 ^ 20) (hc : ce + 1 ≤ mc) (hs : sl + len ≤ ms) (k : Rn X (pc + 2) lv (.ref (k_b X.1 + (j + m)) :: rest) (inst X.1 (lay L j l') I J F) (j + m + 1) (ce + 1) (sl + len)) : Rn X pc lv (.int i :: rest) (inst X.1 (lay L j l) I J F) (j + m) ce sl := by
  subst hl'
  refine rn_newJ C hd hi hlen hc hs ?_
  obtain ⟨a1, a2⟩ := lay_push L j m l (sJ len) hm
  rw [inst_new (I' := I) (J' := J) (F' := F) a1 a2 (by show eJ _ _ (J (j + m)) = _; rw [hz]) (fun _ _ => rfl) (fun _ _ => rfl) (fun _ _ => rfl)]
  exact k
theorem ls_newI {i : Int32} {len : Nat} (C : OkX X cc nL own h mc ms) (hd : decode cc pc = .ok (.newarray .int, 2)) (hm : l.length = m) (hl' : l ++ [sI len] = l') (hz : I (j + m) = fun _ => 0) (hi : i = nI len) (hlen : len < 2 ^ 20) (hc : ce + 1 ≤ mc) (hs : sl + len ≤ ms) (k : Rn X (pc + 2) lv (.ref (k_b X.1 + (j + m)) :: rest) (inst X.1 (lay L j l') I J F) (j + m + 1) (ce + 1) (sl + len)) : Rn X pc lv (.int i :: rest) (inst X.1 (lay L j l) I J F) (j + m) ce sl := by
  subst hl'
  refine rn_newI C hd hi hlen hc hs ?_
  obtain ⟨a1, a2⟩ := lay_push L j m l (sI len) hm
  rw [inst_new (I' := I) (J' := J) (F' := F) a1 a2 (by show eI _ _ (I (j + m)) = _; rw [hz]) (fun _ _ => rfl) (fun _ _ => rfl) (fun _ _ => rfl)]
  exact k
theorem ls_newA {i : Int32} {len t idx : Nat} {D : String} (C : OkX X cc nL own h mc ms) (hd : decode cc pc = .ok (.anewarray idx, 3)) (hw : Cond.classLink own idx D ∈ gw) (hO : va_AO D (x_s X)) (ht : (k_ty X.1)[t]? = some (k_c X.1 t, .object D)) (hm : l.length = m) (hl' : l ++ [sA t len (fun _ => none)] = l') (hi : i = nI len) (hlen : len < 2 ^ 20) (hc : ce + 1 ≤ mc) (hs : sl + len ≤ ms) (k : Rn X (pc + 3) lv (.ref (k_b X.1 + (j + m)) :: rest) (inst X.1 (lay L j l') I J F) (j + m + 1) (ce + 1) (sl + len)) : Rn X pc lv (.int i :: rest) (inst X.1 (lay L j l) I J F) (j + m) ce sl := by
  subst hl'
  refine rn_newA C hd hw hO ht hi hlen hc hs ?_
  obtain ⟨a1, a2⟩ := lay_push L j m l (sA t len (fun _ => none)) hm
  rw [inst_new (k := X.1) (e := eA X.1 t len (fun _ => none)) (I' := I) (J' := J) (F' := F) a1 a2 rfl (fun _ _ => rfl) (fun _ _ => rfl) (fun _ _ => rfl)]
  exact k
/-- a new object; its fields of whole numbers that change are 0 -/
theorem ls_new {idx ci N : Nat} {os : List (Option Value)} (C : OkX X cc nL own h mc ms) (hd : decode cc pc = .ok (.new idx, 3)) (hN : Nw own idx ci N (os.map (fun o => o.getD (.int 0)))) (hm : l.length = m) (hl' : l ++ [sO ci os] = l') (hz : F (j + m) = fun _ => 0) (hc : ce + 1 ≤ mc) (hs : sl + N ≤ ms) (k : Rn X (pc + 3) lv (.ref (k_b X.1 + (j + m)) :: rest) (inst X.1 (lay L j l') I J F) (j + m + 1) (ce + 1) (sl + N)) : Rn X pc lv rest (inst X.1 (lay L j l) I J F) (j + m) ce sl := by
  subst hl'
  refine rn_new C hd hN hc hs ?_
  obtain ⟨a1, a2⟩ := lay_push L j m l (sO ci os) hm
  rw [inst_new (I' := I) (J' := J) (F' := F) a1 a2 ?_ (fun _ _ => rfl) (fun _ _ => rfl) (fun _ _ => rfl)]
  · exact k
  · show Sum.inr (ci, _) = Sum.inr (ci, _)
    congr 2
    rw [hz]
    apply List.ext_getElem?
    intro i
    rw [List.getElem?_mapIdx, List.getElem?_map]
/-- a field that keeps what it gets -/
theorem ls_putI {idx ci q x : Nat} {fs : List (Option Value)} {v : Value} {ty : FieldType} (C : OkX X cc nL own h mc ms) (hI : InX X) (hd : decode cc pc = .ok (.putfield idx, 3)) (G : Fp own idx ci q ty true) (hx : l[x]? = some (sO ci fs)) (hl' : l.set x (sO ci (fs.set q (some v))) = l') (hn : narrow ty v = v) (hfit : fits ty v = true) (hq : q < fs.length) (k : Rn X (pc + 3) lv rest (inst X.1 (lay L j l') I J F) (j + m) ce sl) : Rn X pc lv (v :: .ref (k_b X.1 + (j + x)) :: rest) (inst X.1 (lay L j l) I J F) (j + m) ce sl := by
  subst hl'
  have hxl : x < l.length := (List.getElem?_eq_some_iff.mp hx).1
  refine rn_putI C hI hd G (inst_at ((lay_at L j x l).trans hx)) hn hfit (by rw [List.length_mapIdx]; exact hq) ?_
  obtain ⟨a1, a2⟩ := lay_set L j x l (sO ci (fs.set q (some v))) hxl
  rw [inst_new (I' := I) (J' := J) (F' := F) a1 a2 ?_ (fun _ _ => rfl) (fun _ _ => rfl) (fun _ _ => rfl)]
  · exact k
  · show Sum.inr (ci, _) = Sum.inr (ci, _)
    congr 2
    apply List.ext_getElem?
    intro i
    rw [List.getElem?_mapIdx, List.getElem?_set, List.getElem?_set, List.getElem?_mapIdx, List.length_mapIdx]
    by_cases hi : q = i
    · subst hi
      rw [if_pos rfl, if_pos rfl, if_pos hq, if_pos hq]
      rfl
    · rw [if_neg hi, if_neg hi]
theorem ls_aast {len q t ci x y : Nat} {r : vw_C} {vs : List (Option Value)} {f : Nat → Option Nat} {i : Int32} (C : OkX X cc nL own h mc ms) (hd : decode cc pc = .ok (.aastore, 1)) (hx : l[x]? = some (sA t len f)) (ht : (k_ty X.1)[t]? = some (k_c X.1 t, .object r.1)) (hy : l[y]? = some (sO ci vs)) (hc : vwCl[ci]? = some r) (hl' : l.set x (sA t len (va_up f q (some (k_b X.1 + (j + y))))) = l') (hi : i = nI q) (hq : q < len) (hlen : len < 2 ^ 31) (k : Rn X (pc + 1) lv rest (inst X.1 (lay L j l') I J F) (j + m) ce sl) : Rn X pc lv (.ref (k_b X.1 + (j + y)) :: .int i :: .ref (k_b X.1 + (j + x)) :: rest) (inst X.1 (lay L j l) I J F) (j + m) ce sl := by
  subst hl'
  have hxl : x < l.length := (List.getElem?_eq_some_iff.mp hx).1
  refine rn_aast C hd (inst_at ((lay_at L j x l).trans hx)) ht (inst_at ((lay_at L j y l).trans hy)) hc hi hq hlen ?_
  obtain ⟨a1, a2⟩ := lay_set L j x l (sA t len (va_up f q (some (k_b X.1 + (j + y))))) hxl
  rw [inst_new (k := X.1) (e := eA X.1 t len (va_up f q (some (k_b X.1 + (j + y))))) (I' := I) (J' := J) (F' := F) a1 a2 rfl (fun _ _ => rfl) (fun _ _ => rfl) (fun _ _ => rfl)]
  exact k
/-- a maker's call: from the object's first contents at j + m to what the maker leaves behind it -/
theorem ls_init {st0 As : List Value} {y : MethodName} {bytes : ByteArray} {maxL na idx h' mc' ms' m' : Nat} {ls0 : Sh} {ls1 : List Sh} {R : StT} (C : OkX X cc nL own h mc ms) (hd : decode cc pc = .ok (.invokespecial idx, 3)) (M : Mk y bytes maxL none na) (Lk : Li own idx y) (hm : l.length = m)
    (hM : Cs X.1 y bytes maxL none h' mc' ms' (.ref (k_b X.1 + (j + m)) :: As) (inst X.1 (lay (lay L j l) (j + m) [ls0]) I J F) (j + m + 1) (Pv X.1 (lay (lay L j l) (j + m) ls1) (j + m + m') R)) (hl' : l ++ ls1 = l') (hst : st0 = As.reverse ++ .ref (k_b X.1 + (j + m)) :: rest) (hna : As.length = na) (hh : h' < h) (hcat : (rest.map fun v => v.category).sum ≤ 8) (hc : ce + mc' ≤ mc) (hs : sl + ms' ≤ ms)
    (k : Rn X (pc + 3) lv rest (inst X.1 (lay L j l') R.1 R.2.1 R.2.2) (j + (m + m')) (ce + mc') (sl + ms')) : Rn X pc lv st0 (inst X.1 (lay L j (l ++ [ls0])) I J F) (j + m + 1) ce sl := by
  subst hl'
  rw [lay_lay L j m l _ hm] at hM
  refine rn_callI C hd M Lk hM hst hna hh hcat hc hs (fun v P' n' hp => ?_)
  obtain ⟨e1, e2, e3⟩ := hp
  cases e1
  subst e2; subst e3
  rw [lay_lay L j m l _ hm, Nat.add_assoc]
  exact k
/-- a nest mate's maker's call: from the object's first contents at j + m to what the maker leaves behind it -/
theorem ls_initN {st0 As : List Value} {y : MethodName} {bytes : ByteArray} {maxL na idx h' mc' ms' m' : Nat} {ls0 : Sh} {host : String} {ls1 : List Sh} {R : StT} (C : OkX X cc nL own h mc ms) (hd : decode cc pc = .ok (.invokespecial idx, 3)) (M : Mk y bytes maxL none na) (Lk : va_Nw (.methodLinkNest own idx y host) (x_s X) ∧ Cond.instanceMethod y ∈ gw ∧ y.name = "<init>") (hm : l.length = m)
    (hM : Cs X.1 y bytes maxL none h' mc' ms' (.ref (k_b X.1 + (j + m)) :: As) (inst X.1 (lay (lay L j l) (j + m) [ls0]) I J F) (j + m + 1) (Pv X.1 (lay (lay L j l) (j + m) ls1) (j + m + m') R)) (hl' : l ++ ls1 = l') (hst : st0 = As.reverse ++ .ref (k_b X.1 + (j + m)) :: rest) (hna : As.length = na) (hh : h' < h) (hcat : (rest.map fun v => v.category).sum ≤ 8) (hc : ce + mc' ≤ mc) (hs : sl + ms' ≤ ms)
    (k : Rn X (pc + 3) lv rest (inst X.1 (lay L j l') R.1 R.2.1 R.2.2) (j + (m + m')) (ce + mc') (sl + ms')) : Rn X pc lv st0 (inst X.1 (lay L j (l ++ [ls0])) I J F) (j + m + 1) ce sl := by
  subst hl'
  rw [lay_lay L j m l _ hm] at hM
  refine rn_callIN C hd M Lk hM hst hna hh hcat hc hs (fun v P' n' hp => ?_)
  obtain ⟨e1, e2, e3⟩ := hp
  cases e1
  subst e2; subst e3
  rw [lay_lay L j m l _ hm, Nat.add_assoc]
  exact k
end LNS
/-- nothing yet from j on -/
def Zr (j : Nat) (S : StT) : Prop := ∀ i, j ≤ i → (S.1 i = fun _ => 0) ∧ (S.2.1 i = fun _ => 0) ∧ S.2.2 i = fun _ => 0
theorem Zr_le {j m : Nat} {S : StT} (h : Zr j S) (hm : j ≤ m) : Zr m S := fun i hi => h i (Nat.le_trans hm hi)
/-- what the tables say of the two private makers -/
def NsE (U : State) : Prop := va_Nw (.methodLinkNest RX11 67 yX8_init RX11) U ∧ va_Nw (.methodLinkNest RX11 70 yX9_init RX11) U
theorem NsE_warm {s U : State} (hW : s.WarmedH U.vm) (h : NsE s) : NsE U := ⟨va_Nw.warmM hW h.1, va_Nw.warmM hW h.2⟩
def CsE (k : KX) (y : MethodName) (cc : ByteArray) (maxL : Nat) (ret : Option FieldType) (h mc ms : Nat) (av : List Value) (P : PT) (n : Nat) (Post : Outcome → PT → Nat → Prop) : Prop :=
  Met (k_l k) y (Cond.code y cc maxL ret :: gw) (rmv h mc ms) (va_Pc av (fun U => Wd k P n U ∧ NsE U)) (QP k Post) mc ms (fun q => k_b k ≤ q)
theorem ce_of {k : KX} {y : MethodName} {cc : ByteArray} {maxL : Nat} {ret : Option FieldType} {h mc ms : Nat} {av : List Value} {P : PT} {n : Nat} {Post : Outcome → PT → Nat → Prop}
    (hy : plainName y.cls = true) (hav : (lg_sl av).length ≤ maxL)
    (body : ∀ X : CX, X.1 = k → OkX X cc maxL y.cls h mc ms → RetX X ret mc ms Post → (x_M X).name = y.name → NsE (x_s X) → Rn X 0 (lv_args 0 av) [] P n 0 0) : CsE k y cc maxL ret h mc ms av P n Post := by
  refine Met.ofW (cc := cc) (maxL := maxL) (ret := ret) hy rfl ?_
  intro p e s m args below meth c s₁ B hml hv
  obtain ⟨rfl, ⟨hT, hH⟩, hE⟩ := hv
  have hts := atoms_spec (ws := Cond.code y cc maxL ret :: gw) B.pre
  have hown : s.vm.findClass y.cls = some m.cls := findClass_of_methodNamed B.named
  have hl := lv_entry av (n := maxL) hav
  rw [lg_entry_eq]
  exact body (k, p, e, rmv h mc ms, s, m, av.toArray, below, meth, c, maxL, MQ below (QP k Post) av.toArray s mc ms (fun q => k_b k ≤ q)) rfl
    ⟨B.exec, B.bytes, rfl, hml, hown, fun w hw => hts w (List.mem_cons_of_mem _ hw), hT, ⟨by rw [hH.1]; exact Nat.le_add_right _ _, hH.2.1⟩, rfl, B.notSynchronized⟩
    ⟨B.returns, rfl⟩ (name_of_methodNamed B.named B.method).1 hE s.heap _ [] hH hl (fun q hq => absurd hq List.not_mem_nil)
theorem wdE_blind {k : KX} {P : PT} {n : Nat} {av : List Value} : FrameBlind (va_Pc av (fun U => Wd k P n U ∧ NsE U)) := fun a U g mk hq => ⟨hq.1, ⟨tb_same (u := U) (U := U.calling g mk a) rfl hq.2.1.1, hq.2.1.2⟩, va_Nw.same rfl (u := U) rfl hq.2.2.1, va_Nw.same rfl (u := U) rfl hq.2.2.2⟩
theorem rn_callIE {X : CX} {cc : ByteArray} {nL : Nat} {own : String} {h mc ms pc : Nat} {lv : List (Nat × Value)} {rest : List Value} {P : PT} {n ce sl : Nat} {st0 As : List Value} {y : MethodName} {bytes : ByteArray} {maxL na idx h' mc' ms' a : Nat} {Post : Outcome → PT → Nat → Prop} (C : OkX X cc nL own h mc ms) (hE : NsE (x_s X)) (hd : decode cc pc = .ok (.invokespecial idx, 3))
    (M : Mk y bytes maxL none na) (L : Li own idx y) (hM : CsE X.1 y bytes maxL none h' mc' ms' (.ref a :: As) P n Post) (hst : st0 = As.reverse ++ .ref a :: rest) (hna : As.length = na) (hh : h' < h) (hcat : (rest.map fun v => v.category).sum ≤ 8) (hc : ce + mc' ≤ mc) (hs : sl + ms' ≤ ms)
    (k : ∀ (v : Option Value) (P' : PT) (n' : Nat), Post (.returned v) P' n' → Rn X (pc + 3) lv (v.toList ++ rest) P' n' (ce + mc') (sl + ms')) : Rn X pc lv st0 P n ce sl := by
  refine rn_run (y := y) (ret := none) (h' := h') (free := fun _ => True) (As := (Value.ref a :: As).toArray) (fun H ls locs hH hl => ?_) k
  have hts := C.2.2.2.2.2.1
  have hR : x_R X = rmv h mc ms := C.2.2.2.2.2.2.2.2.1
  exact va_runI (Ts := gw) (own := own) (b := a) (g := F0 (x_m X) pc ls st0) ⟨C.1, C.2.1, rfl, C.2.2.2.2.1, hts⟩ hM ⟨call_b hts hR M L.1 hh, L.2.2, hts _ L.2.1⟩ ⟨wdE_blind, fun U hU hW => ⟨rfl, ok_wd C hH hU hW, NsE_warm hW hE⟩⟩ rfl hna (by show ls.size = _; rw [hl.1, C.2.2.1, C.2.2.2.1]) hst (lv_room (rest := st0) hcat) hd (by rw [hR]; exact ⟨hc, hs⟩)
