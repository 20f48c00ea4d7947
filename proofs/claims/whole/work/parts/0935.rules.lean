/-! two more rules: a copy out of a static row; a call through an interface -/
section LCT
variable {X : CX} {cc : ByteArray} {nL : Nat} {own : String} {h mc ms pc : Nat} {lv : List (Nat × Value)} {rest : List Value} {P : PT} {n ce sl : Nat}
theorem rn_copySJ {t N j m1 sp dp k0 idx : Nat} {f g : Nat → Int64} {xs xd xn : Int32} (C : OkX X cc nL own h mc ms) (hd : decode cc pc = .ok (.invokestatic idx, 3)) (Lk : Lc own idx) (hT : va_T .long t N (fun j => .long (f j)) (fun q => k_b X.1 ≤ q) (x_s X) (k_H X.1)) (hj : P j = some (eJ X.1 m1 g)) (es : xs = nI sp) (ed : xd = nI dp) (en : xn = nI k0) (h4 : sp + k0 ≤ N) (h5 : dp + k0 ≤ m1) (hm0 : N < 2 ^ 31) (hm1 : m1 < 2 ^ 31) (hh : 1 ≤ h) (hcat : (rest.map fun v => v.category).sum ≤ 8)
    (k : Rn X (pc + 3) lv rest (up P j (eJ X.1 m1 (va_cpy f g sp dp k0))) n ce sl) : Rn X pc lv (.int xn :: .int xd :: .ref (k_b X.1 + j) :: .int xs :: .ref t :: rest) P n ce sl := by
  intro H ls locs hH hl ho T hT0 St
  subst es; subst ed; subst en
  obtain ⟨cell, t1, ⟨t2, kz, t3, cmz, t4⟩, t5, t6, t7, t8, t9⟩ := hT
  have c1 : (nI sp).toNatClampNeg = sp := nI_clamp (by omega)
  have c2 : (nI dp).toNatClampNeg = dp := nI_clamp (by omega)
  have c3 : (nI k0).toNatClampNeg = k0 := nI_clamp (by omega)
  have hc0 : H[t]? = some cell := by rw [hH.2.1 t (Nat.not_le.mp t9)]; exact t1
  have hc1 : H[k_b X.1 + j]? = some (vp_cell (k_c X.1 1) (m1, .inr (.inl g))) := hH.2.2 j _ hj
  have hw : nativeFrameWords "java/lang/System" "arraycopy" 5 ≤ 16 := by decide
  have hts := C.2.2.2.2.2.1
  have hR : x_R X = rmv h mc ms := C.2.2.2.2.2.2.2.2.1
  obtain ⟨-, k1', hk1, cm1, hkk1⟩ := (C.2.2.2.2.2.2.1.1.2 1 _ rfl).1 m1 (fun j => .long (g j))
  have rd : ∀ z, z < k0 → cell.slots.getD (sp + z) .null = .long (f (sp + z)) := fun z hz => by
    rw [Array.getD_eq_getD_getElem?, t8 (sp + z) (by omega)]
    rfl
  obtain ⟨vm', S', step⟩ := St.arraycopy C.1 C.2.2.2.2.1 (hts _ Lk.1) (hts _ Lk.2.1) (hts _ Lk.2.2.1) (hts _ Lk.2.2.2) (src := t) (dst := k_b X.1 + j) (cs := cell) (cd := vp_cell (k_c X.1 1) (m1, .inr (.inl g))) (srcPos := nI sp) (destPos := nI dp) (n := nI k0) (by rw [hT0]; exact hc0) (by rw [hT0]; exact hc1)
    t2 (fun _ h => by cases h) t5 (fun h => by cases h) t3 hk1 t4 hkk1 (by simp [refKind]) (nI_n0 (by omega)) (nI_n0 (by omega)) (nI_n0 (by omega))
    (by rw [nI_toInt (by omega), nI_toInt (by omega)]; omega)
    (by rw [nI_toInt (by omega), nI_toInt (by omega)]; show ¬ _ > ((arrV (k_c X.1 1) m1 (fun j => .long (g j))).slots.size : Int); rw [arrV_size]; omega)
    (fun vm₁ _ z hz => by
      rw [c3] at hz
      rw [c1, rd z hz]
      exact ⟨rfl, trivial⟩)
    (g := F0 (x_m X) pc ls (.int (nI k0) :: .int (nI dp) :: .ref (k_b X.1 + j) :: .int (nI sp) :: .ref t :: rest)) rfl (by show ls.size = _; rw [hl.1, C.2.2.1, C.2.2.2.1]) (rest := rest) rfl (by rw [C.2.1]; exact hd) (by rw [hR]; exact hh) (by rw [hR]; show 2 * 0 + (rest.map fun v => v.category).sum + (nativeFrameWords "java/lang/System" "arraycopy" 5 + 11) ≤ 45 * h; omega)
  have es : cell.stretch sp k0 = (vp_cell (k_c X.1 1) (N, .inr (.inl f))).stretch sp k0 := by
    refine List.map_congr_left (fun z hz => ?_)
    have hz' := List.mem_range.mp hz
    rw [rd z hz']
    show _ = (arrV (k_c X.1 1) N (fun j => .long (f j))).slots.getD _ _
    rw [Array.getD_eq_getD_getElem?, arrV_read _ _ (by omega)]
    rfl
  have e1 : copied cell (vp_cell (k_c X.1 1) (m1, .inr (.inl g))) (nI sp) (nI dp) (nI k0) = vp_cell (k_c X.1 1) (m1, .inr (.inl (va_cpy f g sp dp k0))) := by
    have q := va_copied (fun z => Value.long z) (k_c X.1 1) (k_c X.1 1) (n1 := m1) (dp := dp) f g h4
    unfold copied
    rw [c1, c2, c3, es]
    exact q
  rw [e1] at S' step
  have hlt : k_b X.1 + j < H.size := (Array.getElem?_eq_some_iff.mp hc1).1
  have hheap : ((T.setVm vm').setCell (k_b X.1 + j) (vp_cell (k_c X.1 1) (m1, .inr (.inl (va_cpy f g sp dp k0))))).heap = H.setIfInBounds (k_b X.1 + j) (vp_cell (k_c X.1 1) (m1, .inr (.inl (va_cpy f g sp dp k0)))) := by rw [← hT0]; rfl
  obtain ⟨t, a1, b1⟩ := k _ ls _ (hp_set hH (e := eJ X.1 m1 (va_cpy f g sp dp k0)) (show (H.setIfInBounds (k_b X.1 + j) _)[k_b X.1 + j]? = some _ by simp [Array.getElem?_setIfInBounds, hlt]) (by simp) (fun q hq => by simp [Array.getElem?_setIfInBounds, Ne.symm hq])) hl (fun q hq => by
      rcases List.mem_append.mp hq with g1 | g1
      · exact ho q g1
      · obtain ⟨z, -, hz⟩ := List.mem_map.mp g1
        rw [← hz]
        exact Nat.le_add_right _ _) _ hheap S'
  exact ⟨t, step t a1, b1⟩
theorem rn_run5 {st0 : List Value} {mc' ms' : Nat} {As : Array Value} {Post : Outcome → PT → Nat → Prop}
    (hr : ∀ (H : Heap) (ls : Array Slot) (locs : List Loc), Hp X.1 P n H → lv_has ls (x_n X) lv → va_Run5 (x_p X) (k_l X.1) (x_e X) (x_R X) (x_s X) (x_m X) (x_a X) (x_b X) (x_M X) (x_C X) H locs ce sl mc' ms' (F0 (x_m X) pc ls st0) rest (QP X.1 Post As) (fun q => k_b X.1 ≤ q))
    (k : ∀ (v : Option Value) (P' : PT) (n' : Nat), Post (.returned v) P' n' → Rn X (pc + 5) lv (v.toList ++ rest) P' n' (ce + mc') (sl + ms')) : Rn X pc lv st0 P n ce sl := by
  intro H ls locs hH hl ho T hT S
  obtain ⟨v, st₀, t, T', L, h0, S', hL, e1, e2, ⟨P', n', hp, hwd⟩, go⟩ := hr H ls locs hH hl T hT S
  obtain ⟨t2, a1, b1⟩ := k v P' n' hp T'.heap ls (locs ++ L) (by rw [e1]; exact hwd.2) hl (fun q hq => (List.mem_append.mp hq).elim (ho q) (hL q)) T' rfl S'
  exact ⟨t2, go t2 a1, b1⟩
/-- what the tables say of a call of x through an interface where the receiver is a C -/
def Lf (own : String) (idx : Nat) (Cn : String) (x y : MethodName) (na : Nat) : Prop := (Cond.methodLink own idx x ∈ gw ∧ Cond.selects Cn x y ∈ gw ∧ Cond.instanceMethod y ∈ gw ∧ Cond.initialized y.cls ∈ gw) ∧ (x.cls ≠ "java/lang/invoke/MethodHandle" ∧ x.cls ≠ "java/lang/invoke/VarHandle" ∧ (parseMethodDescriptor x.desc).map (fun d => d.parameters.length) = some na)
theorem rn_callF {st0 As : List Value} {x y : MethodName} {bytes : ByteArray} {maxL na idx cnt h' mc' ms' j ci : Nat} {fs : List Value} {q : vw_C} {ret : Option FieldType} {Cn : String} {cC : ClassId} {Post : Outcome → PT → Nat → Prop} (C : OkX X cc nL own h mc ms) (hd : decode cc pc = .ok (.invokeinterface idx cnt, 5))
    (M : Mk y bytes maxL ret na) (L : Lf own idx Cn x y na) (hF : va_Fw Cn x y (x_s X)) (hat : ClassAt (x_s X) Cn cC) (hM : Cs X.1 y bytes maxL ret h' mc' ms' (.ref (k_b X.1 + j) :: As) P n Post) (hP : P j = some (.inr (ci, fs))) (hq : vwCl[ci]? = some q) (hqy : q.1 = Cn) (hst : st0 = As.reverse ++ .ref (k_b X.1 + j) :: rest) (hna : As.length = na) (hh : h' < h) (hcat : (rest.map fun v => v.category).sum ≤ 8) (hc : ce + mc' ≤ mc) (hs : sl + ms' ≤ ms)
    (k : ∀ (v : Option Value) (P' : PT) (n' : Nat), Post (.returned v) P' n' → Rn X (pc + 5) lv (v.toList ++ rest) P' n' (ce + mc') (sl + ms')) : Rn X pc lv st0 P n ce sl := by
  refine rn_run5 (As := (Value.ref (k_b X.1 + j) :: As).toArray) (fun H ls locs hH hl => ?_) k
  have hts := C.2.2.2.2.2.1
  have hR : x_R X = rmv h mc ms := C.2.2.2.2.2.2.2.2.1
  obtain ⟨cell, g1, g2, g3⟩ := va_recv (ws := [(k_b X.1 + j, .inr (ci, fs))]) (q0 := 0) C.2.2.2.2.2.2.1.1 (H := H) (fun i x hx => by cases i with
    | zero => cases hx; exact hH.2.2 j _ hP
    | succ i => simp at hx) hq rfl
  have hroom : 8 + (maxL + 11) + 45 * h' ≤ 45 * h := by
    have := M.2.2.2
    omega
  have hG : GoodIn gw (va_wsF own idx Cn x y (Cond.code y bytes maxL ret :: gw)) := by
    intro w hw
    unfold va_wsF at hw
    rcases List.mem_append.mp hw with g | g
    · have hg : w ∈ gw := by
        simp only [List.mem_cons, List.not_mem_nil, or_false] at g
        rcases g with e | e | e | e
        · rw [e]; exact L.1.1
        · rw [e]; exact L.1.2.1
        · rw [e]; exact L.1.2.2.1
        · rw [e]; exact L.1.2.2.2
      exact goodIn_gw M.1 w (List.mem_cons_of_mem _ hg)
    · exact goodIn_gw M.1 w g
  have cw : va_CI (x_R X) (x_s X) (x_a X) own Cn idx x y bytes maxL ret (Cond.code y bytes maxL ret :: gw) (rmv h' mc' ms') mc' ms' na := va_cwF na hts hG rfl rfl rfl hF L.2 (by rw [hR]; exact ⟨hh, hroom⟩)
  refine va_runF (Ts := gw) (own := own) (C := Cn) (g := F0 (x_m X) pc ls st0) hat ⟨C.1, C.2.1, rfl, C.2.2.2.2.1, hts⟩ hM cw ⟨wd_blind, ⟨cell, g1, g2, by rw [← hqy]; exact g3⟩, fun U hU hW => ⟨rfl, ok_wd C hH hU hW⟩⟩ rfl hna (by show ls.size = _; rw [hl.1, C.2.2.1, C.2.2.2.1]) hst (lv_room (rest := st0) hcat) hd (by rw [hR]; exact ⟨hc, hs⟩)
end LCT
section LCU
variable {X : CX} {cc : ByteArray} {nL : Nat} {own : String} {h mc ms pc : Nat} {lv : List (Nat × Value)} {rest : List Value} {L : Nat → Option Sh} {I : Nat → Nat → Int32} {J : Nat → Nat → Int64} {F : Nat → Nat → Int32} {n ce sl : Nat}
theorem rs_copySJ {t N j m1 sp dp k0 idx : Nat} {f : Nat → Int64} {xs xd xn : Int32} (C : OkX X cc nL own h mc ms) (hd : decode cc pc = .ok (.invokestatic idx, 3)) (Lk : Lc own idx) (hT : va_T .long t N (fun j => .long (f j)) (fun q => k_b X.1 ≤ q) (x_s X) (k_H X.1)) (hj : L j = some (sJ m1)) (es : xs = nI sp) (ed : xd = nI dp) (en : xn = nI k0) (h4 : sp + k0 ≤ N) (h5 : dp + k0 ≤ m1) (hm0 : N < 2 ^ 31) (hm1 : m1 < 2 ^ 31) (hh : 1 ≤ h) (hcat : (rest.map fun v => v.category).sum ≤ 8)
    (k : Rn X (pc + 3) lv rest (inst X.1 L I (va_up J j (va_cpy f (J j) sp dp k0)) F) n ce sl) : Rn X pc lv (.int xn :: .int xd :: .ref (k_b X.1 + j) :: .int xs :: .ref t :: rest) (inst X.1 L I J F) n ce sl := by
  refine rn_copySJ C hd Lk hT (inst_at hj) es ed en h4 h5 hm0 hm1 hh hcat ?_
  rw [inst_up (I' := I) (J' := va_up J j (va_cpy f (J j) sp dp k0)) (F' := F) hj (by show eJ _ _ (va_up J j _ j) = _; rw [vu_s]) (fun _ _ => rfl) (fun i hi => vu_n hi) (fun _ _ => rfl)]
  exact k
end LCU
