/-! System.arraycopy, lcmp, loops that count down -/
theorem wt_2 {w : Cond} (i : Nat) (h : tables_1[i]? = some w) (g : goodWord w = true) : w ∈ gw := wt i h g
def Lc (own : String) (idx : Nat) : Prop := Cond.methodLink own idx arraycopyName ∈ gw ∧ Cond.native arraycopyName ∈ gw ∧ Cond.static arraycopyName ∈ gw ∧ Cond.initialized "java/lang/System" ∈ gw
theorem lcp_X3_81 : Lc RX3 81 := ⟨wt 257 (by decide +kernel) (by decide +kernel), wt 259 (by decide +kernel) (by decide +kernel), wt 258 (by decide +kernel) (by decide +kernel), wt 14 (by decide +kernel) (by decide +kernel)⟩
theorem lcp_X11_118 : Lc RX11 118 := ⟨wt 646 (by decide +kernel) (by decide +kernel), wt 259 (by decide +kernel) (by decide +kernel), wt 258 (by decide +kernel) (by decide +kernel), wt 14 (by decide +kernel) (by decide +kernel)⟩
theorem lcp_X8_19 : Lc RX8 19 := ⟨wt 675 (by decide +kernel) (by decide +kernel), wt 259 (by decide +kernel) (by decide +kernel), wt 258 (by decide +kernel) (by decide +kernel), wt 14 (by decide +kernel) (by decide +kernel)⟩
theorem lcp_X9_61 : Lc RX9 61 := ⟨wt 741 (by decide +kernel) (by decide +kernel), wt 259 (by decide +kernel) (by decide +kernel), wt 258 (by decide +kernel) (by decide +kernel), wt 14 (by decide +kernel) (by decide +kernel)⟩
theorem lcp_X0_106 : Lc RX0 106 := ⟨wt 778 (by decide +kernel) (by decide +kernel), wt 259 (by decide +kernel) (by decide +kernel), wt 258 (by decide +kernel) (by decide +kernel), wt 14 (by decide +kernel) (by decide +kernel)⟩
theorem lcp_X7_62 : Lc RX7 62 := ⟨wt 950 (by decide +kernel) (by decide +kernel), wt 259 (by decide +kernel) (by decide +kernel), wt 258 (by decide +kernel) (by decide +kernel), wt 14 (by decide +kernel) (by decide +kernel)⟩
theorem lcp_X10_167 : Lc RX10 167 := ⟨wt 992 (by decide +kernel) (by decide +kernel), wt 259 (by decide +kernel) (by decide +kernel), wt 258 (by decide +kernel) (by decide +kernel), wt 14 (by decide +kernel) (by decide +kernel)⟩
theorem nI_n0 {a : Nat} (h : a < 2 ^ 31) : ¬ nI a < 0 := nI_pos h
section LCP
variable {X : CX} {cc : ByteArray} {nL : Nat} {own : String} {h mc ms pc : Nat} {lv : List (Nat × Value)} {rest : List Value} {P : PT} {n ce sl : Nat}
theorem rn_lcmp {x y : Int64} (C : OkX X cc nL own h mc ms) (hd : decode cc pc = .ok (.lcmp, 1)) (k : Rn X (pc + 1) lv (.int (lg_cmp x y) :: rest) P n ce sl) : Rn X pc lv (.long y :: .long x :: rest) P n ce sl := fun H ls locs hH hl ho => W.lcmp C.1 C.2.1 hd (k H ls locs hH hl ho)
theorem rn_copyJ {i j m0 m1 sp dp k0 idx : Nat} {f g : Nat → Int64} {xs xd xn : Int32} (C : OkX X cc nL own h mc ms) (hd : decode cc pc = .ok (.invokestatic idx, 3)) (Lk : Lc own idx) (hi : P i = some (eJ X.1 m0 f)) (hj : P j = some (eJ X.1 m1 g)) (es : xs = nI sp) (ed : xd = nI dp) (en : xn = nI k0) (h4 : sp + k0 ≤ m0) (h5 : dp + k0 ≤ m1) (hm0 : m0 < 2 ^ 31) (hm1 : m1 < 2 ^ 31) (hh : 1 ≤ h) (hcat : (rest.map fun v => v.category).sum ≤ 8)
    (k : Rn X (pc + 3) lv rest (up P j (eJ X.1 m1 (va_cpy f g sp dp k0))) n ce sl) : Rn X pc lv (.int xn :: .int xd :: .ref (k_b X.1 + j) :: .int xs :: .ref (k_b X.1 + i) :: rest) P n ce sl := by
  intro H ls locs hH hl ho T hT St
  subst es; subst ed; subst en
  have c1 : (nI sp).toNatClampNeg = sp := nI_clamp (by omega)
  have c2 : (nI dp).toNatClampNeg = dp := nI_clamp (by omega)
  have c3 : (nI k0).toNatClampNeg = k0 := nI_clamp (by omega)
  have hc0 : H[k_b X.1 + i]? = some (vp_cell (k_c X.1 1) (m0, .inr (.inl f))) := hH.2.2 i _ hi
  have hc1 : H[k_b X.1 + j]? = some (vp_cell (k_c X.1 1) (m1, .inr (.inl g))) := hH.2.2 j _ hj
  have hw : nativeFrameWords "java/lang/System" "arraycopy" 5 ≤ 16 := by decide
  have hts := C.2.2.2.2.2.1
  have hR : x_R X = rmv h mc ms := C.2.2.2.2.2.2.2.2.1
  obtain ⟨-, k0', hk0, cm0, hkk0⟩ := (C.2.2.2.2.2.2.1.1.2 1 _ rfl).1 m0 (fun j => .long (f j))
  obtain ⟨-, k1', hk1, cm1, hkk1⟩ := (C.2.2.2.2.2.2.1.1.2 1 _ rfl).1 m1 (fun j => .long (g j))
  obtain ⟨vm', S', step⟩ := St.arraycopy C.1 C.2.2.2.2.1 (hts _ Lk.1) (hts _ Lk.2.1) (hts _ Lk.2.2.1) (hts _ Lk.2.2.2) (src := k_b X.1 + i) (dst := k_b X.1 + j) (cs := vp_cell (k_c X.1 1) (m0, .inr (.inl f))) (cd := vp_cell (k_c X.1 1) (m1, .inr (.inl g))) (srcPos := nI sp) (destPos := nI dp) (n := nI k0) (by rw [hT]; exact hc0) (by rw [hT]; exact hc1)
    (fun _ h => by cases h) (fun _ h => by cases h) (fun h => by cases h) (fun h => by cases h) hk0 hk1 hkk0 hkk1 (by simp [refKind]) (nI_n0 (by omega)) (nI_n0 (by omega)) (nI_n0 (by omega))
    (by rw [nI_toInt (by omega), nI_toInt (by omega)]; show ¬ _ > ((arrV (k_c X.1 1) m0 (fun j => .long (f j))).slots.size : Int); rw [arrV_size]; omega)
    (by rw [nI_toInt (by omega), nI_toInt (by omega)]; show ¬ _ > ((arrV (k_c X.1 1) m1 (fun j => .long (g j))).slots.size : Int); rw [arrV_size]; omega)
    (fun vm₁ _ z hz => by
      rw [c3] at hz
      have e : (vp_cell (k_c X.1 1) (m0, .inr (.inl f))).slots.getD ((nI sp).toNatClampNeg + z) .null = .long (f (sp + z)) := by
        rw [c1]
        show (arrV (k_c X.1 1) m0 (fun j => .long (f j))).slots.getD _ _ = _
        rw [Array.getD_eq_getD_getElem?, arrV_read _ _ (by omega)]
        rfl
      rw [e]
      exact ⟨rfl, trivial⟩)
    (g := F0 (x_m X) pc ls (.int (nI k0) :: .int (nI dp) :: .ref (k_b X.1 + j) :: .int (nI sp) :: .ref (k_b X.1 + i) :: rest)) rfl (by show ls.size = _; rw [hl.1, C.2.2.1, C.2.2.2.1]) (rest := rest) rfl (by rw [C.2.1]; exact hd) (by rw [hR]; exact hh) (by rw [hR]; show 2 * 0 + (rest.map fun v => v.category).sum + (nativeFrameWords "java/lang/System" "arraycopy" 5 + 11) ≤ 45 * h; omega)
  have e1 : copied (vp_cell (k_c X.1 1) (m0, .inr (.inl f))) (vp_cell (k_c X.1 1) (m1, .inr (.inl g))) (nI sp) (nI dp) (nI k0) = vp_cell (k_c X.1 1) (m1, .inr (.inl (va_cpy f g sp dp k0))) := by
    have q := va_copied (fun z => Value.long z) (k_c X.1 1) (k_c X.1 1) (n1 := m1) (dp := dp) f g h4
    unfold copied
    rw [c1, c2, c3]
    exact q
  rw [e1] at S' step
  have hlt : k_b X.1 + j < H.size := (Array.getElem?_eq_some_iff.mp hc1).1
  have hheap : ((T.setVm vm').setCell (k_b X.1 + j) (vp_cell (k_c X.1 1) (m1, .inr (.inl (va_cpy f g sp dp k0))))).heap = H.setIfInBounds (k_b X.1 + j) (vp_cell (k_c X.1 1) (m1, .inr (.inl (va_cpy f g sp dp k0)))) := by rw [← hT]; rfl
  obtain ⟨t, a1, b1⟩ := k _ ls _ (hp_set hH (e := eJ X.1 m1 (va_cpy f g sp dp k0)) (show (H.setIfInBounds (k_b X.1 + j) _)[k_b X.1 + j]? = some _ by simp [Array.getElem?_setIfInBounds, hlt]) (by simp) (fun q hq => by simp [Array.getElem?_setIfInBounds, Ne.symm hq])) hl (fun q hq => by
      rcases List.mem_append.mp hq with g1 | g1
      · exact ho q g1
      · obtain ⟨z, -, hz⟩ := List.mem_map.mp g1
        rw [← hz]
        exact Nat.le_add_right _ _) _ hheap S'
  exact ⟨t, step t a1, b1⟩
theorem rn_copyI {i j m0 m1 sp dp k0 idx : Nat} {f g : Nat → Int32} {xs xd xn : Int32} (C : OkX X cc nL own h mc ms) (hd : decode cc pc = .ok (.invokestatic idx, 3)) (Lk : Lc own idx) (hi : P i = some (eI X.1 m0 f)) (hj : P j = some (eI X.1 m1 g)) (es : xs = nI sp) (ed : xd = nI dp) (en : xn = nI k0) (h4 : sp + k0 ≤ m0) (h5 : dp + k0 ≤ m1) (hm0 : m0 < 2 ^ 31) (hm1 : m1 < 2 ^ 31) (hh : 1 ≤ h) (hcat : (rest.map fun v => v.category).sum ≤ 8)
    (k : Rn X (pc + 3) lv rest (up P j (eI X.1 m1 (va_cpy f g sp dp k0))) n ce sl) : Rn X pc lv (.int xn :: .int xd :: .ref (k_b X.1 + j) :: .int xs :: .ref (k_b X.1 + i) :: rest) P n ce sl := by
  intro H ls locs hH hl ho T hT St
  subst es; subst ed; subst en
  have c1 : (nI sp).toNatClampNeg = sp := nI_clamp (by omega)
  have c2 : (nI dp).toNatClampNeg = dp := nI_clamp (by omega)
  have c3 : (nI k0).toNatClampNeg = k0 := nI_clamp (by omega)
  have hc0 : H[k_b X.1 + i]? = some (vp_cell (k_c X.1 0) (m0, .inl f)) := hH.2.2 i _ hi
  have hc1 : H[k_b X.1 + j]? = some (vp_cell (k_c X.1 0) (m1, .inl g)) := hH.2.2 j _ hj
  have hw : nativeFrameWords "java/lang/System" "arraycopy" 5 ≤ 16 := by decide
  have hts := C.2.2.2.2.2.1
  have hR : x_R X = rmv h mc ms := C.2.2.2.2.2.2.2.2.1
  obtain ⟨-, k0', hk0, cm0, hkk0⟩ := (C.2.2.2.2.2.2.1.1.2 0 _ rfl).1 m0 (fun j => .int (f j))
  obtain ⟨-, k1', hk1, cm1, hkk1⟩ := (C.2.2.2.2.2.2.1.1.2 0 _ rfl).1 m1 (fun j => .int (g j))
  obtain ⟨vm', S', step⟩ := St.arraycopy C.1 C.2.2.2.2.1 (hts _ Lk.1) (hts _ Lk.2.1) (hts _ Lk.2.2.1) (hts _ Lk.2.2.2) (src := k_b X.1 + i) (dst := k_b X.1 + j) (cs := vp_cell (k_c X.1 0) (m0, .inl f)) (cd := vp_cell (k_c X.1 0) (m1, .inl g)) (srcPos := nI sp) (destPos := nI dp) (n := nI k0) (by rw [hT]; exact hc0) (by rw [hT]; exact hc1)
    (fun _ h => by cases h) (fun _ h => by cases h) (fun h => by cases h) (fun h => by cases h) hk0 hk1 hkk0 hkk1 (by simp [refKind]) (nI_n0 (by omega)) (nI_n0 (by omega)) (nI_n0 (by omega))
    (by rw [nI_toInt (by omega), nI_toInt (by omega)]; show ¬ _ > ((arrV (k_c X.1 0) m0 (fun j => .int (f j))).slots.size : Int); rw [arrV_size]; omega)
    (by rw [nI_toInt (by omega), nI_toInt (by omega)]; show ¬ _ > ((arrV (k_c X.1 0) m1 (fun j => .int (g j))).slots.size : Int); rw [arrV_size]; omega)
    (fun vm₁ _ z hz => by
      rw [c3] at hz
      have e : (vp_cell (k_c X.1 0) (m0, .inl f)).slots.getD ((nI sp).toNatClampNeg + z) .null = .int (f (sp + z)) := by
        rw [c1]
        show (arrV (k_c X.1 0) m0 (fun j => .int (f j))).slots.getD _ _ = _
        rw [Array.getD_eq_getD_getElem?, arrV_read _ _ (by omega)]
        rfl
      rw [e]
      exact ⟨rfl, trivial⟩)
    (g := F0 (x_m X) pc ls (.int (nI k0) :: .int (nI dp) :: .ref (k_b X.1 + j) :: .int (nI sp) :: .ref (k_b X.1 + i) :: rest)) rfl (by show ls.size = _; rw [hl.1, C.2.2.1, C.2.2.2.1]) (rest := rest) rfl (by rw [C.2.1]; exact hd) (by rw [hR]; exact hh) (by rw [hR]; show 2 * 0 + (rest.map fun v => v.category).sum + (nativeFrameWords "java/lang/System" "arraycopy" 5 + 11) ≤ 45 * h; omega)
  have e1 : copied (vp_cell (k_c X.1 0) (m0, .inl f)) (vp_cell (k_c X.1 0) (m1, .inl g)) (nI sp) (nI dp) (nI k0) = vp_cell (k_c X.1 0) (m1, .inl (va_cpy f g sp dp k0)) := by
    have q := va_copied (fun z => Value.int z) (k_c X.1 0) (k_c X.1 0) (n1 := m1) (dp := dp) f g h4
    unfold copied
    rw [c1, c2, c3]
    exact q
  rw [e1] at S' step
  have hlt : k_b X.1 + j < H.size := (Array.getElem?_eq_some_iff.mp hc1).1
  have hheap : ((T.setVm vm').setCell (k_b X.1 + j) (vp_cell (k_c X.1 0) (m1, .inl (va_cpy f g sp dp k0)))).heap = H.setIfInBounds (k_b X.1 + j) (vp_cell (k_c X.1 0) (m1, .inl (va_cpy f g sp dp k0))) := by rw [← hT]; rfl
  obtain ⟨t, a1, b1⟩ := k _ ls _ (hp_set hH (e := eI X.1 m1 (va_cpy f g sp dp k0)) (show (H.setIfInBounds (k_b X.1 + j) _)[k_b X.1 + j]? = some _ by simp [Array.getElem?_setIfInBounds, hlt]) (by simp) (fun q hq => by simp [Array.getElem?_setIfInBounds, Ne.symm hq])) hl (fun q hq => by
      rcases List.mem_append.mp hq with g1 | g1
      · exact ho q g1
      · obtain ⟨z, -, hz⟩ := List.mem_map.mp g1
        rw [← hz]
        exact Nat.le_add_right _ _) _ hheap S'
  exact ⟨t, step t a1, b1⟩
end LCP
section LCS
variable {X : CX} {cc : ByteArray} {nL : Nat} {own : String} {h mc ms pc : Nat} {lv : List (Nat × Value)} {rest : List Value} {L : Nat → Option Sh} {I : Nat → Nat → Int32} {J : Nat → Nat → Int64} {F : Nat → Nat → Int32} {n ce sl : Nat}
theorem rs_copyJ {i j m0 m1 sp dp k0 idx : Nat} {xs xd xn : Int32} (C : OkX X cc nL own h mc ms) (hd : decode cc pc = .ok (.invokestatic idx, 3)) (Lk : Lc own idx) (hi : L i = some (sJ m0)) (hj : L j = some (sJ m1)) (es : xs = nI sp) (ed : xd = nI dp) (en : xn = nI k0) (h4 : sp + k0 ≤ m0) (h5 : dp + k0 ≤ m1) (hm0 : m0 < 2 ^ 31) (hm1 : m1 < 2 ^ 31) (hh : 1 ≤ h) (hcat : (rest.map fun v => v.category).sum ≤ 8)
    (k : Rn X (pc + 3) lv rest (inst X.1 L I (va_up J j (va_cpy (J i) (J j) sp dp k0)) F) n ce sl) : Rn X pc lv (.int xn :: .int xd :: .ref (k_b X.1 + j) :: .int xs :: .ref (k_b X.1 + i) :: rest) (inst X.1 L I J F) n ce sl := by
  refine rn_copyJ C hd Lk (inst_at hi) (inst_at hj) es ed en h4 h5 hm0 hm1 hh hcat ?_
  rw [inst_up (I' := I) (J' := va_up J j (va_cpy (J i) (J j) sp dp k0)) (F' := F) hj (by show eJ _ _ (va_up J j _ j) = _; rw [vu_s]) (fun _ _ => rfl) (fun i hi => vu_n hi) (fun _ _ => rfl)]
  exact k
theorem rs_copyI {i j m0 m1 sp dp k0 idx : Nat} {xs xd xn : Int32} (C : OkX X cc nL own h mc ms) (hd : decode cc pc = .ok (.invokestatic idx, 3)) (Lk : Lc own idx) (hi : L i = some (sI m0)) (hj : L j = some (sI m1)) (es : xs = nI sp) (ed : xd = nI dp) (en : xn = nI k0) (h4 : sp + k0 ≤ m0) (h5 : dp + k0 ≤ m1) (hm0 : m0 < 2 ^ 31) (hm1 : m1 < 2 ^ 31) (hh : 1 ≤ h) (hcat : (rest.map fun v => v.category).sum ≤ 8)
    (k : Rn X (pc + 3) lv rest (inst X.1 L (va_up I j (va_cpy (I i) (I j) sp dp k0)) J F) n ce sl) : Rn X pc lv (.int xn :: .int xd :: .ref (k_b X.1 + j) :: .int xs :: .ref (k_b X.1 + i) :: rest) (inst X.1 L I J F) n ce sl := by
  refine rn_copyI C hd Lk (inst_at hi) (inst_at hj) es ed en h4 h5 hm0 hm1 hh hcat ?_
  rw [inst_up (I' := va_up I j (va_cpy (I i) (I j) sp dp k0)) (J' := J) (F' := F) hj (by show eI _ _ (va_up I j _ j) = _; rw [vu_s]) (fun i hi => vu_n hi) (fun _ _ => rfl) (fun _ _ => rfl)]
  exact k
/-- the head of a loop that goes down to 0 -/
theorem rs_lt0 {P : PT} {x : Int32} {off : Int} {tgt a : Nat} (C : OkX X cc nL own h mc ms) (hd : decode cc pc = .ok (.ifCond .lt off, 3)) (ht : (pc : Int) + off = (tgt : Int)) (hx : x = nI a) (ha : a < 2 ^ 31) (k : Rn X (pc + 3) lv rest P n ce sl) : Rn X pc lv (.int x :: rest) P n ce sl :=
  rn_if_lt C hd ht (fun c => absurd c (by rw [hx]; exact nI_pos ha)) (fun _ => k)
theorem rs_lt {P : PT} {x y : Int32} {off : Int} {tgt a b : Nat} (C : OkX X cc nL own h mc ms) (hd : decode cc pc = .ok (.if_icmp .lt off, 3)) (ht : (pc : Int) + off = (tgt : Int)) (hx : x = nI a) (hy : y = nI b) (ha : a < 2 ^ 31) (hb : b < 2 ^ 31) (kt : a < b → Rn X tgt lv rest P n ce sl) (kf : b ≤ a → Rn X (pc + 3) lv rest P n ce sl) : Rn X pc lv (.int y :: .int x :: rest) P n ce sl :=
  rn_icmp_lt C hd ht (fun c => kt ((nI_ltI ha hb).mp (by rw [← hx, ← hy]; exact c))) (fun c => kf (Nat.not_lt.mp (fun q => c (by rw [hx, hy]; exact (nI_ltI ha hb).mpr q))))
end LCS
