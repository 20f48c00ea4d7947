/-! EXCEPTIONS in the layer: methods that refuse, and their catching -/
/-- where a method has thrown E: the picture is as it was; the heap may have grown -/
def XT (k : KX) (P : PT) (n : Nat) (E : String) : String → State → State → Prop := fun E' _ t => E' = E ∧ ∃ n', n ≤ n' ∧ Hp k P n' t.heap
abbrev QN : Array Value → State → Outcome → State → Prop := fun _ _ _ _ => False
/-- a contract: from the picture P of n own cells, with the arguments av, the method throws E, and nothing has changed -/
def CsT (k : KX) (y : MethodName) (cc : ByteArray) (maxL : Nat) (ret : Option FieldType) (h : Nat) (av : List Value) (P : PT) (n : Nat) (E : String) : Prop :=
  vx_Met (k_l k) y (Cond.code y cc maxL ret :: gw) (rmv h 1 6) (va_Pc av (Wd k P n)) QN (XT k P n E) 1 6 (fun q => k_b k ≤ q)
def ThX (X : CX) (P : PT) (n : Nat) (E : String) : Prop :=
  x_Q X = vx_MQ (x_b X) QN (XT X.1 P n E) (x_a X) (x_s X) 1 6 (fun q => k_b X.1 ≤ q) ∧ (∀ x ∈ (x_C X).exceptionTable.toList, False) ∧ (x_s X).heap.size = k_b X.1 + n
theorem ct_of {k : KX} {y : MethodName} {cc : ByteArray} {maxL : Nat} {ret : Option FieldType} {h : Nat} {av : List Value} {P : PT} {n : Nat} {E : String}
    (hy : plainName y.cls = true) (hav : (lg_sl av).length ≤ maxL)
    (body : ∀ X : CX, X.1 = k → OkX X cc maxL y.cls h 1 6 → ThX X P n E → Rn X 0 (lv_args 0 av) [] P n 0 0) : CsT k y cc maxL ret h av P n E := by
  refine vx_ofW (cc := cc) (maxL := maxL) (ret := ret) hy rfl ?_
  intro p e s m args below meth c s₁ B hml htab hv
  obtain ⟨rfl, hT, hH⟩ := hv
  have hts := atoms_spec (ws := Cond.code y cc maxL ret :: gw) B.pre
  have hown : s.vm.findClass y.cls = some m.cls := findClass_of_methodNamed B.named
  have hl := lv_entry av (n := maxL) hav
  rw [lg_entry_eq]
  exact body (k, p, e, rmv h 1 6, s, m, av.toArray, below, meth, c, maxL, vx_MQ below QN (XT k P n E) av.toArray s 1 6 (fun q => k_b k ≤ q)) rfl
    ⟨B.exec, B.bytes, rfl, hml, hown, fun w hw => hts w (List.mem_cons_of_mem _ hw), hT, ⟨by rw [hH.1]; exact Nat.le_add_right _ _, hH.2.1⟩, rfl, B.notSynchronized⟩
    ⟨rfl, htab, hH.1⟩ s.heap _ [] hH hl (fun q hq => absurd hq List.not_mem_nil)
/-- words of a throw that other words don't keep -/
def exW : List Cond := [.castable "java/lang/IllegalArgumentException" "java/lang/IllegalArgumentException", .castable "java/lang/IndexOutOfBoundsException" "java/lang/IndexOutOfBoundsException", .castable "java/lang/IllegalStateException" "java/lang/IllegalStateException", .declares ⟨"java/lang/RuntimeException", "<init>", "(Ljava/lang/String;)V"⟩, .declares ⟨"java/lang/Exception", "<init>", "(Ljava/lang/String;)V"⟩, .declares ⟨"java/lang/Throwable", "<init>", "(Ljava/lang/String;)V"⟩]
theorem exW_on : ∀ w ∈ exW, w.onTables = true := by decide
/-- what the tables say of throwing -/
def ExS (k : KX) (U : State) : Prop := (∀ w ∈ exW, va_Nw w U) ∧ ((k_l k).stackTraces = false ∧ vx_Zq Bundle.tN "UNASSIGNED_STACK" Bundle.steD (fun q => k_b k ≤ q) U (k_H k) ∧ vx_Zq Bundle.tN "SUPPRESSED_SENTINEL" Bundle.listD (fun q => k_b k ≤ q) U (k_H k)) ∧ (va_Nc "java/lang/IndexOutOfBoundsException" "java/lang/IllegalArgumentException" U ∧ va_Nc "java/lang/IllegalStateException" "java/lang/IllegalArgumentException" U) ∧ ∀ q ∈ [(98, "not all bytes have a place"), (109, "too many bytes"), (126, "no such register"), (129, "no such byte"), (131, "no such number of bytes"), (180, "the points are not of one curve"), (202, "no such what"), (212, "n is not 1 to 8"), (214, "no such curve"), (216, "no such place")], ∃ sa : Nat, vk_R RX11 q.1 q.2 sa U
def xNm : List String := ["java/lang/RuntimeException", "java/lang/Exception"]
section LX
variable {X : CX} {cc : ByteArray} {nL : Nat} {own : String} {h pc : Nat} {lv : List (Nat × Value)} {rest : List Value} {P : PT} {n n0 : Nat} {E : String}
theorem rn_throwS {text : String} {ik is ic : Nat} (C : OkX X cc nL own h 1 6) (Th : ThX X P n0 E) (hn : n0 ≤ n) (hX : ExS X.1 (x_s X)) (hstr : ∃ sa : Nat, vk_R own is text sa (x_s X))
    (hcls : Bundle.fit E = true) (hw : ∀ w ∈ Cond.classLink own ik E :: Cond.initialized E :: vx_atS own ic E xNm, w ∈ gw ∨ w ∈ exW)
    (d0 : decode cc pc = .ok (.new ik, 3)) (d3 : decode cc (pc + 3) = .ok (.dup, 1)) (d4 : decode cc (pc + 4) = .ok (.ldc is, 2)) (d6 : decode cc (pc + 6) = .ok (.invokespecial ic, 3)) (d9 : decode cc (pc + 9) = .ok (.athrow, 1))
    (hh : 5 < h) (hcat : (rest.map fun v => v.category).sum ≤ 8) : Rn X pc lv rest P n 0 0 := by
  intro H ls locs hH hl ho
  obtain ⟨sa, hsa⟩ := hstr
  have hts := C.2.2.2.2.2.1
  have hR : x_R X = rmv h 1 6 := C.2.2.2.2.2.2.2.2.1
  have hb := C.2.2.2.2.2.2.2.1.2
  have hww : ∀ w ∈ Cond.classLink own ik E :: Cond.initialized E :: vx_atS own ic E xNm, w.before (x_a X) (x_s X) = true := fun w h => (hw w h).elim (fun g => hts _ g) (fun g => va_Nw.use (exW_on w g) (hX.1 w g))
  show W _ _ _ _ _ _ _ _ _ _ _ _ _ _ (x_Q X) _
  rw [Th.1]
  exact vx_throwS (cls := E) (text := text) (names := xNm) (sa := sa) (ik := ik) (is := is) (ic := ic) (A := fun q => k_b X.1 ≤ q) C.1 C.2.1 hX.2.1.1 C.2.2.2.2.1 hcls (by decide) (hww _ List.mem_cons_self) (hww _ (List.mem_cons_of_mem _ List.mem_cons_self)) hsa (fun w hw' => hww w (List.mem_cons_of_mem _ (List.mem_cons_of_mem _ hw')))
    (fun w hw' => by
      unfold vx_ot
      rcases hw w hw' with g | g
      · rw [gw_good _ g]; exact Bool.or_true _
      · rw [exW_on w g]; exact Bool.true_or _)
    (hX.2.1.2.1.kept (fun a _ ha => hb a (Nat.not_le.mp ha))) (hX.2.1.2.2.kept (fun a _ ha => hb a (Nat.not_le.mp ha)))
    ⟨by rw [Th.2.2, hH.1]; omega, fun q _ h2 => (hH.2.1 q (Nat.not_le.mp h2)).trans (hb q (Nat.not_le.mp h2)).symm, ho⟩
    (by rw [hl.1, C.2.2.1, C.2.2.2.1]) d0 d3 d4 d6 d9 (fun x hx => (Th.2.1 x hx).elim)
    (by rw [hR]; exact hh) (by rw [hR]; show _ + (13 * (2 + 1) + 43) ≤ 45 * h; omega) (by rw [hR]; exact Nat.le_refl 1) (by rw [hR]; exact Nat.le_refl 6) C.2.2.2.2.2.2.2.2.2
    (fun t ha hz hk => ⟨rfl, t.heap.size - k_b X.1, by have := hH.1; omega, by have := hH.1; omega, fun q hq => (hk q (by have := hH.1; omega)).trans (hH.2.1 q hq), fun j e hj => (hH.2.2 j e hj).kept (hk _ (hH.2.2 j e hj).lt)⟩)
    ho (Nat.le_refl 1) (Nat.le_refl 6)
/-- a static call of a method that throws -/
theorem rn_callST {st0 As : List Value} {y : MethodName} {bytes : ByteArray} {maxL na idx h' : Nat} {ret : Option FieldType} (C : OkX X cc nL own h 1 6) (Th : ThX X P n0 E) (hn : n0 ≤ n) (hd : decode cc pc = .ok (.invokestatic idx, 3))
    (M : Mk y bytes maxL ret na) (L : Ls own idx y) (hM : CsT X.1 y bytes maxL ret h' As P n E) (hst : st0 = As.reverse ++ rest) (hna : As.length = na) (hh : h' < h) (hcat : (rest.map fun v => v.category).sum ≤ 8) : Rn X pc lv st0 P n 0 0 := by
  intro H ls locs hH hl ho T hT S
  have hts := C.2.2.2.2.2.1
  have hR : x_R X = rmv h 1 6 := C.2.2.2.2.2.2.2.2.1
  have hr := vx_runS (Ts := gw) (own := own) (H := H) (locs := locs) (cells := 0) (slots := 0) (g := F0 (x_m X) pc ls st0) (p := x_p X) (e := x_e X) (below := x_b X) (meth := x_M X) ⟨C.1, C.2.1, rfl, C.2.2.2.2.1, hts⟩ hM ⟨call_b hts hR M L.1 hh, hts _ L.2⟩ ⟨wd_blind, fun U hU hW => ⟨rfl, ok_wd C hH hU hW⟩⟩ rfl hna (by show ls.size = _; rw [hl.1, C.2.2.1, C.2.2.2.1]) hst (lv_room (rest := st0) hcat) hd (by rw [hR]; exact ⟨Nat.le_refl 1, Nat.le_refl 6⟩)
  rcases hr T hT S with ⟨v, st₀, t, T', L', h0, S', hL, e1, e2, hq, go⟩ | ⟨q, st₀, t, T', L', E', ce, h0, S', hL, e1, e2, ⟨rfl, n', hn', hwd⟩, hce, hcv, hcl, st⟩
  · exact hq.elim
  · obtain ⟨t2, a1, b1⟩ := vx_out (XC := XT X.1 P n0 E') (Qc := QN) (mc := 1) (ms := 6) (free := fun q => k_b X.1 ≤ q) (pc := pc) (E := E') (ce := ce) (q := q) (ls := ls) (rest := rest) (H := T'.heap) (locs := locs ++ L') (fun x hx => (Th.2.1 x hx).elim) C.2.2.2.2.2.2.2.2.2 (by rw [e1]; exact hce) hcv hcl
      (fun u hu ha => ⟨rfl, n', Nat.le_trans hn hn', by rw [hu, e1]; exact hwd⟩) (fun z hz => (List.mem_append.mp hz).elim (ho z) (hL z)) (Nat.le_refl 1) (Nat.le_refl 6) T' rfl S'
    exact ⟨t2, st.trans a1, by rw [Th.1]; exact b1⟩
end LX
/-- a contract of a method with a table of its own -/
def CsH (k : KX) (y : MethodName) (cc : ByteArray) (maxL : Nat) (ret : Option FieldType) (hh : List (Nat × Nat × Nat × Nat)) (h mc ms : Nat) (av : List Value) (P : PT) (n : Nat) (Post : Outcome → PT → Nat → Prop) : Prop :=
  Met (k_l k) y (Cond.codeWith y cc maxL ret hh :: gw) (rmv h mc ms) (va_Pc av (Wd k P n)) (QP k Post) mc ms (fun q => k_b k ≤ q)
theorem ch_of {k : KX} {y : MethodName} {cc : ByteArray} {maxL : Nat} {ret : Option FieldType} {hh : List (Nat × Nat × Nat × Nat)} {h mc ms : Nat} {av : List Value} {P : PT} {n : Nat} {Post : Outcome → PT → Nat → Prop}
    (hy : plainName y.cls = true) (hav : (lg_sl av).length ≤ maxL)
    (body : ∀ X : CX, X.1 = k → OkX X cc maxL y.cls h mc ms → RetX X ret mc ms Post → (x_C X).exceptionTable.toList = tableOf hh → Rn X 0 (lv_args 0 av) [] P n 0 0) : CsH k y cc maxL ret hh h mc ms av P n Post := by
  refine va_MetW (cc := cc) (maxL := maxL) (ret := ret) (hh := hh) hy rfl ?_
  intro p e s m args below meth c s₁ B hml hv
  obtain ⟨rfl, hT, hH⟩ := hv
  have hts := atoms_spec (ws := Cond.codeWith y cc maxL ret hh :: gw) B.pre
  have hown : s.vm.findClass y.cls = some m.cls := findClass_of_methodNamed B.named
  have hl := lv_entry av (n := maxL) hav
  have ht : c.exceptionTable.toList = tableOf hh := vx_table (x := y) B (hts _ List.mem_cons_self)
  rw [lg_entry_eq]
  exact body (k, p, e, rmv h mc ms, s, m, av.toArray, below, meth, c, maxL, MQ below (QP k Post) av.toArray s mc ms (fun q => k_b k ≤ q)) rfl
    ⟨B.exec, B.bytes, rfl, hml, hown, fun w hw => hts w (List.mem_cons_of_mem _ hw), hT, ⟨by rw [hH.1]; exact Nat.le_add_right _ _, hH.2.1⟩, rfl, B.notSynchronized⟩
    ⟨B.returns, rfl⟩ ht s.heap _ [] hH hl (fun q hq => absurd hq List.not_mem_nil)
section LY2
variable {X : CX} {cc : ByteArray} {nL : Nat} {own : String} {h mc ms pc : Nat} {lv : List (Nat × Value)} {rest : List Value} {P : PT} {n ce sl : Nat}
/-- a virtual call that throws, caught by the row x of this method's table -/
theorem rn_callVT {st0 As : List Value} {y : MethodName} {bytes : ByteArray} {maxL na idx h' j ci : Nat} {fs : List Value} {q : vw_C} {ret : Option FieldType} {E : String} {pre suf : List ExceptionTableEntry} {x : ExceptionTableEntry} (C : OkX X cc nL own h mc ms) (hd : decode cc pc = .ok (.invokevirtual idx, 3))
    (M : Mk y bytes maxL ret na) (L : Lv own idx y) (hM : CsT X.1 y bytes maxL ret h' (.ref (k_b X.1 + j) :: As) P n E) (hP : P j = some (.inr (ci, fs))) (hq : vwCl[ci]? = some q) (hqy : q.1 = y.cls) (hst : st0 = As.reverse ++ .ref (k_b X.1 + j) :: rest) (hna : As.length = na) (hh : h' < h) (hcat : (rest.map fun v => v.category).sum ≤ 8) (hc : ce + 1 ≤ mc) (hs : sl + 6 ≤ ms)
    (htab : (x_C X).exceptionTable.toList = pre ++ x :: suf) (hpass : ∀ z ∈ pre, covers z pc = false ∨ (z.catchType ≠ 0 ∧ ∃ nm : String, Cond.classLink own z.catchType nm ∈ gw ∧ va_Nc E nm (x_s X))) (hx : covers x pc = true) (h0 : x.catchType ≠ 0) (hlink : Cond.classLink own x.catchType E ∈ gw) (hcast : va_Nw (.castable E E) (x_s X))
    (k : ∀ (q9 n' : Nat), n ≤ n' → Rn X x.handlerPc lv [.ref q9] P n' (ce + 1) (sl + 6)) : Rn X pc lv st0 P n ce sl := by
  intro H ls locs hH hl ho T hT S
  have hts := C.2.2.2.2.2.1
  have hR : x_R X = rmv h mc ms := C.2.2.2.2.2.2.2.2.1
  obtain ⟨cell, g1, g2, g3⟩ := va_recv (ws := [(k_b X.1 + j, .inr (ci, fs))]) (q0 := 0) C.2.2.2.2.2.2.1.1 (H := H) (fun i x hx => by cases i with
    | zero => cases hx; exact hH.2.2 j _ hP
    | succ i => simp at hx) hq rfl
  have hr := vx_runV (Ts := gw) (own := own) (C := y.cls) (H := H) (locs := locs) (cells := ce) (slots := sl) (g := F0 (x_m X) pc ls st0) (p := x_p X) (e := x_e X) (below := x_b X) (meth := x_M X) ⟨C.1, C.2.1, rfl, C.2.2.2.2.1, hts⟩ hM ⟨call_b hts hR M L.1 hh, hts _ L.2.1, hts _ L.2.2⟩ ⟨wd_blind, ⟨cell, g1, g2, by rw [← hqy]; exact g3⟩, fun U hU hW => ⟨rfl, ok_wd C hH hU hW⟩⟩ rfl hna (by show ls.size = _; rw [hl.1, C.2.2.1, C.2.2.2.1]) hst (lv_room (rest := st0) hcat) hd (by rw [hR]; exact ⟨hc, hs⟩)
  rcases hr T hT S with ⟨v, st₀, t, T', L', h0', S', hL, e1, e2, hq', go⟩ | ⟨q9, st₀, t, T', L', E', ce', h0', S', hL, e1, e2, ⟨rfl, n', hn', hwd⟩, hce, hcv, hcl, st⟩
  · exact hq'.elim
  · have kk := vx_catch (own := own) (name := E') (E := E') (ce := ce') (q := q9) (H := T'.heap) (locs := locs ++ L') (pc := pc) (ls := ls) (rest := rest) (Q := x_Q X) (p := x_p X) (l := k_l X.1) (e := x_e X) (R := x_R X) (s := x_s X) (m := x_m X) (args := x_a X) (below := x_b X) (meth := x_M X) (c := x_C X) (cells := ce + 1) (slots := sl + 6) C.2.2.2.2.1 pre x suf htab
      (fun z hz => (hpass z hz).elim Or.inl (fun ⟨z0, nm, z1, z2⟩ => Or.inr ⟨z0, nm, hts _ z1, z2⟩)) hx h0 (hts _ hlink) (va_Nw.use rfl hcast) (by rw [e1]; exact hce) hcv hcl
      (k q9 n' hn' T'.heap ls (locs ++ L') (by rw [e1]; exact hwd) hl (fun z hz => (List.mem_append.mp hz).elim (ho z) (hL z)))
    obtain ⟨t2, a1, b1⟩ := kk T' rfl S'
    exact ⟨t2, st.trans a1, b1⟩
/-- a static call of a method with a table -/
theorem rn_callSW {st0 As : List Value} {y : MethodName} {bytes : ByteArray} {maxL na idx h' mc' ms' : Nat} {ret : Option FieldType} {tab : List (Nat × Nat × Nat × Nat)} {Post : Outcome → PT → Nat → Prop} (C : OkX X cc nL own h mc ms) (hd : decode cc pc = .ok (.invokestatic idx, 3))
    (M : (Cond.codeWith y bytes maxL ret tab ∈ gw ∧ Cond.initialized y.cls ∈ gw ∧ Cond.methodLink own idx y ∈ gw ∧ Cond.static y ∈ gw) ∧ (y.cls ≠ "java/lang/invoke/MethodHandle" ∧ y.cls ≠ "java/lang/invoke/VarHandle" ∧ (parseMethodDescriptor y.desc).map (fun d => d.parameters.length) = some na) ∧ maxL ≤ 26)
    (hM : CsH X.1 y bytes maxL ret tab h' mc' ms' As P n Post) (hst : st0 = As.reverse ++ rest) (hna : As.length = na) (hh : h' < h) (hcat : (rest.map fun v => v.category).sum ≤ 8) (hc : ce + mc' ≤ mc) (hs : sl + ms' ≤ ms)
    (k : ∀ (v : Option Value) (P' : PT) (n' : Nat), Post (.returned v) P' n' → Rn X (pc + 3) lv (v.toList ++ rest) P' n' (ce + mc') (sl + ms')) : Rn X pc lv st0 P n ce sl := by
  refine rn_run (y := y) (ret := ret) (h' := h') (free := fun _ => True) (As := As.toArray) (fun H ls locs hH hl => ?_) k
  have hts := C.2.2.2.2.2.1
  have hR : x_R X = rmv h mc ms := C.2.2.2.2.2.2.2.2.1
  have hG : GoodIn gw (Cond.codeWith y bytes maxL ret tab :: gw) := fun w hw => (List.mem_cons.mp hw).elim (fun e => by subst e; exact ⟨M.1.1, good_of_word (gw_good _ M.1.1)⟩) (fun hw => ⟨hw, good_of_word (gw_good _ hw)⟩)
  have hlo : 8 + (maxL + 11) + 45 * h' ≤ 45 * h := by have := M.2.2; omega
  have cw : vx_CSW (x_R X) (x_s X) (x_a X) own idx y bytes maxL ret tab (Cond.codeWith y bytes maxL ret tab :: gw) (rmv h' mc' ms') mc' ms' na :=
    ⟨⟨rfl, rfl, by rw [hR]; exact hh, by rw [hR]; exact hlo, pay_in hts hG, List.mem_cons_self⟩, hts _ M.1.1, hts _ M.1.2.1, ⟨M.2.1.1, M.2.1.2.1⟩, fun sig hsig => by have h2 := M.2.1.2.2; rw [hsig] at h2; exact (Option.some.inj h2).symm, hts _ M.1.2.2.1, hts _ M.1.2.2.2⟩
  exact vx_runSW (Ts := gw) (own := own) (g := F0 (x_m X) pc ls st0) ⟨C.1, C.2.1, rfl, C.2.2.2.2.1, hts⟩ hM cw ⟨wd_blind, fun U hU hW => ⟨rfl, ok_wd C hH hU hW⟩⟩ rfl hna (by show ls.size = _; rw [hl.1, C.2.2.1, C.2.2.2.1]) hst (lv_room (rest := st0) hcat) hd (by rw [hR]; exact ⟨hc, hs⟩)
end LY2
/-- the picture as told, in a heap that may have grown -/
def PiN (k : KX) (L : Nat → Option Sh) (n : Nat) (R : Int32 × StT) : Outcome → PT → Nat → Prop := fun o P' n' => o = .returned (some (.int R.1)) ∧ P' = inst k L R.2.1 R.2.2.1 R.2.2.2 ∧ n ≤ n'
