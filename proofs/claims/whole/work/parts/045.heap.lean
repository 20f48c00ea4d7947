/-! THE LAYER: rules that read and write the picture, calls, returns -/
abbrev up (P : PT) (j : Nat) (e : va_E) : PT := fun i => if i = j then some e else P i
theorem up_s {P : PT} {j : Nat} {e : va_E} : up P j e j = some e := if_pos rfl
theorem up_n {P : PT} {i j : Nat} {e : va_E} (h : i ≠ j) : up P j e i = P i := if_neg h
abbrev eI (k : KX) (n : Nat) (f : Nat → Int32) : va_E := .inl (k_c k 0, n, .inl f)
abbrev eJ (k : KX) (n : Nat) (f : Nat → Int64) : va_E := .inl (k_c k 1, n, .inr (.inl f))
abbrev eA (k : KX) (t n : Nat) (f : Nat → Option Nat) : va_E := .inl (k_c k t, n, .inr (.inr (.inr (.inr f))))
theorem hp_set {k : KX} {P : PT} {n j : Nat} {e : va_E} {H H1 : Heap} (h : Hp k P n H) (he : va_at (k_D k) vwCl (k_b k + j, e) H1) (z : H1.size = H.size) (oq : ∀ q : Nat, q ≠ k_b k + j → H1[q]? = H[q]?) : Hp k (up P j e) n H1 := by
  refine ⟨by rw [z]; exact h.1, fun q hq => by rw [oq q (by omega)]; exact h.2.1 q hq, fun i e' hi => ?_⟩
  by_cases hij : i = j
  · subst hij
    rw [up_s] at hi
    cases hi
    exact he
  · rw [up_n hij] at hi
    exact (h.2.2 i e' hi).kept (oq _ (by show k_b k + i ≠ k_b k + j; omega))
theorem hp_new {k : KX} {P : PT} {n : Nat} {e : va_E} {H H1 : Heap} (h : Hp k P n H) (he : va_at (k_D k) vwCl (k_b k + n, e) H1) (z : H1.size = H.size + 1) (oq : ∀ q : Nat, q < H.size → H1[q]? = H[q]?) : Hp k (up P n e) (n + 1) H1 := by
  refine ⟨by rw [z, h.1]; omega, fun q hq => by rw [oq q (by rw [h.1]; omega)]; exact h.2.1 q hq, fun i e' hi => ?_⟩
  by_cases hij : i = n
  · subst hij
    rw [up_s] at hi
    cases hi
    exact he
  · rw [up_n hij] at hi
    exact (h.2.2 i e' hi).kept (oq _ (h.2.2 i e' hi).lt)
/-- a field by its entry, the number of its kind and its own -/
def Fl (own : String) (idx ci q : Nat) : Prop := ∃ (C : String) (T : u_T) (N : Nat), vwCl[ci]? = some (C, T, N) ∧ q < N ∧ Cond.fieldLink own idx (T q).1 (T q).2.1 (T q).2.2.1 ∈ gw ∧ ∀ w ∈ u_ws C T N, w ∈ gw
/-- the same, to be written: its type; fin: it is final and of this very kind -/
def Fp (own : String) (idx ci q : Nat) (ty : FieldType) (fin : Bool) : Prop := ∃ (C : String) (T : u_T) (N : Nat) (ty0 : Nat → FieldType), vwCl[ci]? = some (C, T, N) ∧ q < N ∧ Cond.fieldLink own idx (T q).1 (T q).2.1 (T q).2.2.1 ∈ gw ∧ (∀ w ∈ u_ws C T N, w ∈ gw) ∧ (∀ k, k < N → parseFieldDescriptor (T k).2.2.1 = some (ty0 k)) ∧ (∀ a, a < N → ∀ b, b < N → a ≠ b → (T a).2.1 ≠ (T b).2.1) ∧ (T q).2.2.2 = fin ∧ (fin = true → (T q).1 = own) ∧ parseFieldDescriptor (T q).2.2.1 = some ty
/-- a method by its code: how many arguments -/
def Mk (y : MethodName) (cc : ByteArray) (maxL : Nat) (ret : Option FieldType) (na : Nat) : Prop := Cond.code y cc maxL ret ∈ gw ∧ Cond.initialized y.cls ∈ gw ∧ (y.cls ≠ "java/lang/invoke/MethodHandle" ∧ y.cls ≠ "java/lang/invoke/VarHandle" ∧ (parseMethodDescriptor y.desc).map (fun d => d.parameters.length) = some na) ∧ maxL ≤ 26
def Lv (own : String) (idx : Nat) (y : MethodName) : Prop := Cond.methodLink own idx y ∈ gw ∧ Cond.instanceMethod y ∈ gw ∧ Cond.selects y.cls y y ∈ gw
def Ls (own : String) (idx : Nat) (y : MethodName) : Prop := Cond.methodLink own idx y ∈ gw ∧ Cond.static y ∈ gw
def Li (own : String) (idx : Nat) (y : MethodName) : Prop := Cond.methodLink own idx y ∈ gw ∧ Cond.instanceMethod y ∈ gw ∧ y.name = "<init>"
theorem nI_ix {i : Int32} {q N : Nat} (hi : i = nI q) (hq : q < N) (hN : N < 2 ^ 31) : vp_in i N := hi ▸ vp_in_nI hq hN
section LH
variable {X : CX} {cc : ByteArray} {nL : Nat} {own : String} {h mc ms pc : Nat} {lv : List (Nat × Value)} {rest : List Value} {P : PT} {n ce sl : Nat}
theorem rn_get {j idx ci q : Nat} {fs : List Value} {v : Value} (C : OkX X cc nL own h mc ms) (hd : decode cc pc = .ok (.getfield idx, 3)) (F : Fl own idx ci q) (hP : P j = some (.inr (ci, fs))) (hv : fs[q]? = some v) (k : Rn X (pc + 3) lv (v :: rest) P n ce sl) : Rn X pc lv (.ref (k_b X.1 + j) :: rest) P n ce sl := by
  intro H ls locs hH hl ho
  obtain ⟨D, T, N, h1, h2, h3, h4⟩ := F
  exact va_get (D := k_D X.1) (cl := vwCl) (tys := k_ty X.1) (ws := [(k_b X.1 + j, .inr (ci, fs))]) C.1 C.2.1 C.2.2.2.2.2.1 h4 C.2.2.2.2.1 C.2.2.2.2.2.2.1.1 (fun i x hx => by cases i with
    | zero => cases hx; exact hH.2.2 j _ hP
    | succ i => simp at hx) 0 rfl h1 q h2 (C.2.2.2.2.2.1 _ h3) (fun _ g => g) hv hd (k H ls locs hH hl ho)
theorem rn_put {j idx ci q : Nat} {fs : List Value} {v : Value} {ty : FieldType} (C : OkX X cc nL own h mc ms) (hd : decode cc pc = .ok (.putfield idx, 3)) (F : Fp own idx ci q ty false) (hP : P j = some (.inr (ci, fs))) (hn : narrow ty v = v) (hfit : fits ty v = true) (hlen : q < fs.length) (k : Rn X (pc + 3) lv rest (up P j (.inr (ci, fs.set q v))) n ce sl) : Rn X pc lv (v :: .ref (k_b X.1 + j) :: rest) P n ce sl := by
  intro H ls locs hH hl ho
  obtain ⟨D, T, N, ty0, hc, hk, h3, hin, hty, hnm, hfin, -, hdd⟩ := F
  have hK := C.2.2.2.2.2.2.1.1
  have hts := C.2.2.2.2.2.1
  have hap := va_apart (own := own) hts hin ty0 hty hnm hK hc
  obtain ⟨r, h1, cell, q1, q2, q3, q4⟩ := hH.2.2 j _ hP
  have hr : r = (D, T, N) := Option.some.inj (h1.symm.trans hc)
  subst hr
  obtain ⟨hS, hfc, kC, hkC, hkind⟩ := hK.1 ci _ hc
  obtain ⟨cf, kf, fi, f, hi, hsl⟩ := hS q hk
  have hlay := hts _ (hin _ (u_in_lay hk))
  unfold u_lay at hlay
  rw [if_neg (by rw [hfin]; decide)] at hlay
  have hst := (u_facts hfc hkC (u_lays hts hin hk) hi).1
  have h6 := u_store hfc hkC hkind hlay hi hdd hn hfit
  refine W.putK C.1 C.2.1 (f := f) ⟨C.2.2.2.2.1, hts _ h3, ⟨_, _, _, hi⟩, hst⟩ (by rw [q2]; exact h6) q1 q3 (by rw [hsl]; exact k2_hasslot (q4 q hk)) rfl rfl hd fun H' e1 e2 e3 => ?_
  rw [hsl] at e1 ⊢
  refine k H' ls _ (hp_set hH ⟨_, hc, t_OB.to (V := updV (vp_V fs) q v) ⟨_, e1, q2, q3, t_set q4 hap hk v⟩ (fun j _ => vp_updV_set hlen v j)⟩ e2 e3) hl (fun z hz => ?_)
  rcases List.mem_append.mp hz with g | g
  · exact ho z g
  · rw [List.mem_singleton.mp g]; exact Nat.le_add_right _ _
theorem rn_laload {j len q : Nat} {f : Nat → Int64} {i : Int32} (C : OkX X cc nL own h mc ms) (hd : decode cc pc = .ok (.laload, 1)) (hP : P j = some (eJ X.1 len f)) (hi : i = nI q) (hq : q < len) (hlen : len < 2 ^ 31) (k : Rn X (pc + 1) lv (.long (f q) :: rest) P n ce sl) : Rn X pc lv (.int i :: .ref (k_b X.1 + j) :: rest) P n ce sl := by
  intro H ls locs hH hl ho
  have e : i.toNatClampNeg = q := by rw [hi]; exact nI_clamp (by omega)
  refine va_lald (D := k_D X.1) (cl := vwCl) (tys := k_ty X.1) (ws := [(k_b X.1 + j, eJ X.1 len f)]) C.1 C.2.1 C.2.2.2.2.2.2.1.1 (fun i x hx => by cases i with
    | zero => cases hx; exact hH.2.2 j _ hP
    | succ i => simp at hx) 0 1 rfl rfl (nI_ix hi hq hlen) hd ?_
  rw [e]
  exact k H ls locs hH hl ho
theorem rn_iaload {j len q : Nat} {f : Nat → Int32} {i : Int32} (C : OkX X cc nL own h mc ms) (hd : decode cc pc = .ok (.iaload, 1)) (hP : P j = some (eI X.1 len f)) (hi : i = nI q) (hq : q < len) (hlen : len < 2 ^ 31) (k : Rn X (pc + 1) lv (.int (f q) :: rest) P n ce sl) : Rn X pc lv (.int i :: .ref (k_b X.1 + j) :: rest) P n ce sl := by
  intro H ls locs hH hl ho
  have e : i.toNatClampNeg = q := by rw [hi]; exact nI_clamp (by omega)
  refine va_iald (D := k_D X.1) (cl := vwCl) (tys := k_ty X.1) (ws := [(k_b X.1 + j, eI X.1 len f)]) C.1 C.2.1 C.2.2.2.2.2.2.1.1 (fun i x hx => by cases i with
    | zero => cases hx; exact hH.2.2 j _ hP
    | succ i => simp at hx) 0 0 rfl rfl (nI_ix hi hq hlen) hd ?_
  rw [e]
  exact k H ls locs hH hl ho
theorem rn_aaload {j len q t : Nat} {D : String} {f : Nat → Option Nat} {i : Int32} {a : Nat} (C : OkX X cc nL own h mc ms) (hd : decode cc pc = .ok (.aaload, 1)) (hP : P j = some (eA X.1 t len f)) (ht : (k_ty X.1)[t]? = some (k_c X.1 t, .object D)) (hi : i = nI q) (hq : q < len) (hlen : len < 2 ^ 31) (hf : f q = some a) (k : Rn X (pc + 1) lv (.ref a :: rest) P n ce sl) : Rn X pc lv (.int i :: .ref (k_b X.1 + j) :: rest) P n ce sl := by
  intro H ls locs hH hl ho
  have e : i.toNatClampNeg = q := by rw [hi]; exact nI_clamp (by omega)
  refine va_aldq (D := k_D X.1) (cl := vwCl) (tys := k_ty X.1) (ws := [(k_b X.1 + j, eA X.1 t len f)]) C.1 C.2.1 C.2.2.2.2.2.2.1.1 (fun i x hx => by cases i with
    | zero => cases hx; exact hH.2.2 j _ hP
    | succ i => simp at hx) 0 t rfl ht (nI_ix hi hq hlen) hd ?_
  rw [e, hf]
  exact k H ls locs hH hl ho
theorem rn_alen {j : Nat} {ty : FieldType} {t : Nat} {x : vp_A} {v : Int32} (C : OkX X cc nL own h mc ms) (hd : decode cc pc = .ok (.arraylength, 1)) (hP : P j = some (.inl (k_c X.1 t, x))) (ht : (k_ty X.1)[t]? = some (k_c X.1 t, ty)) (hv : nI x.1 = v) (k : Rn X (pc + 1) lv (.int v :: rest) P n ce sl) : Rn X pc lv (.ref (k_b X.1 + j) :: rest) P n ce sl := by
  intro H ls locs hH hl ho
  exact va_alen (D := k_D X.1) (cl := vwCl) (tys := k_ty X.1) (ws := [(k_b X.1 + j, .inl (k_c X.1 t, x))]) C.1 C.2.1 C.2.2.2.2.2.2.1.1 (fun i x hx => by cases i with
    | zero => cases hx; exact hH.2.2 j _ hP
    | succ i => simp at hx) 0 t rfl ht hv hd (k H ls locs hH hl ho)
theorem rn_lastore {j len q : Nat} {f : Nat → Int64} {i : Int32} {x : Int64} (C : OkX X cc nL own h mc ms) (hd : decode cc pc = .ok (.lastore, 1)) (hP : P j = some (eJ X.1 len f)) (hi : i = nI q) (hq : q < len) (hlen : len < 2 ^ 31) (k : Rn X (pc + 1) lv rest (up P j (eJ X.1 len (vp_updL f q x))) n ce sl) : Rn X pc lv (.long x :: .int i :: .ref (k_b X.1 + j) :: rest) P n ce sl := by
  intro H ls locs hH hl ho
  have e : i.toNatClampNeg = q := by rw [hi]; exact nI_clamp (by omega)
  have hin := nI_ix hi hq hlen
  refine W.last C.1 C.2.1 (hH.2.2 j _ hP) ((C.2.2.2.2.2.2.1.1.2 1 _ rfl).1 len (fun j => .long (f j))) (fun q => by cases q) (by show ¬ (i < 0 ∨ (arrV _ _ _).slots.size ≤ _); rw [arrV_size]; exact hin) rfl rfl hd fun H1 e1 z oq => ?_
  refine k H1 ls _ (hp_set hH ?_ z oq) hl (fun z hz => ?_)
  · show H1[_]? = some (vp_cell _ _)
    rw [e1, e]
    rw [vp_cell_l, vp_cell_l, arrV_store]
    congr 2
    funext r
    by_cases hr : r = q
    · subst hr
      simp [updV, vp_updL]
    · simp [updV, vp_updL, hr]
  · rcases List.mem_append.mp hz with g | g
    · exact ho z g
    · rw [List.mem_singleton.mp g]; exact Nat.le_add_right _ _
theorem rn_iastore {j len q : Nat} {f : Nat → Int32} {i : Int32} {x : Int32} (C : OkX X cc nL own h mc ms) (hd : decode cc pc = .ok (.iastore, 1)) (hP : P j = some (eI X.1 len f)) (hi : i = nI q) (hq : q < len) (hlen : len < 2 ^ 31) (k : Rn X (pc + 1) lv rest (up P j (eI X.1 len (upd f q x))) n ce sl) : Rn X pc lv (.int x :: .int i :: .ref (k_b X.1 + j) :: rest) P n ce sl := by
  intro H ls locs hH hl ho
  have e : i.toNatClampNeg = q := by rw [hi]; exact nI_clamp (by omega)
  have hin := nI_ix hi hq hlen
  refine W.iast C.1 C.2.1 (hH.2.2 j _ hP) ((C.2.2.2.2.2.2.1.1.2 0 _ rfl).1 len (fun j => .int (f j))) (fun q => by cases q) (by show ¬ (i < 0 ∨ (arrV _ _ _).slots.size ≤ _); rw [arrV_size]; exact hin) rfl rfl hd fun H1 e1 z oq => ?_
  refine k H1 ls _ (hp_set hH ?_ z oq) hl (fun z hz => ?_)
  · show H1[_]? = some (vp_cell _ _)
    rw [e1, e]
    rw [vp_cell_i, vp_cell_i, arrV_store]
    congr 2
    funext r
    by_cases hr : r = q
    · subst hr
      simp [updV, upd]
    · simp [updV, upd, hr]
  · rcases List.mem_append.mp hz with g | g
    · exact ho z g
    · rw [List.mem_singleton.mp g]; exact Nat.le_add_right _ _
theorem wd_blind {k : KX} {P : PT} {n : Nat} {av : List Value} : FrameBlind (va_Pc av (Wd k P n)) := fun a U g mk hq => ⟨hq.1, tb_same (u := U) (U := U.calling g mk a) rfl hq.2.1, hq.2.2⟩
theorem rn_run {st0 : List Value} {y : MethodName} {ret : Option FieldType} {h' mc' ms' : Nat} {As : Array Value} {Post : Outcome → PT → Nat → Prop} {free : Addr → Prop}
    (hr : ∀ (H : Heap) (ls : Array Slot) (locs : List Loc), Hp X.1 P n H → lv_has ls (x_n X) lv → va_Run (x_p X) (k_l X.1) (x_e X) (x_R X) (x_s X) (x_m X) (x_a X) (x_b X) (x_M X) (x_C X) H locs ce sl mc' ms' (F0 (x_m X) pc ls st0) rest (QP X.1 Post As) (fun q => k_b X.1 ≤ q))
    (k : ∀ (v : Option Value) (P' : PT) (n' : Nat), Post (.returned v) P' n' → Rn X (pc + 3) lv (v.toList ++ rest) P' n' (ce + mc') (sl + ms')) : Rn X pc lv st0 P n ce sl := by
  intro H ls locs hH hl ho T hT S
  obtain ⟨v, st₀, t, T', L, h0, S', hL, e1, e2, ⟨P', n', hp, hwd⟩, go⟩ := hr H ls locs hH hl T hT S
  obtain ⟨t2, a1, b1⟩ := k v P' n' hp T'.heap ls (locs ++ L) (by rw [e1]; exact hwd.2) hl (fun q hq => (List.mem_append.mp hq).elim (ho q) (hL q)) T' rfl S'
  exact ⟨t2, go t2 a1, b1⟩
theorem call_b {R : Room} {s : State} {args : Array Value} {idx na maxL h' mc' ms' : Nat} {y : MethodName} {bytes : ByteArray} {ret : Option FieldType} (hts : ∀ w ∈ gw, w.before args s = true) (hR : R = rmv h mc ms) (M : Mk y bytes maxL ret na) (hl : Cond.methodLink own idx y ∈ gw) (hh : h' < h) :
    CallB R s args own idx y bytes maxL ret (Cond.code y bytes maxL ret :: gw) (rmv h' mc' ms') mc' ms' na := by
  subst hR
  refine callB_of na hts (goodIn_gw M.1) rfl rfl rfl (hts _ M.2.1) (hts _ hl) M.2.2.1 ⟨hh, ?_⟩
  have := M.2.2.2
  show 8 + (maxL + 11) + 45 * h' ≤ 45 * h
  omega
/-- a virtual call: the receiver at place j is an object of the method's own kind -/
theorem rn_callV {st0 As : List Value} {y : MethodName} {bytes : ByteArray} {maxL na idx h' mc' ms' j ci : Nat} {fs : List Value} {q : vw_C} {ret : Option FieldType} {Post : Outcome → PT → Nat → Prop} (C : OkX X cc nL own h mc ms) (hd : decode cc pc = .ok (.invokevirtual idx, 3))
    (M : Mk y bytes maxL ret na) (L : Lv own idx y) (hM : Cs X.1 y bytes maxL ret h' mc' ms' (.ref (k_b X.1 + j) :: As) P n Post) (hP : P j = some (.inr (ci, fs))) (hq : vwCl[ci]? = some q) (hqy : q.1 = y.cls) (hst : st0 = As.reverse ++ .ref (k_b X.1 + j) :: rest) (hna : As.length = na) (hh : h' < h) (hcat : (rest.map fun v => v.category).sum ≤ 8) (hc : ce + mc' ≤ mc) (hs : sl + ms' ≤ ms)
    (k : ∀ (v : Option Value) (P' : PT) (n' : Nat), Post (.returned v) P' n' → Rn X (pc + 3) lv (v.toList ++ rest) P' n' (ce + mc') (sl + ms')) : Rn X pc lv st0 P n ce sl := by
  refine rn_run (y := y) (ret := ret) (h' := h') (free := fun _ => True) (As := (Value.ref (k_b X.1 + j) :: As).toArray) (fun H ls locs hH hl => ?_) k
  have hts := C.2.2.2.2.2.1
  have hR : x_R X = rmv h mc ms := C.2.2.2.2.2.2.2.2.1
  obtain ⟨cell, g1, g2, g3⟩ := va_recv (ws := [(k_b X.1 + j, .inr (ci, fs))]) (q0 := 0) C.2.2.2.2.2.2.1.1 (H := H) (fun i x hx => by cases i with
    | zero => cases hx; exact hH.2.2 j _ hP
    | succ i => simp at hx) hq rfl
  refine va_runV (Ts := gw) (own := own) (C := y.cls) (g := F0 (x_m X) pc ls st0) ⟨C.1, C.2.1, rfl, C.2.2.2.2.1, hts⟩ hM ⟨call_b hts hR M L.1 hh, hts _ L.2.1, hts _ L.2.2⟩ ⟨wd_blind, ⟨cell, g1, g2, by rw [← hqy]; exact g3⟩, fun U hU hW => ⟨rfl, ok_wd C hH hU hW⟩⟩ rfl hna (by show ls.size = _; rw [hl.1, C.2.2.1, C.2.2.2.1]) hst (lv_room (rest := st0) hcat) hd (by rw [hR]; exact ⟨hc, hs⟩)
theorem rn_callS {st0 As : List Value} {y : MethodName} {bytes : ByteArray} {maxL na idx h' mc' ms' : Nat} {ret : Option FieldType} {Post : Outcome → PT → Nat → Prop} (C : OkX X cc nL own h mc ms) (hd : decode cc pc = .ok (.invokestatic idx, 3))
    (M : Mk y bytes maxL ret na) (L : Ls own idx y) (hM : Cs X.1 y bytes maxL ret h' mc' ms' As P n Post) (hst : st0 = As.reverse ++ rest) (hna : As.length = na) (hh : h' < h) (hcat : (rest.map fun v => v.category).sum ≤ 8) (hc : ce + mc' ≤ mc) (hs : sl + ms' ≤ ms)
    (k : ∀ (v : Option Value) (P' : PT) (n' : Nat), Post (.returned v) P' n' → Rn X (pc + 3) lv (v.toList ++ rest) P' n' (ce + mc') (sl + ms')) : Rn X pc lv st0 P n ce sl := by
  refine rn_run (y := y) (ret := ret) (h' := h') (free := fun _ => True) (As := As.toArray) (fun H ls locs hH hl => ?_) k
  have hts := C.2.2.2.2.2.1
  have hR : x_R X = rmv h mc ms := C.2.2.2.2.2.2.2.2.1
  refine va_runS (Ts := gw) (own := own) (g := F0 (x_m X) pc ls st0) ⟨C.1, C.2.1, rfl, C.2.2.2.2.1, hts⟩ hM ⟨call_b hts hR M L.1 hh, hts _ L.2⟩ ⟨wd_blind, fun U hU hW => ⟨rfl, ok_wd C hH hU hW⟩⟩ rfl hna (by show ls.size = _; rw [hl.1, C.2.2.1, C.2.2.2.1]) hst (lv_room (rest := st0) hcat) hd (by rw [hR]; exact ⟨hc, hs⟩)
theorem rn_callI {st0 As : List Value} {y : MethodName} {bytes : ByteArray} {maxL na idx h' mc' ms' a : Nat} {Post : Outcome → PT → Nat → Prop} (C : OkX X cc nL own h mc ms) (hd : decode cc pc = .ok (.invokespecial idx, 3))
    (M : Mk y bytes maxL none na) (L : Li own idx y) (hM : Cs X.1 y bytes maxL none h' mc' ms' (.ref a :: As) P n Post) (hst : st0 = As.reverse ++ .ref a :: rest) (hna : As.length = na) (hh : h' < h) (hcat : (rest.map fun v => v.category).sum ≤ 8) (hc : ce + mc' ≤ mc) (hs : sl + ms' ≤ ms)
    (k : ∀ (v : Option Value) (P' : PT) (n' : Nat), Post (.returned v) P' n' → Rn X (pc + 3) lv (v.toList ++ rest) P' n' (ce + mc') (sl + ms')) : Rn X pc lv st0 P n ce sl := by
  refine rn_run (y := y) (ret := none) (h' := h') (free := fun _ => True) (As := (Value.ref a :: As).toArray) (fun H ls locs hH hl => ?_) k
  have hts := C.2.2.2.2.2.1
  have hR : x_R X = rmv h mc ms := C.2.2.2.2.2.2.2.2.1
  refine va_runI (Ts := gw) (own := own) (b := a) (g := F0 (x_m X) pc ls st0) ⟨C.1, C.2.1, rfl, C.2.2.2.2.1, hts⟩ hM ⟨call_b hts hR M L.1 hh, L.2.2, hts _ L.2.1⟩ ⟨wd_blind, fun U hU hW => ⟨rfl, ok_wd C hH hU hW⟩⟩ rfl hna (by show ls.size = _; rw [hl.1, C.2.2.1, C.2.2.2.1]) hst (lv_room (rest := st0) hcat) hd (by rw [hR]; exact ⟨hc, hs⟩)
theorem rn_vret {Post : Outcome → PT → Nat → Prop} (C : OkX X cc nL own h mc ms) (Rt : RetX X none mc ms Post) (hd : decode cc pc = .ok (.return_, 1)) (hp : Post (.returned none) P n) (hc : ce ≤ mc) (hs : sl ≤ ms) : Rn X pc lv [] P n ce sl := by
  intro H ls locs hH hl ho
  refine W.widen hc hs ?_
  show W _ _ _ _ _ _ _ _ _ _ _ _ _ _ (x_Q X) _
  rw [Rt.2]
  exact W.vret C.1 C.2.1 Rt.1 (fun t ht hW => ⟨P, n, hp, ok_wd C hH ht hW⟩) ho hd (hlocks := C.2.2.2.2.2.2.2.2.2)
theorem rn_iret {Post : Outcome → PT → Nat → Prop} {v : Int32} (C : OkX X cc nL own h mc ms) (Rt : RetX X (some .int) mc ms Post) (hd : decode cc pc = .ok (.ireturn, 1)) (hp : Post (.returned (some (.int v))) P n) (hc : ce ≤ mc) (hs : sl ≤ ms) : Rn X pc lv [.int v] P n ce sl := by
  intro H ls locs hH hl ho
  refine W.widen hc hs ?_
  show W _ _ _ _ _ _ _ _ _ _ _ _ _ _ (x_Q X) _
  rw [Rt.2]
  exact W.iret C.1 C.2.1 Rt.1 (fun t ht hW => ⟨P, n, hp, ok_wd C hH ht hW⟩) ho hd (hlocks := C.2.2.2.2.2.2.2.2.2)
theorem rn_zret {Post : Outcome → PT → Nat → Prop} {v : Int32} {ty : FieldType} (C : OkX X cc nL own h mc ms) (Rt : RetX X (some ty) mc ms Post) (hd : decode cc pc = .ok (.ireturn, 1)) (hn : narrow ty (.int v) = .int v) (hp : Post (.returned (some (.int v))) P n) (hc : ce ≤ mc) (hs : sl ≤ ms) : Rn X pc lv [.int v] P n ce sl := by
  intro H ls locs hH hl ho
  refine W.widen hc hs ?_
  show W _ _ _ _ _ _ _ _ _ _ _ _ _ _ (x_Q X) _
  rw [Rt.2]
  exact W.zret C.1 C.2.1 Rt.1 hn (fun t ht hW => ⟨P, n, hp, ok_wd C hH ht hW⟩) ho hd (hlocks := C.2.2.2.2.2.2.2.2.2)
theorem rn_lret {Post : Outcome → PT → Nat → Prop} {v : Int64} (C : OkX X cc nL own h mc ms) (Rt : RetX X (some .long) mc ms Post) (hd : decode cc pc = .ok (.lreturn, 1)) (hp : Post (.returned (some (.long v))) P n) (hc : ce ≤ mc) (hs : sl ≤ ms) : Rn X pc lv [.long v] P n ce sl := by
  intro H ls locs hH hl ho
  refine W.widen hc hs ?_
  show W _ _ _ _ _ _ _ _ _ _ _ _ _ _ (x_Q X) _
  rw [Rt.2]
  exact W.lret C.1 C.2.1 Rt.1 (fun t ht hW => ⟨P, n, hp, ok_wd C hH ht hW⟩) ho hd (hlocks := C.2.2.2.2.2.2.2.2.2)
end LH
