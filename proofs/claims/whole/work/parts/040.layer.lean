/-! THE LAYER. A picture of the heap is a function from places (address minus first own address) to cells; Rn says of a frame at a pc, with these locals, this stack and this picture, that the method comes to its end as its contract says. -/
abbrev PT : Type := Nat → Option va_E
/-- launch, numbers and slots of the kinds of objects, of rows, first own address, the heap at the law's start, what the tables say of statics -/
abbrev KX : Type := Launch × va_G × (Nat → ClassId) × Nat × Heap × (State → Prop)
abbrev k_l (k : KX) : Launch := k.1
abbrev k_D (k : KX) : va_G := k.2.1
abbrev k_c (k : KX) : Nat → ClassId := k.2.2.1
abbrev k_b (k : KX) : Nat := k.2.2.2.1
abbrev k_H (k : KX) : Heap := k.2.2.2.2.1
abbrev k_F (k : KX) : State → Prop := k.2.2.2.2.2
abbrev k_ty (k : KX) : List (ClassId × FieldType) := [(k_c k 0, .int), (k_c k 1, .long), (k_c k 2, .object RX0), (k_c k 3, .object RX1), (k_c k 4, .object RX5), (k_c k 5, .object RX6), (k_c k 6, .object RX10)]
def TB (k : KX) (U : State) : Prop := va_K (k_D k) vwCl (k_ty k) U ∧ k_F k U ∧ (∀ u V : State, u.WarmedH V.vm → k_F k u → k_F k V) ∧ ∀ u V : State, u.vm = V.vm → k_F k u → k_F k V
theorem tb_moved {k : KX} {u U : State} (hW : u.WarmedH U.vm) (h : TB k u) : TB k U := ⟨va_K.moved hW.alike h.1, h.2.2.1 u U hW h.2.1, h.2.2⟩
theorem tb_same {k : KX} {u U : State} (e : u.vm = U.vm) (h : TB k u) : TB k U := ⟨va_K.moved (by rw [← e]; exact Vm.Alike.refl u.vm) h.1, h.2.2.2 u U e h.2.1, h.2.2⟩
def Hp (k : KX) (P : PT) (n : Nat) (H : Heap) : Prop := H.size = k_b k + n ∧ (∀ q : Nat, q < k_b k → H[q]? = (k_H k)[q]?) ∧ ∀ (j : Nat) (e : va_E), P j = some e → va_at (k_D k) vwCl (k_b k + j, e) H
def Wd (k : KX) (P : PT) (n : Nat) (U : State) : Prop := TB k U ∧ Hp k P n U.heap
def rmv (h mc ms : Nat) : Room := { frames := h, cells := mc, slots := ms, locals := 45 * h }
def QP (k : KX) (Post : Outcome → PT → Nat → Prop) : Array Value → State → Outcome → State → Prop := fun _ _ o t => ∃ (P : PT) (n : Nat), Post o P n ∧ Wd k P n t
/-- a contract: from the picture P of n own cells, with the arguments av, the method returns as Post says -/
def Cs (k : KX) (y : MethodName) (cc : ByteArray) (maxL : Nat) (ret : Option FieldType) (h mc ms : Nat) (av : List Value) (P : PT) (n : Nat) (Post : Outcome → PT → Nat → Prop) : Prop :=
  Met (k_l k) y (Cond.code y cc maxL ret :: gw) (rmv h mc ms) (va_Pc av (Wd k P n)) (QP k Post) mc ms (fun q => k_b k ≤ q)
abbrev CX : Type := KX × Program × Env × Room × State × MethodId × Array Value × List Frame × Method × Code × Nat × (State → Prop)
abbrev x_p (X : CX) : Program := X.2.1
abbrev x_e (X : CX) : Env := X.2.2.1
abbrev x_R (X : CX) : Room := X.2.2.2.1
abbrev x_s (X : CX) : State := X.2.2.2.2.1
abbrev x_m (X : CX) : MethodId := X.2.2.2.2.2.1
abbrev x_a (X : CX) : Array Value := X.2.2.2.2.2.2.1
abbrev x_b (X : CX) : List Frame := X.2.2.2.2.2.2.2.1
abbrev x_M (X : CX) : Method := X.2.2.2.2.2.2.2.2.1
abbrev x_C (X : CX) : Code := X.2.2.2.2.2.2.2.2.2.1
abbrev x_n (X : CX) : Nat := X.2.2.2.2.2.2.2.2.2.2.1
abbrev x_Q (X : CX) : State → Prop := X.2.2.2.2.2.2.2.2.2.2.2
def Rn (X : CX) (pc : Nat) (lv : List (Nat × Value)) (st : List Value) (P : PT) (n ce sl : Nat) : Prop :=
  ∀ (H : Heap) (ls : Array Slot) (locs : List Loc), Hp X.1 P n H → lv_has ls (x_n X) lv → (∀ q ∈ locs, k_b X.1 ≤ q.base) →
    W (x_p X) (k_l X.1) (x_e X) (x_R X) (x_s X) (x_m X) (x_a X) (x_b X) (x_M X) (x_C X) H locs ce sl (x_Q X) (F0 (x_m X) pc ls st)
def OkX (X : CX) (cc : ByteArray) (nL : Nat) (own : String) (h mc ms : Nat) : Prop :=
  (x_p X).tables.exec = Jvm.exec ∧ (x_C X).code = cc ∧ x_n X = nL ∧ (x_C X).maxLocals = nL ∧ (x_s X).vm.findClass own = some (x_m X).cls ∧ (∀ w ∈ gw, w.before (x_a X) (x_s X) = true) ∧ TB X.1 (x_s X) ∧
  (k_b X.1 ≤ (x_s X).heap.size ∧ ∀ q : Nat, q < k_b X.1 → (x_s X).heap[q]? = (k_H X.1)[q]?) ∧ x_R X = rmv h mc ms ∧ (x_M X).locks = false
def RetX (X : CX) (ret : Option FieldType) (mc ms : Nat) (Post : Outcome → PT → Nat → Prop) : Prop :=
  (x_M X).sig.returnType = ret ∧ x_Q X = MQ (x_b X) (QP X.1 Post) (x_a X) (x_s X) mc ms (fun q => k_b X.1 ≤ q)
def InX (X : CX) : Prop := (x_M X).name = "<init>"
theorem gw_good : ∀ w ∈ gw, goodWord w = true := fun w hw => (List.mem_filter.mp hw).2
theorem gw_in {w : Cond} (h : w ∈ gw) : w ∈ lw_tbl := (List.mem_filter.mp h).1
theorem goodIn_gw {y : MethodName} {cc : ByteArray} {maxL : Nat} {ret : Option FieldType} (h : Cond.code y cc maxL ret ∈ gw) : GoodIn gw (Cond.code y cc maxL ret :: gw) := fun w hw => (List.mem_cons.mp hw).elim (fun e => by subst e; exact ⟨h, good_of_word (gw_good _ h)⟩) (fun hw => ⟨hw, good_of_word (gw_good _ hw)⟩)
/-- a contract out of a walk of the body -/
theorem cs_of {k : KX} {y : MethodName} {cc : ByteArray} {maxL : Nat} {ret : Option FieldType} {h mc ms : Nat} {av : List Value} {P : PT} {n : Nat} {Post : Outcome → PT → Nat → Prop}
    (hy : plainName y.cls = true) (hav : (lg_sl av).length ≤ maxL)
    (body : ∀ X : CX, X.1 = k → OkX X cc maxL y.cls h mc ms → RetX X ret mc ms Post → (x_M X).name = y.name → Rn X 0 (lv_args 0 av) [] P n 0 0) : Cs k y cc maxL ret h mc ms av P n Post := by
  refine Met.ofW (cc := cc) (maxL := maxL) (ret := ret) hy rfl ?_
  intro p e s m args below meth c s₁ B hml hv
  obtain ⟨rfl, hT, hH⟩ := hv
  have hts := atoms_spec (ws := Cond.code y cc maxL ret :: gw) B.pre
  have hown : s.vm.findClass y.cls = some m.cls := findClass_of_methodNamed B.named
  have hl := lv_entry av (n := maxL) hav
  rw [lg_entry_eq]
  exact body (k, p, e, rmv h mc ms, s, m, av.toArray, below, meth, c, maxL, MQ below (QP k Post) av.toArray s mc ms (fun q => k_b k ≤ q)) rfl
    ⟨B.exec, B.bytes, rfl, hml, hown, fun w hw => hts w (List.mem_cons_of_mem _ hw), hT, ⟨by rw [hH.1]; exact Nat.le_add_right _ _, hH.2.1⟩, rfl, B.notSynchronized⟩
    ⟨B.returns, rfl⟩ (name_of_methodNamed B.named B.method).1 s.heap _ [] hH hl (fun q hq => absurd hq List.not_mem_nil)
section LY
variable {X : CX} {cc : ByteArray} {nL : Nat} {own : String} {h mc ms pc : Nat} {lv : List (Nat × Value)} {rest : List Value} {P : PT} {n ce sl : Nat}
theorem ok_wd {U : State} {H : Heap} (C : OkX X cc nL own h mc ms) (hH : Hp X.1 P n H) (hU : U.heap = H) (hW : (x_s X).WarmedH U.vm) : Wd X.1 P n U := ⟨tb_moved hW C.2.2.2.2.2.2.1, by rw [hU]; exact hH⟩
/-- a variable of the frame by its number -/
theorem lv_look {ls : Array Slot} {l : List (Nat × Value)} {i : Nat} {v : Value} (hl : lv_has ls nL l) (h : l.lookup i = some v) : ls[i]? = some (.val v) := by
  have hm : (i, v) ∈ l := by
    induction l with
    | nil => simp at h
    | cons a t ih =>
      obtain ⟨j, w⟩ := a
      rw [List.lookup_cons] at h
      by_cases hj : i = j
      · subst hj
        simp at h
        subst h
        exact List.mem_cons_self
      · have : (i == j) = false := by simp [hj]
        rw [this] at h
        exact List.mem_cons_of_mem _ (ih ⟨hl.1, hl.2.1, fun q hq => hl.2.2 q (List.mem_cons_of_mem _ hq)⟩ h)
  exact hl.2.2 _ hm
/-- the locals behind a store, by their numbers in order -/
def l_ins : List (Nat × Value) → Nat → Value → List (Nat × Value)
  | [], i, v => [(i, v)]
  | (j, w) :: t, i, v => if i < j then (i, v) :: (j, w) :: t else (j, w) :: l_ins t i v
theorem l_ins_mem {l : List (Nat × Value)} {i : Nat} {v : Value} {q : Nat × Value} (h : q ∈ l_ins l i v) : q = (i, v) ∨ q ∈ l := by
  induction l with
  | nil => simp [l_ins] at h; exact Or.inl h
  | cons a t ih =>
    obtain ⟨j, w⟩ := a
    unfold l_ins at h
    split at h
    · exact (List.mem_cons.mp h).elim Or.inl Or.inr
    · rcases List.mem_cons.mp h with e | h
      · exact Or.inr (by rw [e]; exact List.mem_cons_self)
      · exact (ih h).elim Or.inl (fun g => Or.inr (List.mem_cons_of_mem _ g))
theorem l_ins_has {ls : Array Slot} {l : List (Nat × Value)} {i : Nat} {v : Value} (h : lv_has ls nL ((i, v) :: l)) : lv_has ls nL (l_ins l i v) := ⟨h.1, h.2.1, fun q hq => h.2.2 q ((l_ins_mem hq).elim (fun e => by rw [e]; exact List.mem_cons_self) (fun g => List.mem_cons_of_mem _ g))⟩
abbrev l_f1 (i : Nat) (q : Nat × Value) : Bool := !(q.1 == i) && !(q.1 + 1 == i && q.2.category == 2)
abbrev l_f2 (i : Nat) (q : Nat × Value) : Bool := !(q.1 == i) && (!(q.1 == i + 1) && !(q.1 + 1 == i && q.2.category == 2))
/-- fewer locals, or the same ones in another order -/
theorem rn_lv {st : List Value} (lv' : List (Nat × Value)) (hs : ∀ q ∈ lv', q ∈ lv) (k : Rn X pc lv' st P n ce sl) : Rn X pc lv st P n ce sl := fun H ls locs hH hl ho => k H ls locs hH ⟨hl.1, hl.2.1, fun q hq => hl.2.2 q (hs q hq)⟩ ho
theorem rn_pc {st : List Value} {pc' : Nat} (e : pc = pc') (k : Rn X pc' lv st P n ce sl) : Rn X pc lv st P n ce sl := e ▸ k
theorem rn_wide {st : List Value} {c' s' : Nat} (h1 : ce ≤ c') (h2 : sl ≤ s') (k : Rn X pc lv st P n c' s') : Rn X pc lv st P n ce sl := fun H ls locs hH hl ho => W.widen h1 h2 (k H ls locs hH hl ho)

theorem rn_iconst {z : Int} {v : Int32} (C : OkX X cc nL own h mc ms) (hd : decode cc pc = .ok (.iconst z, 1)) (hv : Int32.ofInt z = v) (k : Rn X (pc + 1) lv (.int v :: rest) P n ce sl) : Rn X pc lv rest P n ce sl := fun H ls locs hH hl ho => lv_iconst C.1 C.2.1 hd hv (k H ls locs hH hl ho)
theorem rn_bipush {z : Int} {v : Int32} (C : OkX X cc nL own h mc ms) (hd : decode cc pc = .ok (.bipush z, 2)) (hv : (Int8.ofInt z).toInt32 = v) (k : Rn X (pc + 2) lv (.int v :: rest) P n ce sl) : Rn X pc lv rest P n ce sl := fun H ls locs hH hl ho => lv_bipush C.1 C.2.1 hd hv (k H ls locs hH hl ho)
theorem rn_sipush {z : Int} {v : Int32} (C : OkX X cc nL own h mc ms) (hd : decode cc pc = .ok (.sipush z, 3)) (hv : (Int16.ofInt z).toInt32 = v) (k : Rn X (pc + 3) lv (.int v :: rest) P n ce sl) : Rn X pc lv rest P n ce sl := fun H ls locs hH hl ho => lv_sipush C.1 C.2.1 hd hv (k H ls locs hH hl ho)
theorem rn_lconst {z : Fin 2} {v : Int64} (C : OkX X cc nL own h mc ms) (hd : decode cc pc = .ok (.lconst z, 1)) (hv : Int64.ofNat z = v) (k : Rn X (pc + 1) lv (.long v :: rest) P n ce sl) : Rn X pc lv rest P n ce sl := fun H ls locs hH hl ho => lv_lconst C.1 C.2.1 hd hv (k H ls locs hH hl ho)
theorem rn_iload_n {z : Fin 4} {x : Int32} (C : OkX X cc nL own h mc ms) (hd : decode cc pc = .ok (.iload_n z, 1)) (hq : lv.lookup (z : Nat) = some (.int x)) (k : Rn X (pc + 1) lv (.int x :: rest) P n ce sl) : Rn X pc lv rest P n ce sl := fun H ls locs hH hl ho => lv_iload_n C.1 C.2.1 hd rfl (lv_look hl hq) (k H ls locs hH hl ho)
theorem rn_iload {z : Nat} {x : Int32} (C : OkX X cc nL own h mc ms) (hd : decode cc pc = .ok (.iload z, 2)) (hq : lv.lookup z = some (.int x)) (k : Rn X (pc + 2) lv (.int x :: rest) P n ce sl) : Rn X pc lv rest P n ce sl := fun H ls locs hH hl ho => lv_iload C.1 C.2.1 hd (lv_look hl hq) (k H ls locs hH hl ho)
theorem rn_istore_n {z : Fin 4} {x : Int32} {lv' : List (Nat × Value)} (C : OkX X cc nL own h mc ms) (hd : decode cc pc = .ok (.istore_n z, 1)) (hn : (z : Nat) < nL) (hl' : l_ins (lv.filter (l_f1 (z : Nat))) (z : Nat) (.int x) = lv') (k : Rn X (pc + 1) lv' rest P n ce sl) : Rn X pc lv (.int x :: rest) P n ce sl := fun H ls locs hH hl ho => lv_istore_n C.1 C.2.1 hd rfl  hl (by rw [C.2.2.1]; exact hn) rfl (fun ls' hl2 => k H ls' locs hH (hl' ▸ l_ins_has hl2) ho)
theorem rn_istore {z : Nat} {x : Int32} {lv' : List (Nat × Value)} (C : OkX X cc nL own h mc ms) (hd : decode cc pc = .ok (.istore z, 2)) (hn : z < nL) (hl' : l_ins (lv.filter (l_f1 z)) z (.int x) = lv') (k : Rn X (pc + 2) lv' rest P n ce sl) : Rn X pc lv (.int x :: rest) P n ce sl := fun H ls locs hH hl ho => lv_istore C.1 C.2.1 hd  hl (by rw [C.2.2.1]; exact hn) rfl (fun ls' hl2 => k H ls' locs hH (hl' ▸ l_ins_has hl2) ho)
theorem rn_lload_n {z : Fin 4} {x : Int64} (C : OkX X cc nL own h mc ms) (hd : decode cc pc = .ok (.lload_n z, 1)) (hq : lv.lookup (z : Nat) = some (.long x)) (k : Rn X (pc + 1) lv (.long x :: rest) P n ce sl) : Rn X pc lv rest P n ce sl := fun H ls locs hH hl ho => lv_lload_n C.1 C.2.1 hd rfl (lv_look hl hq) (k H ls locs hH hl ho)
theorem rn_lload {z : Nat} {x : Int64} (C : OkX X cc nL own h mc ms) (hd : decode cc pc = .ok (.lload z, 2)) (hq : lv.lookup z = some (.long x)) (k : Rn X (pc + 2) lv (.long x :: rest) P n ce sl) : Rn X pc lv rest P n ce sl := fun H ls locs hH hl ho => lv_lload C.1 C.2.1 hd (lv_look hl hq) (k H ls locs hH hl ho)
theorem rn_lstore_n {z : Fin 4} {x : Int64} {lv' : List (Nat × Value)} (C : OkX X cc nL own h mc ms) (hd : decode cc pc = .ok (.lstore_n z, 1)) (hn : (z : Nat) + 1 < nL) (hl' : l_ins (lv.filter (l_f2 (z : Nat))) (z : Nat) (.long x) = lv') (k : Rn X (pc + 1) lv' rest P n ce sl) : Rn X pc lv (.long x :: rest) P n ce sl := fun H ls locs hH hl ho => lv_lstore_n C.1 C.2.1 hd rfl  hl (by rw [C.2.2.1]; exact hn) rfl (fun ls' hl2 => k H ls' locs hH (hl' ▸ l_ins_has hl2) ho)
theorem rn_lstore {z : Nat} {x : Int64} {lv' : List (Nat × Value)} (C : OkX X cc nL own h mc ms) (hd : decode cc pc = .ok (.lstore z, 2)) (hn : z + 1 < nL) (hl' : l_ins (lv.filter (l_f2 z)) z (.long x) = lv') (k : Rn X (pc + 2) lv' rest P n ce sl) : Rn X pc lv (.long x :: rest) P n ce sl := fun H ls locs hH hl ho => lv_lstore C.1 C.2.1 hd  hl (by rw [C.2.2.1]; exact hn) rfl (fun ls' hl2 => k H ls' locs hH (hl' ▸ l_ins_has hl2) ho)
theorem rn_aload_n {z : Fin 4} {x : Nat} (C : OkX X cc nL own h mc ms) (hd : decode cc pc = .ok (.aload_n z, 1)) (hq : lv.lookup (z : Nat) = some (.ref x)) (k : Rn X (pc + 1) lv (.ref x :: rest) P n ce sl) : Rn X pc lv rest P n ce sl := fun H ls locs hH hl ho => lv_aload_n C.1 C.2.1 hd rfl (lv_look hl hq) (k H ls locs hH hl ho)
theorem rn_aload {z : Nat} {x : Nat} (C : OkX X cc nL own h mc ms) (hd : decode cc pc = .ok (.aload z, 2)) (hq : lv.lookup z = some (.ref x)) (k : Rn X (pc + 2) lv (.ref x :: rest) P n ce sl) : Rn X pc lv rest P n ce sl := fun H ls locs hH hl ho => lv_aload C.1 C.2.1 hd (lv_look hl hq) (k H ls locs hH hl ho)
theorem rn_astore_n {z : Fin 4} {x : Nat} {lv' : List (Nat × Value)} (C : OkX X cc nL own h mc ms) (hd : decode cc pc = .ok (.astore_n z, 1)) (hn : (z : Nat) < nL) (hl' : l_ins (lv.filter (l_f1 (z : Nat))) (z : Nat) (.ref x) = lv') (k : Rn X (pc + 1) lv' rest P n ce sl) : Rn X pc lv (.ref x :: rest) P n ce sl := fun H ls locs hH hl ho => lv_astore_n C.1 C.2.1 hd rfl  hl (by rw [C.2.2.1]; exact hn) rfl (fun ls' hl2 => k H ls' locs hH (hl' ▸ l_ins_has hl2) ho)
theorem rn_astore {z : Nat} {x : Nat} {lv' : List (Nat × Value)} (C : OkX X cc nL own h mc ms) (hd : decode cc pc = .ok (.astore z, 2)) (hn : z < nL) (hl' : l_ins (lv.filter (l_f1 z)) z (.ref x) = lv') (k : Rn X (pc + 2) lv' rest P n ce sl) : Rn X pc lv (.ref x :: rest) P n ce sl := fun H ls locs hH hl ho => lv_astore C.1 C.2.1 hd  hl (by rw [C.2.2.1]; exact hn) rfl (fun ls' hl2 => k H ls' locs hH (hl' ▸ l_ins_has hl2) ho)
theorem rn_iinc {i : Nat} {z : Int} {x v : Int32} {lv' : List (Nat × Value)} (C : OkX X cc nL own h mc ms) (hd : decode cc pc = .ok (.iinc i z, 3)) (hq : lv.lookup i = some (.int x)) (hv : x + Int32.ofInt z = v) (hn : i < nL) (hl' : l_ins (lv.filter (l_f1 i)) i (.int v) = lv') (k : Rn X (pc + 3) lv' rest P n ce sl) : Rn X pc lv rest P n ce sl := fun H ls locs hH hl ho => by
  have hm := lv_look hl hq
  have hl0 : lv_has ls (x_n X) ((i, .int x) :: lv) := ⟨hl.1, hl.2.1, fun q hq2 => (List.mem_cons.mp hq2).elim (fun e => by rw [e]; exact hm) (hl.2.2 q)⟩
  exact lv_iinc C.1 C.2.1 hd hl0 (k := 0) rfl hv (by rw [C.2.2.1]; exact hn) rfl (fun ls' hl2 => k H ls' locs hH (hl' ▸ l_ins_has ⟨hl2.1, hl2.2.1, fun q hq2 => hl2.2.2 q ((List.mem_cons.mp hq2).elim (fun e => by rw [e]; exact List.mem_cons_self) (fun g => List.mem_cons_of_mem _ (List.mem_filter.mpr ⟨List.mem_cons_of_mem _ (List.mem_filter.mp g).1, (List.mem_filter.mp g).2⟩)))⟩) ho)
theorem rn_iadd {x y v : Int32} (C : OkX X cc nL own h mc ms) (hd : decode cc pc = .ok (.iadd, 1)) (hv : x + y = v) (k : Rn X (pc + 1) lv (.int v :: rest) P n ce sl) : Rn X pc lv (.int y :: .int x :: rest) P n ce sl := fun H ls locs hH hl ho => lv_iadd C.1 C.2.1 hd (by rw [hv]; exact k H ls locs hH hl ho)
theorem rn_isub {x y v : Int32} (C : OkX X cc nL own h mc ms) (hd : decode cc pc = .ok (.isub, 1)) (hv : x - y = v) (k : Rn X (pc + 1) lv (.int v :: rest) P n ce sl) : Rn X pc lv (.int y :: .int x :: rest) P n ce sl := fun H ls locs hH hl ho => lv_isub C.1 C.2.1 hd (by rw [hv]; exact k H ls locs hH hl ho)
theorem rn_imul {x y v : Int32} (C : OkX X cc nL own h mc ms) (hd : decode cc pc = .ok (.imul, 1)) (hv : x * y = v) (k : Rn X (pc + 1) lv (.int v :: rest) P n ce sl) : Rn X pc lv (.int y :: .int x :: rest) P n ce sl := fun H ls locs hH hl ho => lv_imul C.1 C.2.1 hd (by rw [hv]; exact k H ls locs hH hl ho)
theorem rn_iand {x y v : Int32} (C : OkX X cc nL own h mc ms) (hd : decode cc pc = .ok (.iand, 1)) (hv : x &&& y = v) (k : Rn X (pc + 1) lv (.int v :: rest) P n ce sl) : Rn X pc lv (.int y :: .int x :: rest) P n ce sl := fun H ls locs hH hl ho => lv_iand C.1 C.2.1 hd (by rw [hv]; exact k H ls locs hH hl ho)
theorem rn_ior {x y v : Int32} (C : OkX X cc nL own h mc ms) (hd : decode cc pc = .ok (.ior, 1)) (hv : x ||| y = v) (k : Rn X (pc + 1) lv (.int v :: rest) P n ce sl) : Rn X pc lv (.int y :: .int x :: rest) P n ce sl := fun H ls locs hH hl ho => lv_ior C.1 C.2.1 hd (by rw [hv]; exact k H ls locs hH hl ho)
theorem rn_ixor {x y v : Int32} (C : OkX X cc nL own h mc ms) (hd : decode cc pc = .ok (.ixor, 1)) (hv : x ^^^ y = v) (k : Rn X (pc + 1) lv (.int v :: rest) P n ce sl) : Rn X pc lv (.int y :: .int x :: rest) P n ce sl := fun H ls locs hH hl ho => lv_ixor C.1 C.2.1 hd (by rw [hv]; exact k H ls locs hH hl ho)
theorem rn_ladd {x y v : Int64} (C : OkX X cc nL own h mc ms) (hd : decode cc pc = .ok (.ladd, 1)) (hv : x + y = v) (k : Rn X (pc + 1) lv (.long v :: rest) P n ce sl) : Rn X pc lv (.long y :: .long x :: rest) P n ce sl := fun H ls locs hH hl ho => lv_ladd C.1 C.2.1 hd (by rw [hv]; exact k H ls locs hH hl ho)
theorem rn_lsub {x y v : Int64} (C : OkX X cc nL own h mc ms) (hd : decode cc pc = .ok (.lsub, 1)) (hv : x - y = v) (k : Rn X (pc + 1) lv (.long v :: rest) P n ce sl) : Rn X pc lv (.long y :: .long x :: rest) P n ce sl := fun H ls locs hH hl ho => lv_lsub C.1 C.2.1 hd (by rw [hv]; exact k H ls locs hH hl ho)
theorem rn_lmul {x y v : Int64} (C : OkX X cc nL own h mc ms) (hd : decode cc pc = .ok (.lmul, 1)) (hv : x * y = v) (k : Rn X (pc + 1) lv (.long v :: rest) P n ce sl) : Rn X pc lv (.long y :: .long x :: rest) P n ce sl := fun H ls locs hH hl ho => lv_lmul C.1 C.2.1 hd (by rw [hv]; exact k H ls locs hH hl ho)
theorem rn_land {x y v : Int64} (C : OkX X cc nL own h mc ms) (hd : decode cc pc = .ok (.land, 1)) (hv : x &&& y = v) (k : Rn X (pc + 1) lv (.long v :: rest) P n ce sl) : Rn X pc lv (.long y :: .long x :: rest) P n ce sl := fun H ls locs hH hl ho => lv_land C.1 C.2.1 hd (by rw [hv]; exact k H ls locs hH hl ho)
theorem rn_lor {x y v : Int64} (C : OkX X cc nL own h mc ms) (hd : decode cc pc = .ok (.lor, 1)) (hv : x ||| y = v) (k : Rn X (pc + 1) lv (.long v :: rest) P n ce sl) : Rn X pc lv (.long y :: .long x :: rest) P n ce sl := fun H ls locs hH hl ho => lv_lor C.1 C.2.1 hd (by rw [hv]; exact k H ls locs hH hl ho)
theorem rn_lxor {x y v : Int64} (C : OkX X cc nL own h mc ms) (hd : decode cc pc = .ok (.lxor, 1)) (hv : x ^^^ y = v) (k : Rn X (pc + 1) lv (.long v :: rest) P n ce sl) : Rn X pc lv (.long y :: .long x :: rest) P n ce sl := fun H ls locs hH hl ho => lv_lxor C.1 C.2.1 hd (by rw [hv]; exact k H ls locs hH hl ho)
theorem rn_idiv {x y : Int32} (C : OkX X cc nL own h mc ms) (hd : decode cc pc = .ok (.idiv, 1)) (hy : ¬ y = 0) (k : Rn X (pc + 1) lv (.int (x / y) :: rest) P n ce sl) : Rn X pc lv (.int y :: .int x :: rest) P n ce sl := fun H ls locs hH hl ho => lv_idiv C.1 C.2.1 hd hy (k H ls locs hH hl ho)
theorem rn_irem {x y v : Int32} (C : OkX X cc nL own h mc ms) (hd : decode cc pc = .ok (.irem, 1)) (hy : ¬ y = 0) (hv : x - x / y * y = v) (k : Rn X (pc + 1) lv (.int v :: rest) P n ce sl) : Rn X pc lv (.int y :: .int x :: rest) P n ce sl := fun H ls locs hH hl ho => lv_irem C.1 C.2.1 hd hy (by rw [hv]; exact k H ls locs hH hl ho)
theorem rn_lneg {x : Int64} (C : OkX X cc nL own h mc ms) (hd : decode cc pc = .ok (.lneg, 1))  (k : Rn X (pc + 1) lv (.long (-x) :: rest) P n ce sl) : Rn X pc lv (.long x :: rest) P n ce sl := fun H ls locs hH hl ho => lv_lneg C.1 C.2.1 hd  (k H ls locs hH hl ho)
theorem rn_ishl {x y v : Int32} (C : OkX X cc nL own h mc ms) (hd : decode cc pc = .ok (.ishl, 1)) (hv : x <<< (y &&& 31) = v) (k : Rn X (pc + 1) lv (.int v :: rest) P n ce sl) : Rn X pc lv (.int y :: .int x :: rest) P n ce sl := fun H ls locs hH hl ho => lv_ishl C.1 C.2.1 hd (by rw [hv]; exact k H ls locs hH hl ho)
theorem rn_ishr {x y v : Int32} (C : OkX X cc nL own h mc ms) (hd : decode cc pc = .ok (.ishr, 1)) (hv : x >>> (y &&& 31) = v) (k : Rn X (pc + 1) lv (.int v :: rest) P n ce sl) : Rn X pc lv (.int y :: .int x :: rest) P n ce sl := fun H ls locs hH hl ho => lv_ishr C.1 C.2.1 hd (by rw [hv]; exact k H ls locs hH hl ho)
theorem rn_i2l {x : Int32} {v : Int64} (C : OkX X cc nL own h mc ms) (hd : decode cc pc = .ok (.i2l, 1)) (hv : x.toInt64 = v) (k : Rn X (pc + 1) lv (.long v :: rest) P n ce sl) : Rn X pc lv (.int x :: rest) P n ce sl := fun H ls locs hH hl ho => lv_i2l C.1 C.2.1 hd hv (k H ls locs hH hl ho)
theorem rn_l2i {x : Int64} {v : Int32} (C : OkX X cc nL own h mc ms) (hd : decode cc pc = .ok (.l2i, 1)) (hv : x.toInt32 = v) (k : Rn X (pc + 1) lv (.int v :: rest) P n ce sl) : Rn X pc lv (.long x :: rest) P n ce sl := fun H ls locs hH hl ho => lv_l2i C.1 C.2.1 hd hv (k H ls locs hH hl ho)
theorem rn_i2c {x v : Int32} (C : OkX X cc nL own h mc ms) (hd : decode cc pc = .ok (.i2c, 1)) (hv : (x.toUInt32 % 65536).toInt32 = v) (k : Rn X (pc + 1) lv (.int v :: rest) P n ce sl) : Rn X pc lv (.int x :: rest) P n ce sl := fun H ls locs hH hl ho => lv_i2c C.1 C.2.1 hd hv (k H ls locs hH hl ho)
theorem rn_iushr {x y v : Int32} (C : OkX X cc nL own h mc ms) (hd : decode cc pc = .ok (.iushr, 1)) (hv : (x.toUInt32 >>> (y.toUInt32 &&& Int32.toUInt32 31)).toInt32 = v) (k : Rn X (pc + 1) lv (.int v :: rest) P n ce sl) : Rn X pc lv (.int y :: .int x :: rest) P n ce sl := fun H ls locs hH hl ho => lv_iushr C.1 C.2.1 hd hv (k H ls locs hH hl ho)
theorem rn_lushr {x v : Int64} {y : Int32} (C : OkX X cc nL own h mc ms) (hd : decode cc pc = .ok (.lushr, 1)) (hv : (x.toUInt64 >>> (y.toInt64.toUInt64 &&& Int64.toUInt64 63)).toInt64 = v) (k : Rn X (pc + 1) lv (.long v :: rest) P n ce sl) : Rn X pc lv (.int y :: .long x :: rest) P n ce sl := fun H ls locs hH hl ho => lv_lushr C.1 C.2.1 hd hv (k H ls locs hH hl ho)
theorem rn_lshl {x v : Int64} {y : Int32} (C : OkX X cc nL own h mc ms) (hd : decode cc pc = .ok (.lshl, 1)) (hv : x <<< (y.toInt64 &&& 63) = v) (k : Rn X (pc + 1) lv (.long v :: rest) P n ce sl) : Rn X pc lv (.int y :: .long x :: rest) P n ce sl := fun H ls locs hH hl ho => lv_lshl C.1 C.2.1 hd hv (k H ls locs hH hl ho)
theorem rn_lshr {x v : Int64} {y : Int32} (C : OkX X cc nL own h mc ms) (hd : decode cc pc = .ok (.lshr, 1)) (hv : x >>> (y.toInt64 &&& 63) = v) (k : Rn X (pc + 1) lv (.long v :: rest) P n ce sl) : Rn X pc lv (.int y :: .long x :: rest) P n ce sl := fun H ls locs hH hl ho => lv_lshr C.1 C.2.1 hd hv (k H ls locs hH hl ho)
theorem rn_dup {a : Value} (C : OkX X cc nL own h mc ms) (hd : decode cc pc = .ok (.dup, 1)) (ha : a.category = 1) (k : Rn X (pc + 1) lv (a :: a :: rest) P n ce sl) : Rn X pc lv (a :: rest) P n ce sl := fun H ls locs hH hl ho => lv_dup C.1 C.2.1 hd ha (k H ls locs hH hl ho)
theorem rn_pop {a : Value} (C : OkX X cc nL own h mc ms) (hd : decode cc pc = .ok (.pop, 1)) (ha : a.category = 1) (k : Rn X (pc + 1) lv rest P n ce sl) : Rn X pc lv (a :: rest) P n ce sl := fun H ls locs hH hl ho => lv_pop C.1 C.2.1 hd ha (k H ls locs hH hl ho)
theorem rn_dup2 {a b : Value} (C : OkX X cc nL own h mc ms) (hd : decode cc pc = .ok (.dup2, 1)) (ha : a.category = 1) (hb : b.category = 1) (k : Rn X (pc + 1) lv (a :: b :: a :: b :: rest) P n ce sl) : Rn X pc lv (a :: b :: rest) P n ce sl := fun H ls locs hH hl ho => lv_dup2_11 C.1 C.2.1 hd ha hb (k H ls locs hH hl ho)
theorem rn_if_eq {x : Int32} {off : Int} {tgt : Nat} (C : OkX X cc nL own h mc ms) (hd : decode cc pc = .ok (.ifCond .eq off, 3)) (ht : (pc : Int) + off = (tgt : Int)) (kt : x = 0 → Rn X tgt lv rest P n ce sl) (kf : ¬ (x = 0) → Rn X (pc + 3) lv rest P n ce sl) : Rn X pc lv (.int x :: rest) P n ce sl := fun H ls locs hH hl ho => lv_if_eq C.1 C.2.1 hd ht (fun c => kt c H ls locs hH hl ho) (fun c => kf c H ls locs hH hl ho)
theorem rn_icmp_eq {x y : Int32} {off : Int} {tgt : Nat} (C : OkX X cc nL own h mc ms) (hd : decode cc pc = .ok (.if_icmp .eq off, 3)) (ht : (pc : Int) + off = (tgt : Int)) (kt : x = y → Rn X tgt lv rest P n ce sl) (kf : ¬ (x = y) → Rn X (pc + 3) lv rest P n ce sl) : Rn X pc lv (.int y :: .int x :: rest) P n ce sl := fun H ls locs hH hl ho => lv_icmp_eq C.1 C.2.1 hd ht (fun c => kt c H ls locs hH hl ho) (fun c => kf c H ls locs hH hl ho)
theorem rn_if_ne {x : Int32} {off : Int} {tgt : Nat} (C : OkX X cc nL own h mc ms) (hd : decode cc pc = .ok (.ifCond .ne off, 3)) (ht : (pc : Int) + off = (tgt : Int)) (kt : x ≠ 0 → Rn X tgt lv rest P n ce sl) (kf : x = 0 → Rn X (pc + 3) lv rest P n ce sl) : Rn X pc lv (.int x :: rest) P n ce sl := fun H ls locs hH hl ho => lv_if_ne C.1 C.2.1 hd ht (fun c => kt c H ls locs hH hl ho) (fun c => kf c H ls locs hH hl ho)
theorem rn_icmp_ne {x y : Int32} {off : Int} {tgt : Nat} (C : OkX X cc nL own h mc ms) (hd : decode cc pc = .ok (.if_icmp .ne off, 3)) (ht : (pc : Int) + off = (tgt : Int)) (kt : x ≠ y → Rn X tgt lv rest P n ce sl) (kf : x = y → Rn X (pc + 3) lv rest P n ce sl) : Rn X pc lv (.int y :: .int x :: rest) P n ce sl := fun H ls locs hH hl ho => lv_icmp_ne C.1 C.2.1 hd ht (fun c => kt c H ls locs hH hl ho) (fun c => kf c H ls locs hH hl ho)
theorem rn_if_lt {x : Int32} {off : Int} {tgt : Nat} (C : OkX X cc nL own h mc ms) (hd : decode cc pc = .ok (.ifCond .lt off, 3)) (ht : (pc : Int) + off = (tgt : Int)) (kt : x < 0 → Rn X tgt lv rest P n ce sl) (kf : ¬ (x < 0) → Rn X (pc + 3) lv rest P n ce sl) : Rn X pc lv (.int x :: rest) P n ce sl := fun H ls locs hH hl ho => lv_if_lt C.1 C.2.1 hd ht (fun c => kt c H ls locs hH hl ho) (fun c => kf c H ls locs hH hl ho)
theorem rn_icmp_lt {x y : Int32} {off : Int} {tgt : Nat} (C : OkX X cc nL own h mc ms) (hd : decode cc pc = .ok (.if_icmp .lt off, 3)) (ht : (pc : Int) + off = (tgt : Int)) (kt : x < y → Rn X tgt lv rest P n ce sl) (kf : ¬ (x < y) → Rn X (pc + 3) lv rest P n ce sl) : Rn X pc lv (.int y :: .int x :: rest) P n ce sl := fun H ls locs hH hl ho => lv_icmp_lt C.1 C.2.1 hd ht (fun c => kt c H ls locs hH hl ho) (fun c => kf c H ls locs hH hl ho)
theorem rn_if_ge {x : Int32} {off : Int} {tgt : Nat} (C : OkX X cc nL own h mc ms) (hd : decode cc pc = .ok (.ifCond .ge off, 3)) (ht : (pc : Int) + off = (tgt : Int)) (kt : 0 ≤ x → Rn X tgt lv rest P n ce sl) (kf : ¬ (0 ≤ x) → Rn X (pc + 3) lv rest P n ce sl) : Rn X pc lv (.int x :: rest) P n ce sl := fun H ls locs hH hl ho => lv_if_ge C.1 C.2.1 hd ht (fun c => kt c H ls locs hH hl ho) (fun c => kf c H ls locs hH hl ho)
theorem rn_icmp_ge {x y : Int32} {off : Int} {tgt : Nat} (C : OkX X cc nL own h mc ms) (hd : decode cc pc = .ok (.if_icmp .ge off, 3)) (ht : (pc : Int) + off = (tgt : Int)) (kt : y ≤ x → Rn X tgt lv rest P n ce sl) (kf : ¬ (y ≤ x) → Rn X (pc + 3) lv rest P n ce sl) : Rn X pc lv (.int y :: .int x :: rest) P n ce sl := fun H ls locs hH hl ho => lv_icmp_ge C.1 C.2.1 hd ht (fun c => kt c H ls locs hH hl ho) (fun c => kf c H ls locs hH hl ho)
theorem rn_if_gt {x : Int32} {off : Int} {tgt : Nat} (C : OkX X cc nL own h mc ms) (hd : decode cc pc = .ok (.ifCond .gt off, 3)) (ht : (pc : Int) + off = (tgt : Int)) (kt : 0 < x → Rn X tgt lv rest P n ce sl) (kf : ¬ (0 < x) → Rn X (pc + 3) lv rest P n ce sl) : Rn X pc lv (.int x :: rest) P n ce sl := fun H ls locs hH hl ho => lv_if_gt C.1 C.2.1 hd ht (fun c => kt c H ls locs hH hl ho) (fun c => kf c H ls locs hH hl ho)
theorem rn_icmp_gt {x y : Int32} {off : Int} {tgt : Nat} (C : OkX X cc nL own h mc ms) (hd : decode cc pc = .ok (.if_icmp .gt off, 3)) (ht : (pc : Int) + off = (tgt : Int)) (kt : y < x → Rn X tgt lv rest P n ce sl) (kf : ¬ (y < x) → Rn X (pc + 3) lv rest P n ce sl) : Rn X pc lv (.int y :: .int x :: rest) P n ce sl := fun H ls locs hH hl ho => lv_icmp_gt C.1 C.2.1 hd ht (fun c => kt c H ls locs hH hl ho) (fun c => kf c H ls locs hH hl ho)
theorem rn_if_le {x : Int32} {off : Int} {tgt : Nat} (C : OkX X cc nL own h mc ms) (hd : decode cc pc = .ok (.ifCond .le off, 3)) (ht : (pc : Int) + off = (tgt : Int)) (kt : x ≤ 0 → Rn X tgt lv rest P n ce sl) (kf : ¬ (x ≤ 0) → Rn X (pc + 3) lv rest P n ce sl) : Rn X pc lv (.int x :: rest) P n ce sl := fun H ls locs hH hl ho => lv_if_le C.1 C.2.1 hd ht (fun c => kt c H ls locs hH hl ho) (fun c => kf c H ls locs hH hl ho)
theorem rn_icmp_le {x y : Int32} {off : Int} {tgt : Nat} (C : OkX X cc nL own h mc ms) (hd : decode cc pc = .ok (.if_icmp .le off, 3)) (ht : (pc : Int) + off = (tgt : Int)) (kt : x ≤ y → Rn X tgt lv rest P n ce sl) (kf : ¬ (x ≤ y) → Rn X (pc + 3) lv rest P n ce sl) : Rn X pc lv (.int y :: .int x :: rest) P n ce sl := fun H ls locs hH hl ho => lv_icmp_le C.1 C.2.1 hd ht (fun c => kt c H ls locs hH hl ho) (fun c => kf c H ls locs hH hl ho)
theorem rn_goto {st : List Value} {off : Int} {tgt : Nat} (C : OkX X cc nL own h mc ms) (hd : decode cc pc = .ok (.goto off, 3)) (ht : (pc : Int) + off = (tgt : Int)) (k : Rn X tgt lv st P n ce sl) : Rn X pc lv st P n ce sl := fun H ls locs hH hl ho => lv_goto C.1 C.2.1 hd ht (k H ls locs hH hl ho)
theorem rn_ldc {idx : Nat} {v : Int32} (C : OkX X cc nL own h mc ms) (hd : decode cc pc = .ok (.ldc idx, 2)) (hw : Cond.constant own idx v ∈ gw) (k : Rn X (pc + 2) lv (.int v :: rest) P n ce sl) : Rn X pc lv rest P n ce sl := fun H ls locs hH hl ho => lv_ldc C.1 C.2.1 C.2.2.2.2.1 (C.2.2.2.2.2.1 _ hw) hd (k H ls locs hH hl ho)
theorem rn_ldc2 {idx : Nat} {v : Int64} (C : OkX X cc nL own h mc ms) (hd : decode cc pc = .ok (.ldc2_w idx, 3)) (hw : Cond.constantLong own idx v ∈ gw) (k : Rn X (pc + 3) lv (.long v :: rest) P n ce sl) : Rn X pc lv rest P n ce sl := fun H ls locs hH hl ho => lv_ldc2 C.1 C.2.1 C.2.2.2.2.1 (C.2.2.2.2.2.1 _ hw) hd (k H ls locs hH hl ho)
end LY
