/-! CATCHING: what the search through a table of exceptions comes to, where rows ahead name other kinds -/
section VY
variable {e : Env} {f : JFrame} {a : Addr} {cell : Cell}
/-- one row that names a kind: taken (b) or passed -/
theorem vy_row {S : State} {x : ExceptionTableEntry} {t : List ExceptionTableEntry} {c : ClassId} {b : Bool} {Q : Handler → Pre} {E : CtlPost} {d : Bool} {acts : List Action} (hx : covers x f.pc = true) (h0 : x.catchType ≠ 0) (hl : S.vm.ClassLinks e.platform f.method.cls x.catchType c) (hcell : S.heap[a]? = some cell) (hobj : cell.vm = .none)
    (hk : ∃ k, S.vm.classes[cell.cls]? = some k) (hc : ∃ k, S.vm.classes[c]? = some k) (hb : S.vm.assignable cell.cls c = b) :
    wp (findHandler.go f a (x :: t)) Q E e d acts S ↔ (if b then Q (.found x.handlerPc) d acts (S.setVm (S.vm.noted f.method.cls x.catchType (.cls c))) else wp (findHandler.go f a t) Q E e d acts (S.setVm (S.vm.noted f.method.cls x.catchType (.cls c)))) := by
  unfold covers at hx
  have hno : ∀ k, cell.vm ≠ .statics k := fun k h => by rw [hobj] at h; cases h
  obtain ⟨r1, r2⟩ := (resolveClass_links e.toSetting hl).op (op := VmOp.resolveClass f.method.cls x.catchType) rfl
  have al : S.vm.Alike (S.vm.noted f.method.cls x.catchType (.cls c)) := (Vm.Alike.refl S.vm).noted _ _ _
  obtain ⟨k1, hk1⟩ := hk
  obtain ⟨k2, hk2⟩ := hc
  obtain ⟨k3, hk3, -⟩ := al.2.2 _ _ hk1
  obtain ⟨k4, hk4, -⟩ := al.2.2 _ _ hk2
  have hb' : (S.vm.noted f.method.cls x.catchType (.cls c)).assignable cell.cls c = b := (al.assignable _ _).trans hb
  cases b <;> simp [findHandler.go, hx, h0, r1, r2, hcell, hno, hk3, hk4, hb', VmOp.dirties, VmOp.acts]
/-- the rows 'pre' pass, the row x takes -/
theorem vy_list {s : State} {x : ExceptionTableEntry} {suf : List ExceptionTableEntry} {c : ClassId} (hobj : cell.vm = .none) (hk : ∃ k, s.vm.classes[cell.cls]? = some k) (hx : covers x f.pc = true) (h0 : x.catchType ≠ 0) (hl : s.vm.ClassLinks e.platform f.method.cls x.catchType c) (hb : s.vm.assignable cell.cls c = true) :
    ∀ (pre : List ExceptionTableEntry) (S : State), s.WarmedH S.vm → S.heap[a]? = some cell → (∀ z ∈ pre, covers z f.pc = false ∨ (z.catchType ≠ 0 ∧ ∃ c', s.vm.ClassLinks e.platform f.method.cls z.catchType c' ∧ s.vm.assignable cell.cls c' = false)) →
      ∃ vm', s.WarmedH vm' ∧ ∀ (Q : Handler → Pre) (E : CtlPost) (d : Bool) (acts : List Action), wp (findHandler.go f a (pre ++ x :: suf)) Q E e d acts S ↔ Q (.found x.handlerPc) d acts (S.setVm vm') := by
  obtain ⟨k1, hk1⟩ := hk
  have one : ∀ {z : ExceptionTableEntry} {c' : ClassId} {S : State}, s.WarmedH S.vm → s.vm.ClassLinks e.platform f.method.cls z.catchType c' → s.WarmedH (S.vm.noted f.method.cls z.catchType (.cls c')) ∧ (∃ k, S.vm.classes[cell.cls]? = some k) ∧ ∃ k, S.vm.classes[c']? = some k := by
    intro z c' S hW hz
    obtain ⟨dk, _, _, kt, hd, _, _, _, _, hkt, _, hq⟩ := hz.here
    obtain ⟨k2, hk2, -⟩ := hW.alike.2.2 _ _ hk1
    obtain ⟨k3, hk3, -⟩ := hW.alike.2.2 _ _ hkt
    exact ⟨hW.noted hd hq (State.rightAt_cls hz), ⟨k2, hk2⟩, ⟨k3, hk3⟩⟩
  intro pre
  induction pre with
  | nil =>
    intro S hW hcell _
    obtain ⟨w1, w2, w3⟩ := one hW hl
    refine ⟨_, w1, fun Q E d acts => ?_⟩
    rw [List.nil_append, vy_row hx h0 (hW.classLinks hl) hcell hobj w2 w3 (b := true) (by rw [hW.alike.assignable]; exact hb)]
    exact Iff.of_eq (if_pos rfl)
  | cons z zs ih =>
    intro S hW hcell hp
    have hp' := fun y hy => hp y (List.mem_cons_of_mem _ hy)
    cases hcov : covers z f.pc with
    | false =>
      obtain ⟨vm', w, hq⟩ := ih S hW hcell hp'
      refine ⟨vm', w, fun Q E d acts => ?_⟩
      rw [List.cons_append, W.findHandler_go_skip hcov]
      exact hq Q E d acts
    | true =>
      rcases hp z List.mem_cons_self with h | ⟨z0, c', hz, hn⟩
      · rw [hcov] at h; cases h
      · obtain ⟨w1, w2, w3⟩ := one hW hz
        obtain ⟨vm', w, hq⟩ := ih (S.setVm (S.vm.noted f.method.cls z.catchType (.cls c'))) w1 hcell hp'
        refine ⟨vm', w, fun Q E d acts => ?_⟩
        rw [List.cons_append, vy_row hcov z0 (hW.classLinks hz) hcell hobj w2 w3 (b := false) (by rw [hW.alike.assignable]; exact hn)]
        exact (Iff.of_eq (if_neg (by decide))).trans (hq Q E d acts)
end VY
/-- from a throw over the frame g to the handler -/
theorem vy_caught {p : Program} {l : Launch} {e : Env} {R : Room} {s : State} {m : MethodId} {args : Array Value} {below : List Frame} {meth : Method} {c : Code} {T : State} {locs : List Loc} {cells slots : Nat} {g : JFrame} {a : Addr} {cell : Cell} {pre suf : List ExceptionTableEntry} {x : ExceptionTableEntry} {k : ClassId} (X : Stand p l e R s m args below meth c T locs cells slots) (hg : g.method = m) (hcell : T.heap[a]? = some cell) (hobj : cell.vm = .none) (hk : ∃ k, s.vm.classes[cell.cls]? = some k) (hsplit : c.exceptionTable.toList = pre ++ x :: suf)
    (hp : ∀ z ∈ pre, covers z g.pc = false ∨ (z.catchType ≠ 0 ∧ ∃ c', s.vm.ClassLinks e.platform m.cls z.catchType c' ∧ s.vm.assignable cell.cls c' = false)) (hx : covers x g.pc = true) (h0 : x.catchType ≠ 0) (hl : s.vm.ClassLinks e.platform m.cls x.catchType k) (hb : s.vm.assignable cell.cls k = true) :
    ∃ vm', Stand p l e R s m args below meth c (T.setVm vm') locs cells slots ∧ Steps p.tables e below ((T.setTop g).pushFrame (.throwing a)) ((T.setVm vm').setTop { g with pc := x.handlerPc, stack := [.ref a] }) := by
  subst hg
  obtain ⟨vm', hW, hq⟩ := vy_list (e := e) (f := g) (a := a) (suf := suf) hobj hk hx h0 hl hb pre ((T.setTop g).pushFrame (.throwing a)) X.warmed hcell hp
  have hfind : ∀ (Q : Handler → Pre) (E : CtlPost) (d : Bool) (acts : List Action), wp (findHandler g a) Q E e d acts ((T.setTop g).pushFrame (.throwing a)) ↔ Q (.found x.handlerPc) d acts (((T.setTop g).pushFrame (.throwing a)).setVm vm') := by
    intro Q E d acts
    rw [W.findHandler_eq (s := (T.setTop g).pushFrame (.throwing a)) (f := g) (meth := meth) (code := c) X.method' X.code, hsplit]
    exact hq Q E d acts
  refine ⟨vm', X.noted hW, ?_⟩
  obtain ⟨w1, w2⟩ := X.here.throwing (g := g) a
  refine Steps.head w1 w2 ?_
  have hstep : ∀ r, (stepThrowing e ((T.setTop g).pushFrame (.throwing a)) a (.java g :: r)).Is ((((T.setTop g).pushFrame (.throwing a)).setVm vm').setFrames (.java { g with pc := x.handlerPc, stack := [.ref a] } :: r)) [] := by
    intro r
    simp only [stepThrowing, searchFrame, vmDo]
    generalize hr : Sem.go _ e false [] ((T.setTop g).pushFrame (.throwing a)) = res
    obtain ⟨as, rfl, ha⟩ := Sem.eq_ok_of hr (a := Handler.found x.handlerPc) (s' := ((T.setTop g).pushFrame (.throwing a)).setVm vm') (acts' := []) (by simp [hfind])
    exact ⟨rfl, ha⟩
  rw [stepThread_throwing (frames_entered X.here.top _), (hstep _).1]
  obtain ⟨g0, hg0⟩ := Option.isSome_iff_exists.mp X.here.top
  obtain ⟨r, hr⟩ := State.topJava?_eq_some.mp hg0
  have hr' : (T.setVm vm').frames = .java g0 :: r := hr
  rw [State.setTop_of_frames _ hr', hr, List.tail_cons, State.pushFrame, State.setTop_of_frames _ hr]
  have e1 : ∀ (u : State) (F G : List Frame), ((u.setFrames F).setVm vm').setFrames G = (u.setVm vm').setFrames G := fun u F G => by
    rw [show (u.setFrames F).setVm vm' = (u.setVm vm').setFrames F from rfl, State.setFrames_setFrames]
  rw [e1, e1]
  exact Steps.refl _
