/-! THE CLAIM OUT OF ONE WALK OF THE LAW'S BODY (the skeleton's text, with stackTraces handed on) -/
def R_law : String := "CurveSuiteLaw"
def lw_P (b : Addr) (xs : List Int32) (args : Array Value) (s : State) : Prop := args = #[.ref b] ∧ s.IntsAt b xs ∧ xs.length ≤ 3072 ∧ (Jvm.Cond.and given_1 narrow_1).before args s = true
def lw_Q (_ : Array Value) (s : State) (o : Outcome) (t : State) : Prop := o = .returned (some (.int 1)) ∧ Framed s o t [] 601024 7293034
def lw_Z (below : List Frame) (a : Array Value) (s : State) : State → Prop := fun t => ∃ o, t.status = .running ∧ Ended t below o ∧ lw_Q a s o t
def lw_At (p : Program) (s : State) (m : MethodId) (meth : Method) (c : Code) (b L : Nat) (xs : Nat → Int32) : Prop :=
  p.tables.exec = Jvm.exec ∧ c.code = code ∧ meth.sig.returnType = ret ∧ c.maxLocals = 7 ∧ s.vm.findClass R_law = some m.cls ∧ (∀ w ∈ lw_tbl, w.before #[Value.ref b] s = true) ∧ va_X b L xs s s.heap ∧ b < s.heap.size ∧ meth.locks = false ∧ (Jvm.Cond.and given_1 narrow_1).before #[Value.ref b] s = true
/-- what was written is new: so nothing that was there before -/
theorem same_fresh {s t : State} {locs : List Loc} {k n k' n' : Nat} (h : s.sameButNew t locs k n) (hl : ∀ q ∈ locs, s.heap.size ≤ q.base) (hk : k ≤ k') (hn : n ≤ n') : s.sameButNew t [] k' n' := by
  obtain ⟨h1, h2, h3, h4, h5, h6⟩ := h
  refine ⟨h1, h2, Nat.le_trans h3 (Nat.add_le_add_left hk _), h4, Nat.le_trans h5 hn, fun a c hc => ?_⟩
  obtain ⟨c', g1, g2, g3, g4⟩ := h6 a c hc
  refine ⟨c', g1, g2, g3, fun i _ => g4 i (fun hi => ?_)⟩
  have e1 : a < s.heap.size := (Array.getElem?_eq_some_iff.mp hc).1
  have e2 : s.heap.size ≤ a := hl _ hi
  exact absurd e2 (Nat.not_le.mpr e1)
theorem room_mono {s : State} {pl : Platform} {r r' : Room} (hf : r.frames ≤ r'.frames) (hl : r.locals ≤ r'.locals) (hc : r.cells ≤ r'.cells) (hs : r.slots ≤ r'.slots) (h : s.hasRoom pl r' = true) : s.hasRoom pl r = true := by
  simp only [State.hasRoom, Bool.and_eq_true, decide_eq_true_eq] at h ⊢
  obtain ⟨⟨⟨⟨h1, h2, h3, h4, h5, h6⟩, h7⟩, h8⟩, h9⟩ := h
  exact ⟨⟨⟨⟨by omega, by omega, by omega, by omega, by omega, h6⟩, by omega⟩, by omega⟩, h9⟩
section LE
variable {p : Program} {l : Launch} {e : Env} {s : State} {m : MethodId} {below : List Frame} {meth : Method} {c : Code} {args : Array Value} {H : Heap} {locs : List Loc} {cells slots : Nat} {Q : State → Prop} {g : JFrame}
theorem w_room (k : W p l e (rmv 9 601024 7293033) s m args below meth c H locs cells slots Q g) : W p l e room_1 s m args below meth c H locs cells slots Q g := fun T hT X =>
  k T hT ⟨X.admits, X.cas, X.clock, X.frames, room_mono (r := rmv 9 601024 7293033) (r' := room_1) (by show (9 : Nat) ≤ 11; decide) (by show (45 * 9 : Nat) ≤ 448; decide) (by show (601024 : Nat) ≤ 601024; exact Nat.le_refl _) (by show (7293033 : Nat) ≤ 7293034; exact Nat.le_succ _) X.room, X.hears, X.method, X.code, X.here, X.tail, X.warmed, X.limits, X.bytes, X.same⟩
/-- the law's own end -/
theorem lw_fin {R : Room} {b pc : Nat} {ls : Array Slot} (hx : p.tables.exec = Jvm.exec) (hb : c.code = code) (hr : meth.sig.returnType = ret) (hlocks : meth.locks = false) (hl : ∀ q ∈ locs, s.heap.size ≤ q.base) (hc : cells ≤ 601024) (hs : slots ≤ 7293034) (hdg : decode code pc = .ok (.ireturn, 1)) : W p l e R s m #[Value.ref b] below meth c H locs cells slots (lw_Z below #[Value.ref b] s) (F0 m pc ls [.int 1]) := by
  intro T hT X
  obtain ⟨fs, hret, hrun, hended, hW, hframe⟩ := X.leave (v := some (.int 1)) (hlocks := hlocks) (fun h => by rw [hr] at h; cases h)
  have hmeth' : T.vm.method? m = some meth := X.method'
  refine ⟨T.setFrames fs, ?_, .returned (some (.int 1)), hrun, hended, rfl, ⟨_, rfl⟩, hW, same_fresh hframe hl hc hs⟩
  jvm_step X.here [X.here.top, hx, hb, hdg, hmeth', hr, ret, narrow_b1]
  (try refine ⟨rfl, ?_⟩); (try refine ⟨rfl, ?_⟩)
  first | (intro acts; rw [hret _ acts rfl rfl rfl]) | rw [hret _ _ rfl rfl rfl]
  exact Steps.refl _
end LE
theorem getD_lt {L : List Nat} {B : Nat} (h : ∀ x ∈ L, x < B) (hB : 0 < B) (j : Nat) : L.getD j 0 < B := by
  rw [List.getD_eq_getElem?_getD]
  cases hj : L[j]? with
  | none => exact hB
  | some x => exact h x (List.mem_of_getElem? hj)
theorem lb4_lt (j : Nat) : lb4 j < 128 := getD_lt (by decide +kernel) (by decide) j
theorem lb2_lt (j : Nat) : lb2 j < 128 := getD_lt (by decide +kernel) (by decide) j
theorem strK_of {k : KX} {own tx : String} {ix N : Nat} {f : Nat → Nat} {q : Nat × Nat} (h : ∀ U, k_F k U → LitS k own ix tx N f q U) (g : ∀ U, k_F k U → TxS k U) (hf : ∀ j, f j < 128) (hN : N ≤ 64) : StrK k q.1 N f := ⟨fun U z => (h U z).str (g U z), ⟨q.2, fun U z => (h U z).2.2⟩, hf, hN⟩
theorem hxK_of {k : KX} {own tx : String} {ix nB : Nat} {f : Nat → Nat} {q : Nat × Nat} (h : ∀ U, k_F k U → LitS k own ix tx (2 * nB) f q U) (g : ∀ U, k_F k U → TxS k U) (hf : ∀ j, f j < 128) (hk : ∀ q, q < 2 * nB → hxOk (f q)) (hN : nB ≤ 56) : HxK k own ix tx nB f := ⟨q.1, ⟨fun U z => (h U z).str (g U z), ⟨q.2, fun U z => (h U z).2.2⟩, hf, hk, hN⟩, fun U z => (h U z).1⟩
theorem hx68_lt (j : Nat) : hx68 j < 128 := getD_lt (by decide +kernel) (by decide) j
theorem hx81_lt (j : Nat) : hx81 j < 128 := getD_lt (by decide +kernel) (by decide) j
theorem hx95_lt (j : Nat) : hx95 j < 128 := getD_lt (by decide +kernel) (by decide) j
theorem hx105_lt (j : Nat) : hx105 j < 128 := getD_lt (by decide +kernel) (by decide) j
theorem hx79_lt (j : Nat) : hx79 j < 128 := getD_lt (by decide +kernel) (by decide) j
theorem hx93_lt (j : Nat) : hx93 j < 128 := getD_lt (by decide +kernel) (by decide) j
theorem hx103_lt (j : Nat) : hx103 j < 128 := getD_lt (by decide +kernel) (by decide) j
theorem hx27_lt (j : Nat) : hx27 j < 128 := getD_lt (by decide +kernel) (by decide) j
theorem hx29_lt (j : Nat) : hx29 j < 128 := getD_lt (by decide +kernel) (by decide) j
/-- the walk of the law, from what FA says -/
theorem lw_go {X : CX} {b N : Nat} {xs : Nat → Int32} {ad : Nat → Nat × Nat} (C : OkX X cL_law 7 RL 9 601024 7293033) (hE : NsE (x_s X)) (hT : va_T .int b N (fun j => .int (xs j)) (fun q => k_b X.1 ≤ q) (x_s X) (k_H X.1)) (hN : N ≤ 3072) (hF : ∀ U, k_F X.1 U → FA X.1 ad U)
    (hend : ∀ (lv : List (Nat × Value)) (P : PT) (n ce sl : Nat), ce ≤ 601024 → sl ≤ 7293033 → Rn X 1275 lv [.int 1] P n ce sl) : Rn X 0 [(0, .ref b)] [] (inst X.1 (lay (fun _ => none) 0 []) Z0.1 Z0.2.1 Z0.2.2) 0 0 0 := by
  have g : ∀ U, k_F X.1 U → TxS X.1 U := fun U z => (hF U z).2.2.2.1
  obtain ⟨S2, hS2⟩ : ∃ S2 : StT, mbody_f (0 + 335) (mkMd (0 + 335) (mkSu 0 Z0)) = S2 := ⟨_, rfl⟩
  obtain ⟨hI, hz⟩ := inv_0 hS2
  exact lw_begin (B := Bp) (A := A0) (S2 := S2) (s4 := (ad 0).1) (s2 := (ad 1).1) C hE hT hN (fun U z => (hF U z).2.1) (fun U z => (hF U z).1)
    (strK_of (fun U z => (hF U z).2.2.2.2.1.1) g lb4_lt (by decide)) (strK_of (fun U z => (hF U z).2.2.2.2.1.2) g lb2_lt (by decide)) (fun U z => (hF U z).2.2.2.2.1.1.1) (fun U z => (hF U z).2.2.2.2.1.2.1) (fun U z => (hF U z).2.2.1)
    (hxK_of (fun U z => (hF U z).2.2.2.2.2.1.1) g hx68_lt hk_68.2 (by decide)) (hxK_of (fun U z => (hF U z).2.2.2.2.2.1.2.1) g hx81_lt hk_81.2 (by decide)) (hxK_of (fun U z => (hF U z).2.2.2.2.2.1.2.2.1) g hx95_lt hk_95.2 (by decide)) (hxK_of (fun U z => (hF U z).2.2.2.2.2.1.2.2.2) g hx105_lt hk_105.2 (by decide))
    (hxK_of (fun U z => (hF U z).2.2.2.2.2.2.1.1) g hx79_lt hk_79.2 (by decide)) (hxK_of (fun U z => (hF U z).2.2.2.2.2.2.1.2.1) g hx93_lt hk_93.2 (by decide)) (hxK_of (fun U z => (hF U z).2.2.2.2.2.2.1.2.2) g hx103_lt hk_103.2 (by decide))
    (hxK_of (fun U z => (hF U z).2.2.2.2.2.2.2.1) g hx27_lt hk_27.2 (by decide)) (hxK_of (fun U z => (hF U z).2.2.2.2.2.2.2.2) g hx29_lt hk_29.2 (by decide)) hend hS2 hI hz
theorem inst_0 {k : KX} {S : StT} (j : Nat) : inst k (lay (fun _ => none) 0 []) S.1 S.2.1 S.2.2 j = none := by
  simp [inst, lay]
/-- from the entry, for every script of at most 3072 ints, the law comes to its end with true -/
theorem whole_start {p : Program} {e : Env} {s : State} {m : MethodId} {below : List Frame} {meth : Method} {c : Code} (l : Launch) (htr : l.stackTraces = false) {b L : Nat} {xs : Nat → Int32} (hL : L ≤ 3072) (C0 : lw_At p s m meth c b L xs) : W p l e room_1 s m #[Value.ref b] below meth c s.heap [] 0 0 (lw_Z below #[Value.ref b] s) (entryFrame m ([Value.ref b] : List Value).toArray 7) := by
  obtain ⟨hx, hcb, hr, hml, hown, hts, hX, hbl, hlk, hgv0⟩ := C0
  have hgv : ∀ w ∈ nW, w.before #[Value.ref b] s = true := flat_of_before _ hgv0
  obtain ⟨D, cA, hK⟩ := as_k hts
  obtain ⟨ad, hF⟩ := as_fa (k := (l, D, cA, s.heap.size, s.heap, fun _ => True)) hts hgv rfl rfl htr
  obtain ⟨F, hFe⟩ : ∃ F : State → Prop, F = FA (l, D, cA, s.heap.size, s.heap, fun _ => True) ad := ⟨_, rfl⟩
  have hT : va_T .int b L (fun j => .int (xs j)) (fun q => s.heap.size ≤ q) s s.heap := by
    obtain ⟨scr, h1, h2, h3, h4, h5⟩ := hX
    exact ⟨scr, h1, h2, h3, Nat.le_of_eq h4.symm, by rw [h4], h5, Nat.not_le.mpr hbl⟩
  have hl := lv_entry [Value.ref b] (n := 7) (Nat.le_of_ble_eq_true rfl)
  refine w_room ?_
  rw [lg_entry_eq]
  have key := lw_go (X := ((l, D, cA, s.heap.size, s.heap, F), p, e, rmv 9 601024 7293033, s, m, #[Value.ref b], below, meth, c, 7, lw_Z below #[Value.ref b] s)) (b := b) (N := L) (xs := xs) (ad := ad)
    ⟨hx, hcb, rfl, hml, hown, fun w hw => hts w (gw_in hw), ⟨hK, by show F s; rw [hFe]; exact hF, fun u V hW z => by
        have z' : F u := z
        show F V
        rw [hFe] at z' ⊢
        exact z'.warm hW, fun u V hW z => by
        have z' : F u := z
        show F V
        rw [hFe] at z' ⊢
        exact z'.same hW⟩, ⟨Nat.le_refl _, fun q _ => rfl⟩, rfl, hlk⟩ (as_nse hts) hT hL (fun U z => by
        have z' : F U := z
        rw [hFe] at z'
        exact z')
    (fun lv P n ce sl h1 h2 H ls locs hH hl ho => lw_fin hx hcb hr hlk ho h1 (Nat.le_succ_of_le h2) dL_law_1275)
  exact key s.heap _ [] ⟨rfl, fun q _ => rfl, fun j e hj => absurd (hj.symm.trans (inst_0 j)) (by simp)⟩ hl (fun q hq => absurd hq List.not_mem_nil)
set_option maxHeartbeats 4000000 in
theorem lw_walk (l : Launch) (htr : l.stackTraces = false) (b : Addr) (xs : List Int32) : MetFree l x (headSpec (Jvm.Cond.code x code maxLocals ret :: tables_1) room_1) (lw_P b xs) (fun _ _ _ _ _ => True) lw_Q := by
  refine MetFree.of_bodyS (code := code) (maxLocals := maxLocals) (ret := ret) (by decide) ?_ ?_
  · intro args s m h hn
    obtain ⟨meth, c, h1, h2, h3, h4, h5, h6, -, -⟩ := Cond.code_spec hn (atoms_spec (ws := Jvm.Cond.code x code maxLocals ret :: tables_1) h _ List.mem_cons_self)
    exact ⟨meth, c, h1, h2, h3, h4, h5, h6⟩
  · intro p e s m args below meth c s₁ B hml0 hP _
    obtain ⟨rfl, hx, hbd, hgv⟩ := hP
    obtain ⟨scr, harrAt, hlist, hof, hsmall⟩ := hx
    obtain ⟨hcb, hkn, -, -⟩ := State.arrayAt?_spec harrAt
    have hown : s.vm.findClass R_law = some m.cls := findClass_of_methodNamed B.named
    have hts0 : ∀ c ∈ (Jvm.Cond.code x code maxLocals ret :: tables_1), c.before #[Value.ref b] s = true := atoms_spec (ws := Jvm.Cond.code x code maxLocals ret :: tables_1) B.pre
    have hts : ∀ w ∈ lw_tbl, w.before #[Value.ref b] s = true := k2_hts_sels lw_privs (fun w hw => hts0 w (List.mem_cons_of_mem _ hw)) lw_privs_ok
    have hml : c.maxLocals = 7 := B.maxLocals_eq (hts0 _ List.mem_cons_self)
    have X₀ : Stand p l e room_1 s m #[Value.ref b] below meth c s₁ [] 0 0 := Stand.of_body B
    have hh0 : s₁.heap = s.heap := by rw [B.state]; rfl
    have hsz : scr.slots.size = xs.length := by rw [← Array.length_toList, hlist, List.length_map]
    have hval : ∀ j : Nat, j < xs.length → scr.slots[j]? = some (.int (xs.getD j 0)) := fun j hj => by
      rw [← Array.getElem?_toList, hlist]
      simp [hj]
    have hbl : b < s.heap.size := (Array.getElem?_eq_some_iff.mp hcb).1
    have hX : va_X b xs.length (fun j => xs.getD j 0) s s.heap := ⟨scr, hcb, hof, hkn, hsz, hval⟩
    have K : W p l e room_1 s m #[Value.ref b] below meth c s₁.heap [] 0 0 (lw_Z below #[Value.ref b] s) (entryFrame m ([Value.ref b] : List Value).toArray 7) := by
      rw [hh0]
      exact whole_start l htr hbd ⟨B.exec, B.bytes, B.returns, hml, hown, hts, hX, hbl, B.notSynchronized, hgv⟩
    obtain ⟨t, a1, o, b1, b2, b3⟩ := K s₁ rfl X₀
    exact ⟨t, o, a1, b1, b2, b3⟩
theorem lw_pre_spec {args : Array Value} {s : State} (h : (Jvm.Cond.and given_1 narrow_1).before args s = true) (hr : rest_1_c.before args s = true) : ∃ (b : Addr) (xs : List Int32), lw_P b xs args s := by
  have hs := flat_of_before _ h
  have hq := flat_of_before _ hr
  have hc : (Cond.count 1).before args s = true := hs _ (by decide +kernel)
  have harr : (Cond.arrayOf (.arg 0) .int).before args s = true := hs _ (by decide +kernel)
  have hle : (Cond.le (.length (.arg 0)) (.int 3072)).before args s = true := hs _ (by decide +kernel)
  have hlen : (Cond.isInt (.length (.arg 0))).before args s = true := hq _ (by decide +kernel)
  have hall : (Cond.all (.arg 0) (.isInt (.elem (.arg 0) (.index 0)))).before args s = true := hq _ (by decide +kernel)
  obtain ⟨b, xs, hb, hx⟩ := State.ints_of_pre rfl harr hlen hall
  have hsm : xs.length < 2 ^ 31 := hx.choose_spec.2.2.2
  have hev : (Term.length (.arg 0)).eval args s none [] s = some (.int xs.length.toInt32) := hx.length_eval hb
  have hv := Cond.le_ints hev (show (Term.int 3072).eval args s none [] s = some (.int 3072) from rfl)
  have hd : xs.length.toInt32 ≤ 3072 := by
    simpa [Cond.before, Cond.holds, hv] using hle
  have hN : xs.length ≤ 3072 := (Int32.ofNat_le_ofNat hsm (by decide)).mp (show Int32.ofNat xs.length ≤ Int32.ofNat 3072 from hd)
  exact ⟨b, xs, Cond.one_arg hc (show args[0]? = some (.ref b) from hb), hx, hN, h⟩
theorem lw_comes (l : Launch) (htr : l.stackTraces = false) : Comes l x (Jvm.Cond.code x code maxLocals ret :: tables_1) room_1 (fun tb e args s => Calls_1 tb e args s ∧ rest_1 tb e args s ∧ Pre_1 tb e args s)
    (fun _ _ args s o t => lw_Q args s o t) := by
  intro p e ha hc hk s m args below hf hfit hheap happ hpre
  obtain ⟨b, xs, hP⟩ := lw_pre_spec hpre.2.2 hpre.2.1
  obtain ⟨k, o, h1, h2, h3, hQ⟩ := lw_walk l htr b xs p e ha hc hk s m args below hf ((Spec.applies_iff_loose hf).mp happ).1 hP trivial
  exact ⟨k, o, h1, h2, h3, hQ⟩
theorem lw_frame {s t : State} {o : Outcome} {args : Array Value} (h : Framed s o t [] 601024 7293034) :
    Framed s o t (fieldLocs frame_1_writes args s ++ arrayLocs frame_1_arrays args s ++ staticLocs frame_1_statics s) 601024 7293034 := h
theorem lw_tr {l : Launch} (h : l.flags = flags0) : l.stackTraces = false := by
  unfold Launch.stackTraces
  rw [h]
  decide
theorem lw_limb (L : Cond) (hL : ∀ (args : Array Value) (s t : State), L.after args s (.returned (some (.int 1))) t = true) :
    ArmFor flags0 classFile x code maxLocals ret World_1 tables_1 room_1 Calls_1 rest_1 Pre_1
      (fun tb e a s o t => postC L tb e a s o t ∧ Framed s o t (fieldLocs frame_1_writes a s ++ arrayLocs frame_1_arrays a s ++ staticLocs frame_1_statics s) 601024 7293034) := by
  intro l hfl _ _ p e ha hc hk s m args below hf hfit hheap happ hpre
  obtain ⟨k, o, h1, h2, h3, rfl, hF⟩ := lw_comes l (lw_tr hfl) p e ha hc hk s m args below hf hfit hheap happ hpre
  exact ⟨k, _, h1, h2, h3, hL args s _, lw_frame hF⟩
