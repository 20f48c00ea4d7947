/-! WHAT THE TABLES SAY OF THE STATICS, as one predicate that stays -/
/-- a String constant of a class: its place, its letters -/
def LitS (k : KX) (own : String) (ix : Nat) (tx : String) (N : Nat) (f : Nat → Nat) (q : Nat × Nat) (U : State) : Prop :=
  vk_R own ix tx q.1 U ∧ (va_O RJ0 q.1 (fun z => k_b k ≤ z) U (k_H k) ∧ va_OF RJ0 "coder" "B" (.int (nI 0)) q.1 (fun z => k_b k ≤ z) U (k_H k)) ∧ va_OF RJ0 "value" "[B" (.ref q.2) q.1 (fun z => k_b k ≤ z) U (k_H k) ∧ va_T .byte q.2 N (fun j => .int (nI (f j))) (fun z => k_b k ≤ z) U (k_H k)
/-- what the methods of a String read beside it -/
def TxS (k : KX) (U : State) : Prop := va_Z RJ0 "COMPACT_STRINGS" "Z" (.int (nI 1)) (fun q => k_b k ≤ q) U (k_H k) ∧ ∃ w : Value, (w = .null ∨ ∃ a9 : Nat, w = .ref a9) ∧ va_Z RJ3 "SIOOBE_FORMATTER" "Ljava/util/function/BiFunction;" w (fun q => k_b k ≤ q) U (k_H k)
theorem LitS.str {k : KX} {own tx : String} {ix N : Nat} {f : Nat → Nat} {q : Nat × Nat} {U : State} (h : LitS k own ix tx N f q U) (g : TxS k U) : StrS k q.1 N f U := ⟨h.2.1.1, h.2.1.2, ⟨q.2, h.2.2⟩, g.1, g.2⟩
theorem LitS.step {k : KX} {own tx : String} {ix N : Nat} {f : Nat → Nat} {q : Nat × Nat} {u V : State} (hvm : u.vm.Alike V.vm) (hr : ∀ (own : String) (i : Nat) (tx : String) (a : Nat), vk_R own i tx a u → vk_R own i tx a V) (h : LitS k own ix tx N f q u) : LitS k own ix tx N f q V :=
  ⟨hr _ _ _ _ h.1, ⟨va_O.moved hvm h.2.1.1, va_OF.moved hvm h.2.1.2⟩, va_OF.moved hvm h.2.2.1, va_T.moved hvm h.2.2.2⟩
theorem TxS.step {k : KX} {u V : State} (hvm : u.vm.Alike V.vm) (h : TxS k u) : TxS k V := ⟨va_Z.moved hvm h.1, h.2.elim fun w g => ⟨w, g.1, va_Z.moved hvm g.2⟩⟩
theorem StJ.step {k : KX} {C n : String} {N : Nat} {g : Nat → Int64} {u V : State} (hvm : u.vm.Alike V.vm) (h : StJ k C n N g u) : StJ k C n N g V := h.elim fun t q => ⟨t, va_Z.moved hvm q.1, va_T.moved hvm q.2⟩
theorem StI.step {k : KX} {C n : String} {N : Nat} {g : Nat → Int32} {u V : State} (hvm : u.vm.Alike V.vm) (h : StI k C n N g u) : StI k C n N g V := h.elim fun t q => ⟨t, va_Z.moved hvm q.1, va_T.moved hvm q.2⟩
theorem classAt_step {C : String} {u V : State} (hvm : u.vm.Alike V.vm) (h : ∃ cC, ClassAt u C cC) : ∃ cC, ClassAt V C cC := by
  obtain ⟨cC, g⟩ := h
  exact ⟨cC, classAt_moved hvm g⟩
theorem HsS.step {k : KX} {u V : State} (hvm : u.vm.Alike V.vm) (h : HsS k u) : HsS k V :=
  ⟨⟨⟨h.1.1.1.step hvm, h.1.1.2.1.step hvm, h.1.1.2.2.step hvm⟩, h.1.2.1.step hvm, h.1.2.2.step hvm⟩, ⟨va_Fw.moved ⟨by decide +kernel, by decide +kernel⟩ hvm h.2.1.1, va_Fw.moved ⟨by decide +kernel, by decide +kernel⟩ hvm h.2.1.2⟩, classAt_step hvm h.2.2.1, classAt_step hvm h.2.2.2⟩
theorem ExS.step {k : KX} {u V : State} (hvm : u.vm.Alike V.vm) (hn : ∀ w ∈ exW, va_Nw w u → va_Nw w V) (hr : ∀ (own : String) (i : Nat) (tx : String) (a : Nat), vk_R own i tx a u → vk_R own i tx a V) (h : ExS k u) : ExS k V :=
  ⟨fun w hw => hn w hw (h.1 w hw), ⟨h.2.1.1, vx_Zq.moved hvm h.2.1.2.1, vx_Zq.moved hvm h.2.1.2.2⟩, ⟨va_Nc.moved hvm h.2.2.1.1, va_Nc.moved hvm h.2.2.1.2⟩, fun q hq => (h.2.2.2 q hq).elim fun sa g => ⟨sa, hr _ _ _ _ g⟩⟩
theorem ArS.step {u V : State} (hvm : u.vm.Alike V.vm) (h : ArS u) : ArS V := ⟨va_AO.moved hvm h.1, va_AO.moved hvm h.2.1, va_AO.moved hvm h.2.2.1, va_AO.moved hvm h.2.2.2.1, va_AO.moved hvm h.2.2.2.2⟩
/-- all of it; ad = where the constants lie -/
def FA (k : KX) (ad : Nat → Nat × Nat) (U : State) : Prop := HsS k U ∧ ExS k U ∧ ArS U ∧ TxS k U ∧ (LitS k RX10 98 "SigEd448" 8 lb4 (ad 0) U ∧ LitS k RX10 100 "SigEd25519 no Ed25519 collisions" 32 lb2 (ad 1) U) ∧
  (LitS k RX1 68 "2b8324804fc1df0b2b4d00993dfbd7a72f431806ad2fe478c4ee1b274a0ea0b0" (2 * 32) hx68 (ad 2) U ∧ LitS k RX1 81 "52036cee2b6ffe738cc740797779e89800700a4d4141d8ab75eb4dca135978a3" (2 * 32) hx81 (ad 3) U ∧ LitS k RX1 95 "216936d3cd6e53fec0a4e231fdd6dc5c692cc7609525a7b2c9562d608f25d51a" (2 * 32) hx95 (ad 4) U ∧ LitS k RX1 105 "6666666666666666666666666666666666666666666666666666666666666658" (2 * 32) hx105 (ad 5) U) ∧
  (LitS k RX1 79 "98a9" (2 * 2) hx79 (ad 6) U ∧ LitS k RX1 93 "4f1970c66bed0ded221d15a622bf36da9e146570470f1767ea6de324a3d3a46412ae1af72ab66511433b80e18b00938e2626a82bc70cc05e" (2 * 56) hx93 (ad 7) U ∧ LitS k RX1 103 "693f46716eb6bc248876203756c9c7624bea73736ca3984087789c1e05a0c2d73ad3ff1ce67c39c4fdbd132c4ed7c8ad9808795bf230fa14" (2 * 56) hx103 (ad 8) U) ∧
  LitS k RX7 27 "3fffffffffffffffffffffffffffffffffffffffffffffffffffffff7cca23e9c44edb49aed63690216cc2728dc58f552378c292ab5844f3" (2 * 56) hx27 (ad 9) U ∧ LitS k RX7 29 "1000000000000000000000000000000014def9dea2f79cd65812631a5cf5d3ed" (2 * 32) hx29 (ad 10) U
theorem FA.step {k : KX} {ad : Nat → Nat × Nat} {u V : State} (hvm : u.vm.Alike V.vm) (hn : ∀ w ∈ exW, va_Nw w u → va_Nw w V) (hr : ∀ (own : String) (i : Nat) (tx : String) (a : Nat), vk_R own i tx a u → vk_R own i tx a V) (h : FA k ad u) : FA k ad V := by
  obtain ⟨h1, h2, h3, h4, ⟨a0, a1⟩, ⟨a2, a3, a4, a5⟩, ⟨a6, a7, a8⟩, a9, a10⟩ := h
  exact ⟨h1.step hvm, h2.step hvm hn hr, h3.step hvm, h4.step hvm, ⟨a0.step hvm hr, a1.step hvm hr⟩, ⟨a2.step hvm hr, a3.step hvm hr, a4.step hvm hr, a5.step hvm hr⟩, ⟨a6.step hvm hr, a7.step hvm hr, a8.step hvm hr⟩, a9.step hvm hr, a10.step hvm hr⟩
theorem FA.warm {k : KX} {ad : Nat → Nat × Nat} {u V : State} (hW : u.WarmedH V.vm) (h : FA k ad u) : FA k ad V := by
  refine FA.step hW.alike (fun w hw g => ?_) (fun own i tx a g => vk_R.warm hW g) h
  simp only [exW, List.mem_cons, List.not_mem_nil, or_false] at hw
  rcases hw with e | e | e | e | e | e <;> subst e
  · exact va_Nw.warmC hW g
  · exact va_Nw.warmC hW g
  · exact va_Nw.warmC hW g
  · exact va_Nw.warmD hW g
  · exact va_Nw.warmD hW g
  · exact va_Nw.warmD hW g
theorem FA.same {k : KX} {ad : Nat → Nat × Nat} {u V : State} (e : u.vm = V.vm) (h : FA k ad u) : FA k ad V :=
  FA.step (by rw [← e]; exact Vm.Alike.refl u.vm) (fun w hw g => va_Nw.same (exW_on w hw) e g) (fun own i tx a g => vk_R.same e.symm g) h
