/-! THE STATEMENT'S WORDS -/
abbrev nW : List Cond := flatC (Jvm.Cond.and given_1 narrow_1)
theorem tw {b : Nat} {s : State} (hts : ∀ w ∈ lw_tbl, w.before #[Value.ref b] s = true) {w : Cond} (i : Nat) (h : tables_1[i]? = some w) : w.before #[Value.ref b] s = true := hts w (List.mem_append_right _ (List.mem_of_getElem? h))
theorem gv {b : Nat} {s : State} (hgv : ∀ w ∈ nW, w.before #[Value.ref b] s = true) {w : Cond} (i : Nat) (h : nW[i]? = some w) : w.before #[Value.ref b] s = true := hgv w (List.mem_of_getElem? h)
theorem gr {b : Nat} {s : State} (hgv : ∀ w ∈ nW, w.before #[Value.ref b] s = true) {N : Nat} {g : Nat → Cond} (i : Nat) (h : (nW.drop i).take N = (List.range N).map g) (j : Nat) (hj : j < N) : (g j).before #[Value.ref b] s = true := by
  have hm : g j ∈ (nW.drop i).take N := by
    rw [h]
    exact List.mem_map.mpr ⟨j, List.mem_range.mpr hj, rfl⟩
  exact hgv _ (List.mem_of_mem_drop (List.mem_of_mem_take hm))
theorem stJ_of {args : Array Value} {s : State} {k : KX} {C n : String} {N : Nat} {g : Nat → Int64} (hb : k_b k = s.heap.size) (hH : k_H k = s.heap) (hl : (Cond.laysStatic C n "[J").before args s = true) (hini : (Cond.initialized C).before args s = true) (hN : N < 2 ^ 31) (harr : (Cond.arrayOf (.static C n "[J") .long).before args s = true) (hlen : (Cond.eq (.length (.static C n "[J")) (.int (Int32.ofNat N))).before args s = true)
    (hel : ∀ j, j < N → (Cond.eq (.elem (.static C n "[J") (.int (Int32.ofNat j))) (.long (g j))).before args s = true) : StJ k C n N g s := by
  have hA : ∀ a : Nat, a < s.heap.size → ¬ (fun q : Nat => k_b k ≤ q) a := fun a ha => by show ¬ k_b k ≤ a; rw [hb]; exact Nat.not_le.mpr ha
  obtain ⟨t, ht, hT⟩ := va_Tof (f := fun j => .long (g j)) (A := fun q => k_b k ≤ q) hN harr (va_eqt hlen) (fun j hj => va_eqtl (hel j hj)) hA
  exact ⟨t, by rw [hH]; exact va_Zref hl hini ht hA, by rw [hH]; exact hT⟩
theorem stI_of {args : Array Value} {s : State} {k : KX} {C n : String} {N : Nat} {g : Nat → Int32} (hb : k_b k = s.heap.size) (hH : k_H k = s.heap) (hl : (Cond.laysStatic C n "[I").before args s = true) (hini : (Cond.initialized C).before args s = true) (hN : N < 2 ^ 31) (harr : (Cond.arrayOf (.static C n "[I") .int).before args s = true) (hlen : (Cond.eq (.length (.static C n "[I")) (.int (Int32.ofNat N))).before args s = true)
    (hel : ∀ j, j < N → (Cond.eq (.elem (.static C n "[I") (.int (Int32.ofNat j))) (.int (g j))).before args s = true) : StI k C n N g s := by
  have hA : ∀ a : Nat, a < s.heap.size → ¬ (fun q : Nat => k_b k ≤ q) a := fun a ha => by show ¬ k_b k ≤ a; rw [hb]; exact Nat.not_le.mpr ha
  obtain ⟨t, ht, hT⟩ := va_Tof (f := fun j => .int (g j)) (A := fun q => k_b k ≤ q) hN harr (va_eqt hlen) (fun j hj => va_eqt (hel j hj)) hA
  exact ⟨t, by rw [hH]; exact va_Zref hl hini ht hA, by rw [hH]; exact hT⟩
theorem lit_of {args : Array Value} {s : State} {k : KX} {own tx : String} {ix N : Nat} {f : Nat → Nat} (hb : k_b k = s.heap.size) (hH : k_H k = s.heap) (hN : N < 2 ^ 31) (hr : (Cond.stringRef own ix tx).before args s = true) (hex : (Cond.exactly (.string own ix) RJ0).before args s = true) (hco : (Cond.eq (.field (.string own ix) RJ0 "coder" "B") (.int (nI 0))).before args s = true)
    (har : (Cond.arrayOf (.field (.string own ix) RJ0 "value" "[B") .byte).before args s = true) (hle : (Cond.eq (.length (.field (.string own ix) RJ0 "value" "[B")) (.int (Int32.ofNat N))).before args s = true)
    (hel : ∀ j, j < N → (Cond.eq (.elem (.field (.string own ix) RJ0 "value" "[B") (.int (Int32.ofNat j))) (.int (nI (f j)))).before args s = true) : ∃ q : Nat × Nat, LitS k own ix tx N f q s := by
  have hA : ∀ a : Nat, a < s.heap.size → ¬ (fun q : Nat => k_b k ≤ q) a := fun a ha => by show ¬ k_b k ≤ a; rw [hb]; exact Nat.not_le.mpr ha
  obtain ⟨a, c, cA, kA, q1, q2, q3, q4, q5, q6, -⟩ := Cond.exactly_spec (args := args) (first := s) (o := none) (s := s) (idx := []) (t := .string own ix) (cls := RJ0) hex
  obtain ⟨t, ht, hT⟩ := va_Tof (f := fun j => .int (nI (f j))) (A := fun q => k_b k ≤ q) hN har (va_eqt hle) (fun j hj => va_eqt (hel j hj)) hA
  refine ⟨(a, t), vk_R.of hr q1, ⟨?_, ?_⟩, ?_, ?_⟩
  · rw [hH]; exact ⟨cA, q3, q5, by rw [q6]; exact q2, hA a (Array.getElem?_eq_some_iff.mp q3).1⟩
  · rw [hH]; exact vk_OFof q1 (va_eqt hco) hA
  · rw [hH]; exact vk_OFof q1 ht hA
  · rw [hH]; exact hT
theorem txt_of {args : Array Value} {s : State} {own tx : String} {ix : Nat} (hr : (Cond.stringRef own ix tx).before args s = true) (hex : (Cond.exactly (.string own ix) RJ0).before args s = true) : ∃ sa : Nat, vk_R own ix tx sa s := by
  obtain ⟨a, c, cA, kA, q1, -⟩ := Cond.exactly_spec (args := args) (first := s) (o := none) (s := s) (idx := []) (t := .string own ix) (cls := RJ0) hex
  exact ⟨a, vk_R.of hr q1⟩
section AW
variable {b : Nat} {s : State} {k : KX}
theorem as_start (hts : ∀ w ∈ lw_tbl, w.before #[Value.ref b] s = true) (hgv : ∀ w ∈ nW, w.before #[Value.ref b] s = true) (hb : k_b k = s.heap.size) (hH : k_H k = s.heap) : StJ k RX8 "START" 8 hsF s := stJ_of hb hH (tw hts 674 (by decide +kernel)) (tw hts 4 (by decide +kernel)) (by decide) (gv hgv 12 (by decide +kernel)) (gv hgv 13 (by decide +kernel)) (gr hgv 14 (by decide +kernel))
theorem as_hk (hts : ∀ w ∈ lw_tbl, w.before #[Value.ref b] s = true) (hgv : ∀ w ∈ nW, w.before #[Value.ref b] s = true) (hb : k_b k = s.heap.size) (hH : k_H k = s.heap) : StJ k RX8 "ROUND_KEYS" 80 hkF s := stJ_of hb hH (tw hts 701 (by decide +kernel)) (tw hts 4 (by decide +kernel)) (by decide) (gv hgv 23 (by decide +kernel)) (gv hgv 24 (by decide +kernel)) (gr hgv 25 (by decide +kernel))
theorem as_rk (hts : ∀ w ∈ lw_tbl, w.before #[Value.ref b] s = true) (hgv : ∀ w ∈ nW, w.before #[Value.ref b] s = true) (hb : k_b k = s.heap.size) (hH : k_H k = s.heap) : StJ k RX9 "ROUND_KEYS" 24 rkF s := stJ_of hb hH (tw hts 721 (by decide +kernel)) (tw hts 5 (by decide +kernel)) (by decide) (gv hgv 106 (by decide +kernel)) (gv hgv 107 (by decide +kernel)) (gr hgv 108 (by decide +kernel))
theorem as_nl (hts : ∀ w ∈ lw_tbl, w.before #[Value.ref b] s = true) (hgv : ∀ w ∈ nW, w.before #[Value.ref b] s = true) (hb : k_b k = s.heap.size) (hH : k_H k = s.heap) : StI k RX9 "NEXT_LANE" 24 (fun j => nI (nlN j)) s := stI_of hb hH (tw hts 734 (by decide +kernel)) (tw hts 5 (by decide +kernel)) (by decide) (gv hgv 133 (by decide +kernel)) (gv hgv 134 (by decide +kernel)) (gr hgv 135 (by decide +kernel))
theorem as_tn (hts : ∀ w ∈ lw_tbl, w.before #[Value.ref b] s = true) (hgv : ∀ w ∈ nW, w.before #[Value.ref b] s = true) (hb : k_b k = s.heap.size) (hH : k_H k = s.heap) : StI k RX9 "TURNS" 24 (fun j => nI (tnN j)) s := stI_of hb hH (tw hts 736 (by decide +kernel)) (tw hts 5 (by decide +kernel)) (by decide) (gv hgv 160 (by decide +kernel)) (gv hgv 161 (by decide +kernel)) (gr hgv 162 (by decide +kernel))
theorem as_lit0 (hts : ∀ w ∈ lw_tbl, w.before #[Value.ref b] s = true) (hgv : ∀ w ∈ nW, w.before #[Value.ref b] s = true) (hb : k_b k = s.heap.size) (hH : k_H k = s.heap) : ∃ q : Nat × Nat, LitS k RX10 98 "SigEd448" 8 lb4 q s := lit_of hb hH (by decide) (tw hts 919 (by decide +kernel)) (gv hgv 1188 (by decide +kernel)) (gv hgv 1189 (by decide +kernel)) (gv hgv 1190 (by decide +kernel)) (gv hgv 1191 (by decide +kernel)) (gr hgv 1192 (by decide +kernel))
theorem as_lit1 (hts : ∀ w ∈ lw_tbl, w.before #[Value.ref b] s = true) (hgv : ∀ w ∈ nW, w.before #[Value.ref b] s = true) (hb : k_b k = s.heap.size) (hH : k_H k = s.heap) : ∃ q : Nat × Nat, LitS k RX10 100 "SigEd25519 no Ed25519 collisions" 32 lb2 q s := lit_of hb hH (by decide) (tw hts 920 (by decide +kernel)) (gv hgv 1216 (by decide +kernel)) (gv hgv 1217 (by decide +kernel)) (gv hgv 1218 (by decide +kernel)) (gv hgv 1219 (by decide +kernel)) (gr hgv 1220 (by decide +kernel))
theorem as_lit2 (hts : ∀ w ∈ lw_tbl, w.before #[Value.ref b] s = true) (hgv : ∀ w ∈ nW, w.before #[Value.ref b] s = true) (hb : k_b k = s.heap.size) (hH : k_H k = s.heap) : ∃ q : Nat × Nat, LitS k RX1 68 "2b8324804fc1df0b2b4d00993dfbd7a72f431806ad2fe478c4ee1b274a0ea0b0" (2 * 32) hx68 q s := lit_of hb hH (by decide) (tw hts 175 (by decide +kernel)) (gv hgv 225 (by decide +kernel)) (gv hgv 226 (by decide +kernel)) (gv hgv 227 (by decide +kernel)) (gv hgv 228 (by decide +kernel)) (gr hgv 229 (by decide +kernel))
theorem as_lit3 (hts : ∀ w ∈ lw_tbl, w.before #[Value.ref b] s = true) (hgv : ∀ w ∈ nW, w.before #[Value.ref b] s = true) (hb : k_b k = s.heap.size) (hH : k_H k = s.heap) : ∃ q : Nat × Nat, LitS k RX1 81 "52036cee2b6ffe738cc740797779e89800700a4d4141d8ab75eb4dca135978a3" (2 * 32) hx81 q s := lit_of hb hH (by decide) (tw hts 241 (by decide +kernel)) (gv hgv 302 (by decide +kernel)) (gv hgv 303 (by decide +kernel)) (gv hgv 304 (by decide +kernel)) (gv hgv 305 (by decide +kernel)) (gr hgv 306 (by decide +kernel))
theorem as_lit4 (hts : ∀ w ∈ lw_tbl, w.before #[Value.ref b] s = true) (hgv : ∀ w ∈ nW, w.before #[Value.ref b] s = true) (hb : k_b k = s.heap.size) (hH : k_H k = s.heap) : ∃ q : Nat × Nat, LitS k RX1 95 "216936d3cd6e53fec0a4e231fdd6dc5c692cc7609525a7b2c9562d608f25d51a" (2 * 32) hx95 q s := lit_of hb hH (by decide) (tw hts 252 (by decide +kernel)) (gv hgv 491 (by decide +kernel)) (gv hgv 492 (by decide +kernel)) (gv hgv 493 (by decide +kernel)) (gv hgv 494 (by decide +kernel)) (gr hgv 495 (by decide +kernel))
theorem as_lit5 (hts : ∀ w ∈ lw_tbl, w.before #[Value.ref b] s = true) (hgv : ∀ w ∈ nW, w.before #[Value.ref b] s = true) (hb : k_b k = s.heap.size) (hH : k_H k = s.heap) : ∃ q : Nat × Nat, LitS k RX1 105 "6666666666666666666666666666666666666666666666666666666666666658" (2 * 32) hx105 q s := lit_of hb hH (by decide) (tw hts 261 (by decide +kernel)) (gv hgv 684 (by decide +kernel)) (gv hgv 685 (by decide +kernel)) (gv hgv 686 (by decide +kernel)) (gv hgv 687 (by decide +kernel)) (gr hgv 688 (by decide +kernel))
theorem as_lit6 (hts : ∀ w ∈ lw_tbl, w.before #[Value.ref b] s = true) (hgv : ∀ w ∈ nW, w.before #[Value.ref b] s = true) (hb : k_b k = s.heap.size) (hH : k_H k = s.heap) : ∃ q : Nat × Nat, LitS k RX1 79 "98a9" (2 * 2) hx79 q s := lit_of hb hH (by decide) (tw hts 240 (by decide +kernel)) (gv hgv 293 (by decide +kernel)) (gv hgv 294 (by decide +kernel)) (gv hgv 295 (by decide +kernel)) (gv hgv 296 (by decide +kernel)) (gr hgv 297 (by decide +kernel))
theorem as_lit7 (hts : ∀ w ∈ lw_tbl, w.before #[Value.ref b] s = true) (hgv : ∀ w ∈ nW, w.before #[Value.ref b] s = true) (hb : k_b k = s.heap.size) (hH : k_H k = s.heap) : ∃ q : Nat × Nat, LitS k RX1 93 "4f1970c66bed0ded221d15a622bf36da9e146570470f1767ea6de324a3d3a46412ae1af72ab66511433b80e18b00938e2626a82bc70cc05e" (2 * 56) hx93 q s := lit_of hb hH (by decide) (tw hts 251 (by decide +kernel)) (gv hgv 372 (by decide +kernel)) (gv hgv 373 (by decide +kernel)) (gv hgv 374 (by decide +kernel)) (gv hgv 375 (by decide +kernel)) (gr hgv 376 (by decide +kernel))
theorem as_lit8 (hts : ∀ w ∈ lw_tbl, w.before #[Value.ref b] s = true) (hgv : ∀ w ∈ nW, w.before #[Value.ref b] s = true) (hb : k_b k = s.heap.size) (hH : k_H k = s.heap) : ∃ q : Nat × Nat, LitS k RX1 103 "693f46716eb6bc248876203756c9c7624bea73736ca3984087789c1e05a0c2d73ad3ff1ce67c39c4fdbd132c4ed7c8ad9808795bf230fa14" (2 * 56) hx103 q s := lit_of hb hH (by decide) (tw hts 260 (by decide +kernel)) (gv hgv 563 (by decide +kernel)) (gv hgv 564 (by decide +kernel)) (gv hgv 565 (by decide +kernel)) (gv hgv 566 (by decide +kernel)) (gr hgv 567 (by decide +kernel))
theorem as_lit9 (hts : ∀ w ∈ lw_tbl, w.before #[Value.ref b] s = true) (hgv : ∀ w ∈ nW, w.before #[Value.ref b] s = true) (hb : k_b k = s.heap.size) (hH : k_H k = s.heap) : ∃ q : Nat × Nat, LitS k RX7 27 "3fffffffffffffffffffffffffffffffffffffffffffffffffffffff7cca23e9c44edb49aed63690216cc2728dc58f552378c292ab5844f3" (2 * 56) hx27 q s := lit_of hb hH (by decide) (tw hts 385 (by decide +kernel)) (gv hgv 758 (by decide +kernel)) (gv hgv 759 (by decide +kernel)) (gv hgv 760 (by decide +kernel)) (gv hgv 761 (by decide +kernel)) (gr hgv 762 (by decide +kernel))
theorem as_lit10 (hts : ∀ w ∈ lw_tbl, w.before #[Value.ref b] s = true) (hgv : ∀ w ∈ nW, w.before #[Value.ref b] s = true) (hb : k_b k = s.heap.size) (hH : k_H k = s.heap) : ∃ q : Nat × Nat, LitS k RX7 29 "1000000000000000000000000000000014def9dea2f79cd65812631a5cf5d3ed" (2 * 32) hx29 q s := lit_of hb hH (by decide) (tw hts 386 (by decide +kernel)) (gv hgv 881 (by decide +kernel)) (gv hgv 882 (by decide +kernel)) (gv hgv 883 (by decide +kernel)) (gv hgv 884 (by decide +kernel)) (gr hgv 885 (by decide +kernel))
theorem as_fw8 (hts : ∀ w ∈ lw_tbl, w.before #[Value.ref b] s = true) : va_Fw RX8 xDg yX8_digest s := va_Fw.of (tw hts 666 (by decide +kernel)) (tw hts 665 (by decide +kernel)) (tw hts 671 (by decide +kernel)) (tw hts 669 (by decide +kernel)) (tw hts 667 (by decide +kernel))
theorem as_fw9 (hts : ∀ w ∈ lw_tbl, w.before #[Value.ref b] s = true) : va_Fw RX9 xDg yX9_digest s := va_Fw.of (tw hts 666 (by decide +kernel)) (tw hts 665 (by decide +kernel)) (tw hts 709 (by decide +kernel)) (tw hts 707 (by decide +kernel)) (tw hts 705 (by decide +kernel))
theorem as_cls {C : String} {n : Nat} (h : (Cond.instantiable C n).before #[Value.ref b] s = true) : ∃ cC, ClassAt s C cC := by
  obtain ⟨cC, kC, hfc, hk, hkind, -⟩ := Cond.instantiable_spec h
  exact ⟨cC, hfc, kC, hk, hkind⟩
theorem as_nse (hts : ∀ w ∈ lw_tbl, w.before #[Value.ref b] s = true) : NsE s := ⟨va_Nw.of rfl (tw hts 86 (by decide +kernel)), va_Nw.of rfl (tw hts 99 (by decide +kernel))⟩
theorem as_ars (hts : ∀ w ∈ lw_tbl, w.before #[Value.ref b] s = true) : ArS s := ⟨va_AO.of (tw hts 60 (by decide +kernel)), va_AO.of (tw hts 58 (by decide +kernel)), va_AO.of (tw hts 64 (by decide +kernel)), va_AO.of (tw hts 35 (by decide +kernel)), va_AO.of (tw hts 62 (by decide +kernel))⟩
theorem as_exw (hts : ∀ w ∈ lw_tbl, w.before #[Value.ref b] s = true) : ∀ w ∈ exW, va_Nw w s := by
  intro w hw
  refine va_Nw.of (exW_on w hw) (A := #[Value.ref b]) ?_
  simp only [exW, List.mem_cons, List.not_mem_nil, or_false] at hw
  rcases hw with e | e | e | e | e | e <;> subst e
  · exact tw hts 524 (by decide +kernel)
  · exact tw hts 595 (by decide +kernel)
  · exact tw hts 622 (by decide +kernel)
  · exact tw hts 526 (by decide +kernel)
  · exact tw hts 528 (by decide +kernel)
  · exact tw hts 530 (by decide +kernel)
theorem as_txt (hts : ∀ w ∈ lw_tbl, w.before #[Value.ref b] s = true) (hgv : ∀ w ∈ nW, w.before #[Value.ref b] s = true) : ∀ q ∈ ([(98, "not all bytes have a place"), (109, "too many bytes"), (126, "no such register"), (129, "no such byte"), (131, "no such number of bytes"), (180, "the points are not of one curve"), (202, "no such what"), (212, "n is not 1 to 8"), (214, "no such curve"), (216, "no such place")] : List (Nat × String)), ∃ sa : Nat, vk_R RX11 q.1 q.2 sa s := by
  intro q hq
  simp only [List.mem_cons, List.not_mem_nil, or_false] at hq
  rcases hq with e | e | e | e | e | e | e | e | e | e <;> subst e
  · exact txt_of (tw hts 602 (by decide +kernel)) (gv hgv 1015 (by decide +kernel))
  · exact txt_of (tw hts 629 (by decide +kernel)) (gv hgv 1056 (by decide +kernel))
  · exact txt_of (tw hts 592 (by decide +kernel)) (gv hgv 985 (by decide +kernel))
  · exact txt_of (tw hts 654 (by decide +kernel)) (gv hgv 1086 (by decide +kernel))
  · exact txt_of (tw hts 662 (by decide +kernel)) (gv hgv 1115 (by decide +kernel))
  · exact txt_of (tw hts 1026 (by decide +kernel)) (gv hgv 1304 (by decide +kernel))
  · exact txt_of (tw hts 1063 (by decide +kernel)) (gv hgv 1358 (by decide +kernel))
  · exact txt_of (tw hts 563 (by decide +kernel)) (gv hgv 957 (by decide +kernel))
  · exact txt_of (tw hts 753 (by decide +kernel)) (gv hgv 1156 (by decide +kernel))
  · exact txt_of (tw hts 1017 (by decide +kernel)) (gv hgv 1269 (by decide +kernel))
theorem as_nc (hts : ∀ w ∈ lw_tbl, w.before #[Value.ref b] s = true) (hgv : ∀ w ∈ nW, w.before #[Value.ref b] s = true) : va_Nc "java/lang/IndexOutOfBoundsException" "java/lang/IllegalArgumentException" s ∧ va_Nc "java/lang/IllegalStateException" "java/lang/IllegalArgumentException" s := ⟨va_Nc.of (gv hgv 197 (by decide +kernel)), va_Nc.of (gv hgv 198 (by decide +kernel))⟩
theorem as_zq (hts : ∀ w ∈ lw_tbl, w.before #[Value.ref b] s = true) (hgv : ∀ w ∈ nW, w.before #[Value.ref b] s = true) (hb : k_b k = s.heap.size) (hH : k_H k = s.heap) : vx_Zq Bundle.tN "UNASSIGNED_STACK" Bundle.steD (fun q => k_b k ≤ q) s (k_H k) ∧ vx_Zq Bundle.tN "SUPPRESSED_SENTINEL" Bundle.listD (fun q => k_b k ≤ q) s (k_H k) := by
  have hA : ∀ a : Nat, a < s.heap.size → ¬ (fun q : Nat => k_b k ≤ q) a := fun a ha => by show ¬ k_b k ≤ a; rw [hb]; exact Nat.not_le.mpr ha
  rw [hH]
  exact ⟨vx_Zqof (tw hts 549 (by decide +kernel)) (tw hts 19 (by decide +kernel)) (gv hgv 9 (by decide +kernel)) hA, vx_Zqof (tw hts 551 (by decide +kernel)) (tw hts 19 (by decide +kernel)) (gv hgv 10 (by decide +kernel)) hA⟩
theorem as_txs (hts : ∀ w ∈ lw_tbl, w.before #[Value.ref b] s = true) (hgv : ∀ w ∈ nW, w.before #[Value.ref b] s = true) (hb : k_b k = s.heap.size) (hH : k_H k = s.heap) : TxS k s := by
  have hA : ∀ a : Nat, a < s.heap.size → ¬ (fun q : Nat => k_b k ≤ q) a := fun a ha => by show ¬ k_b k ≤ a; rw [hb]; exact Nat.not_le.mpr ha
  refine ⟨by rw [hH]; exact va_Zof (tw hts 192 (by decide +kernel)) (tw hts 9 (by decide +kernel)) (va_eqi (gv hgv 4 (by decide +kernel))) hA, ?_⟩
  have h : va_Zq RJ3 "SIOOBE_FORMATTER" "Ljava/util/function/BiFunction;" (fun q => k_b k ≤ q) s s.heap := va_Zqof (tw hts 208 (by decide +kernel)) (tw hts 11 (by decide +kernel)) (gv hgv 5 (by decide +kernel)) hA
  rw [hH]
  rcases h with h | ⟨t, h⟩
  · exact ⟨.null, Or.inl rfl, h⟩
  · exact ⟨.ref t, Or.inr ⟨t, rfl⟩, h⟩
/-- all of it, at the law's start -/
theorem as_fa (hts : ∀ w ∈ lw_tbl, w.before #[Value.ref b] s = true) (hgv : ∀ w ∈ nW, w.before #[Value.ref b] s = true) (hb : k_b k = s.heap.size) (hH : k_H k = s.heap) (htr : (k_l k).stackTraces = false) : ∃ ad : Nat → Nat × Nat, FA k ad s := by
  obtain ⟨q0, a0⟩ := as_lit0 hts hgv hb hH
  obtain ⟨q1, a1⟩ := as_lit1 hts hgv hb hH
  obtain ⟨q2, a2⟩ := as_lit2 hts hgv hb hH
  obtain ⟨q3, a3⟩ := as_lit3 hts hgv hb hH
  obtain ⟨q4, a4⟩ := as_lit4 hts hgv hb hH
  obtain ⟨q5, a5⟩ := as_lit5 hts hgv hb hH
  obtain ⟨q6, a6⟩ := as_lit6 hts hgv hb hH
  obtain ⟨q7, a7⟩ := as_lit7 hts hgv hb hH
  obtain ⟨q8, a8⟩ := as_lit8 hts hgv hb hH
  obtain ⟨q9, a9⟩ := as_lit9 hts hgv hb hH
  obtain ⟨q10, a10⟩ := as_lit10 hts hgv hb hH
  refine ⟨fun i => [q0, q1, q2, q3, q4, q5, q6, q7, q8, q9, q10].getD i q0, ⟨⟨⟨as_rk hts hgv hb hH, as_nl hts hgv hb hH, as_tn hts hgv hb hH⟩, as_start hts hgv hb hH, as_hk hts hgv hb hH⟩, ⟨as_fw8 hts, as_fw9 hts⟩, as_cls (n := 2) (tw hts 85 (by decide +kernel)), as_cls (n := 2) (tw hts 98 (by decide +kernel))⟩, ⟨as_exw hts, ⟨htr, as_zq hts hgv hb hH⟩, as_nc hts hgv, as_txt hts hgv⟩, as_ars hts, as_txs hts hgv hb hH, ⟨a0, a1⟩, ⟨a2, a3, a4, a5⟩, ⟨a6, a7, a8⟩, a9, a10⟩
end AW
theorem as_kn1 {b : Nat} {s : State} (hts : ∀ w ∈ lw_tbl, w.before #[Value.ref b] s = true) {C : String} {T : u_T} {N n : Nat} (h : ∀ w ∈ u_ws C T N, w ∈ gw) (i : Nat) (hi : tables_1[i]? = some (Cond.instantiable C n)) : ∃ q : ClassId × (Nat → Nat), u_Kn s C T N q.1 q.2 := by
  obtain ⟨cC, iS, g⟩ := u_known (C := C) (T := T) (N := N) (n := n) hts (fun w hw => gw_in (h w hw)) (tw hts i hi)
  exact ⟨(cC, iS), g⟩
theorem as_kn {b : Nat} {s : State} (hts : ∀ w ∈ lw_tbl, w.before #[Value.ref b] s = true) : ∃ D : va_G, ∀ (c : Nat) (q : vw_C), vwCl[c]? = some q → u_Kn s q.1 q.2.1 q.2.2 (D.1 c) (D.2 c) := by
  obtain ⟨d0, h0⟩ := as_kn1 (n := 14) hts uw_X0 321 (by decide +kernel)
  obtain ⟨d1, h1⟩ := as_kn1 (n := 18) hts uw_X1 168 (by decide +kernel)
  obtain ⟨d2, h2⟩ := as_kn1 (n := 16) hts uw_X3 111 (by decide +kernel)
  obtain ⟨d3, h3⟩ := as_kn1 (n := 3) hts uw_X5 65 (by decide +kernel)
  obtain ⟨d4, h4⟩ := as_kn1 (n := 2) hts uw_X6 36 (by decide +kernel)
  obtain ⟨d5, h5⟩ := as_kn1 (n := 6) hts uw_X7 380 (by decide +kernel)
  obtain ⟨d6, h6⟩ := as_kn1 (n := 2) hts uw_X8 85 (by decide +kernel)
  obtain ⟨d7, h7⟩ := as_kn1 (n := 2) hts uw_X9 98 (by decide +kernel)
  obtain ⟨d8, h8⟩ := as_kn1 (n := 19) hts uw_X10 370 (by decide +kernel)
  obtain ⟨d9, h9⟩ := as_kn1 (n := 11) hts uw_X11 27 (by decide +kernel)
  obtain ⟨d10, h10⟩ := as_kn1 (n := 34) hts uw_X12 1071 (by decide +kernel)
  refine ⟨(fun i => ([d0, d1, d2, d3, d4, d5, d6, d7, d8, d9, d10].getD i d0).1, fun i => ([d0, d1, d2, d3, d4, d5, d6, d7, d8, d9, d10].getD i d0).2), fun c q hq => ?_⟩
  match c, hq with
  | 0, hq =>
    have e := Option.some.inj hq
    subst e
    exact h0
  | 1, hq =>
    have e := Option.some.inj hq
    subst e
    exact h1
  | 2, hq =>
    have e := Option.some.inj hq
    subst e
    exact h2
  | 3, hq =>
    have e := Option.some.inj hq
    subst e
    exact h3
  | 4, hq =>
    have e := Option.some.inj hq
    subst e
    exact h4
  | 5, hq =>
    have e := Option.some.inj hq
    subst e
    exact h5
  | 6, hq =>
    have e := Option.some.inj hq
    subst e
    exact h6
  | 7, hq =>
    have e := Option.some.inj hq
    subst e
    exact h7
  | 8, hq =>
    have e := Option.some.inj hq
    subst e
    exact h8
  | 9, hq =>
    have e := Option.some.inj hq
    subst e
    exact h9
  | 10, hq =>
    have e := Option.some.inj hq
    subst e
    exact h10
  | c + 11, hq => exact absurd (List.getElem?_eq_some_iff.mp hq).1 (by show ¬ c + 11 < 11; omega)
theorem as_ar1 {args : Array Value} {s : State} {ty : FieldType} (hty : ty = .int ∨ ty = .long) (h : (Cond.arrayClass ty).before args s = true) : ∃ cA : ClassId, ArrOfT s cA ty ∧ va_RA s cA ty := by
  obtain ⟨cA, kA, comp, h1, h2, h3⟩ := Cond.arrayClass_spec h
  rcases hty with e | e <;> subst e
  · exact ⟨cA, fun n z => ⟨fun k h => (by cases h), kA, h2, comp, h3⟩, h1⟩
  · exact ⟨cA, fun n z => ⟨fun k h => (by cases h), kA, h2, comp, h3⟩, h1⟩
theorem as_ar2 {args : Array Value} {s : State} {C : String} (h : (Cond.arrayOver (.object C)).before args s = true) : ∃ cA : ClassId, ArrOfT s cA (.object C) ∧ va_RA s cA (.object C) := by
  obtain ⟨comp, cA, kA, hcomp, hidx, hkA, hkindA, hnameA⟩ := Cond.arrayOver_spec h
  exact ⟨cA, fun n z => ⟨fun k h => (by cases h), kA, hkA, comp, hkindA⟩, kA, comp, hkA, hkindA, hcomp, hnameA⟩
/-- the classes of objects and of rows -/
theorem as_k {b : Nat} {s : State} (hts : ∀ w ∈ lw_tbl, w.before #[Value.ref b] s = true) : ∃ (D : va_G) (c : Nat → ClassId), va_K D vwCl [(c 0, .int), (c 1, .long), (c 2, .object RX0), (c 3, .object RX1), (c 4, .object RX5), (c 5, .object RX6), (c 6, .object RX10)] s := by
  obtain ⟨D, hD⟩ := as_kn hts
  obtain ⟨c0, g0⟩ := as_ar1 (s := s) (ty := .int) (Or.inl rfl) (tw hts 56 (by decide +kernel))
  obtain ⟨c1, g1⟩ := as_ar1 (s := s) (ty := .long) (Or.inr rfl) (tw hts 83 (by decide +kernel))
  obtain ⟨c2, g2⟩ := as_ar2 (s := s) (C := RX0) (tw hts 60 (by decide +kernel))
  obtain ⟨c3, g3⟩ := as_ar2 (s := s) (C := RX1) (tw hts 58 (by decide +kernel))
  obtain ⟨c4, g4⟩ := as_ar2 (s := s) (C := RX5) (tw hts 64 (by decide +kernel))
  obtain ⟨c5, g5⟩ := as_ar2 (s := s) (C := RX6) (tw hts 35 (by decide +kernel))
  obtain ⟨c6, g6⟩ := as_ar2 (s := s) (C := RX10) (tw hts 62 (by decide +kernel))
  refine ⟨D, fun i => [c0, c1, c2, c3, c4, c5, c6].getD i c0, hD, fun k q hk => ?_⟩
  match k, hk with
  | 0, hk =>
    have e := Option.some.inj hk
    subst e
    exact g0
  | 1, hk =>
    have e := Option.some.inj hk
    subst e
    exact g1
  | 2, hk =>
    have e := Option.some.inj hk
    subst e
    exact g2
  | 3, hk =>
    have e := Option.some.inj hk
    subst e
    exact g3
  | 4, hk =>
    have e := Option.some.inj hk
    subst e
    exact g4
  | 5, hk =>
    have e := Option.some.inj hk
    subst e
    exact g5
  | 6, hk =>
    have e := Option.some.inj hk
    subst e
    exact g6
  | k + 7, hk => exact absurd (List.getElem?_eq_some_iff.mp hk).1 (by show ¬ k + 7 < 7; omega)
