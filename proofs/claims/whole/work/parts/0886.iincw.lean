/-! iinc, wide -/
section LYW
variable {X : CX} {cc : ByteArray} {nL : Nat} {own : String} {h mc ms pc : Nat} {lv : List (Nat × Value)} {rest : List Value} {P : PT} {n ce sl : Nat}
theorem rn_iincw {i : Nat} {z : Int} {x v : Int32} {lv' : List (Nat × Value)} (C : OkX X cc nL own h mc ms) (hd : decode cc pc = .ok (.iinc i z, 6)) (hq : lv.lookup i = some (.int x)) (hv : x + Int32.ofInt z = v) (hn : i < nL) (hl' : l_ins (lv.filter (l_f1 i)) i (.int v) = lv') (k : Rn X (pc + 6) lv' rest P n ce sl) : Rn X pc lv rest P n ce sl := fun H ls locs hH hl ho => by
  have hm := lv_look hl hq
  have hl0 : lv_has ls (x_n X) ((i, .int x) :: lv) := ⟨hl.1, hl.2.1, fun q hq2 => (List.mem_cons.mp hq2).elim (fun e => by rw [e]; exact hm) (hl.2.2 q)⟩
  exact lv_iincW C.1 C.2.1 hd hl0 (k := 0) rfl hv (by rw [C.2.2.1]; exact hn) rfl (fun ls' hl2 => k H ls' locs hH (hl' ▸ l_ins_has ⟨hl2.1, hl2.2.1, fun q hq2 => hl2.2.2 q ((List.mem_cons.mp hq2).elim (fun e => by rw [e]; exact List.mem_cons_self) (fun g => List.mem_cons_of_mem _ (List.mem_filter.mpr ⟨List.mem_cons_of_mem _ (List.mem_filter.mp g).1, (List.mem_filter.mp g).2⟩)))⟩) ho)
end LYW
