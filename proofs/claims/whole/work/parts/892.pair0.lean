/-! PAIRS: a call of the class and the same call of the model -/
theorem i3_nn {a : Int32} (h : ¬ a < 0) : ∃ m, m < 2 ^ 31 ∧ a = nI m := by
  have h1 : ¬ a.toInt < (0 : Int32).toInt := fun q => h (Int32.lt_iff_toInt_lt.mpr q)
  have h2 : (0 : Int32).toInt = 0 := rfl
  rw [h2] at h1
  have h3 := Int32.toInt_lt a
  refine ⟨a.toInt.toNat, by omega, Int32.toInt_inj.mp ?_⟩
  rw [nI_toInt (by omega)]
  omega
theorem i3_lt (a : Int32) (N : Nat) (hN : N < 2 ^ 31) : (a < 0 ∨ ¬ a < nI N) ∨ ∃ m, m < N ∧ a = nI m := by
  by_cases h : a < 0
  · exact Or.inl (Or.inl h)
  · obtain ⟨m, hm, e⟩ := i3_nn h
    by_cases h2 : m < N
    · exact Or.inr ⟨m, h2, e⟩
    · exact Or.inl (Or.inr (fun q => h2 ((nI_ltI hm hN).mp (e ▸ q))))
theorem i3_le (a : Int32) (N : Nat) (hN : N < 2 ^ 31) : (a < 0 ∨ ¬ a ≤ nI N) ∨ ∃ m, m ≤ N ∧ a = nI m := by
  by_cases h : a < 0
  · exact Or.inl (Or.inl h)
  · obtain ⟨m, hm, e⟩ := i3_nn h
    by_cases h2 : m ≤ N
    · exact Or.inr ⟨m, h2, e⟩
    · exact Or.inl (Or.inr (fun q => h2 ((nI_leI hm hN).mp (e ▸ q))))
theorem i3_bc (a : Int32) : (a < nI 1 ∨ ¬ a ≤ nI 8) ∨ ∃ m, 1 ≤ m ∧ m ≤ 8 ∧ a = nI m := by
  rcases i3_le a 8 (by decide) with (h | h) | ⟨m, hm, e⟩
  · refine Or.inl (Or.inl ?_)
    have h1 := Int32.lt_iff_toInt_lt.mp h
    refine Int32.lt_iff_toInt_lt.mpr ?_
    have h2 : (0 : Int32).toInt = 0 := rfl
    rw [h2] at h1
    rw [nI_toInt (by decide)]
    omega
  · exact Or.inl (Or.inr h)
  · by_cases h1 : 1 ≤ m
    · exact Or.inr ⟨m, h1, hm, e⟩
    · refine Or.inl (Or.inl ?_)
      rw [e]
      exact (nI_ltI (by omega) (by decide)).mpr (by omega)
theorem i3_not {a b : Int32} (h : ¬ a ≤ b) : b < a := by
  have h1 : ¬ a.toInt ≤ b.toInt := fun q => h (Int32.le_iff_toInt_le.mpr q)
  exact Int32.lt_iff_toInt_lt.mpr (by omega)
theorem i3_c {a : Int32} (h : a < 0 ∨ ¬ a < nI 2) : a < 0 ∨ ¬ a ≤ nI 1 := by
  refine h.imp id (fun q z => q ?_)
  have h1 := Int32.le_iff_toInt_le.mp z
  rw [nI_toInt (by decide)] at h1
  refine Int32.lt_iff_toInt_lt.mpr ?_
  rw [nI_toInt (by decide)]
  omega
theorem i3_pl {p : Int32} (S : StT) (h : p < 0 ∨ ¬ p < nI 3) : (misPl_f p S).1 = 0 := by
  unfold misPl_f
  by_cases h1 : p < 0
  · rw [if_pos h1]; rfl
  · rw [if_neg h1]
    have h2 : ¬ p < nI 3 := h.resolve_left h1
    have h3 : nI 3 ≤ p := by
      refine Int32.le_iff_toInt_le.mpr ?_
      have : ¬ p.toInt < (nI 3).toInt := fun q => h2 (Int32.lt_iff_toInt_lt.mpr q)
      omega
    rw [if_pos h3]; rfl
theorem i3_bN {m : Nat} (h : m < 2) : ∃ c : Bool, m = bN c := by
  rcases m with _ | _ | m
  · exact ⟨false, rfl⟩
  · exact ⟨true, rfl⟩
  · omega
/-- a boolean: 0 or 1 -/
theorem bI_bN (c : Bool) : bI c = nI (bN c) := rfl
def Inv (xo mo : Nat) (B : (c : Bool) → Pt c) (S : StT) (A : AS) : Prop := RC xo B S A ∧ RM mo B S A ∧ AV A
/-- the row out is told anew -/
def oU (oo : Nat) (x : Int64) (S : StT) : StT := (S.1, va_up S.2.1 oo (vp_updL (S.2.1 oo) 0 x), S.2.2)
theorem oU_s {oo : Nat} {x : Int64} {S : StT} : (oU oo x S).2.1 oo 0 = x := by
  show va_up S.2.1 oo (vp_updL (S.2.1 oo) 0 x) oo 0 = x
  rw [vu_s]
  exact if_pos rfl
theorem oU_RC {xo mo oo : Nat} {B : (c : Bool) → Pt c} {x : Int64} {S : StT} {A : AS} (h1 : xo + 335 ≤ mo) (h2 : mo + 28 ≤ oo) (h : RC xo B S A) : RC xo B (oU oo x S) A :=
  RC_out (mo := oo) (S := S) (T := oU oo x S) (Or.inl (by omega)) (fun r hr => ⟨rfl, vu_n (by omega), rfl⟩) h
theorem oU_RM {xo mo oo : Nat} {B : (c : Bool) → Pt c} {x : Int64} {S : StT} {A : AS} (h1 : xo + 335 ≤ mo) (h2 : mo + 28 ≤ oo) (h : RM mo B S A) : RM mo B (oU oo x S) A :=
  RM_out (xo := oo) (S := S) (T := oU oo x S) (Or.inr (by omega)) (fun r hr => ⟨rfl, vu_n (by omega), rfl⟩) h
section PR
variable (k : KX) (L : Nat → Option Sh) (xo mo oo : Nat) (B : (c : Bool) → Pt c) (S : StT)
/-- a call that answers nothing, as the law makes it -/
def PairV (yW : MethodName) (cW : ByteArray) (mW : Nat) (tab : List (Nat × Nat × Nat × Nat)) (avW : List Value) (yM : MethodName) (cM : ByteArray) (mM : Nat) (avM : List Value) : Prop :=
  ∃ (kc : Int32) (T1 T2 : StT) (A' : AS) (hM : Nat), hM < 9 ∧ (∀ n, CsH k yW cW mW (some .int) tab 8 1 6 avW (inst k L S.1 S.2.1 S.2.2) n (PiN k L n (kc, T1))) ∧ (∀ n, Cs k yM cM mM none hM 0 0 avM (inst k L T1.1 T1.2.1 T1.2.2) n (Pv k L n T2)) ∧ T2.2.2 mo 0 = kc ∧ Inv xo mo B T2 A'
/-- a call that answers -/
def PairI (cv : Int32 → Int64) (rt : FieldType) (yW : MethodName) (cW : ByteArray) (mW : Nat) (tab : List (Nat × Nat × Nat × Nat)) (avW : List Value) (yM : MethodName) (cM : ByteArray) (mM : Nat) (avM : List Value) : Prop :=
  ∃ (kc r : Int32) (T1 T2 : StT) (A' : AS) (hM : Nat), hM < 9 ∧ (∀ n, CsH k yW cW mW (some .int) tab 8 1 6 avW (inst k L S.1 S.2.1 S.2.2) n (PiN k L n (kc, T1))) ∧ (∀ n, Cs k yM cM mM (some rt) hM 0 0 avM (inst k L T1.1 T1.2.1 T1.2.2) n (Pi k L n (r, T2))) ∧ T2.2.2 mo 0 = kc ∧ (kc = 0 → T2.2.1 oo 0 = cv r) ∧ Inv xo mo B T2 A'
end PR
section PR2
variable {k : KX} {L : Nat → Option Sh} {xo mo oo : Nat} {B : (c : Bool) → Pt c} {S : StT} {A A' : AS}
/-- both refuse -/
theorem pv_x {yW : MethodName} {cW : ByteArray} {mW : Nat} {tab : List (Nat × Nat × Nat × Nat)} {avW : List Value} {yM : MethodName} {cM : ByteArray} {mM : Nat} {avM : List Value} {q : Int32} {T2 : StT} {hM : Nat} (hI : Inv xo mo B S A) (h1 : xo + 335 ≤ mo) (hh : hM < 9) (hW : ∀ n, CsH k yW cW mW (some .int) tab 8 1 6 avW (inst k L S.1 S.2.1 S.2.2) n (PiN k L n (q, S))) (hC : ∀ n, Cs k yM cM mM none hM 0 0 avM (inst k L S.1 S.2.1 S.2.2) n (Pv k L n T2)) (e : T2 = (S.1, S.2.1, fs S.2.2 mo 0 q)) : PairV k L xo mo B S yW cW mW tab avW yM cM mM avM := by
  subst e
  obtain ⟨g1, g2⟩ := RM_f0 q hI.2.1
  exact ⟨q, S, _, A, hM, hh, hW, hC, fs_get, RC_out (Or.inl h1) g2 hI.1, g1, hI.2.2⟩
theorem pi_x {cv : Int32 → Int64} {rt : FieldType} {yW : MethodName} {cW : ByteArray} {mW : Nat} {tab : List (Nat × Nat × Nat × Nat)} {avW : List Value} {yM : MethodName} {cM : ByteArray} {mM : Nat} {avM : List Value} {q : Int32} {R : Int32 × StT} {hM : Nat} (hI : Inv xo mo B S A) (h1 : xo + 335 ≤ mo) (hh : hM < 9) (hq : q ≠ 0) (hW : ∀ n, CsH k yW cW mW (some .int) tab 8 1 6 avW (inst k L S.1 S.2.1 S.2.2) n (PiN k L n (q, S))) (hC : ∀ n, Cs k yM cM mM (some rt) hM 0 0 avM (inst k L S.1 S.2.1 S.2.2) n (Pi k L n R)) (e : R.2 = (S.1, S.2.1, fs S.2.2 mo 0 q)) : PairI k L xo mo oo B S cv rt yW cW mW tab avW yM cM mM avM := by
  obtain ⟨r, T2⟩ := R
  simp only at e
  subst e
  obtain ⟨g1, g2⟩ := RM_f0 q hI.2.1
  exact ⟨q, r, S, _, A, hM, hh, hW, hC, fs_get, fun h => absurd h hq, RC_out (Or.inl h1) g2 hI.1, g1, hI.2.2⟩
/-- both do it -/
theorem pv_ok {yW : MethodName} {cW : ByteArray} {mW : Nat} {tab : List (Nat × Nat × Nat × Nat)} {avW : List Value} {yM : MethodName} {cM : ByteArray} {mM : Nat} {avM : List Value} {T1 : StT} {f : StT → StT} {hM : Nat} (hI : Inv xo mo B S A) (h1 : xo + 335 ≤ mo) (hh : hM < 9) (hW : ∀ n, CsH k yW cW mW (some .int) tab 8 1 6 avW (inst k L S.1 S.2.1 S.2.2) n (PiN k L n (nI 0, T1))) (hx : RC xo B T1 A' ∧ OX xo T1 S) (hC : ∀ n T, RM mo B T A → Cs k yM cM mM none hM 0 0 avM (inst k L T.1 T.2.1 T.2.2) n (Pv k L n (f T))) (hm : ∀ T, RM mo B T A → RM mo B (f T) A' ∧ OM mo (f T) T) (h0 : ∀ T, RM mo B T A → (f T).2.2 mo 0 = nI 0) (hv : AV A') : PairV k L xo mo B S yW cW mW tab avW yM cM mM avM := by
  have g : RM mo B T1 A := RM_out (Or.inl h1) hx.2 hI.2.1
  obtain ⟨g1, g2⟩ := hm T1 g
  exact ⟨nI 0, T1, f T1, A', hM, hh, hW, fun n => hC n T1 g, h0 T1 g, RC_out (Or.inl h1) g2 hx.1, g1, hv⟩
theorem pi_ok {cv : Int32 → Int64} {rt : FieldType} {yW : MethodName} {cW : ByteArray} {mW : Nat} {tab : List (Nat × Nat × Nat × Nat)} {avW : List Value} {yM : MethodName} {cM : ByteArray} {mM : Nat} {avM : List Value} {T1 : StT} {x : Int64} {f : StT → Int32 × StT} {hM : Nat} (hI : Inv xo mo B S A) (h1 : xo + 335 ≤ mo) (h2 : mo + 28 ≤ oo) (hh : hM < 9) (hW : ∀ n, CsH k yW cW mW (some .int) tab 8 1 6 avW (inst k L S.1 S.2.1 S.2.2) n (PiN k L n (nI 0, oU oo x T1))) (hx : RC xo B T1 A' ∧ OX xo T1 S) (hC : ∀ n T, RM mo B T A → Cs k yM cM mM (some rt) hM 0 0 avM (inst k L T.1 T.2.1 T.2.2) n (Pi k L n (f T))) (hm : ∀ T, RM mo B T A → cv (f T).1 = x ∧ RM mo B (f T).2 A' ∧ OM mo (f T).2 T) (h0 : ∀ T, RM mo B T A → (f T).2.2.2 mo 0 = nI 0) (hv : AV A') : PairI k L xo mo oo B S cv rt yW cW mW tab avW yM cM mM avM := by
  have g : RM mo B (oU oo x T1) A := oU_RM h1 h2 (RM_out (Or.inl h1) hx.2 hI.2.1)
  obtain ⟨g0, g1, g2⟩ := hm _ g
  refine ⟨nI 0, (f (oU oo x T1)).1, oU oo x T1, (f (oU oo x T1)).2, A', hM, hh, hW, fun n => hC n _ g, h0 _ g, fun _ => ?_, RC_out (Or.inl h1) g2 (oU_RC h1 h2 hx.1), g1, hv⟩
  rw [(g2 oo (Or.inr h2)).2.1, g0]
  exact oU_s
end PR2
