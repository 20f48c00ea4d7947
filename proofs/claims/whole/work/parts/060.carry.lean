/-! CurveSuite$Field: names for its numbers, its layout, carry -/
theorem nI_inc (i : Nat) : nI i + Int32.ofInt 1 = nI (i + 1) := nI_1 i
theorem lookup_mem {l : List (Nat × Value)} {i : Nat} {v : Value} (h : l.lookup i = some v) : (i, v) ∈ l := by
  induction l with
  | nil => simp at h
  | cons a t ih =>
    obtain ⟨j, w⟩ := a
    rw [List.lookup_cons] at h
    by_cases hj : i = j
    · subst hj
      simp at h
      subst h
      exact List.mem_cons_self
    · have : (i == j) = false := by simp [hj]
      rw [this] at h
      exact List.mem_cons_of_mem _ (ih h)
/-- the locals of these numbers alone -/
theorem rn_ks {X : CX} {pc n ce sl : Nat} {lv lv' : List (Nat × Value)} {st : List Value} {P : PT} (ks : List Nat) (k : Rn X pc lv' st P n ce sl) (h : ks.filterMap (fun i => (lv.lookup i).map (fun v => (i, v))) = lv') : Rn X pc lv st P n ce sl := by
  refine rn_lv lv' (fun q hq => ?_) k
  rw [← h] at hq
  obtain ⟨i, -, hi⟩ := List.mem_filterMap.mp hq
  cases hl : lv.lookup i with
  | none => rw [hl] at hi; simp at hi
  | some v =>
    rw [hl] at hi
    simp at hi
    subst hi
    exact lookup_mem hl
theorem upto (G : Nat → Prop) (e : Nat) (hx : G e) (hs : ∀ i, i < e → G (i + 1) → G i) : ∀ i, i ≤ e → G i := by
  intro i
  generalize hm : e - i = m
  induction m generalizing i with
  | zero =>
    intro hi
    have : i = e := by omega
    subst this
    exact hx
  | succ m ih =>
    intro hi
    exact hs i (by omega) (ih (i + 1) (by omega) (by omega))
theorem vu_self {α : Type} (f : Nat → α) (k : Nat) : va_up f k (f k) = f := by
  funext j
  by_cases h : j = k
  · subst h; exact vu_s
  · exact vu_n h
theorem vu_vu {α : Type} (f : Nat → α) (k : Nat) (a b : α) : va_up (va_up f k a) k b = va_up f k b := bx_uu f k a b
def fL (c : Bool) : Nat := if c then 16 else 9
def fb (c : Bool) : Nat := if c then 28 else 29
def ft (c : Bool) : Nat := if c then 28 else 23
def fB (c : Bool) : Nat := if c then 56 else 32
def fM (c : Bool) : Int64 := lN (2 ^ fb c - 1)
def fN (c : Bool) : Int64 := lN (2 ^ ft c - 1)
def bI (c : Bool) : Int32 := nI (if c then 1 else 0)
abbrev rf (k : KX) (j : Nat) : Option Value := some (.ref (k_b k + j))
/-- the layout of a Field at place o: its rows lie behind it, in the order in which they are made -/
def fSh (k : KX) (o : Nat) (c : Bool) : Sh := sO 2 [some (.int (nI (fB c))), rf k (o + 1), some (.int (bI c)), some (.int (nI (fL c))), some (.int (nI (fb c))), some (.int (nI (ft c))), some (.long (fM c)), some (.long (fN c)), rf k (o + 2), rf k (o + 3), rf k (o + 4), rf k (o + 5), rf k (o + 6), rf k (o + 7), rf k (o + 8), rf k (o + 9)]
def FieldAt (k : KX) (L : Nat → Option Sh) (o : Nat) (c : Bool) : Prop := L o = some (fSh k o c) ∧ L (o + 1) = some (sJ 16) ∧ L (o + 2) = some (sJ 16) ∧ L (o + 3) = some (sJ 32) ∧ L (o + 4) = some (sJ 16) ∧ L (o + 5) = some (sJ 16) ∧ L (o + 6) = some (sJ 16) ∧ L (o + 7) = some (sJ 16) ∧ L (o + 8) = some (sJ 16) ∧ L (o + 9) = some (sJ 16)
abbrev shr (x : Int64) (b : Nat) : Int64 := x >>> ((nI b).toInt64 &&& 63)
/-- the carry that comes to limb i -/
def cyU (c : Bool) (g : Nat → Int64) : Nat → Int64
  | 0 => 0
  | i + 1 => shr (g i + cyU c g i) (fb c)
def cyT (c : Bool) (g t : Nat → Int64) (i : Nat) : Nat → Int64 := fun q => if q < i then (g q + cyU c g q) &&& fM c else t q
def cyS (c : Bool) (g : Nat → Int64) : Int64 := g (fL c - 1) + cyU c g (fL c - 1)
def cy1 (c : Bool) (g t : Nat → Int64) : Nat → Int64 := vp_updL (cyT c g t (fL c - 1)) (fL c - 1) (cyS c g &&& fN c)
def cyF (c : Bool) (g t : Nat → Int64) : Nat → Int64 :=
  if c then vp_updL (vp_updL (cy1 c g t) 0 (cy1 c g t 0 + shr (cyS c g) (ft c))) 8 (vp_updL (cy1 c g t) 0 (cy1 c g t 0 + shr (cyS c g) (ft c)) 8 + shr (cyS c g) (ft c))
  else vp_updL (cy1 c g t) 0 (cy1 c g t 0 + 19 * shr (cyS c g) (ft c))
theorem cyT_0 (c : Bool) (g t : Nat → Int64) : cyT c g t 0 = t := by funext q; simp [cyT]
theorem cyT_s (c : Bool) (g t : Nat → Int64) (i : Nat) : vp_updL (cyT c g t i) i ((g i + cyU c g i) &&& fM c) = cyT c g t (i + 1) := by
  funext q
  unfold vp_updL cyT
  by_cases h : q = i
  · subst h; simp
  · by_cases h2 : q < i
    · simp [h, h2, Nat.lt_succ_of_lt h2]
    · simp [h, h2, show ¬ q < i + 1 by omega]
theorem cyT_rd (c : Bool) (J : Nat → Nat → Int64) (to fr i : Nat) : va_up J to (cyT c (J fr) (J to) i) fr i = J fr i := by
  by_cases h : fr = to
  · subst h; rw [vu_s]; simp [cyT]
  · rw [vu_n h]
theorem fL_le (c : Bool) : 9 ≤ fL c ∧ fL c ≤ 16 := by cases c <;> decide
set_option maxRecDepth 100000 in
set_option maxHeartbeats 4000000 in
theorem c_carry {k : KX} {L : Nat → Option Sh} {I : Nat → Nat → Int32} {J : Nat → Nat → Int64} {F : Nat → Nat → Int32} {n o to fr m : Nat} {c : Bool} (hF : FieldAt k L o c) (hto : L to = some (sJ 16)) (hfr : L fr = some (sJ m)) (hm : 16 ≤ m) (hm2 : m < 2 ^ 31) :
    Cs k yX3_carry cX3_carry 9 none 0 0 0 [.ref (k_b k + o), .ref (k_b k + to), .ref (k_b k + fr)] (inst k L I J F) n (Ps k L n (fun v I' J' F' => v = none ∧ I' = I ∧ F' = F ∧ J' = va_up J to (cyF c (J fr) (J to)))) := by
  refine cs_of (by decide) (Nat.le_of_ble_eq_true rfl) ?_
  intro X hXk C Rt hnm
  subst hXk
  have hF0 := hF.1
  obtain ⟨hl1, hl2⟩ := fL_le c
  refine rn_lv [(0, .ref (k_b X.1 + o)), (1, .ref (k_b X.1 + to)), (2, .ref (k_b X.1 + fr))] (fun q h => h) ?_
  refine rn_lconst (v := 0) C dX3_carry_0 rfl ?_
  refine rn_lstore_n (lv' := [(0, _), (1, _), (2, _), (3, _)]) C dX3_carry_1 (by decide) rfl ?_
  refine rn_aload_n C dX3_carry_2 rfl ?_
  refine rs_get C dX3_carry_3 fl_X3_47 hF0 rfl ?_
  refine rn_iconst (v := nI 1) C dX3_carry_6 rfl ?_
  refine rn_isub C dX3_carry_7 (pk_sub (by omega)) ?_
  refine rn_istore (lv' := [(0, _), (1, _), (2, _), (3, _), (5, _)]) C dX3_carry_8 (by decide) rfl ?_
  refine rn_iconst (v := nI 0) C dX3_carry_10 rfl ?_
  refine rn_istore (lv' := [(0, _), (1, _), (2, _), (3, _), (5, _), (6, _)]) C dX3_carry_11 (by decide) rfl ?_
  have loop : ∀ i, i ≤ fL c - 1 → Rn X 13 [(0, .ref (k_b X.1 + o)), (1, .ref (k_b X.1 + to)), (2, .ref (k_b X.1 + fr)), (3, .long (cyU c (J fr) i)), (5, .int (nI (fL c - 1))), (6, .int (nI i))] [] (inst X.1 L I (va_up J to (cyT c (J fr) (J to) i)) F) n 0 0 := by
    refine upto _ _ ?_ (fun i hi ih => ?_)
    · skip
      refine rn_iload C dX3_carry_13 rfl ?_
      refine rn_iload C dX3_carry_15 rfl ?_
      refine rs_ge (tgt := 53) C dX3_carry_17 (by decide) rfl rfl (by omega) (by omega) (fun q => ?_) (fun q => absurd q (by omega))
      refine rn_aload_n C dX3_carry_53 rfl ?_
      refine rn_iload C dX3_carry_54 rfl ?_
      refine rs_laload C dX3_carry_56 hfr rfl (by omega) hm2 ?_
      refine rn_lload_n C dX3_carry_57 rfl ?_
      refine rn_ladd C dX3_carry_58 (show _ = cyS c (J fr) from by rw [cyT_rd]; rfl) ?_
      refine rn_lstore (lv' := [(0, _), (1, _), (2, _), (3, _), (5, _), (6, _)]) C dX3_carry_59 (by decide) rfl ?_
      refine rn_aload_n C dX3_carry_61 rfl ?_
      refine rn_iload C dX3_carry_62 rfl ?_
      refine rn_lload C dX3_carry_64 rfl ?_
      refine rn_aload_n C dX3_carry_66 rfl ?_
      refine rs_get C dX3_carry_67 fl_X3_60 hF0 rfl ?_
      refine rn_land C dX3_carry_70 rfl ?_
      refine rs_lastore C dX3_carry_71 hto rfl (by omega) (by decide) ?_
      refine rn_lload C dX3_carry_72 rfl ?_
      refine rn_aload_n C dX3_carry_74 rfl ?_
      refine rs_get C dX3_carry_75 fl_X3_53 hF0 rfl ?_
      refine rn_lshr C dX3_carry_78 rfl ?_
      refine rn_lstore_n (lv' := [(0, _), (1, _), (2, _), (3, _), (5, _), (6, _)]) C dX3_carry_79 (by decide) rfl ?_
      refine rn_aload_n C dX3_carry_80 rfl ?_
      refine rs_get C dX3_carry_81 fl_X3_39 hF0 rfl ?_
      refine rn_if_eq (tgt := 105) C dX3_carry_84 (by decide) (fun q => ?_) (fun q => ?_)
      · have hc : c = false := by cases c with
          | false => rfl
          | true => exact absurd q (by decide)
        subst hc
        refine rn_aload_n C dX3_carry_105 rfl ?_
        refine rn_iconst (v := nI 0) C dX3_carry_106 rfl ?_
        refine rn_dup2 C dX3_carry_107 rfl rfl ?_
        refine rs_laload C dX3_carry_108 hto rfl (by omega) (by decide) ?_
        refine rn_ldc2 C dX3_carry_109 lc_X3_124 ?_
        refine rn_lload_n C dX3_carry_112 rfl ?_
        refine rn_lmul C dX3_carry_113 rfl ?_
        refine rn_ladd C dX3_carry_114 rfl ?_
        refine rs_lastore C dX3_carry_115 hto rfl (by omega) (by decide) ?_
        refine rn_vret C Rt dX3_carry_116 ⟨none, I, _, F, rfl, rfl, rfl, rfl, rfl, rfl, ?_⟩ (Nat.le_refl _) (Nat.le_refl _)
        simp only [vu_vu, vu_s]
        rfl
      · have hc : c = true := by cases c with
          | true => rfl
          | false => exact absurd (by decide) q
        subst hc
        refine rn_aload_n C dX3_carry_87 rfl ?_
        refine rn_iconst (v := nI 0) C dX3_carry_88 rfl ?_
        refine rn_dup2 C dX3_carry_89 rfl rfl ?_
        refine rs_laload C dX3_carry_90 hto rfl (by omega) (by decide) ?_
        refine rn_lload_n C dX3_carry_91 rfl ?_
        refine rn_ladd C dX3_carry_92 rfl ?_
        refine rs_lastore C dX3_carry_93 hto rfl (by omega) (by decide) ?_
        refine rn_aload_n C dX3_carry_94 rfl ?_
        refine rn_bipush (v := nI 8) C dX3_carry_95 rfl ?_
        refine rn_dup2 C dX3_carry_97 rfl rfl ?_
        refine rs_laload C dX3_carry_98 hto rfl (by omega) (by decide) ?_
        refine rn_lload_n C dX3_carry_99 rfl ?_
        refine rn_ladd C dX3_carry_100 rfl ?_
        refine rs_lastore C dX3_carry_101 hto rfl (by omega) (by decide) ?_
        refine rn_goto (tgt := 116) C dX3_carry_102 (by decide) ?_
        refine rn_vret C Rt dX3_carry_116 ⟨none, I, _, F, rfl, rfl, rfl, rfl, rfl, rfl, ?_⟩ (Nat.le_refl _) (Nat.le_refl _)
        simp only [vu_vu, vu_s]
        rfl
    · skip
      refine rn_iload C dX3_carry_13 rfl ?_
      refine rn_iload C dX3_carry_15 rfl ?_
      refine rs_ge (tgt := 53) C dX3_carry_17 (by decide) rfl rfl (by omega) (by omega) (fun q => absurd q (by omega)) (fun q => ?_)
      refine rn_aload_n C dX3_carry_20 rfl ?_
      refine rn_iload C dX3_carry_21 rfl ?_
      refine rs_laload C dX3_carry_23 hfr rfl (by omega) hm2 ?_
      refine rn_lload_n C dX3_carry_24 rfl ?_
      refine rn_ladd C dX3_carry_25 (show _ = J fr i + cyU c (J fr) i from by rw [cyT_rd]) ?_
      refine rn_lstore (lv' := [(0, _), (1, _), (2, _), (3, _), (5, _), (6, _), (7, _)]) C dX3_carry_26 (by decide) rfl ?_
      refine rn_aload_n C dX3_carry_28 rfl ?_
      refine rn_iload C dX3_carry_29 rfl ?_
      refine rn_lload C dX3_carry_31 rfl ?_
      refine rn_aload_n C dX3_carry_33 rfl ?_
      refine rs_get C dX3_carry_34 fl_X3_56 hF0 rfl ?_
      refine rn_land C dX3_carry_37 rfl ?_
      refine rs_lastore C dX3_carry_38 hto rfl (by omega) (by decide) ?_
      refine rn_lload C dX3_carry_39 rfl ?_
      refine rn_aload_n C dX3_carry_41 rfl ?_
      refine rs_get C dX3_carry_42 fl_X3_50 hF0 rfl ?_
      refine rn_lshr C dX3_carry_45 rfl ?_
      refine rn_lstore_n (lv' := [(0, _), (1, _), (2, _), (3, _), (5, _), (6, _), (7, _)]) C dX3_carry_46 (by decide) rfl ?_
      refine rn_iinc (lv' := [(0, _), (1, _), (2, _), (3, _), (5, _), (6, _), (7, _)]) C dX3_carry_47 rfl (nI_inc _) (by decide) rfl ?_
      refine rn_goto (tgt := 13) C dX3_carry_50 (by decide) ?_
      rw [vu_vu, vu_s, cyT_s]
      exact rn_ks [0, 1, 2, 3, 5, 6] ih rfl
  have h0 := loop 0 (Nat.zero_le _)
  rw [cyT_0, vu_self] at h0
  exact h0
