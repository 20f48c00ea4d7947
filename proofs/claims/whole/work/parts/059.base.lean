/-! loops, locals, and the layout of CurveSuite$Field -/
theorem nI_inc (i : Nat) : nI i + Int32.ofInt 1 = nI (i + 1) := nI_1 i
theorem lookup_mem {l : List (Nat × Value)} {i : Nat} {v : Value} (h : l.lookup i = some v) : (i, v) ∈ l := by
  induction l with
  | nil => simp at h
  | cons a t ih =>
    obtain ⟨j, w⟩ := a
    rw [List.lookup_cons] at h
    by_cases hj : i = j
    · subst hj
      simp at h
      subst h
      exact List.mem_cons_self
    · have : (i == j) = false := by simp [hj]
      rw [this] at h
      exact List.mem_cons_of_mem _ (ih h)
/-- the locals of these numbers alone -/
theorem rn_ks {X : CX} {pc n ce sl : Nat} {lv lv' : List (Nat × Value)} {st : List Value} {P : PT} (ks : List Nat) (k : Rn X pc lv' st P n ce sl) (h : ks.filterMap (fun i => (lv.lookup i).map (fun v => (i, v))) = lv') : Rn X pc lv st P n ce sl := by
  refine rn_lv lv' (fun q hq => ?_) k
  rw [← h] at hq
  obtain ⟨i, -, hi⟩ := List.mem_filterMap.mp hq
  cases hl : lv.lookup i with
  | none => rw [hl] at hi; simp at hi
  | some v =>
    rw [hl] at hi
    simp at hi
    subst hi
    exact lookup_mem hl
theorem upto (G : Nat → Prop) (e : Nat) (hx : G e) (hs : ∀ i, i < e → G (i + 1) → G i) : ∀ i, i ≤ e → G i := by
  intro i
  generalize hm : e - i = m
  induction m generalizing i with
  | zero =>
    intro hi
    have : i = e := by omega
    subst this
    exact hx
  | succ m ih =>
    intro hi
    exact hs i (by omega) (ih (i + 1) (by omega) (by omega))
theorem vu_self {α : Type} (f : Nat → α) (k : Nat) : va_up f k (f k) = f := by
  funext j
  by_cases h : j = k
  · subst h; exact vu_s
  · exact vu_n h
theorem vu_vu {α : Type} (f : Nat → α) (k : Nat) (a b : α) : va_up (va_up f k a) k b = va_up f k b := bx_uu f k a b
theorem nI_decs {a i : Nat} (h : i < a) : nI (a - i) + Int32.ofInt (-1) = nI (a - (i + 1)) := by
  have e : a - i = (a - (i + 1)) + 1 := by omega
  rw [e]; exact pk_m1 _
theorem dn_at {N i : Nat} (h : i < N) : dn (N - i) = nI (N - 1 - i) := by
  have e : N - i = (N - 1 - i) + 1 := by omega
  rw [e]; rfl
theorem dn_end {N : Nat} : dn (N - N) = -1 := by rw [Nat.sub_self]; rfl
theorem dn_dec {N i : Nat} (h : i < N) : nI (N - 1 - i) + Int32.ofInt (-1) = dn (N - (i + 1)) := by
  have e : N - (i + 1) = N - 1 - i := by omega
  rw [e]; exact nI_dec _
def fL (c : Bool) : Nat := if c then 16 else 9
def fb (c : Bool) : Nat := if c then 28 else 29
def ft (c : Bool) : Nat := if c then 28 else 23
def fB (c : Bool) : Nat := if c then 56 else 32
def fM (c : Bool) : Int64 := lN (2 ^ fb c - 1)
def fN (c : Bool) : Int64 := lN (2 ^ ft c - 1)
def bI (c : Bool) : Int32 := nI (if c then 1 else 0)
abbrev rf (k : KX) (j : Nat) : Option Value := some (.ref (k_b k + j))
/-- the layout of a Field at place o: its rows lie behind it, in the order in which they are made -/
def fSh (k : KX) (o : Nat) (c : Bool) : Sh := sO 2 [some (.int (nI (fB c))), rf k (o + 1), some (.int (bI c)), some (.int (nI (fL c))), some (.int (nI (fb c))), some (.int (nI (ft c))), some (.long (fM c)), some (.long (fN c)), rf k (o + 2), rf k (o + 3), rf k (o + 4), rf k (o + 5), rf k (o + 6), rf k (o + 7), rf k (o + 8), rf k (o + 9)]
def FieldAt (k : KX) (L : Nat → Option Sh) (o : Nat) (c : Bool) : Prop := L o = some (fSh k o c) ∧ L (o + 1) = some (sJ 16) ∧ L (o + 2) = some (sJ 16) ∧ L (o + 3) = some (sJ 32) ∧ L (o + 4) = some (sJ 16) ∧ L (o + 5) = some (sJ 16) ∧ L (o + 6) = some (sJ 16) ∧ L (o + 7) = some (sJ 16) ∧ L (o + 8) = some (sJ 16) ∧ L (o + 9) = some (sJ 16)
theorem fL_le (c : Bool) : 9 ≤ fL c ∧ fL c ≤ 16 := by cases c <;> decide
theorem bI_f {c : Bool} (h : bI c = 0) : c = false := by cases c with
  | false => rfl
  | true => exact absurd h (by decide)
theorem bI_t {c : Bool} (h : ¬ bI c = 0) : c = true := by cases c with
  | true => rfl
  | false => exact absurd (by decide) h
theorem nz0 : narrow .boolean (.int (nI 0)) = .int (nI 0) := by first | rfl | decide | simp [narrow, nI]
theorem nz1 : narrow .boolean (.int (nI 1)) = .int (nI 1) := by first | rfl | decide | simp [narrow, nI]
theorem dn_lt {a s : Nat} (e : a = s) (h : s < 2 ^ 31) : dn a < nI s := by
  subst e
  cases a with
  | zero => decide
  | succ j => exact nI_lt (Nat.lt_succ_self j) h
theorem tup (x : StT) : x = (x.1, x.2.1, x.2.2) := rfl
theorem tupi (v : Int32) (x : StT) : (v, x) = (v, x.1, x.2.1, x.2.2) := rfl
theorem tupl (v : Int64) (x : StT) : (v, x) = (v, x.1, x.2.1, x.2.2) := rfl
