/-! a field that is set; small rows for the model's further methods -/
abbrev fs (F : Nat → Nat → Int32) (o q : Nat) (x : Int32) : Nat → Nat → Int32 := va_up F o (upd (F o) q x)
theorem fs_get {F : Nat → Nat → Int32} {o q : Nat} {x : Int32} : fs F o q x o q = x := by
  show va_up F o (upd (F o) q x) o q = x
  rw [vu_s]
  exact if_pos rfl
theorem fs_oth {F : Nat → Nat → Int32} {o q q' : Nat} {x : Int32} (h : q' ≠ q) : fs F o q x o q' = F o q' := by
  show va_up F o (upd (F o) q x) o q' = F o q'
  rw [vu_s]
  exact if_neg h
theorem fs_fs {F : Nat → Nat → Int32} {o q : Nat} {x y : Int32} : fs (fs F o q x) o q y = fs F o q y := by
  show va_up (va_up F o (upd (F o) q x)) o (upd (va_up F o (upd (F o) q x) o) q y) = va_up F o (upd (F o) q y)
  rw [vu_vu, vu_s]
  congr 1
  funext j
  by_cases h : j = q
  · exact (if_pos h).trans (if_pos h).symm
  · exact (if_neg h).trans ((if_neg h).trans (if_neg h).symm)
theorem fs_self {F : Nat → Nat → Int32} {o q : Nat} {x : Int32} (h : F o q = x) : fs F o q x = F := by
  have e : upd (F o) q x = F o := by
    funext j
    by_cases hj : j = q
    · subst hj
      exact (if_pos rfl).trans h.symm
    · exact if_neg hj
  show va_up F o (upd (F o) q x) = F
  rw [e]
  exact vu_self F o
theorem in_eq {k : KX} {L : Nat → Option Sh} {I : Nat → Nat → Int32} {J : Nat → Nat → Int64} {F : Nat → Nat → Int32} {o q a b : Nat} (h : a = b) : inst k L I J (fs F o q (nI a)) = inst k L I J (fs F o q (nI b)) := by rw [h]
theorem in_self {k : KX} {L : Nat → Option Sh} {I : Nat → Nat → Int32} {J : Nat → Nat → Int64} {F : Nat → Nat → Int32} {o q : Nat} {x : Int32} (h : F o q = x) : inst k L I J F = inst k L I J (fs F o q x) := by rw [fs_self h]
theorem nI_nz {a : Nat} (h : a < 2 ^ 31) (h0 : a ≠ 0) : ¬ nI a = 0 := fun e => by
  have h1 : nI a ≤ nI 0 := by rw [e]; decide
  have := (nI_leI h (by decide)).mp h1
  omega
theorem nI_ne {a b : Nat} (ha : a < 2 ^ 31) (hb : b < 2 ^ 31) (h : a ≠ b) : ¬ nI a = nI b := fun e => by
  have h1 : nI a ≤ nI b := by rw [e]; exact (nI_leI hb hb).mpr (Nat.le_refl _)
  have h2 : nI b ≤ nI a := by rw [e]; exact (nI_leI hb hb).mpr (Nat.le_refl _)
  have := (nI_leI ha hb).mp h1
  have := (nI_leI hb ha).mp h2
  omega
def tx8 (i : Nat) : Int32 := if i < 8 then nI (56 - 8 * i) else -8
theorem tx8_inc : ∀ i, i < 8 → tx8 i + Int32.ofInt (-8) = tx8 (i + 1) := by decide
theorem tx8_pos : ∀ i, i < 8 → ¬ tx8 i < 0 := by decide
theorem tx8_end : tx8 8 < 0 := by decide
/-- how many zeros fill the last block: of 136 bytes, of 128 -/
def skN (q : Nat) : Nat := (136 - (q + 1) % 136) % 136
theorem skN_0 (q : Nat) : (q + 1 + skN q) % 136 = 0 := by unfold skN; omega
theorem skN_1 (q i : Nat) (h : i < skN q) : (q + 1 + i) % 136 ≠ 0 := by unfold skN at h; omega
theorem skN_lt (q : Nat) : skN q < 136 := by unfold skN; omega
def shN (q : Nat) : Nat := (240 - (q + 1) % 128) % 128
theorem shN_0 (q : Nat) : (q + 1 + shN q) % 128 = 112 := by unfold shN; omega
theorem shN_1 (q i : Nat) (h : i < shN q) : (q + 1 + i) % 128 ≠ 112 := by unfold shN at h; omega
theorem shN_lt (q : Nat) : shN q < 128 := by unfold shN; omega
/-- where ins stands behind a hash -/
def haN (c : Bool) (q : Nat) : Nat := if c then q + 1 + skN q else q + 1 + shN q + 16
theorem haN_t {c : Bool} (q : Nat) (h : c = true) : haN c q = q + 1 + skN q := by subst h; rfl
theorem haN_f {c : Bool} (q : Nat) (h : c = false) : haN c q = q + 1 + shN q + 16 := by subst h; rfl
/-- how long the label with the context is -/
def dmN (c ph : Bool) (cx : Nat) : Nat := if c then 10 + cx else if ph then 34 + cx else if cx = 0 then 0 else 34 + cx
theorem dm_1 {c ph : Bool} {cx : Nat} (h : c = true) : dmN c ph cx = 10 + cx := by subst h; rfl
theorem dm_2 {c ph : Bool} {cx : Nat} (h : c = false) (h2 : ph = true) : dmN c ph cx = 34 + cx := by subst h; subst h2; rfl
theorem dm_3 {c ph : Bool} {cx : Nat} (h : c = false) (h2 : ph = false) (h3 : cx ≠ 0) : dmN c ph cx = 34 + cx := by subst h; subst h2; exact if_neg h3
theorem dm_4 {c ph : Bool} {cx : Nat} (h : c = false) (h2 : ph = false) (h3 : cx = 0) : dmN c ph cx = 0 := by subst h; subst h2; exact if_pos h3
theorem dm_le (c ph : Bool) (cx : Nat) : dmN c ph cx ≤ 34 + cx := by unfold dmN; (repeat' split) <;> omega
theorem nI_eq0 {a : Nat} (h : a < 2 ^ 31) (e : nI a = 0) : a = 0 := Decidable.byContradiction (fun q => nI_nz h q e)
theorem mdec_F (c : Bool) (mo d nb at_ : Nat) (S : StT) : (mdec_f c mo d nb at_ S).2.2.2 = S.2.2 := by
  unfold mdec_f
  dsimp only
  (repeat' split) <;> simp only [mmul_F, mplus_F, mminus_F, msmall_F, mzero_F, minv_F, mpow_F, mroot_F, mcopy_F]
theorem malike_F (c : Bool) (mo a b : Nat) (S : StT) : (malike_f c mo a b S).2.2.2 = S.2.2 := by
  unfold malike_f
  dsimp only
  (repeat' split) <;> simp only [mmul_F]
theorem mperm_F (mo : Nat) (S : StT) : (mperm_f mo S).2.2 = S.2.2 := rfl
