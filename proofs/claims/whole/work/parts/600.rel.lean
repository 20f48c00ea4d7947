section
/-! THE SUITE, and what the class and the model hold of it. -/
/-- rows (0 secret, 1 peer, 2 signature, 3 out, 4 message, 5 context), counts (0 message, 1 context, 2 out), points -/
abbrev AS := (Nat → Nat → Int32) × (Nat → Nat) × (Nat → (c : Bool) × Pt c)
/-- the class's constants -/
def CK (xo : Nat) (B : (c : Bool) → Pt c) (I : Nat → Nat → Int32) (J : Nat → Nat → Int64) : Prop := ∀ c : Bool, CI c (xo + 39 + 147 * bN c) (xo + 29 + 147 * bN c) J ∧ PV c J (xo + 39 + 147 * bN c + 20) (B c) ∧ SD J (xo + 143 + 147 * bN c + 27 + 1) 1 ∧ SD J (xo + 143 + 147 * bN c + 27 + 4) (gO c) ∧ ∀ i, i < cB c → uN (I (xo + 143 + 147 * bN c + 27 + 5) i) = gO c / 2 ^ (8 * i) % 256
/-- the rows of longs that hold constants -/
def kJ (xo r : Nat) : Prop := ∃ b, b ≤ 1 ∧ (r = xo + 29 + 147 * b + 1 ∨ r = xo + 29 + 147 * b + 2 ∨ r = xo + 39 + 147 * b + 17 ∨ r = xo + 39 + 147 * b + 19 ∨ (xo + 39 + 147 * b + 21 ≤ r ∧ r ≤ xo + 39 + 147 * b + 23) ∨ (xo + 39 + 147 * b + 29 ≤ r ∧ r ≤ xo + 39 + 147 * b + 31) ∨ r = xo + 143 + 147 * b + 28 ∨ r = xo + 143 + 147 * b + 31)
theorem CK_fr {xo : Nat} {B : (c : Bool) → Pt c} {I I' : Nat → Nat → Int32} {J J' : Nat → Nat → Int64} (hJ : ∀ r, kJ xo r → J' r = J r) (hI : ∀ b, b ≤ 1 → I' (xo + 143 + 147 * b + 27 + 5) = I (xo + 143 + 147 * b + 27 + 5)) (h : CK xo B I J) : CK xo B I' J' := by
  intro c
  obtain ⟨h1, h2, h3, h4, h5⟩ := h c
  have hb := bN_le c
  refine ⟨CI_fr (fun r hr => hJ r ⟨bN c, hb, by omega⟩) h1, PV_row (hJ _ ⟨bN c, hb, by omega⟩) (hJ _ ⟨bN c, hb, by omega⟩) (hJ _ ⟨bN c, hb, by omega⟩) h2, SD_row (hJ _ ⟨bN c, hb, by omega⟩) h3, SD_row (hJ _ ⟨bN c, hb, by omega⟩) h4, fun i hi => ?_⟩
  rw [hI (bN c) hb]
  exact h5 i hi
def RC (xo : Nat) (B : (c : Bool) → Pt c) (S : StT) (A : AS) : Prop :=
  ((∀ i, i < 57 → S.1 (xo + 15 + 2 * 0 + 1) i = A.1 0 i) ∧ (∀ i, i < 57 → S.1 (xo + 15 + 2 * 1 + 1) i = A.1 1 i) ∧ (∀ i, i < 114 → S.1 (xo + 15 + 2 * 2 + 1) i = A.1 2 i) ∧ (∀ i, i < A.2.1 2 → S.1 (xo + 15 + 2 * 3 + 1) i = A.1 3 i) ∧ (∀ i, i < A.2.1 0 → S.1 (xo + 2 + 1) i = A.1 4 i) ∧ (∀ i, i < A.2.1 1 → S.1 (xo + 4 + 1) i = A.1 5 i)) ∧
  (S.2.2 (xo + 2) 1 = nI (A.2.1 0) ∧ S.2.2 (xo + 4) 1 = nI (A.2.1 1) ∧ S.2.2 (xo + 15 + 2 * 3) 1 = nI (A.2.1 2) ∧ S.2.2 (xo + 15 + 2 * 0) 1 = nI 57 ∧ S.2.2 (xo + 15 + 2 * 1) 1 = nI 57 ∧ S.2.2 (xo + 15 + 2 * 2) 1 = nI 114) ∧
  (∀ p, p < 3 → S.1 (xo + 10) p = nI (bN (A.2.2 p).1) ∧ PV (A.2.2 p).1 S.2.1 (xo + 323 + 4 * p) (A.2.2 p).2) ∧ CK xo B S.1 S.2.1
/-- the model's constants -/
def MK (mo : Nat) (B : (c : Bool) → Pt c) (S : StT) : Prop := (∀ c : Bool, MC c S.1 mo ∧ MP c S.1 mo (13 + 3 * bN c) (B c) ∧ MD S.1 mo (19 + bN c) (gO c)) ∧ (∀ i, i < 8 → S.2.1 (mo + 14) i = hsF i) ∧ ∀ i, i < 80 → S.2.1 (mo + 15) i = hkF i
def RM (mo : Nat) (B : (c : Bool) → Pt c) (S : StT) (A : AS) : Prop :=
  ((∀ i, i < 57 → S.1 (mo + 1) i = A.1 0 i) ∧ (∀ i, i < 57 → S.1 (mo + 2) i = A.1 1 i) ∧ (∀ i, i < 114 → S.1 (mo + 3) i = A.1 2 i) ∧ (∀ i, i < A.2.1 2 → S.1 (mo + 4) i = A.1 3 i) ∧ (∀ i, i < A.2.1 0 → S.1 (mo + 5) i = A.1 4 i) ∧ (∀ i, i < A.2.1 1 → S.1 (mo + 6) i = A.1 5 i)) ∧
  (S.2.2 mo 7 = nI (A.2.1 0) ∧ S.2.2 mo 9 = nI (A.2.1 1) ∧ S.2.2 mo 5 = nI (A.2.1 2)) ∧
  (∀ p, p < 3 → S.1 (mo + 10) p = nI (bN (A.2.2 p).1) ∧ MP (A.2.2 p).1 S.1 mo (3 * p) (A.2.2 p).2) ∧ MK mo B S
/-- bytes and counts in order -/
def AV (A : AS) : Prop := (∀ i, i < 57 → uN (A.1 0 i) < 256) ∧ (∀ i, i < 57 → uN (A.1 1 i) < 256) ∧ (∀ i, i < 114 → uN (A.1 2 i) < 256) ∧ (∀ i, i < A.2.1 2 → uN (A.1 3 i) < 256) ∧ (∀ i, i < A.2.1 0 → uN (A.1 4 i) < 256) ∧ (∀ i, i < A.2.1 1 → uN (A.1 5 i) < 256) ∧ A.2.1 0 ≤ 256 ∧ A.2.1 1 ≤ 64 ∧ A.2.1 2 ≤ 114
def OX (xo : Nat) (T S : StT) : Prop := ∀ r, (r < xo ∨ xo + 335 ≤ r) → T.1 r = S.1 r ∧ T.2.1 r = S.2.1 r ∧ T.2.2 r = S.2.2 r
def OM (mo : Nat) (T S : StT) : Prop := ∀ r, (r < mo ∨ mo + 28 ≤ r) → T.1 r = S.1 r ∧ T.2.1 r = S.2.1 r ∧ T.2.2 r = S.2.2 r
theorem OX_tr {xo : Nat} {T U S : StT} (h1 : OX xo T U) (h2 : OX xo U S) : OX xo T S := fun r hr => ⟨(h1 r hr).1.trans (h2 r hr).1, (h1 r hr).2.1.trans (h2 r hr).2.1, (h1 r hr).2.2.trans (h2 r hr).2.2⟩
theorem OM_tr {mo : Nat} {T U S : StT} (h1 : OM mo T U) (h2 : OM mo U S) : OM mo T S := fun r hr => ⟨(h1 r hr).1.trans (h2 r hr).1, (h1 r hr).2.1.trans (h2 r hr).2.1, (h1 r hr).2.2.trans (h2 r hr).2.2⟩
theorem MP_rows {c : Bool} {I K : Nat → Nat → Int32} {mo a : Nat} {P : Pt c} (h : I (mo + 7) = K (mo + 7)) (hk : MP c K mo a P) : MP c I mo a P := by
  have e : ∀ {b : Nat} {u : Zp c}, MV c K mo b u → MV c I mo b u := fun q => ⟨q.1, fun i hi => by rw [← q.2 i hi]; unfold mq; rw [h]⟩
  obtain ⟨on, x, y, z, q1, q2, q3, q4⟩ := hk
  exact ⟨on, x, y, z, e q1, e q2, e q3, q4⟩
theorem MD_rows {I K : Nat → Nat → Int32} {mo a n : Nat} (h : I (mo + 7) = K (mo + 7)) (hk : MD K mo a n) : MD I mo a n := ⟨hk.1, fun i hi => by rw [← hk.2 i hi]; unfold mq; rw [h]⟩
theorem MK_fr {mo : Nat} {B : (c : Bool) → Pt c} {T S : StT} (h7 : T.1 (mo + 7) = S.1 (mo + 7)) (h14 : T.2.1 (mo + 14) = S.2.1 (mo + 14)) (h15 : T.2.1 (mo + 15) = S.2.1 (mo + 15)) (h : MK mo B S) : MK mo B T := by
  obtain ⟨h1, h2, h3⟩ := h
  refine ⟨fun c => ?_, fun i hi => by rw [h14]; exact h2 i hi, fun i hi => by rw [h15]; exact h3 i hi⟩
  obtain ⟨⟨a1, a2⟩, a3, a4⟩ := h1 c
  exact ⟨⟨MD_rows h7 a1, MD_rows h7 a2⟩, MP_rows h7 a3, MD_rows h7 a4⟩
/-- a model's call does not touch the class -/
theorem RC_out {xo mo : Nat} {B : (c : Bool) → Pt c} {T S : StT} {A : AS} (hd : xo + 335 ≤ mo ∨ mo + 28 ≤ xo) (ho : OM mo T S) (h : RC xo B S A) : RC xo B T A := by
  obtain ⟨⟨r0, r1, r2, r3, r4, r5⟩, ⟨f0, f1, f2, f3, f4, f5⟩, hp, hk⟩ := h
  have e : ∀ r, xo ≤ r → r < xo + 335 → T.1 r = S.1 r ∧ T.2.1 r = S.2.1 r ∧ T.2.2 r = S.2.2 r := fun r h1 h2 => ho r (by omega)
  refine ⟨⟨fun i hi => ?_, fun i hi => ?_, fun i hi => ?_, fun i hi => ?_, fun i hi => ?_, fun i hi => ?_⟩, ⟨?_, ?_, ?_, ?_, ?_, ?_⟩, fun p hp3 => ⟨?_, ?_⟩, ?_⟩
  · rw [(e _ (by omega) (by omega)).1]; exact r0 i hi
  · rw [(e _ (by omega) (by omega)).1]; exact r1 i hi
  · rw [(e _ (by omega) (by omega)).1]; exact r2 i hi
  · rw [(e _ (by omega) (by omega)).1]; exact r3 i hi
  · rw [(e _ (by omega) (by omega)).1]; exact r4 i hi
  · rw [(e _ (by omega) (by omega)).1]; exact r5 i hi
  · rw [(e _ (by omega) (by omega)).2.2]; exact f0
  · rw [(e _ (by omega) (by omega)).2.2]; exact f1
  · rw [(e _ (by omega) (by omega)).2.2]; exact f2
  · rw [(e _ (by omega) (by omega)).2.2]; exact f3
  · rw [(e _ (by omega) (by omega)).2.2]; exact f4
  · rw [(e _ (by omega) (by omega)).2.2]; exact f5
  · rw [(e _ (by omega) (by omega)).1]; exact (hp p hp3).1
  · exact PV_row (e _ (by omega) (by omega)).2.1 (e _ (by omega) (by omega)).2.1 (e _ (by omega) (by omega)).2.1 (hp p hp3).2
  · exact CK_fr (fun r hr => by obtain ⟨b, hb, hr⟩ := hr; exact (e r (by omega) (by omega)).2.1) (fun b hb => (e _ (by omega) (by omega)).1) hk
/-- a class's call does not touch the model -/
theorem RM_out {xo mo : Nat} {B : (c : Bool) → Pt c} {T S : StT} {A : AS} (hd : xo + 335 ≤ mo ∨ mo + 28 ≤ xo) (ho : OX xo T S) (h : RM mo B S A) : RM mo B T A := by
  obtain ⟨⟨r0, r1, r2, r3, r4, r5⟩, ⟨f0, f1, f2⟩, hp, hk⟩ := h
  have e : ∀ r, mo ≤ r → r < mo + 28 → T.1 r = S.1 r ∧ T.2.1 r = S.2.1 r ∧ T.2.2 r = S.2.2 r := fun r h1 h2 => ho r (by omega)
  refine ⟨⟨fun i hi => ?_, fun i hi => ?_, fun i hi => ?_, fun i hi => ?_, fun i hi => ?_, fun i hi => ?_⟩, ⟨?_, ?_, ?_⟩, fun p hp3 => ⟨?_, ?_⟩, ?_⟩
  · rw [(e _ (by omega) (by omega)).1]; exact r0 i hi
  · rw [(e _ (by omega) (by omega)).1]; exact r1 i hi
  · rw [(e _ (by omega) (by omega)).1]; exact r2 i hi
  · rw [(e _ (by omega) (by omega)).1]; exact r3 i hi
  · rw [(e _ (by omega) (by omega)).1]; exact r4 i hi
  · rw [(e _ (by omega) (by omega)).1]; exact r5 i hi
  · rw [(e _ (by omega) (by omega)).2.2]; exact f0
  · rw [(e _ (by omega) (by omega)).2.2]; exact f1
  · rw [(e _ (by omega) (by omega)).2.2]; exact f2
  · rw [(e _ (by omega) (by omega)).1]; exact (hp p hp3).1
  · exact MP_rows (e _ (by omega) (by omega)).1 (hp p hp3).2
  · exact MK_fr (e _ (by omega) (by omega)).1 (e _ (by omega) (by omega)).2.1 (e _ (by omega) (by omega)).2.1 hk
/-- a byte of a long -/
def bz (v : Int64) (s : Nat) : Int32 := (((v.toUInt64 >>> ((nI s).toInt64.toUInt64 &&& Int64.toUInt64 63)).toInt64).toInt32) &&& (nI (255))
theorem bz_lt (v : Int64) (s : Nat) : uN (bz v s) < 256 := by
  unfold bz
  rw [by8]
  omega
/-- nn bytes of v, the highest first, from fr on -/
def spr (f : Nat → Int32) (fr : Nat) (v : Int64) (nn : Nat) : Nat → Int32 := fun j => if fr ≤ j ∧ j < fr + nn then bz v (8 * (nn - 1 - (j - fr))) else f j
theorem xspr_s (to fr : Nat) (v : Int64) (nn : Nat) (S : StT) : (∀ j, xspr_l3 to fr v nn S nn to j = spr (S.1 to) fr v nn j) ∧ ∀ r, r ≠ to → xspr_l3 to fr v nn S nn r = S.1 r := by
  have key : ∀ n, n ≤ nn → (∀ j, xspr_l3 to fr v nn S n to j = if fr ≤ j ∧ j < fr + n then bz v (8 * (nn - 1 - (j - fr))) else S.1 to j) ∧ ∀ r, r ≠ to → xspr_l3 to fr v nn S n r = S.1 r := by
    intro n
    induction n with
    | zero => exact fun _ => ⟨fun j => by rw [if_neg (by omega)]; rfl, fun _ _ => rfl⟩
    | succ n ih =>
      intro hn
      obtain ⟨h1, h2⟩ := ih (by omega)
      have st : xspr_l3 to fr v nn S (n + 1) = va_up (xspr_l3 to fr v nn S n) to (upd (xspr_l3 to fr v nn S n to) (fr + n) (bz v (8 * (nn - 1 - n)))) := rfl
      rw [st]
      refine ⟨fun j => ?_, fun r hr => (vu_n hr).trans (h2 r hr)⟩
      rw [vu_s]
      show (if j = fr + n then bz v (8 * (nn - 1 - n)) else xspr_l3 to fr v nn S n to j) = _
      by_cases e : j = fr + n
      · rw [if_pos e, if_pos (by omega), show j - fr = n from by omega]
      · rw [if_neg e, h1]
        by_cases q : fr ≤ j ∧ j < fr + n
        · rw [if_pos q, if_pos (by omega)]
        · rw [if_neg q, if_neg (by omega)]
  exact key nn (Nat.le_refl _)
theorem spr_lt {f : Nat → Int32} {fr nn : Nat} {v : Int64} {m : Nat} (h : ∀ i, i < m → uN (f i) < 256) : ∀ i, i < m → uN (spr f fr v nn i) < 256 := by
  intro i hi
  unfold spr
  split
  · exact bz_lt _ _
  · exact h i hi
theorem spr_at {f g : Nat → Int32} {fr nn i : Nat} {v : Int64} (h : f i = g i) : spr f fr v nn i = spr g fr v nn i := by
  unfold spr
  rw [h]
def setR (A : AS) (r : Nat) (f : Nat → Int32) : AS := (fun k => if k = r then f else A.1 k, A.2)
def setN (A : AS) (k n : Nat) : AS := (A.1, fun j => if j = k then n else A.2.1 j, A.2.2)
def cpR (f g : Nat → Int32) (n : Nat) : Nat → Int32 := fun j => if j < n then f j else g j
theorem xput0_r (xo : Nat) (B : (c : Bool) → Pt c) (pl nn : Nat) (v : Int64) (S : StT) (A : AS) (h : RC xo B S A) : RC xo B (xput0_f xo pl nn v S) (setR A 0 (spr (A.1 0) pl v nn)) ∧ OX xo (xput0_f xo pl nn v S) S := by
  obtain ⟨s1, s2⟩ := xspr_s (xo + 15 + 2 * 0 + 1) pl v nn S
  obtain ⟨⟨h0, h1, h2, h3, h4, h5⟩, hf, hp, hk⟩ := h
  refine ⟨⟨⟨fun i hi => ?_, fun i hi => ?_, fun i hi => ?_, fun i hi => ?_, fun i hi => ?_, fun i hi => ?_⟩, hf, fun p hp3 => ⟨?_, (hp p hp3).2⟩, CK_fr (fun _ _ => rfl) (fun b hb => s2 _ (by omega)) hk⟩, fun q hq => ⟨s2 q (by omega), rfl, rfl⟩⟩
  · exact (s1 i).trans (spr_at (h0 i hi))
  · rw [show (xput0_f xo pl nn v S).1 = xspr_l3 (xo + 15 + 2 * 0 + 1) pl v nn S nn from rfl, s2 _ (by omega)]; exact h1 i hi
  · rw [show (xput0_f xo pl nn v S).1 = xspr_l3 (xo + 15 + 2 * 0 + 1) pl v nn S nn from rfl, s2 _ (by omega)]; exact h2 i hi
  · rw [show (xput0_f xo pl nn v S).1 = xspr_l3 (xo + 15 + 2 * 0 + 1) pl v nn S nn from rfl, s2 _ (by omega)]; exact h3 i hi
  · rw [show (xput0_f xo pl nn v S).1 = xspr_l3 (xo + 15 + 2 * 0 + 1) pl v nn S nn from rfl, s2 _ (by omega)]; exact h4 i hi
  · rw [show (xput0_f xo pl nn v S).1 = xspr_l3 (xo + 15 + 2 * 0 + 1) pl v nn S nn from rfl, s2 _ (by omega)]; exact h5 i hi
  · rw [show (xput0_f xo pl nn v S).1 = xspr_l3 (xo + 15 + 2 * 0 + 1) pl v nn S nn from rfl, s2 _ (by omega)]; exact (hp p hp3).1
theorem put0_v {A : AS} (pl nn : Nat) (v : Int64) (h : AV A) : AV (setR A 0 (spr (A.1 0) pl v nn)) := by
  obtain ⟨h0, h1, h2, h3, h4, h5, h6, h7, h8⟩ := h
  exact ⟨spr_lt h0, h1, h2, h3, h4, h5, h6, h7, h8⟩
theorem mput0_lp (mo pl nn : Nat) (v : Int64) (S : StT) (hn : nn ≤ 8) : ∀ n, n ≤ nn → (∀ j, (mput0_l61 mo pl nn v S n).1 (mo + 1) j = if pl ≤ j ∧ j < pl + n then bz v (8 * (nn - 1 - (j - pl))) else S.1 (mo + 1) j) ∧ (∀ q, q ≠ mo + 1 → (mput0_l61 mo pl nn v S n).1 q = S.1 q) ∧ (mput0_l61 mo pl nn v S n).2 = S.2.1 := by
  intro n
  induction n with
  | zero => exact fun _ => ⟨fun j => by rw [if_neg (by omega)]; rfl, fun _ _ => rfl, rfl⟩
  | succ n ih =>
    intro hl
    obtain ⟨h1, h2, h3⟩ := ih (by omega)
    have st : mput0_l61 mo pl nn v S (n + 1) = (va_up (mput0_l61 mo pl nn v S n).1 (mo + 1) (upd ((mput0_l61 mo pl nn v S n).1 (mo + 1)) (pl + n) (((v >>> ((nI (8 * (nn - 1 - n))).toInt64 &&& 63)).toInt32) &&& (nI (255)))), (mput0_l61 mo pl nn v S n).2) := rfl
    rw [st, by64 v (by omega)]
    refine ⟨fun j => ?_, fun q hq => (vu_n hq).trans (h2 q hq), h3⟩
    show va_up (mput0_l61 mo pl nn v S n).1 (mo + 1) (upd ((mput0_l61 mo pl nn v S n).1 (mo + 1)) (pl + n) (bz v (8 * (nn - 1 - n)))) (mo + 1) j = _
    rw [vu_s]
    show (if j = pl + n then bz v (8 * (nn - 1 - n)) else (mput0_l61 mo pl nn v S n).1 (mo + 1) j) = _
    by_cases e : j = pl + n
    · rw [if_pos e, if_pos (by omega), show j - pl = n from by omega]
    · rw [if_neg e, h1]
      by_cases q : pl ≤ j ∧ j < pl + n
      · rw [if_pos q, if_pos (by omega)]
      · rw [if_neg q, if_neg (by omega)]
theorem mput0_r (mo : Nat) (B : (c : Bool) → Pt c) (pl nn : Nat) (v : Int64) (S : StT) (A : AS) (hn : nn ≤ 8) (h : RM mo B S A) : RM mo B (mput0_f mo pl nn v S) (setR A 0 (spr (A.1 0) pl v nn)) ∧ OM mo (mput0_f mo pl nn v S) S := by
  obtain ⟨s1, s2, s3⟩ := mput0_lp mo pl nn v S hn nn (Nat.le_refl _)
  obtain ⟨⟨h0, h1, h2, h3, h4, h5⟩, ⟨f0, f1, f2⟩, hp, hk⟩ := h
  have e1 : (mput0_f mo pl nn v S).1 = (mput0_l61 mo pl nn v S nn).1 := rfl
  have e2 : (mput0_f mo pl nn v S).2.1 = S.2.1 := s3
  refine ⟨⟨⟨fun i hi => ?_, fun i hi => ?_, fun i hi => ?_, fun i hi => ?_, fun i hi => ?_, fun i hi => ?_⟩, ⟨(fs_oth (by decide)).trans f0, (fs_oth (by decide)).trans f1, (fs_oth (by decide)).trans f2⟩, fun p hp3 => ⟨?_, MP_rows (s2 _ (by omega)) (hp p hp3).2⟩, MK_fr (s2 _ (by omega)) (by rw [e2]) (by rw [e2]) hk⟩, fun q hq => ⟨s2 q (by omega), by rw [e2], vu_n (by omega)⟩⟩
  · exact (s1 i).trans (spr_at (h0 i hi))
  · rw [e1, s2 _ (by omega)]; exact h1 i hi
  · rw [e1, s2 _ (by omega)]; exact h2 i hi
  · rw [e1, s2 _ (by omega)]; exact h3 i hi
  · rw [e1, s2 _ (by omega)]; exact h4 i hi
  · rw [e1, s2 _ (by omega)]; exact h5 i hi
  · rw [e1, s2 _ (by omega)]; exact (hp p hp3).1
theorem xput1_r (xo : Nat) (B : (c : Bool) → Pt c) (pl nn : Nat) (v : Int64) (S : StT) (A : AS) (h : RC xo B S A) : RC xo B (xput1_f xo pl nn v S) (setR A 1 (spr (A.1 1) pl v nn)) ∧ OX xo (xput1_f xo pl nn v S) S := by
  obtain ⟨s1, s2⟩ := xspr_s (xo + 15 + 2 * 1 + 1) pl v nn S
  obtain ⟨⟨h0, h1, h2, h3, h4, h5⟩, hf, hp, hk⟩ := h
  refine ⟨⟨⟨fun i hi => ?_, fun i hi => ?_, fun i hi => ?_, fun i hi => ?_, fun i hi => ?_, fun i hi => ?_⟩, hf, fun p hp3 => ⟨?_, (hp p hp3).2⟩, CK_fr (fun _ _ => rfl) (fun b hb => s2 _ (by omega)) hk⟩, fun q hq => ⟨s2 q (by omega), rfl, rfl⟩⟩
  · rw [show (xput1_f xo pl nn v S).1 = xspr_l3 (xo + 15 + 2 * 1 + 1) pl v nn S nn from rfl, s2 _ (by omega)]; exact h0 i hi
  · exact (s1 i).trans (spr_at (h1 i hi))
  · rw [show (xput1_f xo pl nn v S).1 = xspr_l3 (xo + 15 + 2 * 1 + 1) pl v nn S nn from rfl, s2 _ (by omega)]; exact h2 i hi
  · rw [show (xput1_f xo pl nn v S).1 = xspr_l3 (xo + 15 + 2 * 1 + 1) pl v nn S nn from rfl, s2 _ (by omega)]; exact h3 i hi
  · rw [show (xput1_f xo pl nn v S).1 = xspr_l3 (xo + 15 + 2 * 1 + 1) pl v nn S nn from rfl, s2 _ (by omega)]; exact h4 i hi
  · rw [show (xput1_f xo pl nn v S).1 = xspr_l3 (xo + 15 + 2 * 1 + 1) pl v nn S nn from rfl, s2 _ (by omega)]; exact h5 i hi
  · rw [show (xput1_f xo pl nn v S).1 = xspr_l3 (xo + 15 + 2 * 1 + 1) pl v nn S nn from rfl, s2 _ (by omega)]; exact (hp p hp3).1
theorem put1_v {A : AS} (pl nn : Nat) (v : Int64) (h : AV A) : AV (setR A 1 (spr (A.1 1) pl v nn)) := by
  obtain ⟨h0, h1, h2, h3, h4, h5, h6, h7, h8⟩ := h
  exact ⟨h0, spr_lt h1, h2, h3, h4, h5, h6, h7, h8⟩
theorem mput1_lp (mo pl nn : Nat) (v : Int64) (S : StT) (hn : nn ≤ 8) : ∀ n, n ≤ nn → (∀ j, (mput1_l61 mo pl nn v S n).1 (mo + 2) j = if pl ≤ j ∧ j < pl + n then bz v (8 * (nn - 1 - (j - pl))) else S.1 (mo + 2) j) ∧ (∀ q, q ≠ mo + 2 → (mput1_l61 mo pl nn v S n).1 q = S.1 q) ∧ (mput1_l61 mo pl nn v S n).2 = S.2.1 := by
  intro n
  induction n with
  | zero => exact fun _ => ⟨fun j => by rw [if_neg (by omega)]; rfl, fun _ _ => rfl, rfl⟩
  | succ n ih =>
    intro hl
    obtain ⟨h1, h2, h3⟩ := ih (by omega)
    have st : mput1_l61 mo pl nn v S (n + 1) = (va_up (mput1_l61 mo pl nn v S n).1 (mo + 2) (upd ((mput1_l61 mo pl nn v S n).1 (mo + 2)) (pl + n) (((v >>> ((nI (8 * (nn - 1 - n))).toInt64 &&& 63)).toInt32) &&& (nI (255)))), (mput1_l61 mo pl nn v S n).2) := rfl
    rw [st, by64 v (by omega)]
    refine ⟨fun j => ?_, fun q hq => (vu_n hq).trans (h2 q hq), h3⟩
    show va_up (mput1_l61 mo pl nn v S n).1 (mo + 2) (upd ((mput1_l61 mo pl nn v S n).1 (mo + 2)) (pl + n) (bz v (8 * (nn - 1 - n)))) (mo + 2) j = _
    rw [vu_s]
    show (if j = pl + n then bz v (8 * (nn - 1 - n)) else (mput1_l61 mo pl nn v S n).1 (mo + 2) j) = _
    by_cases e : j = pl + n
    · rw [if_pos e, if_pos (by omega), show j - pl = n from by omega]
    · rw [if_neg e, h1]
      by_cases q : pl ≤ j ∧ j < pl + n
      · rw [if_pos q, if_pos (by omega)]
      · rw [if_neg q, if_neg (by omega)]
theorem mput1_r (mo : Nat) (B : (c : Bool) → Pt c) (pl nn : Nat) (v : Int64) (S : StT) (A : AS) (hn : nn ≤ 8) (h : RM mo B S A) : RM mo B (mput1_f mo pl nn v S) (setR A 1 (spr (A.1 1) pl v nn)) ∧ OM mo (mput1_f mo pl nn v S) S := by
  obtain ⟨s1, s2, s3⟩ := mput1_lp mo pl nn v S hn nn (Nat.le_refl _)
  obtain ⟨⟨h0, h1, h2, h3, h4, h5⟩, ⟨f0, f1, f2⟩, hp, hk⟩ := h
  have e1 : (mput1_f mo pl nn v S).1 = (mput1_l61 mo pl nn v S nn).1 := rfl
  have e2 : (mput1_f mo pl nn v S).2.1 = S.2.1 := s3
  refine ⟨⟨⟨fun i hi => ?_, fun i hi => ?_, fun i hi => ?_, fun i hi => ?_, fun i hi => ?_, fun i hi => ?_⟩, ⟨(fs_oth (by decide)).trans f0, (fs_oth (by decide)).trans f1, (fs_oth (by decide)).trans f2⟩, fun p hp3 => ⟨?_, MP_rows (s2 _ (by omega)) (hp p hp3).2⟩, MK_fr (s2 _ (by omega)) (by rw [e2]) (by rw [e2]) hk⟩, fun q hq => ⟨s2 q (by omega), by rw [e2], vu_n (by omega)⟩⟩
  · rw [e1, s2 _ (by omega)]; exact h0 i hi
  · exact (s1 i).trans (spr_at (h1 i hi))
  · rw [e1, s2 _ (by omega)]; exact h2 i hi
  · rw [e1, s2 _ (by omega)]; exact h3 i hi
  · rw [e1, s2 _ (by omega)]; exact h4 i hi
  · rw [e1, s2 _ (by omega)]; exact h5 i hi
  · rw [e1, s2 _ (by omega)]; exact (hp p hp3).1
theorem xput2_r (xo : Nat) (B : (c : Bool) → Pt c) (pl nn : Nat) (v : Int64) (S : StT) (A : AS) (h : RC xo B S A) : RC xo B (xput2_f xo pl nn v S) (setR A 2 (spr (A.1 2) pl v nn)) ∧ OX xo (xput2_f xo pl nn v S) S := by
  obtain ⟨s1, s2⟩ := xspr_s (xo + 15 + 2 * 2 + 1) pl v nn S
  obtain ⟨⟨h0, h1, h2, h3, h4, h5⟩, hf, hp, hk⟩ := h
  refine ⟨⟨⟨fun i hi => ?_, fun i hi => ?_, fun i hi => ?_, fun i hi => ?_, fun i hi => ?_, fun i hi => ?_⟩, hf, fun p hp3 => ⟨?_, (hp p hp3).2⟩, CK_fr (fun _ _ => rfl) (fun b hb => s2 _ (by omega)) hk⟩, fun q hq => ⟨s2 q (by omega), rfl, rfl⟩⟩
  · rw [show (xput2_f xo pl nn v S).1 = xspr_l3 (xo + 15 + 2 * 2 + 1) pl v nn S nn from rfl, s2 _ (by omega)]; exact h0 i hi
  · rw [show (xput2_f xo pl nn v S).1 = xspr_l3 (xo + 15 + 2 * 2 + 1) pl v nn S nn from rfl, s2 _ (by omega)]; exact h1 i hi
  · exact (s1 i).trans (spr_at (h2 i hi))
  · rw [show (xput2_f xo pl nn v S).1 = xspr_l3 (xo + 15 + 2 * 2 + 1) pl v nn S nn from rfl, s2 _ (by omega)]; exact h3 i hi
  · rw [show (xput2_f xo pl nn v S).1 = xspr_l3 (xo + 15 + 2 * 2 + 1) pl v nn S nn from rfl, s2 _ (by omega)]; exact h4 i hi
  · rw [show (xput2_f xo pl nn v S).1 = xspr_l3 (xo + 15 + 2 * 2 + 1) pl v nn S nn from rfl, s2 _ (by omega)]; exact h5 i hi
  · rw [show (xput2_f xo pl nn v S).1 = xspr_l3 (xo + 15 + 2 * 2 + 1) pl v nn S nn from rfl, s2 _ (by omega)]; exact (hp p hp3).1
theorem put2_v {A : AS} (pl nn : Nat) (v : Int64) (h : AV A) : AV (setR A 2 (spr (A.1 2) pl v nn)) := by
  obtain ⟨h0, h1, h2, h3, h4, h5, h6, h7, h8⟩ := h
  exact ⟨h0, h1, spr_lt h2, h3, h4, h5, h6, h7, h8⟩
theorem mput2_lp (mo pl nn : Nat) (v : Int64) (S : StT) (hn : nn ≤ 8) : ∀ n, n ≤ nn → (∀ j, (mput2_l61 mo pl nn v S n).1 (mo + 3) j = if pl ≤ j ∧ j < pl + n then bz v (8 * (nn - 1 - (j - pl))) else S.1 (mo + 3) j) ∧ (∀ q, q ≠ mo + 3 → (mput2_l61 mo pl nn v S n).1 q = S.1 q) ∧ (mput2_l61 mo pl nn v S n).2 = S.2.1 := by
  intro n
  induction n with
  | zero => exact fun _ => ⟨fun j => by rw [if_neg (by omega)]; rfl, fun _ _ => rfl, rfl⟩
  | succ n ih =>
    intro hl
    obtain ⟨h1, h2, h3⟩ := ih (by omega)
    have st : mput2_l61 mo pl nn v S (n + 1) = (va_up (mput2_l61 mo pl nn v S n).1 (mo + 3) (upd ((mput2_l61 mo pl nn v S n).1 (mo + 3)) (pl + n) (((v >>> ((nI (8 * (nn - 1 - n))).toInt64 &&& 63)).toInt32) &&& (nI (255)))), (mput2_l61 mo pl nn v S n).2) := rfl
    rw [st, by64 v (by omega)]
    refine ⟨fun j => ?_, fun q hq => (vu_n hq).trans (h2 q hq), h3⟩
    show va_up (mput2_l61 mo pl nn v S n).1 (mo + 3) (upd ((mput2_l61 mo pl nn v S n).1 (mo + 3)) (pl + n) (bz v (8 * (nn - 1 - n)))) (mo + 3) j = _
    rw [vu_s]
    show (if j = pl + n then bz v (8 * (nn - 1 - n)) else (mput2_l61 mo pl nn v S n).1 (mo + 3) j) = _
    by_cases e : j = pl + n
    · rw [if_pos e, if_pos (by omega), show j - pl = n from by omega]
    · rw [if_neg e, h1]
      by_cases q : pl ≤ j ∧ j < pl + n
      · rw [if_pos q, if_pos (by omega)]
      · rw [if_neg q, if_neg (by omega)]
theorem mput2_r (mo : Nat) (B : (c : Bool) → Pt c) (pl nn : Nat) (v : Int64) (S : StT) (A : AS) (hn : nn ≤ 8) (h : RM mo B S A) : RM mo B (mput2_f mo pl nn v S) (setR A 2 (spr (A.1 2) pl v nn)) ∧ OM mo (mput2_f mo pl nn v S) S := by
  obtain ⟨s1, s2, s3⟩ := mput2_lp mo pl nn v S hn nn (Nat.le_refl _)
  obtain ⟨⟨h0, h1, h2, h3, h4, h5⟩, ⟨f0, f1, f2⟩, hp, hk⟩ := h
  have e1 : (mput2_f mo pl nn v S).1 = (mput2_l61 mo pl nn v S nn).1 := rfl
  have e2 : (mput2_f mo pl nn v S).2.1 = S.2.1 := s3
  refine ⟨⟨⟨fun i hi => ?_, fun i hi => ?_, fun i hi => ?_, fun i hi => ?_, fun i hi => ?_, fun i hi => ?_⟩, ⟨(fs_oth (by decide)).trans f0, (fs_oth (by decide)).trans f1, (fs_oth (by decide)).trans f2⟩, fun p hp3 => ⟨?_, MP_rows (s2 _ (by omega)) (hp p hp3).2⟩, MK_fr (s2 _ (by omega)) (by rw [e2]) (by rw [e2]) hk⟩, fun q hq => ⟨s2 q (by omega), by rw [e2], vu_n (by omega)⟩⟩
  · rw [e1, s2 _ (by omega)]; exact h0 i hi
  · rw [e1, s2 _ (by omega)]; exact h1 i hi
  · exact (s1 i).trans (spr_at (h2 i hi))
  · rw [e1, s2 _ (by omega)]; exact h3 i hi
  · rw [e1, s2 _ (by omega)]; exact h4 i hi
  · rw [e1, s2 _ (by omega)]; exact h5 i hi
  · rw [e1, s2 _ (by omega)]; exact (hp p hp3).1
end
