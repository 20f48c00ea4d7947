section
/-! THE SUITE: move, feed, clear, look, size. -/
theorem cpR_at {f f' g g' : Nat → Int32} {n i : Nat} (h1 : i < n → f i = f' i) (h2 : g i = g' i) : cpR f g n i = cpR f' g' n i := by
  unfold cpR
  split
  · rename_i q
    exact h1 q
  · exact h2
theorem cpR_lt {f g : Nat → Int32} {n m : Nat} (h1 : ∀ i, i < n → uN (f i) < 256) (h2 : ∀ i, i < m → uN (g i) < 256) : ∀ i, i < m → uN (cpR f g n i) < 256 := by
  intro i hi
  unfold cpR
  split
  · rename_i q
    exact h1 i q
  · exact h2 i hi
theorem cpy_cpR (f g : Nat → Int32) (n i : Nat) : va_cpy f g 0 0 n i = cpR f g n i := by
  unfold va_cpy cpR
  by_cases h : i < n
  · rw [if_pos ⟨Nat.zero_le _, by omega⟩, if_pos h, Nat.zero_add, Nat.sub_zero]
  · rw [if_neg (fun q => h (by omega)), if_neg h]
theorem xmove0_r (xo : Nat) (B : (c : Bool) → Pt c) (S : StT) (A : AS) (h : RC xo B S A) : (xmove0_f xo (A.2.1 2) S).1 = nI (min (A.2.1 2) 57) ∧ RC xo B (xmove0_f xo (A.2.1 2) S).2 (setR A 0 (cpR (A.1 3) (A.1 0) (min (A.2.1 2) 57))) ∧ OX xo (xmove0_f xo (A.2.1 2) S).2 S := by
  obtain ⟨⟨h0, h1, h2, h3, h4, h5⟩, hf, hp, hk⟩ := h
  have e1 : (xmove0_f xo (A.2.1 2) S).2.1 = va_up S.1 (xo + 15 + 2 * 0 + 1) (va_cpy (S.1 (xo + 15 + 2 * 3 + 1)) (S.1 (xo + 15 + 2 * 0 + 1)) 0 0 (min (A.2.1 2) 57)) := rfl
  refine ⟨rfl, ⟨⟨fun i hi => ?_, fun i hi => ?_, fun i hi => ?_, fun i hi => ?_, fun i hi => ?_, fun i hi => ?_⟩, hf, fun p hp3 => ⟨?_, (hp p hp3).2⟩, CK_fr (fun _ _ => rfl) (fun b hb => by rw [e1]; exact vu_n (by omega)) hk⟩, fun q hq => ⟨by rw [e1]; exact vu_n (by omega), rfl, rfl⟩⟩
  · rw [e1, vu_s, cpy_cpR]; exact cpR_at (fun q => h3 i (by omega)) (h0 i hi)
  · rw [e1, vu_n (by omega)]; exact h1 i hi
  · rw [e1, vu_n (by omega)]; exact h2 i hi
  · rw [e1, vu_n (by omega)]; exact h3 i hi
  · rw [e1, vu_n (by omega)]; exact h4 i hi
  · rw [e1, vu_n (by omega)]; exact h5 i hi
  · rw [e1, vu_n (by omega)]; exact (hp p hp3).1
theorem move0_v {A : AS} (h : AV A) : AV (setR A 0 (cpR (A.1 3) (A.1 0) (min (A.2.1 2) 57))) := by
  obtain ⟨h0, h1, h2, h3, h4, h5, h6, h7, h8⟩ := h
  exact ⟨cpR_lt (fun i hi => h3 i (by omega)) h0, h1, h2, h3, h4, h5, h6, h7, h8⟩
theorem mmove0_lp (mo : Nat) (S : StT) : ∀ n, (∀ j, (mmove0_l52 mo S n).1 (mo + 1) j = cpR (S.1 (mo + 4)) (S.1 (mo + 1)) n j) ∧ (∀ q, q ≠ mo + 1 → (mmove0_l52 mo S n).1 q = S.1 q) ∧ (mmove0_l52 mo S n).2 = S.2.1 := by
  intro n
  induction n with
  | zero => exact ⟨fun j => by unfold cpR; rw [if_neg (by omega)]; rfl, fun _ _ => rfl, rfl⟩
  | succ n ih =>
    obtain ⟨h1, h2, h3⟩ := ih
    have st : mmove0_l52 mo S (n + 1) = (va_up (mmove0_l52 mo S n).1 (mo + 1) (upd ((mmove0_l52 mo S n).1 (mo + 1)) n ((mmove0_l52 mo S n).1 (mo + 4) n)), (mmove0_l52 mo S n).2) := rfl
    rw [st, h2 (mo + 4) (by omega)]
    refine ⟨fun j => ?_, fun q hq => (vu_n hq).trans (h2 q hq), h3⟩
    show va_up (mmove0_l52 mo S n).1 (mo + 1) (upd ((mmove0_l52 mo S n).1 (mo + 1)) n (S.1 (mo + 4) n)) (mo + 1) j = _
    rw [vu_s]
    show (if j = n then S.1 (mo + 4) n else (mmove0_l52 mo S n).1 (mo + 1) j) = _
    rw [h1]
    unfold cpR
    by_cases e : j = n
    · rw [if_pos e, if_pos (by omega), e]
    · rw [if_neg e]
      by_cases q : j < n
      · rw [if_pos q, if_pos (by omega)]
      · rw [if_neg q, if_neg (by omega)]
theorem mmove0_r (mo : Nat) (B : (c : Bool) → Pt c) (S : StT) (A : AS) (h : RM mo B S A) : (mmove0_f mo (A.2.1 2) S).1 = nI (min (A.2.1 2) 57) ∧ RM mo B (mmove0_f mo (A.2.1 2) S).2 (setR A 0 (cpR (A.1 3) (A.1 0) (min (A.2.1 2) 57))) ∧ OM mo (mmove0_f mo (A.2.1 2) S).2 S := by
  obtain ⟨s1, s2, s3⟩ := mmove0_lp mo S (min (A.2.1 2) 57)
  obtain ⟨⟨h0, h1, h2, h3, h4, h5⟩, ⟨f0, f1, f2⟩, hp, hk⟩ := h
  have e1 : (mmove0_f mo (A.2.1 2) S).2.1 = (mmove0_l52 mo S (min (A.2.1 2) 57)).1 := rfl
  have e2 : (mmove0_f mo (A.2.1 2) S).2.2.1 = S.2.1 := s3
  refine ⟨rfl, ⟨⟨fun i hi => ?_, fun i hi => ?_, fun i hi => ?_, fun i hi => ?_, fun i hi => ?_, fun i hi => ?_⟩, ⟨(fs_oth (by decide)).trans f0, (fs_oth (by decide)).trans f1, (fs_oth (by decide)).trans f2⟩, fun p hp3 => ⟨?_, MP_rows (s2 _ (by omega)) (hp p hp3).2⟩, MK_fr (s2 _ (by omega)) (by rw [e2]) (by rw [e2]) hk⟩, fun q hq => ⟨s2 q (by omega), by rw [e2], vu_n (by omega)⟩⟩
  · exact (s1 i).trans (cpR_at (fun q => h3 i (by omega)) (h0 i hi))
  · rw [e1, s2 _ (by omega)]; exact h1 i hi
  · rw [e1, s2 _ (by omega)]; exact h2 i hi
  · rw [e1, s2 _ (by omega)]; exact h3 i hi
  · rw [e1, s2 _ (by omega)]; exact h4 i hi
  · rw [e1, s2 _ (by omega)]; exact h5 i hi
  · rw [e1, s2 _ (by omega)]; exact (hp p hp3).1
theorem xmove1_r (xo : Nat) (B : (c : Bool) → Pt c) (S : StT) (A : AS) (h : RC xo B S A) : (xmove1_f xo (A.2.1 2) S).1 = nI (min (A.2.1 2) 57) ∧ RC xo B (xmove1_f xo (A.2.1 2) S).2 (setR A 1 (cpR (A.1 3) (A.1 1) (min (A.2.1 2) 57))) ∧ OX xo (xmove1_f xo (A.2.1 2) S).2 S := by
  obtain ⟨⟨h0, h1, h2, h3, h4, h5⟩, hf, hp, hk⟩ := h
  have e1 : (xmove1_f xo (A.2.1 2) S).2.1 = va_up S.1 (xo + 15 + 2 * 1 + 1) (va_cpy (S.1 (xo + 15 + 2 * 3 + 1)) (S.1 (xo + 15 + 2 * 1 + 1)) 0 0 (min (A.2.1 2) 57)) := rfl
  refine ⟨rfl, ⟨⟨fun i hi => ?_, fun i hi => ?_, fun i hi => ?_, fun i hi => ?_, fun i hi => ?_, fun i hi => ?_⟩, hf, fun p hp3 => ⟨?_, (hp p hp3).2⟩, CK_fr (fun _ _ => rfl) (fun b hb => by rw [e1]; exact vu_n (by omega)) hk⟩, fun q hq => ⟨by rw [e1]; exact vu_n (by omega), rfl, rfl⟩⟩
  · rw [e1, vu_n (by omega)]; exact h0 i hi
  · rw [e1, vu_s, cpy_cpR]; exact cpR_at (fun q => h3 i (by omega)) (h1 i hi)
  · rw [e1, vu_n (by omega)]; exact h2 i hi
  · rw [e1, vu_n (by omega)]; exact h3 i hi
  · rw [e1, vu_n (by omega)]; exact h4 i hi
  · rw [e1, vu_n (by omega)]; exact h5 i hi
  · rw [e1, vu_n (by omega)]; exact (hp p hp3).1
theorem move1_v {A : AS} (h : AV A) : AV (setR A 1 (cpR (A.1 3) (A.1 1) (min (A.2.1 2) 57))) := by
  obtain ⟨h0, h1, h2, h3, h4, h5, h6, h7, h8⟩ := h
  exact ⟨h0, cpR_lt (fun i hi => h3 i (by omega)) h1, h2, h3, h4, h5, h6, h7, h8⟩
theorem mmove1_lp (mo : Nat) (S : StT) : ∀ n, (∀ j, (mmove1_l52 mo S n).1 (mo + 2) j = cpR (S.1 (mo + 4)) (S.1 (mo + 2)) n j) ∧ (∀ q, q ≠ mo + 2 → (mmove1_l52 mo S n).1 q = S.1 q) ∧ (mmove1_l52 mo S n).2 = S.2.1 := by
  intro n
  induction n with
  | zero => exact ⟨fun j => by unfold cpR; rw [if_neg (by omega)]; rfl, fun _ _ => rfl, rfl⟩
  | succ n ih =>
    obtain ⟨h1, h2, h3⟩ := ih
    have st : mmove1_l52 mo S (n + 1) = (va_up (mmove1_l52 mo S n).1 (mo + 2) (upd ((mmove1_l52 mo S n).1 (mo + 2)) n ((mmove1_l52 mo S n).1 (mo + 4) n)), (mmove1_l52 mo S n).2) := rfl
    rw [st, h2 (mo + 4) (by omega)]
    refine ⟨fun j => ?_, fun q hq => (vu_n hq).trans (h2 q hq), h3⟩
    show va_up (mmove1_l52 mo S n).1 (mo + 2) (upd ((mmove1_l52 mo S n).1 (mo + 2)) n (S.1 (mo + 4) n)) (mo + 2) j = _
    rw [vu_s]
    show (if j = n then S.1 (mo + 4) n else (mmove1_l52 mo S n).1 (mo + 2) j) = _
    rw [h1]
    unfold cpR
    by_cases e : j = n
    · rw [if_pos e, if_pos (by omega), e]
    · rw [if_neg e]
      by_cases q : j < n
      · rw [if_pos q, if_pos (by omega)]
      · rw [if_neg q, if_neg (by omega)]
theorem mmove1_r (mo : Nat) (B : (c : Bool) → Pt c) (S : StT) (A : AS) (h : RM mo B S A) : (mmove1_f mo (A.2.1 2) S).1 = nI (min (A.2.1 2) 57) ∧ RM mo B (mmove1_f mo (A.2.1 2) S).2 (setR A 1 (cpR (A.1 3) (A.1 1) (min (A.2.1 2) 57))) ∧ OM mo (mmove1_f mo (A.2.1 2) S).2 S := by
  obtain ⟨s1, s2, s3⟩ := mmove1_lp mo S (min (A.2.1 2) 57)
  obtain ⟨⟨h0, h1, h2, h3, h4, h5⟩, ⟨f0, f1, f2⟩, hp, hk⟩ := h
  have e1 : (mmove1_f mo (A.2.1 2) S).2.1 = (mmove1_l52 mo S (min (A.2.1 2) 57)).1 := rfl
  have e2 : (mmove1_f mo (A.2.1 2) S).2.2.1 = S.2.1 := s3
  refine ⟨rfl, ⟨⟨fun i hi => ?_, fun i hi => ?_, fun i hi => ?_, fun i hi => ?_, fun i hi => ?_, fun i hi => ?_⟩, ⟨(fs_oth (by decide)).trans f0, (fs_oth (by decide)).trans f1, (fs_oth (by decide)).trans f2⟩, fun p hp3 => ⟨?_, MP_rows (s2 _ (by omega)) (hp p hp3).2⟩, MK_fr (s2 _ (by omega)) (by rw [e2]) (by rw [e2]) hk⟩, fun q hq => ⟨s2 q (by omega), by rw [e2], vu_n (by omega)⟩⟩
  · rw [e1, s2 _ (by omega)]; exact h0 i hi
  · exact (s1 i).trans (cpR_at (fun q => h3 i (by omega)) (h1 i hi))
  · rw [e1, s2 _ (by omega)]; exact h2 i hi
  · rw [e1, s2 _ (by omega)]; exact h3 i hi
  · rw [e1, s2 _ (by omega)]; exact h4 i hi
  · rw [e1, s2 _ (by omega)]; exact h5 i hi
  · rw [e1, s2 _ (by omega)]; exact (hp p hp3).1
theorem xmove2_r (xo : Nat) (B : (c : Bool) → Pt c) (S : StT) (A : AS) (h : RC xo B S A) : (xmove2_f xo (A.2.1 2) S).1 = nI (min (A.2.1 2) 114) ∧ RC xo B (xmove2_f xo (A.2.1 2) S).2 (setR A 2 (cpR (A.1 3) (A.1 2) (min (A.2.1 2) 114))) ∧ OX xo (xmove2_f xo (A.2.1 2) S).2 S := by
  obtain ⟨⟨h0, h1, h2, h3, h4, h5⟩, hf, hp, hk⟩ := h
  have e1 : (xmove2_f xo (A.2.1 2) S).2.1 = va_up S.1 (xo + 15 + 2 * 2 + 1) (va_cpy (S.1 (xo + 15 + 2 * 3 + 1)) (S.1 (xo + 15 + 2 * 2 + 1)) 0 0 (min (A.2.1 2) 114)) := rfl
  refine ⟨rfl, ⟨⟨fun i hi => ?_, fun i hi => ?_, fun i hi => ?_, fun i hi => ?_, fun i hi => ?_, fun i hi => ?_⟩, hf, fun p hp3 => ⟨?_, (hp p hp3).2⟩, CK_fr (fun _ _ => rfl) (fun b hb => by rw [e1]; exact vu_n (by omega)) hk⟩, fun q hq => ⟨by rw [e1]; exact vu_n (by omega), rfl, rfl⟩⟩
  · rw [e1, vu_n (by omega)]; exact h0 i hi
  · rw [e1, vu_n (by omega)]; exact h1 i hi
  · rw [e1, vu_s, cpy_cpR]; exact cpR_at (fun q => h3 i (by omega)) (h2 i hi)
  · rw [e1, vu_n (by omega)]; exact h3 i hi
  · rw [e1, vu_n (by omega)]; exact h4 i hi
  · rw [e1, vu_n (by omega)]; exact h5 i hi
  · rw [e1, vu_n (by omega)]; exact (hp p hp3).1
theorem move2_v {A : AS} (h : AV A) : AV (setR A 2 (cpR (A.1 3) (A.1 2) (min (A.2.1 2) 114))) := by
  obtain ⟨h0, h1, h2, h3, h4, h5, h6, h7, h8⟩ := h
  exact ⟨h0, h1, cpR_lt (fun i hi => h3 i (by omega)) h2, h3, h4, h5, h6, h7, h8⟩
theorem mmove2_lp (mo : Nat) (S : StT) : ∀ n, (∀ j, (mmove2_l52 mo S n).1 (mo + 3) j = cpR (S.1 (mo + 4)) (S.1 (mo + 3)) n j) ∧ (∀ q, q ≠ mo + 3 → (mmove2_l52 mo S n).1 q = S.1 q) ∧ (mmove2_l52 mo S n).2 = S.2.1 := by
  intro n
  induction n with
  | zero => exact ⟨fun j => by unfold cpR; rw [if_neg (by omega)]; rfl, fun _ _ => rfl, rfl⟩
  | succ n ih =>
    obtain ⟨h1, h2, h3⟩ := ih
    have st : mmove2_l52 mo S (n + 1) = (va_up (mmove2_l52 mo S n).1 (mo + 3) (upd ((mmove2_l52 mo S n).1 (mo + 3)) n ((mmove2_l52 mo S n).1 (mo + 4) n)), (mmove2_l52 mo S n).2) := rfl
    rw [st, h2 (mo + 4) (by omega)]
    refine ⟨fun j => ?_, fun q hq => (vu_n hq).trans (h2 q hq), h3⟩
    show va_up (mmove2_l52 mo S n).1 (mo + 3) (upd ((mmove2_l52 mo S n).1 (mo + 3)) n (S.1 (mo + 4) n)) (mo + 3) j = _
    rw [vu_s]
    show (if j = n then S.1 (mo + 4) n else (mmove2_l52 mo S n).1 (mo + 3) j) = _
    rw [h1]
    unfold cpR
    by_cases e : j = n
    · rw [if_pos e, if_pos (by omega), e]
    · rw [if_neg e]
      by_cases q : j < n
      · rw [if_pos q, if_pos (by omega)]
      · rw [if_neg q, if_neg (by omega)]
theorem mmove2_r (mo : Nat) (B : (c : Bool) → Pt c) (S : StT) (A : AS) (h : RM mo B S A) : (mmove2_f mo (A.2.1 2) S).1 = nI (min (A.2.1 2) 114) ∧ RM mo B (mmove2_f mo (A.2.1 2) S).2 (setR A 2 (cpR (A.1 3) (A.1 2) (min (A.2.1 2) 114))) ∧ OM mo (mmove2_f mo (A.2.1 2) S).2 S := by
  obtain ⟨s1, s2, s3⟩ := mmove2_lp mo S (min (A.2.1 2) 114)
  obtain ⟨⟨h0, h1, h2, h3, h4, h5⟩, ⟨f0, f1, f2⟩, hp, hk⟩ := h
  have e1 : (mmove2_f mo (A.2.1 2) S).2.1 = (mmove2_l52 mo S (min (A.2.1 2) 114)).1 := rfl
  have e2 : (mmove2_f mo (A.2.1 2) S).2.2.1 = S.2.1 := s3
  refine ⟨rfl, ⟨⟨fun i hi => ?_, fun i hi => ?_, fun i hi => ?_, fun i hi => ?_, fun i hi => ?_, fun i hi => ?_⟩, ⟨(fs_oth (by decide)).trans f0, (fs_oth (by decide)).trans f1, (fs_oth (by decide)).trans f2⟩, fun p hp3 => ⟨?_, MP_rows (s2 _ (by omega)) (hp p hp3).2⟩, MK_fr (s2 _ (by omega)) (by rw [e2]) (by rw [e2]) hk⟩, fun q hq => ⟨s2 q (by omega), by rw [e2], vu_n (by omega)⟩⟩
  · rw [e1, s2 _ (by omega)]; exact h0 i hi
  · rw [e1, s2 _ (by omega)]; exact h1 i hi
  · exact (s1 i).trans (cpR_at (fun q => h3 i (by omega)) (h2 i hi))
  · rw [e1, s2 _ (by omega)]; exact h3 i hi
  · rw [e1, s2 _ (by omega)]; exact h4 i hi
  · rw [e1, s2 _ (by omega)]; exact h5 i hi
  · rw [e1, s2 _ (by omega)]; exact (hp p hp3).1
theorem spr_at2 {f g : Nat → Int32} {fr nn i : Nat} {v : Int64} (hi : i < fr + nn) (h : i < fr → f i = g i) : spr f fr v nn i = spr g fr v nn i := by
  unfold spr
  by_cases q : fr ≤ i ∧ i < fr + nn
  · rw [if_pos q, if_pos q]
  · rw [if_neg q, if_neg q, h (by omega)]
theorem spr_lt2 {f : Nat → Int32} {fr nn : Nat} {v : Int64} (h : ∀ i, i < fr → uN (f i) < 256) : ∀ i, i < fr + nn → uN (spr f fr v nn i) < 256 := by
  intro i hi
  unfold spr
  by_cases q : fr ≤ i ∧ i < fr + nn
  · rw [if_pos q]
    exact bz_lt _ _
  · rw [if_neg q]
    exact h i (by omega)
theorem xfeed0_r (xo : Nat) (B : (c : Bool) → Pt c) (nn : Nat) (v : Int64) (S : StT) (A : AS) (h : RC xo B S A) : (xfeed0_f xo (A.2.1 0) nn v S).1 = nI (A.2.1 0 + nn) ∧ RC xo B (xfeed0_f xo (A.2.1 0) nn v S).2 (setN (setR A 4 (spr (A.1 4) (A.2.1 0) v nn)) 0 (A.2.1 0 + nn)) ∧ OX xo (xfeed0_f xo (A.2.1 0) nn v S).2 S := by
  obtain ⟨s1, s2⟩ := xspr_s (xo + 2 + 1) (A.2.1 0) v nn S
  obtain ⟨⟨h0, h1, h2, h3, h4, h5⟩, ⟨f0, f1, f2, f3, f4, f5⟩, hp, hk⟩ := h
  have e1 : (xfeed0_f xo (A.2.1 0) nn v S).2.1 = xspr_l3 (xo + 2 + 1) (A.2.1 0) v nn S nn := rfl
  refine ⟨rfl, ⟨⟨fun i hi => ?_, fun i hi => ?_, fun i hi => ?_, fun i hi => ?_, fun i hi => ?_, fun i hi => ?_⟩, ⟨fs_get, (congrFun (vu_n (by omega)) 1).trans f1, (congrFun (vu_n (by omega)) 1).trans f2, (congrFun (vu_n (by omega)) 1).trans f3, (congrFun (vu_n (by omega)) 1).trans f4, (congrFun (vu_n (by omega)) 1).trans f5⟩, fun p hp3 => ⟨?_, (hp p hp3).2⟩, CK_fr (fun _ _ => rfl) (fun b hb => by rw [e1]; exact s2 _ (by omega)) hk⟩, fun q hq => ⟨s2 q (by omega), rfl, vu_n (by omega)⟩⟩
  · rw [e1, s2 _ (by omega)]; exact h0 i hi
  · rw [e1, s2 _ (by omega)]; exact h1 i hi
  · rw [e1, s2 _ (by omega)]; exact h2 i hi
  · rw [e1, s2 _ (by omega)]; exact h3 i hi
  · exact (s1 i).trans (spr_at2 hi (fun q => h4 i q))
  · rw [e1, s2 _ (by omega)]; exact h5 i hi
  · rw [e1, s2 _ (by omega)]; exact (hp p hp3).1
theorem feed0_v {A : AS} {nn : Nat} (v : Int64) (hl : A.2.1 0 + nn ≤ 256) (h : AV A) : AV (setN (setR A 4 (spr (A.1 4) (A.2.1 0) v nn)) 0 (A.2.1 0 + nn)) := by
  obtain ⟨h0, h1, h2, h3, h4, h5, h6, h7, h8⟩ := h
  exact ⟨h0, h1, h2, h3, spr_lt2 h4, h5, hl, h7, h8⟩
theorem mfeed0_lp (mo mg nn : Nat) (v : Int64) (S : StT) (hn : nn ≤ 8) : ∀ n, n ≤ nn → (∀ j, mfeed0_l75 mo mg nn v S n (mo + 5) j = if mg ≤ j ∧ j < mg + n then bz v (8 * (nn - 1 - (j - mg))) else S.1 (mo + 5) j) ∧ (∀ q, q ≠ mo + 5 → mfeed0_l75 mo mg nn v S n q = S.1 q) := by
  intro n
  induction n with
  | zero => exact fun _ => ⟨fun j => by rw [if_neg (by omega)]; rfl, fun _ _ => rfl⟩
  | succ n ih =>
    intro hl
    obtain ⟨h1, h2⟩ := ih (by omega)
    have st : mfeed0_l75 mo mg nn v S (n + 1) = va_up (mfeed0_l75 mo mg nn v S n) (mo + 5) (upd (mfeed0_l75 mo mg nn v S n (mo + 5)) (mg + n) (((v >>> ((nI (8 * (nn - 1 - n))).toInt64 &&& 63)).toInt32) &&& (nI (255)))) := rfl
    rw [st, by64 v (by omega)]
    refine ⟨fun j => ?_, fun q hq => (vu_n hq).trans (h2 q hq)⟩
    rw [vu_s]
    show (if j = mg + n then bz v (8 * (nn - 1 - n)) else mfeed0_l75 mo mg nn v S n (mo + 5) j) = _
    by_cases e : j = mg + n
    · rw [if_pos e, if_pos (by omega), show j - mg = n from by omega]
    · rw [if_neg e, h1]
      by_cases q : mg ≤ j ∧ j < mg + n
      · rw [if_pos q, if_pos (by omega)]
      · rw [if_neg q, if_neg (by omega)]
theorem mfeed0_r (mo : Nat) (B : (c : Bool) → Pt c) (nn : Nat) (v : Int64) (S : StT) (A : AS) (hn : nn ≤ 8) (h : RM mo B S A) : (mfeed0_f mo (A.2.1 0) nn v S).1 = nI (A.2.1 0 + nn) ∧ RM mo B (mfeed0_f mo (A.2.1 0) nn v S).2 (setN (setR A 4 (spr (A.1 4) (A.2.1 0) v nn)) 0 (A.2.1 0 + nn)) ∧ OM mo (mfeed0_f mo (A.2.1 0) nn v S).2 S := by
  obtain ⟨s1, s2⟩ := mfeed0_lp mo (A.2.1 0) nn v S hn nn (Nat.le_refl _)
  obtain ⟨⟨h0, h1, h2, h3, h4, h5⟩, ⟨f0, f1, f2⟩, hp, hk⟩ := h
  have e1 : (mfeed0_f mo (A.2.1 0) nn v S).2.1 = mfeed0_l75 mo (A.2.1 0) nn v S nn := rfl
  refine ⟨rfl, ⟨⟨fun i hi => ?_, fun i hi => ?_, fun i hi => ?_, fun i hi => ?_, fun i hi => ?_, fun i hi => ?_⟩, ⟨fs_get, (fs_oth (by decide)).trans ((fs_oth (by decide)).trans f1), (fs_oth (by decide)).trans ((fs_oth (by decide)).trans f2)⟩, fun p hp3 => ⟨?_, MP_rows (s2 _ (by omega)) (hp p hp3).2⟩, MK_fr (s2 _ (by omega)) rfl rfl hk⟩, fun q hq => ⟨s2 q (by omega), rfl, (vu_n (by omega)).trans (vu_n (by omega))⟩⟩
  · rw [e1, s2 _ (by omega)]; exact h0 i hi
  · rw [e1, s2 _ (by omega)]; exact h1 i hi
  · rw [e1, s2 _ (by omega)]; exact h2 i hi
  · rw [e1, s2 _ (by omega)]; exact h3 i hi
  · exact (s1 i).trans (spr_at2 hi (fun q => h4 i q))
  · rw [e1, s2 _ (by omega)]; exact h5 i hi
  · rw [e1, s2 _ (by omega)]; exact (hp p hp3).1
theorem xclear0_r (xo : Nat) (B : (c : Bool) → Pt c) (S : StT) (A : AS) (h : RC xo B S A) : RC xo B (xclear0_f xo S) (setN A 0 0) ∧ OX xo (xclear0_f xo S) S := by
  obtain ⟨⟨h0, h1, h2, h3, h4, h5⟩, ⟨f0, f1, f2, f3, f4, f5⟩, hp, hk⟩ := h
  exact ⟨⟨⟨h0, h1, h2, h3, fun i hi => absurd hi (Nat.not_lt_zero _), h5⟩, ⟨fs_get, (congrFun (vu_n (by omega)) 1).trans f1, (congrFun (vu_n (by omega)) 1).trans f2, (congrFun (vu_n (by omega)) 1).trans f3, (congrFun (vu_n (by omega)) 1).trans f4, (congrFun (vu_n (by omega)) 1).trans f5⟩, hp, hk⟩, fun q hq => ⟨rfl, rfl, vu_n (by omega)⟩⟩
theorem clear0_v {A : AS} (h : AV A) : AV (setN A 0 0) := by
  obtain ⟨h0, h1, h2, h3, h4, h5, h6, h7, h8⟩ := h
  exact ⟨h0, h1, h2, h3, fun i hi => absurd hi (Nat.not_lt_zero _), h5, Nat.zero_le _, h7, h8⟩
theorem mclear0_r (mo : Nat) (B : (c : Bool) → Pt c) (cv : Int32) (S : StT) (A : AS) (hc : cv = 0) (h : RM mo B S A) : RM mo B (mclear_f mo cv S) (setN A 0 0) ∧ OM mo (mclear_f mo cv S) S := by
  obtain ⟨⟨h0, h1, h2, h3, h4, h5⟩, ⟨f0, f1, f2⟩, hp, hk⟩ := h
  unfold mclear_f
  rw [if_pos hc]
  exact ⟨⟨⟨h0, h1, h2, h3, fun i hi => absurd hi (Nat.not_lt_zero _), h5⟩, ⟨fs_get, (fs_oth (by decide)).trans ((fs_oth (by decide)).trans f1), (fs_oth (by decide)).trans ((fs_oth (by decide)).trans f2)⟩, hp, hk⟩, fun q hq => ⟨rfl, rfl, (vu_n (by omega)).trans (vu_n (by omega))⟩⟩
theorem xfeed1_r (xo : Nat) (B : (c : Bool) → Pt c) (nn : Nat) (v : Int64) (S : StT) (A : AS) (h : RC xo B S A) : (xfeed1_f xo (A.2.1 1) nn v S).1 = nI (A.2.1 1 + nn) ∧ RC xo B (xfeed1_f xo (A.2.1 1) nn v S).2 (setN (setR A 5 (spr (A.1 5) (A.2.1 1) v nn)) 1 (A.2.1 1 + nn)) ∧ OX xo (xfeed1_f xo (A.2.1 1) nn v S).2 S := by
  obtain ⟨s1, s2⟩ := xspr_s (xo + 4 + 1) (A.2.1 1) v nn S
  obtain ⟨⟨h0, h1, h2, h3, h4, h5⟩, ⟨f0, f1, f2, f3, f4, f5⟩, hp, hk⟩ := h
  have e1 : (xfeed1_f xo (A.2.1 1) nn v S).2.1 = xspr_l3 (xo + 4 + 1) (A.2.1 1) v nn S nn := rfl
  refine ⟨rfl, ⟨⟨fun i hi => ?_, fun i hi => ?_, fun i hi => ?_, fun i hi => ?_, fun i hi => ?_, fun i hi => ?_⟩, ⟨(congrFun (vu_n (by omega)) 1).trans f0, fs_get, (congrFun (vu_n (by omega)) 1).trans f2, (congrFun (vu_n (by omega)) 1).trans f3, (congrFun (vu_n (by omega)) 1).trans f4, (congrFun (vu_n (by omega)) 1).trans f5⟩, fun p hp3 => ⟨?_, (hp p hp3).2⟩, CK_fr (fun _ _ => rfl) (fun b hb => by rw [e1]; exact s2 _ (by omega)) hk⟩, fun q hq => ⟨s2 q (by omega), rfl, vu_n (by omega)⟩⟩
  · rw [e1, s2 _ (by omega)]; exact h0 i hi
  · rw [e1, s2 _ (by omega)]; exact h1 i hi
  · rw [e1, s2 _ (by omega)]; exact h2 i hi
  · rw [e1, s2 _ (by omega)]; exact h3 i hi
  · rw [e1, s2 _ (by omega)]; exact h4 i hi
  · exact (s1 i).trans (spr_at2 hi (fun q => h5 i q))
  · rw [e1, s2 _ (by omega)]; exact (hp p hp3).1
theorem feed1_v {A : AS} {nn : Nat} (v : Int64) (hl : A.2.1 1 + nn ≤ 64) (h : AV A) : AV (setN (setR A 5 (spr (A.1 5) (A.2.1 1) v nn)) 1 (A.2.1 1 + nn)) := by
  obtain ⟨h0, h1, h2, h3, h4, h5, h6, h7, h8⟩ := h
  exact ⟨h0, h1, h2, h3, h4, spr_lt2 h5, h6, hl, h8⟩
theorem mfeed1_lp (mo cx nn : Nat) (v : Int64) (S : StT) (hn : nn ≤ 8) : ∀ n, n ≤ nn → (∀ j, mfeed1_l75 mo cx nn v S n (mo + 6) j = if cx ≤ j ∧ j < cx + n then bz v (8 * (nn - 1 - (j - cx))) else S.1 (mo + 6) j) ∧ (∀ q, q ≠ mo + 6 → mfeed1_l75 mo cx nn v S n q = S.1 q) := by
  intro n
  induction n with
  | zero => exact fun _ => ⟨fun j => by rw [if_neg (by omega)]; rfl, fun _ _ => rfl⟩
  | succ n ih =>
    intro hl
    obtain ⟨h1, h2⟩ := ih (by omega)
    have st : mfeed1_l75 mo cx nn v S (n + 1) = va_up (mfeed1_l75 mo cx nn v S n) (mo + 6) (upd (mfeed1_l75 mo cx nn v S n (mo + 6)) (cx + n) (((v >>> ((nI (8 * (nn - 1 - n))).toInt64 &&& 63)).toInt32) &&& (nI (255)))) := rfl
    rw [st, by64 v (by omega)]
    refine ⟨fun j => ?_, fun q hq => (vu_n hq).trans (h2 q hq)⟩
    rw [vu_s]
    show (if j = cx + n then bz v (8 * (nn - 1 - n)) else mfeed1_l75 mo cx nn v S n (mo + 6) j) = _
    by_cases e : j = cx + n
    · rw [if_pos e, if_pos (by omega), show j - cx = n from by omega]
    · rw [if_neg e, h1]
      by_cases q : cx ≤ j ∧ j < cx + n
      · rw [if_pos q, if_pos (by omega)]
      · rw [if_neg q, if_neg (by omega)]
theorem mfeed1_r (mo : Nat) (B : (c : Bool) → Pt c) (nn : Nat) (v : Int64) (S : StT) (A : AS) (hn : nn ≤ 8) (h : RM mo B S A) : (mfeed1_f mo (A.2.1 1) nn v S).1 = nI (A.2.1 1 + nn) ∧ RM mo B (mfeed1_f mo (A.2.1 1) nn v S).2 (setN (setR A 5 (spr (A.1 5) (A.2.1 1) v nn)) 1 (A.2.1 1 + nn)) ∧ OM mo (mfeed1_f mo (A.2.1 1) nn v S).2 S := by
  obtain ⟨s1, s2⟩ := mfeed1_lp mo (A.2.1 1) nn v S hn nn (Nat.le_refl _)
  obtain ⟨⟨h0, h1, h2, h3, h4, h5⟩, ⟨f0, f1, f2⟩, hp, hk⟩ := h
  have e1 : (mfeed1_f mo (A.2.1 1) nn v S).2.1 = mfeed1_l75 mo (A.2.1 1) nn v S nn := rfl
  refine ⟨rfl, ⟨⟨fun i hi => ?_, fun i hi => ?_, fun i hi => ?_, fun i hi => ?_, fun i hi => ?_, fun i hi => ?_⟩, ⟨(fs_oth (by decide)).trans ((fs_oth (by decide)).trans f0), fs_get, (fs_oth (by decide)).trans ((fs_oth (by decide)).trans f2)⟩, fun p hp3 => ⟨?_, MP_rows (s2 _ (by omega)) (hp p hp3).2⟩, MK_fr (s2 _ (by omega)) rfl rfl hk⟩, fun q hq => ⟨s2 q (by omega), rfl, (vu_n (by omega)).trans (vu_n (by omega))⟩⟩
  · rw [e1, s2 _ (by omega)]; exact h0 i hi
  · rw [e1, s2 _ (by omega)]; exact h1 i hi
  · rw [e1, s2 _ (by omega)]; exact h2 i hi
  · rw [e1, s2 _ (by omega)]; exact h3 i hi
  · rw [e1, s2 _ (by omega)]; exact h4 i hi
  · exact (s1 i).trans (spr_at2 hi (fun q => h5 i q))
  · rw [e1, s2 _ (by omega)]; exact (hp p hp3).1
theorem xclear1_r (xo : Nat) (B : (c : Bool) → Pt c) (S : StT) (A : AS) (h : RC xo B S A) : RC xo B (xclear1_f xo S) (setN A 1 0) ∧ OX xo (xclear1_f xo S) S := by
  obtain ⟨⟨h0, h1, h2, h3, h4, h5⟩, ⟨f0, f1, f2, f3, f4, f5⟩, hp, hk⟩ := h
  exact ⟨⟨⟨h0, h1, h2, h3, h4, fun i hi => absurd hi (Nat.not_lt_zero _)⟩, ⟨(congrFun (vu_n (by omega)) 1).trans f0, fs_get, (congrFun (vu_n (by omega)) 1).trans f2, (congrFun (vu_n (by omega)) 1).trans f3, (congrFun (vu_n (by omega)) 1).trans f4, (congrFun (vu_n (by omega)) 1).trans f5⟩, hp, hk⟩, fun q hq => ⟨rfl, rfl, vu_n (by omega)⟩⟩
theorem clear1_v {A : AS} (h : AV A) : AV (setN A 1 0) := by
  obtain ⟨h0, h1, h2, h3, h4, h5, h6, h7, h8⟩ := h
  exact ⟨h0, h1, h2, h3, h4, fun i hi => absurd hi (Nat.not_lt_zero _), h6, Nat.zero_le _, h8⟩
theorem mclear1_r (mo : Nat) (B : (c : Bool) → Pt c) (cv : Int32) (S : StT) (A : AS) (hc : cv ≠ 0) (h : RM mo B S A) : RM mo B (mclear_f mo cv S) (setN A 1 0) ∧ OM mo (mclear_f mo cv S) S := by
  obtain ⟨⟨h0, h1, h2, h3, h4, h5⟩, ⟨f0, f1, f2⟩, hp, hk⟩ := h
  unfold mclear_f
  rw [if_neg hc]
  exact ⟨⟨⟨h0, h1, h2, h3, h4, fun i hi => absurd hi (Nat.not_lt_zero _)⟩, ⟨(fs_oth (by decide)).trans ((fs_oth (by decide)).trans f0), fs_get, (fs_oth (by decide)).trans ((fs_oth (by decide)).trans f2)⟩, hp, hk⟩, fun q hq => ⟨rfl, rfl, (vu_n (by omega)).trans (vu_n (by omega))⟩⟩
theorem RM_f0 {mo : Nat} {B : (c : Bool) → Pt c} {S : StT} {A : AS} (x : Int32) (h : RM mo B S A) : RM mo B (S.1, S.2.1, fs S.2.2 mo 0 x) A ∧ OM mo (S.1, S.2.1, fs S.2.2 mo 0 x) S := by
  obtain ⟨hr, ⟨f0, f1, f2⟩, hp, hk⟩ := h
  exact ⟨⟨hr, ⟨(fs_oth (by decide)).trans f0, (fs_oth (by decide)).trans f1, (fs_oth (by decide)).trans f2⟩, hp, hk⟩, fun q hq => ⟨rfl, rfl, vu_n (by omega)⟩⟩
theorem OX_rfl (xo : Nat) (S : StT) : OX xo S S := fun _ _ => ⟨rfl, rfl, rfl⟩
theorem look0_r (xo mo : Nat) (B : (c : Bool) → Pt c) (q : Nat) (S T : StT) (A : AS) (hq : q < 57) (h : RC xo B S A) (g : RM mo B T A) : (xlook0_f xo q S).1 = A.1 0 q ∧ (xlook0_f xo q S).2 = S ∧ (mlook0_f mo q T).1 = A.1 0 q ∧ RM mo B (mlook0_f mo q T).2 A ∧ OM mo (mlook0_f mo q T).2 T :=
  ⟨h.1.1 q hq, rfl, g.1.1 q hq, (RM_f0 (nI 0) g).1, (RM_f0 (nI 0) g).2⟩
theorem look1_r (xo mo : Nat) (B : (c : Bool) → Pt c) (q : Nat) (S T : StT) (A : AS) (hq : q < 57) (h : RC xo B S A) (g : RM mo B T A) : (xlook1_f xo q S).1 = A.1 1 q ∧ (xlook1_f xo q S).2 = S ∧ (mlook1_f mo q T).1 = A.1 1 q ∧ RM mo B (mlook1_f mo q T).2 A ∧ OM mo (mlook1_f mo q T).2 T :=
  ⟨h.1.2.1 q hq, rfl, g.1.2.1 q hq, (RM_f0 (nI 0) g).1, (RM_f0 (nI 0) g).2⟩
theorem look2_r (xo mo : Nat) (B : (c : Bool) → Pt c) (q : Nat) (S T : StT) (A : AS) (hq : q < 114) (h : RC xo B S A) (g : RM mo B T A) : (xlook2_f xo q S).1 = A.1 2 q ∧ (xlook2_f xo q S).2 = S ∧ (mlook2_f mo q T).1 = A.1 2 q ∧ RM mo B (mlook2_f mo q T).2 A ∧ OM mo (mlook2_f mo q T).2 T :=
  ⟨h.1.2.2.1 q hq, rfl, g.1.2.2.1 q hq, (RM_f0 (nI 0) g).1, (RM_f0 (nI 0) g).2⟩
theorem look3_r (xo mo : Nat) (B : (c : Bool) → Pt c) (q : Nat) (S T : StT) (A : AS) (hq : q < A.2.1 2) (h : RC xo B S A) (g : RM mo B T A) : (xlook3_f xo q (A.2.1 2) S).1 = A.1 3 q ∧ (xlook3_f xo q (A.2.1 2) S).2 = S ∧ (mlook3_f mo q (A.2.1 2) T).1 = A.1 3 q ∧ RM mo B (mlook3_f mo q (A.2.1 2) T).2 A ∧ OM mo (mlook3_f mo q (A.2.1 2) T).2 T :=
  ⟨h.1.2.2.2.1 q hq, rfl, g.1.2.2.2.1 q hq, (RM_f0 (nI 0) g).1, (RM_f0 (nI 0) g).2⟩
theorem size_r (xo mo : Nat) (B : (c : Bool) → Pt c) (S T : StT) (A : AS) (h : RC xo B S A) (g : RM mo B T A) : (xsize_f xo (A.2.1 2) S).1 = nI (A.2.1 2) ∧ (xsize_f xo (A.2.1 2) S).2 = S ∧ (msize_f mo T).1 = nI (A.2.1 2) ∧ RM mo B (msize_f mo T).2 A ∧ OM mo (msize_f mo T).2 T :=
  ⟨rfl, rfl, (fs_oth (F := T.2.2) (o := mo) (q := 0) (x := nI 0) (by decide)).trans g.2.1.2.2, (RM_f0 (nI 0) g).1, (RM_f0 (nI 0) g).2⟩
end
