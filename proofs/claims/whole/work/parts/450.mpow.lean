section
/-! THE MODEL'S POWERS. -/
/-- what a run of the model's numbers leaves alone: all but the places of D, the wide row and the row of the exponent -/
def MX (mo : Nat) (D : Nat → Prop) (T S : StT) : Prop := (∀ r, r ≠ mo + 7 → r ≠ mo + 9 → T.1 r = S.1 r) ∧ (∀ x, ¬ D x → ∀ i, i < 32 → T.1 (mo + 7) (32 * x + i) = S.1 (mo + 7) (32 * x + i)) ∧ (∀ r, r ≠ mo + 8 → T.2.1 r = S.2.1 r) ∧ T.2.2 = S.2.2
theorem MX_rfl (mo : Nat) (D : Nat → Prop) (S : StT) : MX mo D S S := ⟨fun _ _ _ => rfl, fun _ _ _ _ => rfl, fun _ _ => rfl, rfl⟩
theorem MX_tr {mo : Nat} {D : Nat → Prop} {T U S : StT} (h1 : MX mo D T U) (h2 : MX mo D U S) : MX mo D T S := ⟨fun r a b => (h1.1 r a b).trans (h2.1 r a b), fun x hx i hi => (h1.2.1 x hx i hi).trans (h2.2.1 x hx i hi), fun r hr => (h1.2.2.1 r hr).trans (h2.2.2.1 r hr), h1.2.2.2.trans h2.2.2.2⟩
theorem MX_le {mo : Nat} {D E : Nat → Prop} {T S : StT} (h : ∀ x, D x → E x) (h1 : MX mo D T S) : MX mo E T S := ⟨h1.1, fun x hx => h1.2.1 x (fun q => hx (h x q)), h1.2.2⟩
theorem MX_of {mo d : Nat} {D : Nat → Prop} {T S : StT} (hd : D d) (h1 : MF mo d T.1 S.1) (h2 : ∀ r, r ≠ mo + 8 → T.2.1 r = S.2.1 r) (h3 : T.2.2 = S.2.2) : MX mo D T S := by
  refine ⟨fun r hr _ => h1.1 r hr, fun x hx i hi => h1.2 _ ?_, h2, h3⟩
  have : x ≠ d := fun e => hx (e ▸ hd)
  omega
theorem MX_of2 {mo d : Nat} {D : Nat → Prop} {T S : StT} (hd : D d) (h1 : MF mo d T.1 S.1) (h2 : T.2 = S.2) : MX mo D T S := MX_of hd h1 (fun r _ => by rw [h2]) (by rw [h2])
theorem MD_mx {mo : Nat} {D : Nat → Prop} {T S : StT} {a n : Nat} (h : MX mo D T S) (ha : ¬ D a) (hk : MD S.1 mo a n) : MD T.1 mo a n := by
  refine ⟨hk.1, fun i hi => ?_⟩
  have := h.2.1 a ha i hi
  rw [← hk.2 i hi]
  unfold mq
  rw [this]
theorem MV_mx {c : Bool} {mo : Nat} {D : Nat → Prop} {T S : StT} {a : Nat} {u : Zp c} (h : MX mo D T S) (ha : ¬ D a) (hk : MV c S.1 mo a u) : MV c T.1 mo a u := MD_mx h ha hk
theorem i_shr {x : Int32} : (x >>> (nI 16 &&& 31)).toInt = x.toInt / 2 ^ 16 := by
  have e : (nI 16 &&& 31) = (16 : Int32) := by decide
  rw [e]
  show ((x.toBitVec).sshiftRight' ((16 : Int32).toBitVec.smod 32)).toInt = _
  rw [BitVec.sshiftRight_eq', BitVec.toInt_sshiftRight, Int.shiftRight_eq_div_pow]
  rfl
theorem mexp_lp (c : Bool) (mo d a : Nat) (more : Int32) (sh : Nat) (S : StT) (hp : ∀ i, i < 32 → mq S.1 mo (9 + bN c) i < 2 ^ 16) (hm : -2 ≤ more.toInt ∧ more.toInt ≤ 3) : ∀ n, n ≤ 32 →
    (mpow_l15 c mo d a more sh S more n).1.toInt = cy 16 (fun i => (mq S.1 mo (9 + bN c) i : Int) + (if i = 0 then more.toInt else 0)) n + (if n = 0 then more.toInt else 0) ∧ (-3 ≤ (mpow_l15 c mo d a more sh S more n).1.toInt ∧ (mpow_l15 c mo d a more sh S more n).1.toInt ≤ 3) ∧ (∀ k, k < n → (uN ((mpow_l15 c mo d a more sh S more n).2 (mo + 9) k) : Int) = ((mq S.1 mo (9 + bN c) k : Int) + (if k = 0 then more.toInt else 0) + cy 16 (fun i => (mq S.1 mo (9 + bN c) i : Int) + (if i = 0 then more.toInt else 0)) k) % 2 ^ 16) ∧ ∀ r, r ≠ mo + 9 → (mpow_l15 c mo d a more sh S more n).2 r = S.1 r := by
  intro n
  induction n with
  | zero => exact fun _ => ⟨by show more.toInt = 0 + (if 0 = 0 then more.toInt else 0); rw [if_pos rfl]; omega, ⟨by show -3 ≤ more.toInt; omega, hm.2⟩, fun k hk => absurd hk (Nat.not_lt_zero _), fun _ _ => rfl⟩
  | succ n ih =>
    intro hn
    obtain ⟨h1, h2, h3, h4⟩ := ih (by omega)
    have st : mpow_l15 c mo d a more sh S more (n + 1) = ((((mpow_l15 c mo d a more sh S more n).2 (mo + 7) (32 * (9 + (bN c)) + n)) + (mpow_l15 c mo d a more sh S more n).1) >>> ((nI (16)) &&& 31), va_up (mpow_l15 c mo d a more sh S more n).2 (mo + 9) (upd ((mpow_l15 c mo d a more sh S more n).2 (mo + 9)) n ((((mpow_l15 c mo d a more sh S more n).2 (mo + 7) (32 * (9 + (bN c)) + n)) + (mpow_l15 c mo d a more sh S more n).1) &&& (65535)))) := rfl
    rw [h4 (mo + 7) (by omega)] at st
    rw [st]
    clear st
    have lp : uN (S.1 (mo + 7) (32 * (9 + bN c) + n)) < 2 ^ 16 := hp n (by omega)
    have qp : (mq S.1 mo (9 + bN c) n : Int) = (uN (S.1 (mo + 7) (32 * (9 + bN c) + n)) : Int) := rfl
    have cs : cy 16 (fun i => (mq S.1 mo (9 + bN c) i : Int) + (if i = 0 then more.toInt else 0)) (n + 1) = ((mq S.1 mo (9 + bN c) n : Int) + (if n = 0 then more.toInt else 0) + cy 16 (fun i => (mq S.1 mo (9 + bN c) i : Int) + (if i = 0 then more.toInt else 0)) n) / 2 ^ 16 := rfl
    generalize (mpow_l15 c mo d a more sh S more n).1 = z at h1 h2 ⊢
    generalize (mpow_l15 c mo d a more sh S more n).2 = Y at h3 h4 ⊢
    have t : (S.1 (mo + 7) (32 * (9 + bN c) + n) + z).toInt = (mq S.1 mo (9 + bN c) n : Int) + (if n = 0 then more.toInt else 0) + cy 16 (fun i => (mq S.1 mo (9 + bN c) i : Int) + (if i = 0 then more.toInt else 0)) n := by
      rw [i_add, uN_int (by omega), h1, qp]
      · omega
      · rw [uN_int (by omega)]; omega
      · rw [uN_int (by omega)]; omega
    have tb : -3 ≤ (S.1 (mo + 7) (32 * (9 + bN c) + n) + z).toInt ∧ (S.1 (mo + 7) (32 * (9 + bN c) + n) + z).toInt < 2 ^ 16 + 3 := by
      rw [i_add, uN_int (by omega)]
      · omega
      · rw [uN_int (by omega)]; omega
      · rw [uN_int (by omega)]; omega
    generalize S.1 (mo + 7) (32 * (9 + bN c) + n) + z = w at t tb ⊢
    refine ⟨?_, ?_, fun k hk => ?_, fun r hr => ?_⟩
    · show (w >>> (nI 16 &&& 31)).toInt = _
      rw [i_shr, cs, ← t, if_neg (by omega)]
      omega
    · show -3 ≤ (w >>> (nI 16 &&& 31)).toInt ∧ (w >>> (nI 16 &&& 31)).toInt ≤ 3
      rw [i_shr]
      omega
    · show (uN (va_up Y (mo + 9) (upd (Y (mo + 9)) n (w &&& 65535)) (mo + 9) k) : Int) = _
      rw [vu_s]
      show (uN (if k = n then w &&& 65535 else Y (mo + 9) k) : Int) = _
      by_cases e : k = n
      · rw [if_pos e, lit65, i_and, t, e]
      · rw [if_neg e]
        exact h3 k (by omega)
    · exact (vu_n hr).trans (h4 r hr)
theorem rv_one (b : Nat) (x : Int) : ∀ n, rv b (fun i => if i = 0 then x else 0) (n + 1) = x := by
  intro n
  induction n with
  | zero => show 0 + (if 0 = 0 then x else 0) * 2 ^ (b * 0) = x; rw [if_pos rfl, Nat.mul_zero, Int.pow_zero]; omega
  | succ n ih =>
    show rv b (fun i => if i = 0 then x else 0) (n + 1) + (if n + 1 = 0 then x else 0) * 2 ^ (b * (n + 1)) = x
    rw [ih, if_neg (by omega), Int.zero_mul]
    omega
theorem mexp_m (c : Bool) (mo d a : Nat) (more : Int32) (sh : Nat) (S : StT) {E : Nat} (hp : MD S.1 mo (9 + bN c) (nt_p c)) (hm : -2 ≤ more.toInt ∧ more.toInt ≤ 3) (hE : (E : Int) = (nt_p c : Int) + more.toInt) :
    (∀ k, k < 28 → uN ((mpow_l15 c mo d a more sh S more 32).2 (mo + 9) k) = E / 2 ^ (16 * k) % 2 ^ 16) ∧ ∀ r, r ≠ mo + 9 → (mpow_l15 c mo d a more sh S more 32).2 r = S.1 r := by
  obtain ⟨_, _, h3, h4⟩ := mexp_lp c mo d a more sh S (fun i hi => MD_lt hp hi) hm 32 (Nat.le_refl _)
  refine ⟨fun k hk => ?_, h4⟩
  have hs := cy_sum 16 (fun i => (mq S.1 mo (9 + bN c) i : Int) + (if i = 0 then more.toInt else 0)) 28
  rw [rv_add 16 (fun i => (mq S.1 mo (9 + bN c) i : Int)) (fun i => if i = 0 then more.toInt else 0) 28, rv_nat (b := 16) (g := mq S.1 mo (9 + bN c)) 28 (fun _ _ => rfl), MD_28 hp, rv_one 16 more.toInt 27, ← hE] at hs
  have hd : ∀ k, k < 28 → uN ((mpow_l15 c mo d a more sh S more 32).2 (mo + 9) k) < 2 ^ 16 := by
    intro k hk
    have e := h3 k (by omega)
    have e2 : ((uN ((mpow_l15 c mo d a more sh S more 32).2 (mo + 9) k) : Nat) : Int) < 2 ^ 16 := by
      rw [e]
      exact Int.emod_lt_of_pos _ (by decide)
    omega
  have e1 : rv 16 (fun i => ((mq S.1 mo (9 + bN c) i : Int) + (if i = 0 then more.toInt else 0) + cy 16 (fun i => (mq S.1 mo (9 + bN c) i : Int) + (if i = 0 then more.toInt else 0)) i) % 2 ^ 16) 28 = (rvN (2 ^ 16) (fun k => uN ((mpow_l15 c mo d a more sh S more 32).2 (mo + 9) k)) 28 : Int) := rv_nat 28 (fun i hi => (h3 i (by omega)).symm)
  rw [e1] at hs
  have hl := rvN_lt (2 ^ 16) (fun k => uN ((mpow_l15 c mo d a more sh S more 32).2 (mo + 9) k)) (by decide) 28 hd
  have dg := rvN_dig (2 ^ 16) (fun k => uN ((mpow_l15 c mo d a more sh S more 32).2 (mo + 9) k)) (by decide) 28 hd k hk
  have hval : rvN (2 ^ 16) (fun k => uN ((mpow_l15 c mo d a more sh S more 32).2 (mo + 9) k)) 28 = E := by
    have hEl : E < 2 ^ 448 := by
      have := nt_448 c
      have h5 : nt_p c + 3 < 2 ^ 448 := by
        cases c
        · rw [nt_p0]; decide +kernel
        · rw [nt_p1]; decide +kernel
      omega
    generalize cy 16 (fun i => (mq S.1 mo (9 + bN c) i : Int) + (if i = 0 then more.toInt else 0)) 28 = z at hs
    rw [← Nat.pow_mul] at hl
    have hl2 : rvN (2 ^ 16) (fun k => uN ((mpow_l15 c mo d a more sh S more 32).2 (mo + 9) k)) 28 < 2 ^ 448 := hl
    generalize rvN (2 ^ 16) (fun k => uN ((mpow_l15 c mo d a more sh S more 32).2 (mo + 9) k)) 28 = V at hs hl2 ⊢
    have ep : (2 : Int) ^ (16 * 28) = ((2 ^ 448 : Nat) : Int) := by rw [Int.natCast_pow]; rfl
    rw [ep] at hs
    generalize 2 ^ 448 = P at hs hl2 hEl
    rcases i_lg z 0 with q | q
    · have q2 : (z + 1) * (P : Int) ≤ 0 := Int.mul_nonpos_of_nonpos_of_nonneg (by omega) (by omega)
      rw [Int.add_mul, Int.one_mul] at q2
      omega
    · rcases i_lg z 1 with q3 | q3
      · have : z = 0 := by omega
        rw [this] at hs
        omega
      · have q2 : 1 * (P : Int) ≤ z * (P : Int) := Int.mul_le_mul_of_nonneg_right q3 (by omega)
        omega
  rw [hval, ← Nat.pow_mul] at dg
  have := hd k hk
  rw [dg]
  generalize E / (2 ^ 16) ^ (k + 1) = t
  show uN ((mpow_l15 c mo d a more sh S more 32).2 (mo + 9) k) = (uN ((mpow_l15 c mo d a more sh S more 32).2 (mo + 9) k) + 2 ^ 16 * t) % 2 ^ 16
  omega
theorem bit16 {x : Int32} {E j : Nat} (hx : uN x = E / 2 ^ (16 * (j / 16)) % 2 ^ 16) : ((x >>> (nI (j % 2 ^ 4) &&& 31)) &&& nI 1) ≠ nI 1 ↔ E / 2 ^ j % 2 = 0 := by
  have hl : uN x < 2 ^ 16 := by rw [hx]; exact Nat.mod_lt _ (by decide)
  have e : uN ((x >>> (nI (j % 2 ^ 4) &&& 31)) &&& nI 1) = E / 2 ^ j % 2 := by
    have e1 : uN ((x >>> (nI (j % 2 ^ 4) &&& 31)) &&& nI (2 ^ 1 - 1)) = uN (x >>> (nI (j % 2 ^ 4) &&& 31)) % 2 ^ 1 := uN_and (by decide)
    rw [sh_nat (by omega) (by omega), hx] at e1
    have e2 : uN ((x >>> (nI (j % 2 ^ 4) &&& 31)) &&& nI 1) = E / 2 ^ (16 * (j / 16)) % 2 ^ 16 / 2 ^ (j % 16) % 2 := e1
    rw [e2]
    have hk : j % 16 < 16 := Nat.mod_lt _ (by decide)
    have e3 : E / 2 ^ j = E / 2 ^ (16 * (j / 16)) / 2 ^ (j % 16) := by
      rw [Nat.div_div_eq_div_mul, ← Nat.pow_add, show 16 * (j / 16) + j % 16 = j from by omega]
    rw [e3]
    generalize E / 2 ^ (16 * (j / 16)) = F
    generalize j % 16 = k at hk
    have e4 : F % 2 ^ 16 / 2 ^ k % 2 = F / 2 ^ k % 2 := by
      have e5 : (2 : Nat) ^ 16 = 2 ^ k * 2 ^ (16 - k) := by rw [← Nat.pow_add, show k + (16 - k) = 16 from by omega]
      rw [e5, Nat.mod_mul_right_div_self]
      have e6 : (2 : Nat) ^ (16 - k) = 2 * 2 ^ (15 - k) := by rw [show 16 - k = (15 - k) + 1 from by omega, Nat.pow_succ, Nat.mul_comm]
      rw [e6, Nat.mod_mul_right_mod]
    exact e4
  constructor
  · intro h
    have h2 : E / 2 ^ j % 2 < 2 := Nat.mod_lt _ (by decide)
    rcases Nat.lt_or_ge (E / 2 ^ j % 2) 1 with q | q
    · omega
    · exact absurd (uN_ext (e.trans (by rw [show E / 2 ^ j % 2 = 1 from by omega]; decide))) h
  · intro h q
    rw [q, h] at e
    exact absurd e (by decide)
theorem pw_half {c : Bool} (u : Zp c) (E k : Nat) : u ^ (E / 2 ^ k) = if E / 2 ^ k % 2 = 0 then u ^ (E / 2 ^ (k + 1)) * u ^ (E / 2 ^ (k + 1)) else u ^ (E / 2 ^ (k + 1)) * u ^ (E / 2 ^ (k + 1)) * u := by
  have e : E / 2 ^ (k + 1) = E / 2 ^ k / 2 := by rw [Nat.pow_succ, Nat.div_div_eq_div_mul]
  rw [e]
  generalize E / 2 ^ k = n
  rw [zp_sq]
  by_cases h : n % 2 = 0
  · rw [if_pos h, show 2 * (n / 2) = n from by omega]
  · rw [if_neg h, zp_x, show 2 * (n / 2) + 1 = n from by omega]
theorem mpow_m (c : Bool) (mo d a : Nat) (more : Int32) (sh : Nat) (S : StT) {E : Nat} {u : Zp c} (hsh : sh ≤ 16) (hp : MD S.1 mo (9 + bN c) (nt_p c)) (hm : -2 ≤ more.toInt ∧ more.toInt ≤ 3) (hE : (E : Int) = (nt_p c : Int) + more.toInt) (hd : d ≠ 9 + bN c) (ha : MV c S.1 mo a u) :
    MV c (mpow_f c mo d a more sh S).1 mo d (u ^ (E / 2 ^ sh)) ∧ MX mo (fun x => x = 23 ∨ x = 24 ∨ x = d) (mpow_f c mo d a more sh S) S := by
  have hbN : bN c ≤ 1 := by cases c <;> decide
  obtain ⟨x1, x2⟩ := mexp_m c mo d a more sh S hp hm hE
  unfold mpow_f
  dsimp only
  generalize (mpow_l15 c mo d a more sh S more 32).1 = v2
  generalize (mpow_l15 c mo d a more sh S more 32).2 = I0 at x1 x2 ⊢
  have M0 : MX mo (fun x => x = 23 ∨ x = 24 ∨ x = d) (I0, S.2.1, S.2.2) S := ⟨fun r _ h9 => x2 r h9, fun x _ i _ => by show I0 (mo + 7) _ = _; rw [x2 (mo + 7) (by omega)], fun _ _ => rfl, rfl⟩
  have ha0 : MV c I0 mo a u := by
    refine ⟨ha.1, fun i hi => ?_⟩
    rw [← ha.2 i hi]
    unfold mq
    rw [x2 (mo + 7) (by omega)]
  obtain ⟨c1, c2, c3⟩ := mcopy_m mo 23 a (I0, S.2.1, S.2.2) ha0
  have c4 : MF mo 23 (mcopy_f mo 23 a (I0, S.2.1, S.2.2)).1 I0 := c2
  have M1 : MX mo (fun x => x = 23 ∨ x = 24 ∨ x = d) (mcopy_f mo 23 a (I0, S.2.1, S.2.2)) (I0, S.2.1, S.2.2) := MX_of2 (Or.inl rfl) c2 c3
  generalize mcopy_f mo 23 a (I0, S.2.1, S.2.2) = T1 at c1 c4 M1 ⊢
  obtain ⟨s1, s2, s3⟩ := msmall_m mo 24 (nI 1) T1
  have M2 : MX mo (fun x => x = 23 ∨ x = 24 ∨ x = d) (msmall_f mo 24 (nI 1) T1) T1 := MX_of2 (Or.inr (Or.inl rfl)) s2 s3
  generalize msmall_f mo 24 (nI 1) T1 = T2 at s1 s2 M2 ⊢
  have g23 : MV c T2.1 mo 23 u := MD_fr s2 (by decide) c1
  have g24 : MV c T2.1 mo 24 1 := by
    have e : ((1 : Zp c)).val = 1 := by
      have h := fz_vl c 1
      rw [fz_1, Int.emod_eq_of_lt (by decide) (by have := fp_two c; omega)] at h
      omega
    show MD T2.1 mo 24 ((1 : Zp c)).val
    rw [e]
    exact s1
  have hE9 : ∀ k, k < 28 → uN (T2.1 (mo + 9) k) = E / 2 ^ (16 * k) % 2 ^ 16 := by
    intro k hk
    rw [s2.1 (mo + 9) (by omega), c4.1 (mo + 9) (by omega)]
    exact x1 k hk
  have hpn := pN_b c
  have hEl : E < 2 ^ (16 * pN c) := by
    have h5 : nt_p c + 3 < 2 ^ (16 * pN c) := by
      cases c
      · rw [nt_p0]; decide +kernel
      · rw [nt_p1]; decide +kernel
    omega
  have hp2 : MD T2.1 mo (9 + bN c) (nt_p c) := MD_mx M2 (by omega) (MD_mx M1 (by omega) (MD_mx M0 (by omega) hp))
  have key : ∀ i, i ≤ 16 * pN c → MV c (mpow_l90 c mo d a more sh T2 v2 T2 i).1 mo 24 (u ^ (E / 2 ^ (16 * pN c - i))) ∧ MX mo (fun x => x = 24) (mpow_l90 c mo d a more sh T2 v2 T2 i) T2 ∧ ∀ k, k < 28 → uN ((mpow_l90 c mo d a more sh T2 v2 T2 i).1 (mo + 9) k) = E / 2 ^ (16 * k) % 2 ^ 16 := by
    intro i
    induction i with
    | zero =>
      intro _
      rw [Nat.sub_zero, Nat.div_eq_of_lt hEl, Lean.Grind.Semiring.pow_zero]
      exact ⟨g24, MX_rfl _ _ _, hE9⟩
    | succ i ih =>
      intro hi
      obtain ⟨i1, i2, i3⟩ := ih (by omega)
      have st : mpow_l90 c mo d a more sh T2 v2 T2 (i + 1) = (if ((((mmul_f c (mo) (24) (24) (24) (mpow_l90 c mo d a more sh T2 v2 T2 i)).1 (mo + 9) (((16 * pN c) - 1 - i) / 2 ^ 4)) >>> ((nI (((16 * pN c) - 1 - i) % 2 ^ 4)) &&& 31)) &&& (nI (1))) ≠ (nI (1)) then mmul_f c (mo) (24) (24) (24) (mpow_l90 c mo d a more sh T2 v2 T2 i) else mmul_f c (mo) (24) (24) (23) (mmul_f c (mo) (24) (24) (24) (mpow_l90 c mo d a more sh T2 v2 T2 i))) := rfl
      rw [st]
      clear st
      generalize mpow_l90 c mo d a more sh T2 v2 T2 i = Y at i1 i2 i3 ⊢
      have hpY : MD Y.1 mo (9 + bN c) (nt_p c) := MD_mx i2 (by omega) hp2
      obtain ⟨m1, m2, m3, m4⟩ := mmul_m c mo 24 24 24 Y (by omega) hpY i1 i1
      have MXm : MX mo (fun x => x = 24) (mmul_f c mo 24 24 24 Y) T2 := MX_tr (MX_of rfl m2 m3 m4) i2
      have r9 : ∀ k, k < 28 → uN ((mmul_f c mo 24 24 24 Y).1 (mo + 9) k) = E / 2 ^ (16 * k) % 2 ^ 16 := fun k hk => by rw [m2.1 (mo + 9) (by omega)]; exact i3 k hk
      generalize mmul_f c mo 24 24 24 Y = Z at m1 MXm r9 ⊢
      have hbit := bit16 (j := 16 * pN c - 1 - i) (r9 ((16 * pN c - 1 - i) / 16) (by omega))
      have hh := pw_half u E (16 * pN c - 1 - i)
      rw [show 16 * pN c - 1 - i + 1 = 16 * pN c - i from by omega] at hh
      rw [show 16 * pN c - (i + 1) = 16 * pN c - 1 - i from by omega, hh]
      by_cases q : E / 2 ^ (16 * pN c - 1 - i) % 2 = 0
      · rw [if_pos (hbit.mpr q), if_pos q]
        exact ⟨m1, MXm, r9⟩
      · rw [if_neg (fun h => q (hbit.mp h)), if_neg q]
        obtain ⟨n1, n2, n3, n4⟩ := mmul_m c mo 24 24 23 Z (by omega) (MD_mx MXm (by omega) hp2) m1 (MV_mx MXm (by omega) g23)
        exact ⟨n1, MX_tr (MX_of rfl n2 n3 n4) MXm, fun k hk => by rw [n2.1 (mo + 9) (by omega)]; exact r9 k hk⟩
  obtain ⟨k1, k2, _⟩ := key (16 * pN c - sh) (by omega)
  rw [show 16 * pN c - (16 * pN c - sh) = sh from by omega] at k1
  generalize mpow_l90 c mo d a more sh T2 v2 T2 (16 * pN c - sh) = Y at k1 k2 ⊢
  obtain ⟨e1, e2, e3⟩ := mcopy_m mo d 24 Y k1
  exact ⟨e1, MX_tr (MX_of2 (Or.inr (Or.inr rfl)) e2 e3) (MX_tr (MX_le (fun x hx => Or.inr (Or.inl hx)) k2) (MX_tr M2 (MX_tr M1 M0)))⟩
theorem minv_m (c : Bool) (mo d a : Nat) (S : StT) {u : Zp c} (hp : MD S.1 mo (9 + bN c) (nt_p c)) (hd : d ≠ 9 + bN c) (ha : MV c S.1 mo a u) :
    MV c (minv_f c mo d a S).1 mo d (fp_iv c u) ∧ MX mo (fun x => x = 23 ∨ x = 24 ∨ x = d) (minv_f c mo d a S) S := by
  have h2 := fp_two c
  have h := mpow_m c mo d a (-2) 0 S (E := nt_p c - 2) (by decide) hp (by decide) (by rw [show (-2 : Int32).toInt = -2 from by decide]; omega) hd ha
  rw [Nat.pow_zero, Nat.div_one] at h
  exact h
end
