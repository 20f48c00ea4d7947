/-! VALUES: the model's maker behind its root constants (body.py) -/
def MY (mo : Nat) (D : Nat → Prop) (T S : StT) : Prop := (∀ r, r ≠ mo + 7 → r ≠ mo + 9 → T.1 r = S.1 r) ∧ (∀ x, ¬ D x → ∀ i, i < 32 → T.1 (mo + 7) (32 * x + i) = S.1 (mo + 7) (32 * x + i)) ∧ (∀ r, r ≠ mo + 8 → T.2.1 r = S.2.1 r)
theorem MY_of {mo : Nat} {D : Nat → Prop} {T S : StT} {F : Nat → Nat → Int32} (h : MX mo D T (S.1, S.2.1, F)) : MY mo D T S := ⟨h.1, h.2.1, h.2.2.1⟩
theorem MY_of2 {mo : Nat} {D : Nat → Prop} {T : StT} {I : Nat → Nat → Int32} {J : Nat → Nat → Int64} {F G : Nat → Nat → Int32} (h : MX mo D T (I, J, F)) : MY mo D T (I, J, G) := ⟨h.1, h.2.1, h.2.2.1⟩
theorem MY_tr {mo : Nat} {D : Nat → Prop} {T U S : StT} (h1 : MY mo D T U) (h2 : MY mo D U S) : MY mo D T S := ⟨fun r a b => (h1.1 r a b).trans (h2.1 r a b), fun x hx i hi => (h1.2.1 x hx i hi).trans (h2.2.1 x hx i hi), fun r hr => (h1.2.2 r hr).trans (h2.2.2 r hr)⟩
theorem MY_le {mo : Nat} {D E : Nat → Prop} {T S : StT} (h : ∀ x, D x → E x) (h1 : MY mo D T S) : MY mo E T S := ⟨h1.1, fun x hx => h1.2.1 x (fun q => hx (h x q)), h1.2.2⟩
theorem MD_my {mo : Nat} {D : Nat → Prop} {T S : StT} {a n : Nat} (h : MY mo D T S) (ha : ¬ D a) (hk : MD S.1 mo a n) : MD T.1 mo a n := ⟨hk.1, fun i hi => by show uN (T.1 (mo + 7) (32 * a + i)) = _; rw [h.2.1 a ha i hi]; exact hk.2 i hi⟩
theorem MV_my {c : Bool} {mo : Nat} {D : Nat → Prop} {T S : StT} {a : Nat} {u : Zp c} (h : MY mo D T S) (ha : ¬ D a) (hk : MV c S.1 mo a u) : MV c T.1 mo a u := MD_my h ha hk
theorem MP_my {c : Bool} {mo : Nat} {D : Nat → Prop} {T S : StT} {a : Nat} {P : Pt c} (h : MY mo D T S) (h0 : ¬ D a) (h1 : ¬ D (a + 1)) (h2 : ¬ D (a + 2)) (hk : MP c S.1 mo a P) : MP c T.1 mo a P := by
  obtain ⟨on, x, y, z, q1, q2, q3, q4⟩ := hk
  exact ⟨on, x, y, z, MV_my h h0 q1, MV_my h h1 q2, MV_my h h2 q3, q4⟩
theorem ZV_my {mo a : Nat} {D : Nat → Prop} {T S : StT} {g : Nat → Int32} (h : MY mo D T S) (ha : ¬ D a) (hk : ZV S.1 mo a g) : ZV T.1 mo a g := fun k hk2 => (h.2.1 a ha k hk2).trans (hk k hk2)
theorem fz_sm {c : Bool} {n : Nat} (h : n < nt_p c) : (fz c (n : Int)).val = n := by
  have e := fz_vl c (n : Int)
  rw [Int.emod_eq_of_lt (by omega) (by omega)] at e
  omega
theorem sm_v (c : Bool) (mo a : Nat) (v : Int32) (n : Nat) (S : StT) (hv : uN v = n) (hn : n < nt_p c) : MV c (msmall_f mo a v S).1 mo a (fz c (n : Int)) ∧ MX mo (fun x => x = a) (msmall_f mo a v S) S := by
  obtain ⟨h1, h2, h3⟩ := msmall_m mo a v S
  refine ⟨?_, MX_of2 rfl h2 h3⟩
  unfold MV
  rw [fz_sm hn, ← hv]
  exact h1
theorem d_eq : (0 : Zp false) - fz false ((121665 : Nat) : Int) * fp_iv false (fz false ((121666 : Nat) : Int)) = fp_d false := by
  have h1 : fz false ((121666 : Nat) : Int) * fp_iv false (fz false ((121666 : Nat) : Int)) = 1 := fp_inv (by rw [← fz_0 false, Ne, fz_eq]; decide +kernel)
  have h2 : fp_d false * fz false ((121666 : Nat) : Int) = - fz false ((121665 : Nat) : Int) := by
    unfold fp_d
    rw [← fz_neg, ← fz_mul, fz_eq]
    decide +kernel
  generalize fp_iv false (fz false ((121666 : Nat) : Int)) = w at *
  generalize fz false ((121666 : Nat) : Int) = b at *
  generalize fz false ((121665 : Nat) : Int) = a at *
  generalize fp_d false = d at *
  grind
theorem y_eq : fz false ((4 : Nat) : Int) * fp_iv false (fz false ((5 : Nat) : Int)) = (Bp false).2 := by
  have h1 : fz false ((5 : Nat) : Int) * fp_iv false (fz false ((5 : Nat) : Int)) = 1 := fp_inv (by rw [← fz_0 false, Ne, fz_eq]; decide +kernel)
  have h2 : (Bp false).2 * fz false ((5 : Nat) : Int) = fz false ((4 : Nat) : Int) := by
    show fz false (bY false : Int) * _ = _
    rw [← fz_mul, fz_eq]
    decide +kernel
  generalize fp_iv false (fz false ((5 : Nat) : Int)) = w at *
  generalize fz false ((5 : Nat) : Int) = b at *
  generalize fz false ((4 : Nat) : Int) = a at *
  generalize (Bp false).2 = d at *
  grind
theorem d1_eq : (0 : Zp true) - fz true ((39081 : Nat) : Int) = fp_d true := by
  rw [← fz_0 true, ← fz_sub]
  rfl
def g9f : Nat → Int32 := fun k => if k = 0 then 65517 else g9 28 k
def g10f : Nat → Int32 := fun k => if k = 14 then 65534 else g10 28 k
theorem g9_ok : ∀ k, k < 32 → uN (g9f k) = nt_p false / 2 ^ (16 * k) % 2 ^ 16 := by decide +kernel
theorem g10_ok : ∀ k, k < 32 → uN (g10f k) = nt_p true / 2 ^ (16 * k) % 2 ^ 16 := by decide +kernel
def g19 : Nat → Int32 := fun k => if k = 15 then nI 4096 else pcz 4 1503914060200516822 (pcz 0 6346243789798364141 (fun _ => 0)) k
theorem g19_ok : ∀ k, k < 32 → uN (g19 k) = gO false / 2 ^ (16 * k) % 2 ^ 16 := by decide +kernel
theorem mbody_m (mo : Nat) (S S1 : StT) (hS1 : mrtC_f mo S = S1) (h9 : ZV S1.1 mo 9 (fun _ => 0)) (h10 : ZV S1.1 mo 10 (fun _ => 0)) (h19 : ZV S1.1 mo 19 (fun _ => 0)) :
    (∀ c : Bool, MC c (mbody_f mo S).1 mo ∧ MP c (mbody_f mo S).1 mo (13 + 3 * bN c) (Bp c) ∧ MD (mbody_f mo S).1 mo (19 + bN c) (gO c)) ∧ (∀ p, p < 3 → MP false (mbody_f mo S).1 mo (3 * p) (0, 1)) ∧ (∀ r, r ≠ mo + 7 → r ≠ mo + 9 → (mbody_f mo S).1 r = S1.1 r) ∧ (∀ r, r ≠ mo + 8 → (mbody_f mo S).2.1 r = S1.2.1 r) ∧ (∀ r, r ≠ mo → (mbody_f mo S).2.2 r = S.2.2 r) ∧ ∀ q, q ≠ 13 → q ≠ 14 → (mbody_f mo S).2.2 mo q = S.2.2 mo q := by
  generalize hT : mbody_f mo S = T
  unfold mbody_f at hT
  replace hT := hT.symm
  extract_lets s1 I2 S3 S4 S5 S6 S7 S8 S9 S10 S11 S12 S13 S14 S15 S16 r17 S18 S19 S20 S21 S22 S23 S24 S25 S26 S27 at hT
  have es : S1 = s1 := hS1.symm
  clear_value s1
  subst es
  obtain ⟨l1, l2, l3, l4⟩ := prm_lp mo S1 (S1.1, S1.2.1, S.2.2) h9 h10 28 (Nat.le_refl _)
  have e2 : I2 = va_up (mbody_l265 mo S1 (S1.1, S1.2.1, S.2.2) 28) (mo + 7) (upd ((mbody_l265 mo S1 (S1.1, S1.2.1, S.2.2) 28) (mo + 7)) 288 65517) := rfl
  clear_value I2
  have p9a := zv_up (q := 0) 65517 l1
  have p10a := zv_oth (j := 288) 65517 (by decide) l2
  have m0a : (∀ r, r ≠ mo + 7 → I2 r = S1.1 r) ∧ ∀ x, ¬ (x = 9 ∨ x = 10) → ∀ i, i < 32 → I2 (mo + 7) (32 * x + i) = S1.1 (mo + 7) (32 * x + i) := by
    rw [e2]
    refine ⟨fun r a => ?_, fun x hx i hi => ?_⟩
    · rw [vu_n a]
      exact l3 r a
    · rw [vu_s, pk_un (by omega)]
      exact l4 x hx i hi
  have p9b : ZV I2 mo 9 (fun k => if k = 0 then 65517 else g9 28 k) := by
    rw [e2]
    exact p9a
  have p10b : ZV I2 mo 10 (g10 28) := by
    rw [e2]
    exact p10a
  clear p9a p10a l1 l2 l3 l4 e2
  have p9 := zv_oth (j := 334) 65534 (by decide) p9b
  have p10 := zv_up (q := 14) 65534 p10b
  have e3 : S3 = mpiece_f mo 19 0 6346243789798364141 (va_up I2 (mo + 7) (upd (I2 (mo + 7)) (32 * 10 + 14) 65534), S1.2.1, S.2.2) := rfl
  clear_value S3
  have p9' : ZV (va_up I2 (mo + 7) (upd (I2 (mo + 7)) (32 * 10 + 14) 65534)) mo 9 (fun k => if k = 0 then 65517 else g9 28 k) := p9
  have m1 : MY mo (fun x => x = 9 ∨ x = 10) (va_up I2 (mo + 7) (upd (I2 (mo + 7)) (32 * 10 + 14) 65534), S1.2.1, S.2.2) S1 := by
    refine ⟨fun r a _ => ?_, fun x hx i hi => ?_, fun _ _ => rfl⟩
    · show va_up I2 (mo + 7) _ r = S1.1 r
      rw [vu_n a]
      exact m0a.1 r a
    · show va_up I2 (mo + 7) _ (mo + 7) (32 * x + i) = S1.1 (mo + 7) (32 * x + i)
      rw [vu_s, pk_un (by omega)]
      exact m0a.2 x hx i hi
  have q9 := ZV_MD (n := nt_p false) p9' (by decide +kernel) g9_ok
  have q10 := ZV_MD (n := nt_p true) p10 (by decide +kernel) g10_ok
  have h19' := ZV_my m1 (by omega) h19
  clear p9 p9' p10 p9b p10b m0a
  generalize va_up I2 (mo + 7) (upd (I2 (mo + 7)) (32 * 10 + 14) 65534) = I3 at m1 q9 q10 h19' e3
  have t2 : MY mo (fun _ => True) (I3, S1.2.1, S.2.2) S1 := MY_le (fun _ _ => trivial) m1
  obtain ⟨z3, x3⟩ := mpiece_z (at_ := 0) (v := 6346243789798364141) (S := (I3, S1.2.1, S.2.2)) (by decide) h19'
  have y3 := MY_of2 (G := S.2.2) x3
  replace q9 := MD_my y3 (by omega) q9
  replace q10 := MD_my y3 (by omega) q10
  have t3 := MY_tr (MY_le (E := fun _ => True) (fun _ _ => trivial) y3) t2
  clear y3
  rw [← e3] at q9 q10 z3 t3
  clear e3
  obtain ⟨z4, x4⟩ := mpiece_z (at_ := 4) (v := 1503914060200516822) (S := (S3.1, S3.2.1, S.2.2)) (by decide) z3
  have y4 := MY_of x4
  replace q9 := MD_my y4 (by omega) q9
  replace q10 := MD_my y4 (by omega) q10
  have t4 := MY_tr (MY_le (E := fun _ => True) (fun _ _ => trivial) y4) t3
  clear y4
  have e4 : S4 = mpiece_f mo 19 4 1503914060200516822 (S3.1, S3.2.1, S.2.2) := rfl
  clear_value S4
  rw [← e4] at q9 q10 z4 t4
  clear e4
  have z5 := zv_up (q := 15) (nI 4096) z4
  have y5 : MY mo (fun x => x = 19) (va_up S4.1 (mo + 7) (upd (S4.1 (mo + 7)) 623 (nI 4096)), S4.2.1, S.2.2) S4 := MY_of (F := S.2.2) (MX_of2 (d := 19) rfl (mf_up _ mo 19 15 _ (by decide)) rfl)
  have o19 : MD (va_up S4.1 (mo + 7) (upd (S4.1 (mo + 7)) 623 (nI 4096))) mo 19 (gO false) := ZV_MD z5 (by decide +kernel) g19_ok
  replace q9 := MD_my y5 (by omega) q9
  replace q10 := MD_my y5 (by omega) q10
  have t5 := MY_tr (MY_le (E := fun _ => True) (fun _ _ => trivial) y5) t4
  have e5 : S5 = mo448_f mo (va_up S4.1 (mo + 7) (upd (S4.1 (mo + 7)) 623 (nI 4096)), S4.2.1, S.2.2) := rfl
  clear_value S5
  clear y5 z5 z4 z3
  generalize va_up S4.1 (mo + 7) (upd (S4.1 (mo + 7)) 623 (nI 4096)) = I5 at q9 q10 o19 t5 e5
  obtain ⟨o20, x5⟩ := mo448_m mo (I5, S4.2.1, S.2.2)
  have y5 := MY_of2 (G := S.2.2) x5
  replace q9 := MD_my y5 (by omega) q9
  replace q10 := MD_my y5 (by omega) q10
  replace o19 := MD_my y5 (by omega) o19
  have t5 := MY_tr (MY_le (E := fun _ => True) (fun _ _ => trivial) y5) t5
  clear y5
  rw [← e5] at q9 q10 o19 o20 t5
  clear e5
  have ec1 : (mcho_f false mo (S5.1, S5.2.1, S.2.2)).1 = S5.1 := rfl
  have ec2 : (mcho_f false mo (S5.1, S5.2.1, S.2.2)).2.1 = S5.2.1 := rfl
  have t6 : MY mo (fun _ => True) (mcho_f false mo (S5.1, S5.2.1, S.2.2)) S1 := ⟨by rw [ec1]; exact t5.1, by rw [ec1]; exact t5.2.1, by rw [ec2]; exact t5.2.2⟩
  rw [← ec1] at q9
  rw [← ec1] at q10
  rw [← ec1] at o19
  rw [← ec1] at o20
  have e6 : S6 = mcho_f false mo (S5.1, S5.2.1, S.2.2) := rfl
  clear_value S6
  rw [← e6] at q9 q10 o19 o20 t6
  clear e6 ec1 ec2
  obtain ⟨a21, xx⟩ := sm_v false mo 21 121665 121665 (S6.1, S6.2.1, fs (fs S.2.2 mo 13 (nI (bN false))) mo 14 (nI (pN false))) (by decide) (by decide +kernel)
  have yy := MY_of xx
  clear xx
  replace q9 := MD_my yy (by omega) q9
  replace q10 := MD_my yy (by omega) q10
  replace o19 := MD_my yy (by omega) o19
  replace o20 := MD_my yy (by omega) o20
  have t7 := MY_tr (MY_le (E := fun _ => True) (fun _ _ => trivial) yy) t6
  clear yy
  have e7 : S7 = msmall_f mo 21 121665 (S6.1, S6.2.1, fs (fs S.2.2 mo 13 (nI (bN false))) mo 14 (nI (pN false))) := rfl
  clear_value S7
  rw [← e7] at q9 q10 o19 o20 a21 t7
  clear e7
  obtain ⟨a22, xx⟩ := sm_v false mo 22 121666 121666 (S7.1, S7.2.1, fs (fs S.2.2 mo 13 (nI (bN false))) mo 14 (nI (pN false))) (by decide) (by decide +kernel)
  have yy := MY_of xx
  clear xx
  replace q9 := MD_my yy (by omega) q9
  replace q10 := MD_my yy (by omega) q10
  replace o19 := MD_my yy (by omega) o19
  replace o20 := MD_my yy (by omega) o20
  replace a21 := MV_my yy (by omega) a21
  have t8 := MY_tr (MY_le (E := fun _ => True) (fun _ _ => trivial) yy) t7
  clear yy
  have e8 : S8 = msmall_f mo 22 121666 (S7.1, S7.2.1, fs (fs S.2.2 mo 13 (nI (bN false))) mo 14 (nI (pN false))) := rfl
  clear_value S8
  rw [← e8] at q9 q10 o19 o20 a21 a22 t8
  clear e8
  have xx0 := minv_m false mo 22 22 (S8.1, S8.2.1, fs (fs S.2.2 mo 13 (nI (bN false))) mo 14 (nI (pN false))) q9 (by decide) a22
  clear a22
  obtain ⟨a22, xx⟩ := xx0
  have yy := MY_of xx
  clear xx
  replace q9 := MD_my yy (by omega) q9
  replace q10 := MD_my yy (by omega) q10
  replace o19 := MD_my yy (by omega) o19
  replace o20 := MD_my yy (by omega) o20
  replace a21 := MV_my yy (by omega) a21
  have t9 := MY_tr (MY_le (E := fun _ => True) (fun _ _ => trivial) yy) t8
  clear yy
  have e9 : S9 = minv_f false mo 22 22 (S8.1, S8.2.1, fs (fs S.2.2 mo 13 (nI (bN false))) mo 14 (nI (pN false))) := rfl
  clear_value S9
  rw [← e9] at q9 q10 o19 o20 a21 a22 t9
  clear e9
  obtain ⟨e1, e2, e3, e4⟩ := mmul_m false mo 21 21 22 (S9.1, S9.2.1, fs (fs S.2.2 mo 13 (nI (bN false))) mo 14 (nI (pN false))) (by decide) q9 a21 a22
  clear a21
  have a21 := e1
  have xx : MX mo (fun x => x = 21) _ _ := MX_of rfl e2 e3 e4
  clear e1 e2 e3 e4
  have yy := MY_of xx
  clear xx
  replace q9 := MD_my yy (by omega) q9
  replace q10 := MD_my yy (by omega) q10
  replace o19 := MD_my yy (by omega) o19
  replace o20 := MD_my yy (by omega) o20
  replace a22 := MV_my yy (by omega) a22
  have t10 := MY_tr (MY_le (E := fun _ => True) (fun _ _ => trivial) yy) t9
  clear yy
  have e10 : S10 = mmul_f false mo 21 21 22 (S9.1, S9.2.1, fs (fs S.2.2 mo 13 (nI (bN false))) mo 14 (nI (pN false))) := rfl
  clear_value S10
  rw [← e10] at q9 q10 o19 o20 a22 a21 t10
  clear e10
  clear a22
  obtain ⟨a22, e2, e3⟩ := mzero_v false mo 22 (S10.1, S10.2.1, fs (fs S.2.2 mo 13 (nI (bN false))) mo 14 (nI (pN false)))
  have xx : MX mo (fun x => x = 22) _ _ := MX_of2 rfl e2 e3
  clear e2 e3
  have yy := MY_of xx
  clear xx
  replace q9 := MD_my yy (by omega) q9
  replace q10 := MD_my yy (by omega) q10
  replace o19 := MD_my yy (by omega) o19
  replace o20 := MD_my yy (by omega) o20
  replace a21 := MV_my yy (by omega) a21
  have t11 := MY_tr (MY_le (E := fun _ => True) (fun _ _ => trivial) yy) t10
  clear yy
  have e11 : S11 = mzero_f mo 22 (S10.1, S10.2.1, fs (fs S.2.2 mo 13 (nI (bN false))) mo 14 (nI (pN false))) := rfl
  clear_value S11
  rw [← e11] at q9 q10 o19 o20 a21 a22 t11
  clear e11
  obtain ⟨d11, e2, e3, e4⟩ := mminus_m false mo 11 22 21 (S11.1, S11.2.1, fs (fs S.2.2 mo 13 (nI (bN false))) mo 14 (nI (pN false))) (by decide) q9 a22 a21
  rw [d_eq] at d11
  have xx : MX mo (fun x => x = 11) _ _ := MX_of rfl e2 e3 e4
  clear e2 e3 e4
  have yy := MY_of xx
  clear xx
  replace q9 := MD_my yy (by omega) q9
  replace q10 := MD_my yy (by omega) q10
  replace o19 := MD_my yy (by omega) o19
  replace o20 := MD_my yy (by omega) o20
  replace a21 := MV_my yy (by omega) a21
  replace a22 := MV_my yy (by omega) a22
  have t12 := MY_tr (MY_le (E := fun _ => True) (fun _ _ => trivial) yy) t11
  clear yy
  have e12 : S12 = mminus_f false mo 11 22 21 (S11.1, S11.2.1, fs (fs S.2.2 mo 13 (nI (bN false))) mo 14 (nI (pN false))) := rfl
  clear_value S12
  rw [← e12] at q9 q10 o19 o20 a21 a22 d11 t12
  clear e12
  clear a21 a22
  obtain ⟨a21, xx⟩ := sm_v false mo 21 (nI 4) 4 (S12.1, S12.2.1, fs (fs S.2.2 mo 13 (nI (bN false))) mo 14 (nI (pN false))) (by decide) (by decide +kernel)
  have yy := MY_of xx
  clear xx
  replace q9 := MD_my yy (by omega) q9
  replace q10 := MD_my yy (by omega) q10
  replace o19 := MD_my yy (by omega) o19
  replace o20 := MD_my yy (by omega) o20
  replace d11 := MV_my yy (by omega) d11
  have t13 := MY_tr (MY_le (E := fun _ => True) (fun _ _ => trivial) yy) t12
  clear yy
  have e13 : S13 = msmall_f mo 21 (nI 4) (S12.1, S12.2.1, fs (fs S.2.2 mo 13 (nI (bN false))) mo 14 (nI (pN false))) := rfl
  clear_value S13
  rw [← e13] at q9 q10 o19 o20 d11 a21 t13
  clear e13
  obtain ⟨a22, xx⟩ := sm_v false mo 22 (nI 5) 5 (S13.1, S13.2.1, fs (fs S.2.2 mo 13 (nI (bN false))) mo 14 (nI (pN false))) (by decide) (by decide +kernel)
  have yy := MY_of xx
  clear xx
  replace q9 := MD_my yy (by omega) q9
  replace q10 := MD_my yy (by omega) q10
  replace o19 := MD_my yy (by omega) o19
  replace o20 := MD_my yy (by omega) o20
  replace d11 := MV_my yy (by omega) d11
  replace a21 := MV_my yy (by omega) a21
  have t14 := MY_tr (MY_le (E := fun _ => True) (fun _ _ => trivial) yy) t13
  clear yy
  have e14 : S14 = msmall_f mo 22 (nI 5) (S13.1, S13.2.1, fs (fs S.2.2 mo 13 (nI (bN false))) mo 14 (nI (pN false))) := rfl
  clear_value S14
  rw [← e14] at q9 q10 o19 o20 d11 a21 a22 t14
  clear e14
  have xx0 := minv_m false mo 22 22 (S14.1, S14.2.1, fs (fs S.2.2 mo 13 (nI (bN false))) mo 14 (nI (pN false))) q9 (by decide) a22
  clear a22
  obtain ⟨a22, xx⟩ := xx0
  have yy := MY_of xx
  clear xx
  replace q9 := MD_my yy (by omega) q9
  replace q10 := MD_my yy (by omega) q10
  replace o19 := MD_my yy (by omega) o19
  replace o20 := MD_my yy (by omega) o20
  replace d11 := MV_my yy (by omega) d11
  replace a21 := MV_my yy (by omega) a21
  have t15 := MY_tr (MY_le (E := fun _ => True) (fun _ _ => trivial) yy) t14
  clear yy
  have e15 : S15 = minv_f false mo 22 22 (S14.1, S14.2.1, fs (fs S.2.2 mo 13 (nI (bN false))) mo 14 (nI (pN false))) := rfl
  clear_value S15
  rw [← e15] at q9 q10 o19 o20 d11 a21 a22 t15
  clear e15
  obtain ⟨e1, e2, e3, e4⟩ := mmul_m false mo 14 21 22 (S15.1, S15.2.1, fs (fs S.2.2 mo 13 (nI (bN false))) mo 14 (nI (pN false))) (by decide) q9 a21 a22
  have y14 := e1
  have xx : MX mo (fun x => x = 14) _ _ := MX_of rfl e2 e3 e4
  clear e1 e2 e3 e4
  have yy := MY_of xx
  clear xx
  replace q9 := MD_my yy (by omega) q9
  replace q10 := MD_my yy (by omega) q10
  replace o19 := MD_my yy (by omega) o19
  replace o20 := MD_my yy (by omega) o20
  replace d11 := MV_my yy (by omega) d11
  replace a21 := MV_my yy (by omega) a21
  replace a22 := MV_my yy (by omega) a22
  have t16 := MY_tr (MY_le (E := fun _ => True) (fun _ _ => trivial) yy) t15
  clear yy
  have e16 : S16 = mmul_f false mo 14 21 22 (S15.1, S15.2.1, fs (fs S.2.2 mo 13 (nI (bN false))) mo 14 (nI (pN false))) := rfl
  clear_value S16
  rw [← e16] at q9 q10 o19 o20 d11 a21 a22 y14 t16
  clear e16
  rw [y_eq] at y14
  clear a21 a22
  obtain ⟨b13, xx, xr⟩ := mrb_m false mo 13 14 (S16.1, S16.2.1, fs (fs S.2.2 mo 13 (nI (bN false))) mo 14 (nI (pN false))) rfl (Or.inl rfl) ⟨q9, d11⟩ y14
  have fr := xr.2.2.2
  clear xr
  clear y14
  have e17 : r17 = mroot_f false mo 13 14 (S16.1, S16.2.1, fs (fs S.2.2 mo 13 (nI (bN false))) mo 14 (nI (pN false))) := rfl
  clear_value r17
  rw [← e17] at b13 xx fr
  clear e17
  have e18 : S18 = mbase_f false mo 13 (nI 0) (r17.2.1, r17.2.2.1, fs (fs S.2.2 mo 13 (nI (bN false))) mo 14 (nI (pN false))) := rfl
  clear_value S18
  rw [show ((r17.2.1, r17.2.2.1, fs (fs S.2.2 mo 13 (nI (bN false))) mo 14 (nI (pN false))) : StT) = r17.2 from by rw [show fs (fs S.2.2 mo 13 (nI (bN false))) mo 14 (nI (pN false)) = r17.2.2.2 from fr.symm]] at e18
  have yy := MY_of xx
  clear xx fr
  have hD : ∀ q, mbG 13 q → ((23 ≤ q ∧ q ≤ 28) ∨ q = 13 ∨ q = 15) := fun q h => h
  replace yy := MY_le hD yy
  clear hD
  replace q9 := MD_my yy (by omega) q9
  replace q10 := MD_my yy (by omega) q10
  replace o19 := MD_my yy (by omega) o19
  replace o20 := MD_my yy (by omega) o20
  replace d11 := MV_my yy (by omega) d11
  have t18 := MY_tr (MY_le (E := fun _ => True) (fun _ _ => trivial) yy) t16
  clear yy
  rw [← e18] at q9 q10 o19 o20 d11 b13 t18
  clear e18
  have ec1 : (mcho_f true mo (S18.1, S18.2.1, fs (fs S.2.2 mo 13 (nI (bN false))) mo 14 (nI (pN false)))).1 = S18.1 := rfl
  have ec2 : (mcho_f true mo (S18.1, S18.2.1, fs (fs S.2.2 mo 13 (nI (bN false))) mo 14 (nI (pN false)))).2.1 = S18.2.1 := rfl
  have t19 : MY mo (fun _ => True) (mcho_f true mo (S18.1, S18.2.1, fs (fs S.2.2 mo 13 (nI (bN false))) mo 14 (nI (pN false)))) S1 := ⟨by rw [ec1]; exact t18.1, by rw [ec1]; exact t18.2.1, by rw [ec2]; exact t18.2.2⟩
  rw [← ec1] at q9
  rw [← ec1] at q10
  rw [← ec1] at o19
  rw [← ec1] at o20
  rw [← ec1] at d11
  rw [← ec1] at b13
  have e19 : S19 = mcho_f true mo (S18.1, S18.2.1, fs (fs S.2.2 mo 13 (nI (bN false))) mo 14 (nI (pN false))) := rfl
  clear_value S19
  rw [← e19] at q9 q10 o19 o20 d11 b13 t19
  clear e19 ec1 ec2
  obtain ⟨a22, e2, e3⟩ := mzero_v true mo 22 (S19.1, S19.2.1, fs (fs (fs (fs S.2.2 mo 13 (nI (bN false))) mo 14 (nI (pN false))) mo 13 (nI (bN true))) mo 14 (nI (pN true)))
  have xx : MX mo (fun x => x = 22) _ _ := MX_of2 rfl e2 e3
  clear e2 e3
  have yy := MY_of xx
  clear xx
  replace q9 := MD_my yy (by omega) q9
  replace q10 := MD_my yy (by omega) q10
  replace o19 := MD_my yy (by omega) o19
  replace o20 := MD_my yy (by omega) o20
  replace d11 := MV_my yy (by omega) d11
  replace b13 := MP_my yy (by omega) (by omega) (by omega) b13
  have t20 := MY_tr (MY_le (E := fun _ => True) (fun _ _ => trivial) yy) t19
  clear yy
  have e20 : S20 = mzero_f mo 22 (S19.1, S19.2.1, fs (fs (fs (fs S.2.2 mo 13 (nI (bN false))) mo 14 (nI (pN false))) mo 13 (nI (bN true))) mo 14 (nI (pN true))) := rfl
  clear_value S20
  rw [← e20] at q9 q10 o19 o20 d11 b13 a22 t20
  clear e20
  obtain ⟨a21, xx⟩ := sm_v true mo 21 39081 39081 (S20.1, S20.2.1, fs (fs (fs (fs S.2.2 mo 13 (nI (bN false))) mo 14 (nI (pN false))) mo 13 (nI (bN true))) mo 14 (nI (pN true))) (by decide) (by decide +kernel)
  have yy := MY_of xx
  clear xx
  replace q9 := MD_my yy (by omega) q9
  replace q10 := MD_my yy (by omega) q10
  replace o19 := MD_my yy (by omega) o19
  replace o20 := MD_my yy (by omega) o20
  replace d11 := MV_my yy (by omega) d11
  replace b13 := MP_my yy (by omega) (by omega) (by omega) b13
  replace a22 := MV_my yy (by omega) a22
  have t21 := MY_tr (MY_le (E := fun _ => True) (fun _ _ => trivial) yy) t20
  clear yy
  have e21 : S21 = msmall_f mo 21 39081 (S20.1, S20.2.1, fs (fs (fs (fs S.2.2 mo 13 (nI (bN false))) mo 14 (nI (pN false))) mo 13 (nI (bN true))) mo 14 (nI (pN true))) := rfl
  clear_value S21
  rw [← e21] at q9 q10 o19 o20 d11 b13 a22 a21 t21
  clear e21
  obtain ⟨d12, e2, e3, e4⟩ := mminus_m true mo 12 22 21 (S21.1, S21.2.1, fs (fs (fs (fs S.2.2 mo 13 (nI (bN false))) mo 14 (nI (pN false))) mo 13 (nI (bN true))) mo 14 (nI (pN true))) (by decide) q10 a22 a21
  rw [d1_eq] at d12
  have xx : MX mo (fun x => x = 12) _ _ := MX_of rfl e2 e3 e4
  clear e2 e3 e4
  have yy := MY_of xx
  clear xx
  replace q9 := MD_my yy (by omega) q9
  replace q10 := MD_my yy (by omega) q10
  replace o19 := MD_my yy (by omega) o19
  replace o20 := MD_my yy (by omega) o20
  replace d11 := MV_my yy (by omega) d11
  replace b13 := MP_my yy (by omega) (by omega) (by omega) b13
  replace a22 := MV_my yy (by omega) a22
  replace a21 := MV_my yy (by omega) a21
  have t22 := MY_tr (MY_le (E := fun _ => True) (fun _ _ => trivial) yy) t21
  clear yy
  have e22 : S22 = mminus_f true mo 12 22 21 (S21.1, S21.2.1, fs (fs (fs (fs S.2.2 mo 13 (nI (bN false))) mo 14 (nI (pN false))) mo 13 (nI (bN true))) mo 14 (nI (pN true))) := rfl
  clear_value S22
  rw [← e22] at q9 q10 o19 o20 d11 b13 a22 a21 d12 t22
  clear e22
  clear a21 a22
  obtain ⟨b16, xx⟩ := mb448_m mo (S22.1, S22.2.1, fs (fs (fs (fs S.2.2 mo 13 (nI (bN false))) mo 14 (nI (pN false))) mo 13 (nI (bN true))) mo 14 (nI (pN true))) ⟨q10, d12⟩
  have yy := MY_of xx
  clear xx
  replace q9 := MD_my yy (by omega) q9
  replace q10 := MD_my yy (by omega) q10
  replace o19 := MD_my yy (by omega) o19
  replace o20 := MD_my yy (by omega) o20
  replace d11 := MV_my yy (by omega) d11
  replace b13 := MP_my yy (by omega) (by omega) (by omega) b13
  replace d12 := MV_my yy (by omega) d12
  have t23 := MY_tr (MY_le (E := fun _ => True) (fun _ _ => trivial) yy) t22
  clear yy
  have e23 : S23 = mb448_f true mo (S22.1, S22.2.1, fs (fs (fs (fs S.2.2 mo 13 (nI (bN false))) mo 14 (nI (pN false))) mo 13 (nI (bN true))) mo 14 (nI (pN true))) := rfl
  clear_value S23
  rw [← e23] at q9 q10 o19 o20 d11 b13 d12 b16 t23
  clear e23
  have ec1 : (mcho_f false mo (S23.1, S23.2.1, fs (fs (fs (fs S.2.2 mo 13 (nI (bN false))) mo 14 (nI (pN false))) mo 13 (nI (bN true))) mo 14 (nI (pN true)))).1 = S23.1 := rfl
  have ec2 : (mcho_f false mo (S23.1, S23.2.1, fs (fs (fs (fs S.2.2 mo 13 (nI (bN false))) mo 14 (nI (pN false))) mo 13 (nI (bN true))) mo 14 (nI (pN true)))).2.1 = S23.2.1 := rfl
  have t24 : MY mo (fun _ => True) (mcho_f false mo (S23.1, S23.2.1, fs (fs (fs (fs S.2.2 mo 13 (nI (bN false))) mo 14 (nI (pN false))) mo 13 (nI (bN true))) mo 14 (nI (pN true)))) S1 := ⟨by rw [ec1]; exact t23.1, by rw [ec1]; exact t23.2.1, by rw [ec2]; exact t23.2.2⟩
  rw [← ec1] at q9
  rw [← ec1] at q10
  rw [← ec1] at o19
  rw [← ec1] at o20
  rw [← ec1] at d11
  rw [← ec1] at b13
  rw [← ec1] at d12
  rw [← ec1] at b16
  have e24 : S24 = mcho_f false mo (S23.1, S23.2.1, fs (fs (fs (fs S.2.2 mo 13 (nI (bN false))) mo 14 (nI (pN false))) mo 13 (nI (bN true))) mo 14 (nI (pN true))) := rfl
  clear_value S24
  rw [← e24] at q9 q10 o19 o20 d11 b13 d12 b16 t24
  clear e24 ec1 ec2
  obtain ⟨n0, xx0⟩ := mneutral_m false mo (3 * 0) (S24.1, S24.2.1, fs (fs (fs (fs (fs (fs S.2.2 mo 13 (nI (bN false))) mo 14 (nI (pN false))) mo 13 (nI (bN true))) mo 14 (nI (pN true))) mo 13 (nI (bN false))) mo 14 (nI (pN false)))
  have xx : MX mo (fun x => 0 ≤ x ∧ x ≤ 2) _ _ := MX_le (fun q h => by unfold m3D at h; omega) xx0
  clear xx0
  have yy := MY_of xx
  clear xx
  replace q9 := MD_my yy (by omega) q9
  replace q10 := MD_my yy (by omega) q10
  replace o19 := MD_my yy (by omega) o19
  replace o20 := MD_my yy (by omega) o20
  replace d11 := MV_my yy (by omega) d11
  replace b13 := MP_my yy (by omega) (by omega) (by omega) b13
  replace d12 := MV_my yy (by omega) d12
  replace b16 := MP_my yy (by omega) (by omega) (by omega) b16
  have t25 := MY_tr (MY_le (E := fun _ => True) (fun _ _ => trivial) yy) t24
  clear yy
  have e25 : S25 = mneutral_f mo (3 * 0) (S24.1, S24.2.1, fs (fs (fs (fs (fs (fs S.2.2 mo 13 (nI (bN false))) mo 14 (nI (pN false))) mo 13 (nI (bN true))) mo 14 (nI (pN true))) mo 13 (nI (bN false))) mo 14 (nI (pN false))) := rfl
  clear_value S25
  rw [← e25] at q9 q10 o19 o20 d11 b13 d12 b16 n0 t25
  clear e25
  obtain ⟨n1, xx0⟩ := mneutral_m false mo (3 * (0 + 1)) (S25.1, S25.2.1, fs (fs (fs (fs (fs (fs S.2.2 mo 13 (nI (bN false))) mo 14 (nI (pN false))) mo 13 (nI (bN true))) mo 14 (nI (pN true))) mo 13 (nI (bN false))) mo 14 (nI (pN false)))
  have xx : MX mo (fun x => 3 ≤ x ∧ x ≤ 5) _ _ := MX_le (fun q h => by unfold m3D at h; omega) xx0
  clear xx0
  have yy := MY_of xx
  clear xx
  replace q9 := MD_my yy (by omega) q9
  replace q10 := MD_my yy (by omega) q10
  replace o19 := MD_my yy (by omega) o19
  replace o20 := MD_my yy (by omega) o20
  replace d11 := MV_my yy (by omega) d11
  replace b13 := MP_my yy (by omega) (by omega) (by omega) b13
  replace d12 := MV_my yy (by omega) d12
  replace b16 := MP_my yy (by omega) (by omega) (by omega) b16
  replace n0 := MP_my yy (by omega) (by omega) (by omega) n0
  have t26 := MY_tr (MY_le (E := fun _ => True) (fun _ _ => trivial) yy) t25
  clear yy
  have e26 : S26 = mneutral_f mo (3 * (0 + 1)) (S25.1, S25.2.1, fs (fs (fs (fs (fs (fs S.2.2 mo 13 (nI (bN false))) mo 14 (nI (pN false))) mo 13 (nI (bN true))) mo 14 (nI (pN true))) mo 13 (nI (bN false))) mo 14 (nI (pN false))) := rfl
  clear_value S26
  rw [← e26] at q9 q10 o19 o20 d11 b13 d12 b16 n0 n1 t26
  clear e26
  obtain ⟨n2, xx0⟩ := mneutral_m false mo (3 * (0 + 1 + 1)) (S26.1, S26.2.1, fs (fs (fs (fs (fs (fs S.2.2 mo 13 (nI (bN false))) mo 14 (nI (pN false))) mo 13 (nI (bN true))) mo 14 (nI (pN true))) mo 13 (nI (bN false))) mo 14 (nI (pN false)))
  have xx : MX mo (fun x => 6 ≤ x ∧ x ≤ 8) _ _ := MX_le (fun q h => by unfold m3D at h; omega) xx0
  clear xx0
  have yy := MY_of xx
  clear xx
  replace q9 := MD_my yy (by omega) q9
  replace q10 := MD_my yy (by omega) q10
  replace o19 := MD_my yy (by omega) o19
  replace o20 := MD_my yy (by omega) o20
  replace d11 := MV_my yy (by omega) d11
  replace b13 := MP_my yy (by omega) (by omega) (by omega) b13
  replace d12 := MV_my yy (by omega) d12
  replace b16 := MP_my yy (by omega) (by omega) (by omega) b16
  replace n0 := MP_my yy (by omega) (by omega) (by omega) n0
  replace n1 := MP_my yy (by omega) (by omega) (by omega) n1
  have t27 := MY_tr (MY_le (E := fun _ => True) (fun _ _ => trivial) yy) t26
  clear yy
  have e27 : S27 = mneutral_f mo (3 * (0 + 1 + 1)) (S26.1, S26.2.1, fs (fs (fs (fs (fs (fs S.2.2 mo 13 (nI (bN false))) mo 14 (nI (pN false))) mo 13 (nI (bN true))) mo 14 (nI (pN true))) mo 13 (nI (bN false))) mo 14 (nI (pN false))) := rfl
  clear_value S27
  rw [← e27] at q9 q10 o19 o20 d11 b13 d12 b16 n0 n1 n2 t27
  clear e27
  subst hT
  refine ⟨fun c => ?_, fun p hp => ?_, t27.1, t27.2.2, fun r hr => ?_, fun q h1 h2 => ?_⟩
  · cases c
    · exact ⟨⟨q9, d11⟩, b13, o19⟩
    · exact ⟨⟨q10, d12⟩, b16, o20⟩
  · have hp3 : p = 0 ∨ p = 1 ∨ p = 2 := by omega
    rcases hp3 with rfl | rfl | rfl
    · exact n0
    · exact n1
    · exact n2
  · show (fs (fs (fs (fs (fs (fs S.2.2 mo 13 (nI (bN false))) mo 14 (nI (pN false))) mo 13 (nI (bN true))) mo 14 (nI (pN true))) mo 13 (nI (bN false))) mo 14 (nI (pN false))) r = S.2.2 r
    exact (vu_n hr).trans ((vu_n hr).trans ((vu_n hr).trans ((vu_n hr).trans ((vu_n hr).trans (vu_n hr)))))
  · show (fs (fs (fs (fs (fs (fs S.2.2 mo 13 (nI (bN false))) mo 14 (nI (pN false))) mo 13 (nI (bN true))) mo 14 (nI (pN true))) mo 13 (nI (bN false))) mo 14 (nI (pN false))) mo q = S.2.2 mo q
    rw [fs_oth h2, fs_oth h1, fs_oth h2, fs_oth h1, fs_oth h2, fs_oth h1]
