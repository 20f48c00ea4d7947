/-! VALUES: class and model as they are made keep the relation -/
theorem mkFq_s (mo q v : Nat) (U : StT) : (mkFq mo q v U).2.2 mo = upd (U.2.2 mo) q (nI v) := vu_s
theorem md_F (mo : Nat) (U : StT) : (mkMd mo U).1 = U.1 ∧ (mkMd mo U).2.1 = U.2.1 ∧ (∀ r, r ≠ mo → (mkMd mo U).2.2 r = U.2.2 r) ∧ (mkMd mo U).2.2 mo 7 = nI 0 ∧ (mkMd mo U).2.2 mo 9 = nI 0 ∧ (mkMd mo U).2.2 mo 5 = nI 0 := by
  refine ⟨rfl, rfl, fun r hr => ?_, ?_, ?_, ?_⟩
  · exact (vu_n hr).trans ((vu_n hr).trans ((vu_n hr).trans ((vu_n hr).trans ((vu_n hr).trans ((vu_n hr).trans (vu_n hr))))))
  · unfold mkMd
    rw [mkFq_s, pk_un (by decide), mkFq_s, pk_un (by decide), mkFq_s, pk_un (by decide), mkFq_s, pk_un (by decide), mkFq_s, pk_us]
  · unfold mkMd
    rw [mkFq_s, pk_un (by decide), mkFq_s, pk_un (by decide), mkFq_s, pk_un (by decide), mkFq_s, pk_us]
  · unfold mkMd
    rw [mkFq_s, pk_un (by decide), mkFq_s, pk_un (by decide), mkFq_s, pk_un (by decide), mkFq_s, pk_un (by decide), mkFq_s, pk_un (by decide), mkFq_s, pk_us]
theorem md_RM (mo : Nat) (U : StT) (hz : Zr mo U) : RM mo Bp (mbody_f mo (mkMd mo U)) A0 ∧ OM mo (mbody_f mo (mkMd mo U)) U := by
  obtain ⟨d1, d2, d3, d7, d9, d5⟩ := md_F mo U
  generalize mkMd mo U = S0 at d1 d2 d3 d7 d9 d5 ⊢
  obtain ⟨r1, r2, r3, r4, r5⟩ := rc_lp mo S0 80 (Nat.le_refl _)
  have hS1 : mrtC_f mo S0 = ((mrtC_l4 mo S0 80).1, (mrtC_l4 mo S0 80).2, S0.2.2) := by unfold mrtC_f; rfl
  generalize mrtC_l4 mo S0 80 = Y at r1 r2 r3 r4 r5 hS1
  generalize hS : ((Y.1, Y.2, S0.2.2) : StT) = S1 at hS1
  have q1 : S1.1 = Y.1 := by rw [← hS]
  have q2 : S1.2.1 = Y.2 := by rw [← hS]
  rw [← q1] at r3 r4
  rw [← q2] at r1 r2 r5
  have zv : ∀ a, ¬ (21 ≤ a ∧ a ≤ 23) → ZV S1.1 mo a (fun _ => 0) := fun a ha k hk => by
    rw [r4 a ha k hk, d1, (hz (mo + 7) (by omega)).1]
  obtain ⟨b1, b2, b3, b4, b5, b6⟩ := mbody_m mo S0 S1 hS1 (zv 9 (by omega)) (zv 10 (by omega)) (zv 19 (by omega))
  generalize mbody_f mo S0 = T at b1 b2 b3 b4 b5 b6 ⊢
  have I0 : ∀ r, mo ≤ r → r ≠ mo + 7 → r ≠ mo + 9 → ∀ i, T.1 r i = 0 := fun r h0 h1 h2 i => by
    rw [b3 r h1 h2, r3 r h1 h2, d1, (hz r h0).1]
  refine ⟨⟨⟨fun i _ => I0 (mo + 1) (by omega) (by omega) (by omega) i, fun i _ => I0 (mo + 2) (by omega) (by omega) (by omega) i, fun i _ => I0 (mo + 3) (by omega) (by omega) (by omega) i, fun i _ => I0 (mo + 4) (by omega) (by omega) (by omega) i, fun i _ => I0 (mo + 5) (by omega) (by omega) (by omega) i, fun i _ => I0 (mo + 6) (by omega) (by omega) (by omega) i⟩, ⟨?_, ?_, ?_⟩, fun p hp => ⟨I0 (mo + 10) (by omega) (by omega) (by omega) p, b2 p hp⟩, b1, fun i hi => ?_, fun i hi => ?_⟩, fun r hr => ⟨?_, ?_, ?_⟩⟩
  · exact (b6 7 (by decide) (by decide)).trans d7
  · exact (b6 9 (by decide) (by decide)).trans d9
  · exact (b6 5 (by decide) (by decide)).trans d5
  · rw [b4 (mo + 14) (by omega)]
    exact r2 i (by omega) hi
  · rw [b4 (mo + 15) (by omega)]
    exact r1 i hi
  · rw [b3 r (by omega) (by omega), r3 r (by omega) (by omega), d1]
  · rw [b4 r (by omega), r5 r (by omega) (by omega) (by omega), d2]
  · rw [b5 r (by omega), d3 r (by omega)]
theorem A0_v : AV A0 := ⟨fun _ _ => (by decide : uN 0 < 256), fun _ _ => (by decide : uN 0 < 256), fun _ _ => (by decide : uN 0 < 256), fun i hi => absurd hi (Nat.not_lt_zero _), fun i hi => absurd hi (Nat.not_lt_zero _), fun i hi => absurd hi (Nat.not_lt_zero _), Nat.zero_le _, Nat.zero_le _, Nat.zero_le _⟩
theorem inv_0 {S2 : StT} (h : mbody_f (0 + 335) (mkMd (0 + 335) (mkSu 0 Z0)) = S2) : Inv 0 335 Bp S2 A0 ∧ S2.2.1 363 = fun _ => 0 := by
  have h1 := su_RC
  have h2 : Zr 335 (mkSu 0 Z0) := Zr_su (Zr_0 0)
  rw [show 0 + 335 = 335 from rfl] at h
  generalize mkSu 0 Z0 = U at h h1 h2
  obtain ⟨g1, g2⟩ := md_RM 335 U h2
  rw [h] at g1 g2
  exact ⟨⟨RC_out (Or.inl (Nat.le_refl _)) g2 h1, g1, A0_v⟩, (g2 363 (Or.inr (by decide))).2.1.trans (h2 363 (by decide)).2.1⟩
