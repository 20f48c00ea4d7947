/-! what the methods of CurveSuite leave alone -/
theorem carry_F (c : Bool) (to : Nat) (fr : Nat) (S : StT) : (carry_f c to fr S).2.2 = S.2.2 := by
  unfold carry_f; (try dsimp only); (repeat' split) <;> rfl
theorem carry_I (c : Bool) (to : Nat) (fr : Nat) (S : StT) : (carry_f c to fr S).1 = S.1 := by
  unfold carry_f; (try dsimp only); (repeat' split) <;> rfl
theorem plus_F (c : Bool) (to : Nat) (a : Nat) (b : Nat) (S : StT) : (plus_f c to a b S).2.2 = S.2.2 := by
  unfold plus_f; rw [carry_F]
theorem plus_I (c : Bool) (to : Nat) (a : Nat) (b : Nat) (S : StT) : (plus_f c to a b S).1 = S.1 := by
  unfold plus_f; rw [carry_I]
theorem minus_F (c : Bool) (to : Nat) (a : Nat) (b : Nat) (S : StT) : (minus_f c to a b S).2.2 = S.2.2 := by
  unfold minus_f; rw [carry_F]
theorem minus_I (c : Bool) (to : Nat) (a : Nat) (b : Nat) (S : StT) : (minus_f c to a b S).1 = S.1 := by
  unfold minus_f; rw [carry_I]
theorem fneg_F (c : Bool) (to : Nat) (a : Nat) (S : StT) : (fneg_f c to a S).2.2 = S.2.2 := by
  unfold fneg_f; rw [carry_F]
theorem fneg_I (c : Bool) (to : Nat) (a : Nat) (S : StT) : (fneg_f c to a S).1 = S.1 := by
  unfold fneg_f; rw [carry_I]
theorem mulS_F (c : Bool) (to : Nat) (a : Nat) (z : Int32) (S : StT) : (mulS_f c to a z S).2.2 = S.2.2 := by
  unfold mulS_f; rw [carry_F, carry_F]
theorem mulS_I (c : Bool) (to : Nat) (a : Nat) (z : Int32) (S : StT) : (mulS_f c to a z S).1 = S.1 := by
  unfold mulS_f; rw [carry_I, carry_I]
theorem fill_F (a : Nat) (m : Nat) (x : Int64) (S : StT) : (fill_f a m x S).2.2 = S.2.2 := by
  rfl
theorem fill_I (a : Nat) (m : Nat) (x : Int64) (S : StT) : (fill_f a m x S).1 = S.1 := by
  rfl
theorem ffold_F (c : Bool) (o : Nat) (S : StT) : (ffold_f c o S).2.2 = S.2.2 := by
  rfl
theorem ffold_I (c : Bool) (o : Nat) (S : StT) : (ffold_f c o S).1 = S.1 := by
  rfl
theorem mul_F (c : Bool) (o : Nat) (to : Nat) (a : Nat) (b : Nat) (S : StT) : (mul_f c o to a b S).2.2 = S.2.2 := by
  unfold mul_f; (try dsimp only); rw [carry_F, carry_F]; rfl
theorem mul_I (c : Bool) (o : Nat) (to : Nat) (a : Nat) (b : Nat) (S : StT) : (mul_f c o to a b S).1 = S.1 := by
  unfold mul_f; (try dsimp only); rw [carry_I, carry_I]; rfl
theorem sqr_F (c : Bool) (o : Nat) (to : Nat) (a : Nat) (S : StT) : (sqr_f c o to a S).2.2 = S.2.2 := by
  unfold sqr_f; (try dsimp only); rw [carry_F, carry_F]; rfl
theorem sqr_I (c : Bool) (o : Nat) (to : Nat) (a : Nat) (S : StT) : (sqr_f c o to a S).1 = S.1 := by
  unfold sqr_f; (try dsimp only); rw [carry_I, carry_I]; rfl
theorem fcopy_F (c : Bool) (to : Nat) (a : Nat) (S : StT) : (fcopy_f c to a S).2.2 = S.2.2 := by
  rfl
theorem fcopy_I (c : Bool) (to : Nat) (a : Nat) (S : StT) : (fcopy_f c to a S).1 = S.1 := by
  rfl
theorem freeze_F (c : Bool) (o : Nat) (a : Nat) (S : StT) : (freeze_f c o a S).2.2 = S.2.2 := by
  unfold freeze_f; (try dsimp only); (repeat' split) <;> simp only [carry_F, fcopy_F]
theorem freeze_I (c : Bool) (o : Nat) (a : Nat) (S : StT) : (freeze_f c o a S).1 = S.1 := by
  unfold freeze_f; (try dsimp only); (repeat' split) <;> simp only [carry_I, fcopy_I]
theorem isFZ_F (c : Bool) (o : Nat) (S : StT) : (isFZ_f c o S).2.2.2 = S.2.2 := by
  unfold isFZ_f; split <;> rfl
theorem isFZ_I (c : Bool) (o : Nat) (S : StT) : (isFZ_f c o S).2.1 = S.1 := by
  unfold isFZ_f; split <;> rfl
theorem fisZero_F (c : Bool) (o : Nat) (a : Nat) (S : StT) : (fisZero_f c o a S).2.2.2 = S.2.2 := by
  unfold fisZero_f; exact freeze_F _ _ _ _
theorem fisZero_I (c : Bool) (o : Nat) (a : Nat) (S : StT) : (fisZero_f c o a S).2.1 = S.1 := by
  unfold fisZero_f; exact freeze_I _ _ _ _
theorem fareEq_F (c : Bool) (o : Nat) (a : Nat) (b : Nat) (S : StT) : (fareEq_f c o a b S).2.2.2 = S.2.2 := by
  unfold fareEq_f; rw [freeze_F, minus_F]
theorem fareEq_I (c : Bool) (o : Nat) (a : Nat) (b : Nat) (S : StT) : (fareEq_f c o a b S).2.1 = S.1 := by
  unfold fareEq_f; rw [freeze_I, minus_I]
theorem fisOdd_F (c : Bool) (o : Nat) (a : Nat) (S : StT) : (fisOdd_f c o a S).2.2.2 = S.2.2 := by
  unfold fisOdd_f; split <;> exact freeze_F _ _ _ _
theorem fisOdd_I (c : Bool) (o : Nat) (a : Nat) (S : StT) : (fisOdd_f c o a S).2.1 = S.1 := by
  unfold fisOdd_f; split <;> exact freeze_I _ _ _ _
theorem csum_F (c : Bool) (co : Nat) (fo : Nat) (to : Nat) (p : Nat) (q : Nat) (S : StT) : (csum_f c co fo to p q S).2.2 = S.2.2 := by
  unfold csum_f; (try dsimp only); (repeat' split) <;> simp only [mul_F, sqr_F, plus_F, minus_F, fneg_F, mulS_F, fcopy_F, fill_F]
theorem csum_I (c : Bool) (co : Nat) (fo : Nat) (to : Nat) (p : Nat) (q : Nat) (S : StT) : (csum_f c co fo to p q S).1 = S.1 := by
  unfold csum_f; (try dsimp only); (repeat' split) <;> simp only [mul_I, sqr_I, plus_I, minus_I, fneg_I, mulS_I, fcopy_I, fill_I]
theorem ctwice_F (c : Bool) (co : Nat) (fo : Nat) (to : Nat) (p : Nat) (S : StT) : (ctwice_f c co fo to p S).2.2 = S.2.2 := by
  unfold ctwice_f; (try dsimp only); (repeat' split) <;> simp only [mul_F, sqr_F, plus_F, minus_F, fneg_F, mulS_F, fcopy_F, fill_F]
theorem ctwice_I (c : Bool) (co : Nat) (fo : Nat) (to : Nat) (p : Nat) (S : StT) : (ctwice_f c co fo to p S).1 = S.1 := by
  unfold ctwice_f; (try dsimp only); (repeat' split) <;> simp only [mul_I, sqr_I, plus_I, minus_I, fneg_I, mulS_I, fcopy_I, fill_I]
theorem cneg_F (c : Bool) (co : Nat) (fo : Nat) (to : Nat) (p : Nat) (S : StT) : (cneg_f c co fo to p S).2.2 = S.2.2 := by
  unfold cneg_f; (try dsimp only); (repeat' split) <;> simp only [mul_F, sqr_F, plus_F, minus_F, fneg_F, mulS_F, fcopy_F, fill_F]
theorem cneg_I (c : Bool) (co : Nat) (fo : Nat) (to : Nat) (p : Nat) (S : StT) : (cneg_f c co fo to p S).1 = S.1 := by
  unfold cneg_f; (try dsimp only); (repeat' split) <;> simp only [mul_I, sqr_I, plus_I, minus_I, fneg_I, mulS_I, fcopy_I, fill_I]
theorem ccopy_F (c : Bool) (co : Nat) (fo : Nat) (to : Nat) (p : Nat) (S : StT) : (ccopy_f c co fo to p S).2.2 = S.2.2 := by
  unfold ccopy_f; (try dsimp only); (repeat' split) <;> simp only [mul_F, sqr_F, plus_F, minus_F, fneg_F, mulS_F, fcopy_F, fill_F]
theorem ccopy_I (c : Bool) (co : Nat) (fo : Nat) (to : Nat) (p : Nat) (S : StT) : (ccopy_f c co fo to p S).1 = S.1 := by
  unfold ccopy_f; (try dsimp only); (repeat' split) <;> simp only [mul_I, sqr_I, plus_I, minus_I, fneg_I, mulS_I, fcopy_I, fill_I]
theorem cisN_F (c : Bool) (co : Nat) (fo : Nat) (p : Nat) (S : StT) : (cisN_f c co fo p S).2.2.2 = S.2.2 := by
  unfold cisN_f; (try dsimp only); (repeat' split) <;> simp only [mul_F, sqr_F, plus_F, minus_F, fneg_F, mulS_F, fcopy_F, fill_F, fisZero_F, fareEq_F]
theorem cisN_I (c : Bool) (co : Nat) (fo : Nat) (p : Nat) (S : StT) : (cisN_f c co fo p S).2.1 = S.1 := by
  unfold cisN_f; (try dsimp only); (repeat' split) <;> simp only [mul_I, sqr_I, plus_I, minus_I, fneg_I, mulS_I, fcopy_I, fill_I, fisZero_I, fareEq_I]
theorem cEq_F (c : Bool) (co : Nat) (fo : Nat) (p : Nat) (q : Nat) (S : StT) : (cEq_f c co fo p q S).2.2.2 = S.2.2 := by
  unfold cEq_f; (try dsimp only); (repeat' split) <;> simp only [mul_F, sqr_F, plus_F, minus_F, fneg_F, mulS_F, fcopy_F, fill_F, fisZero_F, fareEq_F]
theorem cEq_I (c : Bool) (co : Nat) (fo : Nat) (p : Nat) (q : Nat) (S : StT) : (cEq_f c co fo p q S).2.1 = S.1 := by
  unfold cEq_f; (try dsimp only); (repeat' split) <;> simp only [mul_I, sqr_I, plus_I, minus_I, fneg_I, mulS_I, fcopy_I, fill_I, fisZero_I, fareEq_I]
theorem cfill_l2_F (c : Bool) (co fo lo hi : Nat) (S : StT) : ∀ i, (cfill_l2 c co fo lo hi S i).2.2 = S.2.2 := by
  intro i
  induction i with
  | zero => rfl
  | succ i ih =>
    unfold cfill_l2
    dsimp only
    (repeat' split) <;> simp only [csum_F, ih]
theorem cfill_l2_I (c : Bool) (co fo lo hi : Nat) (S : StT) : ∀ i, (cfill_l2 c co fo lo hi S i).1 = S.1 := by
  intro i
  induction i with
  | zero => rfl
  | succ i ih =>
    unfold cfill_l2
    dsimp only
    (repeat' split) <;> simp only [csum_I, ih]
theorem cfill_F (c : Bool) (co : Nat) (fo : Nat) (lo : Nat) (hi : Nat) (S : StT) : (cfill_f c co fo lo hi S).2.2 = S.2.2 := by
  unfold cfill_f; exact cfill_l2_F _ _ _ _ _ _ _
theorem cfill_I (c : Bool) (co : Nat) (fo : Nat) (lo : Nat) (hi : Nat) (S : StT) : (cfill_f c co fo lo hi S).1 = S.1 := by
  unfold cfill_f; exact cfill_l2_I _ _ _ _ _ _ _
theorem astep_F (c : Bool) (ao : Nat) (fo : Nat) (x2 : Nat) (z2 : Nat) (x3 : Nat) (z3 : Nat) (S : StT) : (astep_f c ao fo x2 z2 x3 z3 S).2.2 = S.2.2 := by
  unfold astep_f; (try dsimp only); (repeat' split) <;> simp only [mul_F, sqr_F, plus_F, minus_F, fneg_F, mulS_F, fcopy_F, fill_F]
theorem astep_I (c : Bool) (ao : Nat) (fo : Nat) (x2 : Nat) (z2 : Nat) (x3 : Nat) (z3 : Nat) (S : StT) : (astep_f c ao fo x2 z2 x3 z3 S).1 = S.1 := by
  unfold astep_f; (try dsimp only); (repeat' split) <;> simp only [mul_I, sqr_I, plus_I, minus_I, fneg_I, mulS_I, fcopy_I, fill_I]
theorem abase_F (c : Bool) (ao : Nat) (fo : Nat) (S : StT) : (abase_f c ao fo S).2.2 = S.2.2 := by
  unfold abase_f; (try dsimp only); (repeat' split) <;> rfl
theorem abase_I (c : Bool) (ao : Nat) (fo : Nat) (S : StT) : (abase_f c ao fo S).1 = S.1 := by
  unfold abase_f; (try dsimp only); (repeat' split) <;> rfl
theorem aload_F (c : Bool) (ao : Nat) (fo : Nat) (sc : Nat) (S : StT) : (aload_f c ao fo sc S).2.2 = S.2.2 := by
  unfold aload_f; (try dsimp only); (repeat' split) <;> rfl
theorem sperm_l2_F (so : Nat) (S : StT) : ∀ i, (sperm_l2 so S i).2.2 = S.2.2 := by
  intro i
  induction i with
  | zero => rfl
  | succ i ih => unfold sperm_l2; exact ih
theorem sperm_l2_I (so : Nat) (S : StT) : ∀ i, (sperm_l2 so S i).1 = S.1 := by
  intro i
  induction i with
  | zero => rfl
  | succ i ih => unfold sperm_l2; exact ih
theorem sperm_F (so : Nat) (S : StT) : (sperm_f so S).2.2 = S.2.2 := by
  unfold sperm_f; exact sperm_l2_F _ _ _
theorem sperm_I (so : Nat) (S : StT) : (sperm_f so S).1 = S.1 := by
  unfold sperm_f; exact sperm_l2_I _ _ _
theorem smix_F (so : Nat) (at_ : Nat) (v : Int32) (S : StT) : (smix_f so at_ v S).2.2 = S.2.2 := by
  rfl
theorem smix_I (so : Nat) (at_ : Nat) (v : Int32) (S : StT) : (smix_f so at_ v S).1 = S.1 := by
  rfl
theorem hcomp_F (so : Nat) (S : StT) : (hcomp_f so S).2.2 = S.2.2 := by
  rfl
theorem hcomp_I (so : Nat) (S : StT) : (hcomp_f so S).1 = S.1 := by
  rfl
theorem sinc_F (c : Bool) (so : Nat) (to : Nat) (by_ : Nat) (S : StT) : (sinc_f c so to by_ S).2.2 = S.2.2 := by
  unfold sinc_f; (try dsimp only); (repeat' split) <;> rfl
theorem sinc_I (c : Bool) (so : Nat) (to : Nat) (by_ : Nat) (S : StT) : (sinc_f c so to by_ S).1 = S.1 := by
  unfold sinc_f; (try dsimp only); (repeat' split) <;> rfl
theorem smul_l13_F (c : Bool) (so to nb nn fa : Nat) (S : StT) : ∀ i, (smul_l13 c so to nb nn fa S i).2.2 = S.2.2 := by
  intro i
  induction i with
  | zero => rfl
  | succ i ih =>
    unfold smul_l13
    dsimp only
    (repeat' split) <;> simp only [sinc_F, ih]
theorem smul_l13_I (c : Bool) (so to nb nn fa : Nat) (S : StT) : ∀ i, (smul_l13 c so to nb nn fa S i).1 = S.1 := by
  intro i
  induction i with
  | zero => rfl
  | succ i ih =>
    unfold smul_l13
    dsimp only
    (repeat' split) <;> simp only [sinc_I, ih]
theorem smul_F (c : Bool) (so : Nat) (to : Nat) (nb : Nat) (nn : Nat) (fa : Nat) (S : StT) : (smul_f c so to nb nn fa S).2.2 = S.2.2 := by
  unfold smul_f; exact (smul_l13_F _ _ _ _ _ _ _ _).trans (fill_F _ _ _ _)
theorem smul_I (c : Bool) (so : Nat) (to : Nat) (nb : Nat) (nn : Nat) (fa : Nat) (S : StT) : (smul_f c so to nb nn fa S).1 = S.1 := by
  unfold smul_f; exact (smul_l13_I _ _ _ _ _ _ _ _).trans (fill_I _ _ _ _)
theorem sred_F (c : Bool) (so : Nat) (to : Nat) (nb : Nat) (nn : Nat) (S : StT) : (sred_f c so to nb nn S).2.2 = S.2.2 := by
  unfold sred_f; exact smul_F _ _ _ _ _ _ _
theorem sred_I (c : Bool) (so : Nat) (to : Nat) (nb : Nat) (nn : Nat) (S : StT) : (sred_f c so to nb nn S).1 = S.1 := by
  unfold sred_f; exact smul_I _ _ _ _ _ _ _
