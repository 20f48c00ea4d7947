/-! CurveSuite$Sha512: methods as functions of the contents, by program (dc.py, spec_sha.py) -/
def hturn_f (v : Int64) (r : Int32) (S : StT) : Int64 × StT := (((v.toUInt64 >>> ((r).toInt64.toUInt64 &&& Int64.toUInt64 63)).toInt64) ||| (v <<< (((nI (64)) - (r)).toInt64 &&& 63)), S)
set_option maxRecDepth 100000 in
set_option maxHeartbeats 4000000 in
theorem c_hturn {k : KX} {L : Nat → Option Sh} {S : StT} {n : Nat} {v : Int64} {r : Int32}  :
    Cs k yX8_turn cX8_turn 3 (some .long) 0 0 0 [.long (v), .int (r)] (inst k L S.1 S.2.1 S.2.2) n (Pl k L n (hturn_f v r S)) := by
  refine cs_of (by decide) (Nat.le_of_ble_eq_true rfl) ?_
  intro X hXk C Rt hnm
  subst hXk
  refine rn_lv [(0, .long (v)), (2, .int (r))] (fun q h => h) ?_
  refine rn_lload_n C dX8_turn_0 rfl ?_
  refine rn_iload_n C dX8_turn_1 rfl ?_
  refine rn_lushr C dX8_turn_2 rfl ?_
  refine rn_lload_n C dX8_turn_3 rfl ?_
  refine rn_bipush (v := nI 64) C dX8_turn_4 rfl ?_
  refine rn_iload_n C dX8_turn_6 rfl ?_
  refine rn_isub C dX8_turn_7 rfl ?_
  refine rn_lshl C dX8_turn_8 rfl ?_
  refine rn_lor C dX8_turn_9 rfl ?_
  exact rn_lret C Rt dX8_turn_10 (pl_of rfl) (Nat.zero_le _) (Nat.zero_le _)
theorem hturn_S (v : Int64) (r : Int32) (S : StT) : (hturn_f v r S).2 = S := rfl
theorem cp_hturn {k : KX} {L : Nat → Option Sh} {S : StT} {n : Nat} {v : Int64} {r : Int32}  :
    Cs k yX8_turn cX8_turn 3 (some .long) 0 0 0 [.long (v), .int (r)] (inst k L S.1 S.2.1 S.2.2) n (Pl k L n ((hturn_f v r S).1, S)) := by
  have h := c_hturn (k := k) (L := L) (S := S) (n := n) (v := v) (r := r) 
  have e : hturn_f v r S = ((hturn_f v r S).1, S) := Prod.ext rfl (hturn_S v r S)
  rwa [e] at h
def hbigSigma0_f (v : Int64) (S : StT) : Int64 × StT := (((hturn_f (v) (nI (28)) S).1 ^^^ (hturn_f (v) (nI (34)) S).1) ^^^ (hturn_f (v) (nI (39)) S).1, S)
set_option maxRecDepth 100000 in
set_option maxHeartbeats 4000000 in
theorem c_hbigSigma0 {k : KX} {L : Nat → Option Sh} {S : StT} {n : Nat} {v : Int64}  :
    Cs k yX8_bigSigma0 cX8_bigSigma0 2 (some .long) 1 0 0 [.long (v)] (inst k L S.1 S.2.1 S.2.2) n (Pl k L n (hbigSigma0_f v S)) := by
  refine cs_of (by decide) (Nat.le_of_ble_eq_true rfl) ?_
  intro X hXk C Rt hnm
  subst hXk
  refine rn_lv [(0, .long (v))] (fun q h => h) ?_
  refine rn_lload_n C dX8_bigSigma0_0 rfl ?_
  refine rn_bipush (v := nI 28) C dX8_bigSigma0_1 rfl ?_
  refine rs_sl C dX8_bigSigma0_3 mk_X8_turn ls_X8_64 (cp_hturn ) rfl rfl (by decide) (Nat.le_of_ble_eq_true rfl) (by decide) (by decide) ?_
  refine rn_lload_n C dX8_bigSigma0_6 rfl ?_
  refine rn_bipush (v := nI 34) C dX8_bigSigma0_7 rfl ?_
  refine rs_sl C dX8_bigSigma0_9 mk_X8_turn ls_X8_64 (cp_hturn ) rfl rfl (by decide) (Nat.le_of_ble_eq_true rfl) (by decide) (by decide) ?_
  refine rn_lxor C dX8_bigSigma0_12 rfl ?_
  refine rn_lload_n C dX8_bigSigma0_13 rfl ?_
  refine rn_bipush (v := nI 39) C dX8_bigSigma0_14 rfl ?_
  refine rs_sl C dX8_bigSigma0_16 mk_X8_turn ls_X8_64 (cp_hturn ) rfl rfl (by decide) (Nat.le_of_ble_eq_true rfl) (by decide) (by decide) ?_
  refine rn_lxor C dX8_bigSigma0_19 rfl ?_
  exact rn_lret C Rt dX8_bigSigma0_20 (pl_of rfl) (Nat.zero_le _) (Nat.zero_le _)
theorem hbigSigma0_S (v : Int64) (S : StT) : (hbigSigma0_f v S).2 = S := rfl
theorem cp_hbigSigma0 {k : KX} {L : Nat → Option Sh} {S : StT} {n : Nat} {v : Int64}  :
    Cs k yX8_bigSigma0 cX8_bigSigma0 2 (some .long) 1 0 0 [.long (v)] (inst k L S.1 S.2.1 S.2.2) n (Pl k L n ((hbigSigma0_f v S).1, S)) := by
  have h := c_hbigSigma0 (k := k) (L := L) (S := S) (n := n) (v := v) 
  have e : hbigSigma0_f v S = ((hbigSigma0_f v S).1, S) := Prod.ext rfl (hbigSigma0_S v S)
  rwa [e] at h
def hbigSigma1_f (v : Int64) (S : StT) : Int64 × StT := (((hturn_f (v) (nI (14)) S).1 ^^^ (hturn_f (v) (nI (18)) S).1) ^^^ (hturn_f (v) (nI (41)) S).1, S)
set_option maxRecDepth 100000 in
set_option maxHeartbeats 4000000 in
theorem c_hbigSigma1 {k : KX} {L : Nat → Option Sh} {S : StT} {n : Nat} {v : Int64}  :
    Cs k yX8_bigSigma1 cX8_bigSigma1 2 (some .long) 1 0 0 [.long (v)] (inst k L S.1 S.2.1 S.2.2) n (Pl k L n (hbigSigma1_f v S)) := by
  refine cs_of (by decide) (Nat.le_of_ble_eq_true rfl) ?_
  intro X hXk C Rt hnm
  subst hXk
  refine rn_lv [(0, .long (v))] (fun q h => h) ?_
  refine rn_lload_n C dX8_bigSigma1_0 rfl ?_
  refine rn_bipush (v := nI 14) C dX8_bigSigma1_1 rfl ?_
  refine rs_sl C dX8_bigSigma1_3 mk_X8_turn ls_X8_64 (cp_hturn ) rfl rfl (by decide) (Nat.le_of_ble_eq_true rfl) (by decide) (by decide) ?_
  refine rn_lload_n C dX8_bigSigma1_6 rfl ?_
  refine rn_bipush (v := nI 18) C dX8_bigSigma1_7 rfl ?_
  refine rs_sl C dX8_bigSigma1_9 mk_X8_turn ls_X8_64 (cp_hturn ) rfl rfl (by decide) (Nat.le_of_ble_eq_true rfl) (by decide) (by decide) ?_
  refine rn_lxor C dX8_bigSigma1_12 rfl ?_
  refine rn_lload_n C dX8_bigSigma1_13 rfl ?_
  refine rn_bipush (v := nI 41) C dX8_bigSigma1_14 rfl ?_
  refine rs_sl C dX8_bigSigma1_16 mk_X8_turn ls_X8_64 (cp_hturn ) rfl rfl (by decide) (Nat.le_of_ble_eq_true rfl) (by decide) (by decide) ?_
  refine rn_lxor C dX8_bigSigma1_19 rfl ?_
  exact rn_lret C Rt dX8_bigSigma1_20 (pl_of rfl) (Nat.zero_le _) (Nat.zero_le _)
theorem hbigSigma1_S (v : Int64) (S : StT) : (hbigSigma1_f v S).2 = S := rfl
theorem cp_hbigSigma1 {k : KX} {L : Nat → Option Sh} {S : StT} {n : Nat} {v : Int64}  :
    Cs k yX8_bigSigma1 cX8_bigSigma1 2 (some .long) 1 0 0 [.long (v)] (inst k L S.1 S.2.1 S.2.2) n (Pl k L n ((hbigSigma1_f v S).1, S)) := by
  have h := c_hbigSigma1 (k := k) (L := L) (S := S) (n := n) (v := v) 
  have e : hbigSigma1_f v S = ((hbigSigma1_f v S).1, S) := Prod.ext rfl (hbigSigma1_S v S)
  rwa [e] at h
def hsmallSigma0_f (v : Int64) (S : StT) : Int64 × StT := (((hturn_f (v) (nI (1)) S).1 ^^^ (hturn_f (v) (nI (8)) S).1) ^^^ ((v.toUInt64 >>> ((nI (7)).toInt64.toUInt64 &&& Int64.toUInt64 63)).toInt64), S)
set_option maxRecDepth 100000 in
set_option maxHeartbeats 4000000 in
theorem c_hsmallSigma0 {k : KX} {L : Nat → Option Sh} {S : StT} {n : Nat} {v : Int64}  :
    Cs k yX8_smallSigma0 cX8_smallSigma0 2 (some .long) 1 0 0 [.long (v)] (inst k L S.1 S.2.1 S.2.2) n (Pl k L n (hsmallSigma0_f v S)) := by
  refine cs_of (by decide) (Nat.le_of_ble_eq_true rfl) ?_
  intro X hXk C Rt hnm
  subst hXk
  refine rn_lv [(0, .long (v))] (fun q h => h) ?_
  refine rn_lload_n C dX8_smallSigma0_0 rfl ?_
  refine rn_iconst (v := nI 1) C dX8_smallSigma0_1 rfl ?_
  refine rs_sl C dX8_smallSigma0_2 mk_X8_turn ls_X8_64 (cp_hturn ) rfl rfl (by decide) (Nat.le_of_ble_eq_true rfl) (by decide) (by decide) ?_
  refine rn_lload_n C dX8_smallSigma0_5 rfl ?_
  refine rn_bipush (v := nI 8) C dX8_smallSigma0_6 rfl ?_
  refine rs_sl C dX8_smallSigma0_8 mk_X8_turn ls_X8_64 (cp_hturn ) rfl rfl (by decide) (Nat.le_of_ble_eq_true rfl) (by decide) (by decide) ?_
  refine rn_lxor C dX8_smallSigma0_11 rfl ?_
  refine rn_lload_n C dX8_smallSigma0_12 rfl ?_
  refine rn_bipush (v := nI 7) C dX8_smallSigma0_13 rfl ?_
  refine rn_lushr C dX8_smallSigma0_15 rfl ?_
  refine rn_lxor C dX8_smallSigma0_16 rfl ?_
  exact rn_lret C Rt dX8_smallSigma0_17 (pl_of rfl) (Nat.zero_le _) (Nat.zero_le _)
theorem hsmallSigma0_S (v : Int64) (S : StT) : (hsmallSigma0_f v S).2 = S := rfl
theorem cp_hsmallSigma0 {k : KX} {L : Nat → Option Sh} {S : StT} {n : Nat} {v : Int64}  :
    Cs k yX8_smallSigma0 cX8_smallSigma0 2 (some .long) 1 0 0 [.long (v)] (inst k L S.1 S.2.1 S.2.2) n (Pl k L n ((hsmallSigma0_f v S).1, S)) := by
  have h := c_hsmallSigma0 (k := k) (L := L) (S := S) (n := n) (v := v) 
  have e : hsmallSigma0_f v S = ((hsmallSigma0_f v S).1, S) := Prod.ext rfl (hsmallSigma0_S v S)
  rwa [e] at h
def hsmallSigma1_f (v : Int64) (S : StT) : Int64 × StT := (((hturn_f (v) (nI (19)) S).1 ^^^ (hturn_f (v) (nI (61)) S).1) ^^^ ((v.toUInt64 >>> ((nI (6)).toInt64.toUInt64 &&& Int64.toUInt64 63)).toInt64), S)
set_option maxRecDepth 100000 in
set_option maxHeartbeats 4000000 in
theorem c_hsmallSigma1 {k : KX} {L : Nat → Option Sh} {S : StT} {n : Nat} {v : Int64}  :
    Cs k yX8_smallSigma1 cX8_smallSigma1 2 (some .long) 1 0 0 [.long (v)] (inst k L S.1 S.2.1 S.2.2) n (Pl k L n (hsmallSigma1_f v S)) := by
  refine cs_of (by decide) (Nat.le_of_ble_eq_true rfl) ?_
  intro X hXk C Rt hnm
  subst hXk
  refine rn_lv [(0, .long (v))] (fun q h => h) ?_
  refine rn_lload_n C dX8_smallSigma1_0 rfl ?_
  refine rn_bipush (v := nI 19) C dX8_smallSigma1_1 rfl ?_
  refine rs_sl C dX8_smallSigma1_3 mk_X8_turn ls_X8_64 (cp_hturn ) rfl rfl (by decide) (Nat.le_of_ble_eq_true rfl) (by decide) (by decide) ?_
  refine rn_lload_n C dX8_smallSigma1_6 rfl ?_
  refine rn_bipush (v := nI 61) C dX8_smallSigma1_7 rfl ?_
  refine rs_sl C dX8_smallSigma1_9 mk_X8_turn ls_X8_64 (cp_hturn ) rfl rfl (by decide) (Nat.le_of_ble_eq_true rfl) (by decide) (by decide) ?_
  refine rn_lxor C dX8_smallSigma1_12 rfl ?_
  refine rn_lload_n C dX8_smallSigma1_13 rfl ?_
  refine rn_bipush (v := nI 6) C dX8_smallSigma1_14 rfl ?_
  refine rn_lushr C dX8_smallSigma1_16 rfl ?_
  refine rn_lxor C dX8_smallSigma1_17 rfl ?_
  exact rn_lret C Rt dX8_smallSigma1_18 (pl_of rfl) (Nat.zero_le _) (Nat.zero_le _)
theorem hsmallSigma1_S (v : Int64) (S : StT) : (hsmallSigma1_f v S).2 = S := rfl
theorem cp_hsmallSigma1 {k : KX} {L : Nat → Option Sh} {S : StT} {n : Nat} {v : Int64}  :
    Cs k yX8_smallSigma1 cX8_smallSigma1 2 (some .long) 1 0 0 [.long (v)] (inst k L S.1 S.2.1 S.2.2) n (Pl k L n ((hsmallSigma1_f v S).1, S)) := by
  have h := c_hsmallSigma1 (k := k) (L := L) (S := S) (n := n) (v := v) 
  have e : hsmallSigma1_f v S = ((hsmallSigma1_f v S).1, S) := Prod.ext rfl (hsmallSigma1_S v S)
  rwa [e] at h
def hcomp_l67 (so : Nat) (S : StT) (z1 : Int64) (z3 : Int64) (z5 : Int64) (z7 : Int64) (z9 : Int64) (z11 : Int64) (z13 : Int64) (z15 : Int64) : Nat → Int64 × Int64 × Int64 × Int64 × Int64 × Int64 × Int64 × Int64
  | 0 => (z1, z3, z5, z7, z9, z11, z13, z15)
  | i67 + 1 => let y67_0 := (hcomp_l67 so S z1 z3 z5 z7 z9 z11 z13 z15 i67).1; let y67_1 := (hcomp_l67 so S z1 z3 z5 z7 z9 z11 z13 z15 i67).2.1; let y67_2 := (hcomp_l67 so S z1 z3 z5 z7 z9 z11 z13 z15 i67).2.2.1; let y67_3 := (hcomp_l67 so S z1 z3 z5 z7 z9 z11 z13 z15 i67).2.2.2.1; let y67_4 := (hcomp_l67 so S z1 z3 z5 z7 z9 z11 z13 z15 i67).2.2.2.2.1; let y67_5 := (hcomp_l67 so S z1 z3 z5 z7 z9 z11 z13 z15 i67).2.2.2.2.2.1; let y67_6 := (hcomp_l67 so S z1 z3 z5 z7 z9 z11 z13 z15 i67).2.2.2.2.2.2.1; let y67_7 := (hcomp_l67 so S z1 z3 z5 z7 z9 z11 z13 z15 i67).2.2.2.2.2.2.2; (let v9 := (((y67_7 + (hbigSigma1_f (y67_4) S).1) + ((y67_4 &&& y67_5) ^^^ ((y67_4 ^^^ (-1)) &&& y67_6))) + (hkF (i67))) + (S.2.1 (so + 2) (i67)); (let v10 := (hbigSigma0_f (y67_0) S).1 + (((y67_0 &&& y67_1) ^^^ (y67_0 &&& y67_2)) ^^^ (y67_1 &&& y67_2)); (v9 + v10, y67_0, y67_1, y67_2, y67_3 + v9, y67_4, y67_5, y67_6)))
def hcomp_f (so : Nat) (S : StT) : StT := (let J1 := va_up S.2.1 (so + 1) (vp_updL (S.2.1 (so + 1)) (0) ((S.2.1 (so + 1) (0)) + (hcomp_l67 so S (S.2.1 (so + 1) (0)) (S.2.1 (so + 1) (1)) (S.2.1 (so + 1) (2)) (S.2.1 (so + 1) (3)) (S.2.1 (so + 1) (4)) (S.2.1 (so + 1) (5)) (S.2.1 (so + 1) (6)) (S.2.1 (so + 1) (7)) 80).1)); (let J2 := va_up J1 (so + 1) (vp_updL (J1 (so + 1)) (1) ((J1 (so + 1) (1)) + (hcomp_l67 so S (S.2.1 (so + 1) (0)) (S.2.1 (so + 1) (1)) (S.2.1 (so + 1) (2)) (S.2.1 (so + 1) (3)) (S.2.1 (so + 1) (4)) (S.2.1 (so + 1) (5)) (S.2.1 (so + 1) (6)) (S.2.1 (so + 1) (7)) 80).2.1)); (let J3 := va_up J2 (so + 1) (vp_updL (J2 (so + 1)) (2) ((J2 (so + 1) (2)) + (hcomp_l67 so S (S.2.1 (so + 1) (0)) (S.2.1 (so + 1) (1)) (S.2.1 (so + 1) (2)) (S.2.1 (so + 1) (3)) (S.2.1 (so + 1) (4)) (S.2.1 (so + 1) (5)) (S.2.1 (so + 1) (6)) (S.2.1 (so + 1) (7)) 80).2.2.1)); (let J4 := va_up J3 (so + 1) (vp_updL (J3 (so + 1)) (3) ((J3 (so + 1) (3)) + (hcomp_l67 so S (S.2.1 (so + 1) (0)) (S.2.1 (so + 1) (1)) (S.2.1 (so + 1) (2)) (S.2.1 (so + 1) (3)) (S.2.1 (so + 1) (4)) (S.2.1 (so + 1) (5)) (S.2.1 (so + 1) (6)) (S.2.1 (so + 1) (7)) 80).2.2.2.1)); (let J5 := va_up J4 (so + 1) (vp_updL (J4 (so + 1)) (4) ((J4 (so + 1) (4)) + (hcomp_l67 so S (S.2.1 (so + 1) (0)) (S.2.1 (so + 1) (1)) (S.2.1 (so + 1) (2)) (S.2.1 (so + 1) (3)) (S.2.1 (so + 1) (4)) (S.2.1 (so + 1) (5)) (S.2.1 (so + 1) (6)) (S.2.1 (so + 1) (7)) 80).2.2.2.2.1)); (let J6 := va_up J5 (so + 1) (vp_updL (J5 (so + 1)) (5) ((J5 (so + 1) (5)) + (hcomp_l67 so S (S.2.1 (so + 1) (0)) (S.2.1 (so + 1) (1)) (S.2.1 (so + 1) (2)) (S.2.1 (so + 1) (3)) (S.2.1 (so + 1) (4)) (S.2.1 (so + 1) (5)) (S.2.1 (so + 1) (6)) (S.2.1 (so + 1) (7)) 80).2.2.2.2.2.1)); (let J7 := va_up J6 (so + 1) (vp_updL (J6 (so + 1)) (6) ((J6 (so + 1) (6)) + (hcomp_l67 so S (S.2.1 (so + 1) (0)) (S.2.1 (so + 1) (1)) (S.2.1 (so + 1) (2)) (S.2.1 (so + 1) (3)) (S.2.1 (so + 1) (4)) (S.2.1 (so + 1) (5)) (S.2.1 (so + 1) (6)) (S.2.1 (so + 1) (7)) 80).2.2.2.2.2.2.1)); (let J8 := va_up J7 (so + 1) (vp_updL (J7 (so + 1)) (7) ((J7 (so + 1) (7)) + (hcomp_l67 so S (S.2.1 (so + 1) (0)) (S.2.1 (so + 1) (1)) (S.2.1 (so + 1) (2)) (S.2.1 (so + 1) (3)) (S.2.1 (so + 1) (4)) (S.2.1 (so + 1) (5)) (S.2.1 (so + 1) (6)) (S.2.1 (so + 1) (7)) 80).2.2.2.2.2.2.2)); (S.1, J8, S.2.2)))))))))
set_option maxRecDepth 100000 in
set_option maxHeartbeats 4000000 in
theorem c_hcomp {k : KX} {L : Nat → Option Sh} {S : StT} {n : Nat} {so : Nat} (hS : ShaAt k L so) (hst : ∀ U, k_F k U → ShaS k U) :
    Cs k yX8_compress cX8_compress 22 none 2 0 0 [.ref (k_b k + (so))] (inst k L S.1 S.2.1 S.2.2) n (Pv k L n (hcomp_f so S)) := by
  refine cs_of (by decide) (Nat.le_of_ble_eq_true rfl) ?_
  intro X hXk C Rt hnm
  subst hXk
  have hS9 := hS
  obtain ⟨hS0, hs1, hs2⟩ := hS9
  obtain ⟨⟨t1, hz1, ht1⟩, ⟨t2, hz2, ht2⟩⟩ := hst _ C.2.2.2.2.2.2.1.2.1
  refine rn_lv [(0, .ref (k_b X.1 + (so)))] (fun q h => h) ?_
  refine rn_aload_n C dX8_compress_0 rfl ?_
  refine rs_get C dX8_compress_1 fl_X8_7 hS0 rfl ?_
  refine rn_iconst (v := nI 0) C dX8_compress_4 rfl ?_
  refine rs_laload C dX8_compress_5 hs1 rfl (by omega) (by decide) ?_
  refine rn_lstore_n (lv' := [(0, _), (1, _)]) C dX8_compress_6 (by decide) rfl ?_
  refine rn_aload_n C dX8_compress_7 rfl ?_
  refine rs_get C dX8_compress_8 fl_X8_7 hS0 rfl ?_
  refine rn_iconst (v := nI 1) C dX8_compress_11 rfl ?_
  refine rs_laload C dX8_compress_12 hs1 rfl (by omega) (by decide) ?_
  refine rn_lstore_n (lv' := [(0, _), (1, _), (3, _)]) C dX8_compress_13 (by decide) rfl ?_
  refine rn_aload_n C dX8_compress_14 rfl ?_
  refine rs_get C dX8_compress_15 fl_X8_7 hS0 rfl ?_
  refine rn_iconst (v := nI 2) C dX8_compress_18 rfl ?_
  refine rs_laload C dX8_compress_19 hs1 rfl (by omega) (by decide) ?_
  refine rn_lstore (lv' := [(0, _), (1, _), (3, _), (5, _)]) C dX8_compress_20 (by decide) rfl ?_
  refine rn_aload_n C dX8_compress_22 rfl ?_
  refine rs_get C dX8_compress_23 fl_X8_7 hS0 rfl ?_
  refine rn_iconst (v := nI 3) C dX8_compress_26 rfl ?_
  refine rs_laload C dX8_compress_27 hs1 rfl (by omega) (by decide) ?_
  refine rn_lstore (lv' := [(0, _), (1, _), (3, _), (5, _), (7, _)]) C dX8_compress_28 (by decide) rfl ?_
  refine rn_aload_n C dX8_compress_30 rfl ?_
  refine rs_get C dX8_compress_31 fl_X8_7 hS0 rfl ?_
  refine rn_iconst (v := nI 4) C dX8_compress_34 rfl ?_
  refine rs_laload C dX8_compress_35 hs1 rfl (by omega) (by decide) ?_
  refine rn_lstore (lv' := [(0, _), (1, _), (3, _), (5, _), (7, _), (9, _)]) C dX8_compress_36 (by decide) rfl ?_
  refine rn_aload_n C dX8_compress_38 rfl ?_
  refine rs_get C dX8_compress_39 fl_X8_7 hS0 rfl ?_
  refine rn_iconst (v := nI 5) C dX8_compress_42 rfl ?_
  refine rs_laload C dX8_compress_43 hs1 rfl (by omega) (by decide) ?_
  refine rn_lstore (lv' := [(0, _), (1, _), (3, _), (5, _), (7, _), (9, _), (11, _)]) C dX8_compress_44 (by decide) rfl ?_
  refine rn_aload_n C dX8_compress_46 rfl ?_
  refine rs_get C dX8_compress_47 fl_X8_7 hS0 rfl ?_
  refine rn_bipush (v := nI 6) C dX8_compress_50 rfl ?_
  refine rs_laload C dX8_compress_52 hs1 rfl (by omega) (by decide) ?_
  refine rn_lstore (lv' := [(0, _), (1, _), (3, _), (5, _), (7, _), (9, _), (11, _), (13, _)]) C dX8_compress_53 (by decide) rfl ?_
  refine rn_aload_n C dX8_compress_55 rfl ?_
  refine rs_get C dX8_compress_56 fl_X8_7 hS0 rfl ?_
  refine rn_bipush (v := nI 7) C dX8_compress_59 rfl ?_
  refine rs_laload C dX8_compress_61 hs1 rfl (by omega) (by decide) ?_
  refine rn_lstore (lv' := [(0, _), (1, _), (3, _), (5, _), (7, _), (9, _), (11, _), (13, _), (15, _)]) C dX8_compress_62 (by decide) rfl ?_
  refine rn_iconst (v := nI 0) C dX8_compress_64 rfl ?_
  refine rn_istore (lv' := [(0, _), (1, _), (3, _), (5, _), (7, _), (9, _), (11, _), (13, _), (15, _), (17, _)]) C dX8_compress_65 (by decide) rfl ?_
  have lp67 : ∀ i67, i67 ≤ 80 → Rn X 67 [(0, .ref (k_b X.1 + (so))), (1, .long ((hcomp_l67 so S (S.2.1 (so + 1) (0)) (S.2.1 (so + 1) (1)) (S.2.1 (so + 1) (2)) (S.2.1 (so + 1) (3)) (S.2.1 (so + 1) (4)) (S.2.1 (so + 1) (5)) (S.2.1 (so + 1) (6)) (S.2.1 (so + 1) (7)) i67).1)), (3, .long ((hcomp_l67 so S (S.2.1 (so + 1) (0)) (S.2.1 (so + 1) (1)) (S.2.1 (so + 1) (2)) (S.2.1 (so + 1) (3)) (S.2.1 (so + 1) (4)) (S.2.1 (so + 1) (5)) (S.2.1 (so + 1) (6)) (S.2.1 (so + 1) (7)) i67).2.1)), (5, .long ((hcomp_l67 so S (S.2.1 (so + 1) (0)) (S.2.1 (so + 1) (1)) (S.2.1 (so + 1) (2)) (S.2.1 (so + 1) (3)) (S.2.1 (so + 1) (4)) (S.2.1 (so + 1) (5)) (S.2.1 (so + 1) (6)) (S.2.1 (so + 1) (7)) i67).2.2.1)), (7, .long ((hcomp_l67 so S (S.2.1 (so + 1) (0)) (S.2.1 (so + 1) (1)) (S.2.1 (so + 1) (2)) (S.2.1 (so + 1) (3)) (S.2.1 (so + 1) (4)) (S.2.1 (so + 1) (5)) (S.2.1 (so + 1) (6)) (S.2.1 (so + 1) (7)) i67).2.2.2.1)), (9, .long ((hcomp_l67 so S (S.2.1 (so + 1) (0)) (S.2.1 (so + 1) (1)) (S.2.1 (so + 1) (2)) (S.2.1 (so + 1) (3)) (S.2.1 (so + 1) (4)) (S.2.1 (so + 1) (5)) (S.2.1 (so + 1) (6)) (S.2.1 (so + 1) (7)) i67).2.2.2.2.1)), (11, .long ((hcomp_l67 so S (S.2.1 (so + 1) (0)) (S.2.1 (so + 1) (1)) (S.2.1 (so + 1) (2)) (S.2.1 (so + 1) (3)) (S.2.1 (so + 1) (4)) (S.2.1 (so + 1) (5)) (S.2.1 (so + 1) (6)) (S.2.1 (so + 1) (7)) i67).2.2.2.2.2.1)), (13, .long ((hcomp_l67 so S (S.2.1 (so + 1) (0)) (S.2.1 (so + 1) (1)) (S.2.1 (so + 1) (2)) (S.2.1 (so + 1) (3)) (S.2.1 (so + 1) (4)) (S.2.1 (so + 1) (5)) (S.2.1 (so + 1) (6)) (S.2.1 (so + 1) (7)) i67).2.2.2.2.2.2.1)), (15, .long ((hcomp_l67 so S (S.2.1 (so + 1) (0)) (S.2.1 (so + 1) (1)) (S.2.1 (so + 1) (2)) (S.2.1 (so + 1) (3)) (S.2.1 (so + 1) (4)) (S.2.1 (so + 1) (5)) (S.2.1 (so + 1) (6)) (S.2.1 (so + 1) (7)) i67).2.2.2.2.2.2.2)), (17, .int (nI (i67)))] [] (inst X.1 L S.1 S.2.1 S.2.2) n 0 0 := by
    refine upto _ _ ?_ (fun i67 hi67 ih67 => ?_)
    · skip
      refine rn_iload C dX8_compress_67 rfl ?_
      refine rn_bipush (v := nI 80) C dX8_compress_69 rfl ?_
      refine rs_ge (tgt := 175) C dX8_compress_71 (by decide) rfl rfl (by omega) (by omega) (fun _ => ?_) (fun q => absurd q (by omega))
      refine rn_aload_n C dX8_compress_175 rfl ?_
      refine rs_get C dX8_compress_176 fl_X8_7 hS0 rfl ?_
      refine rn_iconst (v := nI 0) C dX8_compress_179 rfl ?_
      refine rn_dup2 C dX8_compress_180 rfl rfl ?_
      refine rs_laload C dX8_compress_181 hs1 rfl (by omega) (by decide) ?_
      refine rn_lload_n C dX8_compress_182 rfl ?_
      refine rn_ladd C dX8_compress_183 rfl ?_
      refine rs_lastore C dX8_compress_184 hs1 rfl (by omega) (by decide) ?_
      refine rn_aload_n C dX8_compress_185 rfl ?_
      refine rs_get C dX8_compress_186 fl_X8_7 hS0 rfl ?_
      refine rn_iconst (v := nI 1) C dX8_compress_189 rfl ?_
      refine rn_dup2 C dX8_compress_190 rfl rfl ?_
      refine rs_laload C dX8_compress_191 hs1 rfl (by omega) (by decide) ?_
      refine rn_lload_n C dX8_compress_192 rfl ?_
      refine rn_ladd C dX8_compress_193 rfl ?_
      refine rs_lastore C dX8_compress_194 hs1 rfl (by omega) (by decide) ?_
      refine rn_aload_n C dX8_compress_195 rfl ?_
      refine rs_get C dX8_compress_196 fl_X8_7 hS0 rfl ?_
      refine rn_iconst (v := nI 2) C dX8_compress_199 rfl ?_
      refine rn_dup2 C dX8_compress_200 rfl rfl ?_
      refine rs_laload C dX8_compress_201 hs1 rfl (by omega) (by decide) ?_
      refine rn_lload C dX8_compress_202 rfl ?_
      refine rn_ladd C dX8_compress_204 rfl ?_
      refine rs_lastore C dX8_compress_205 hs1 rfl (by omega) (by decide) ?_
      refine rn_aload_n C dX8_compress_206 rfl ?_
      refine rs_get C dX8_compress_207 fl_X8_7 hS0 rfl ?_
      refine rn_iconst (v := nI 3) C dX8_compress_210 rfl ?_
      refine rn_dup2 C dX8_compress_211 rfl rfl ?_
      refine rs_laload C dX8_compress_212 hs1 rfl (by omega) (by decide) ?_
      refine rn_lload C dX8_compress_213 rfl ?_
      refine rn_ladd C dX8_compress_215 rfl ?_
      refine rs_lastore C dX8_compress_216 hs1 rfl (by omega) (by decide) ?_
      refine rn_aload_n C dX8_compress_217 rfl ?_
      refine rs_get C dX8_compress_218 fl_X8_7 hS0 rfl ?_
      refine rn_iconst (v := nI 4) C dX8_compress_221 rfl ?_
      refine rn_dup2 C dX8_compress_222 rfl rfl ?_
      refine rs_laload C dX8_compress_223 hs1 rfl (by omega) (by decide) ?_
      refine rn_lload C dX8_compress_224 rfl ?_
      refine rn_ladd C dX8_compress_226 rfl ?_
      refine rs_lastore C dX8_compress_227 hs1 rfl (by omega) (by decide) ?_
      refine rn_aload_n C dX8_compress_228 rfl ?_
      refine rs_get C dX8_compress_229 fl_X8_7 hS0 rfl ?_
      refine rn_iconst (v := nI 5) C dX8_compress_232 rfl ?_
      refine rn_dup2 C dX8_compress_233 rfl rfl ?_
      refine rs_laload C dX8_compress_234 hs1 rfl (by omega) (by decide) ?_
      refine rn_lload C dX8_compress_235 rfl ?_
      refine rn_ladd C dX8_compress_237 rfl ?_
      refine rs_lastore C dX8_compress_238 hs1 rfl (by omega) (by decide) ?_
      refine rn_aload_n C dX8_compress_239 rfl ?_
      refine rs_get C dX8_compress_240 fl_X8_7 hS0 rfl ?_
      refine rn_bipush (v := nI 6) C dX8_compress_243 rfl ?_
      refine rn_dup2 C dX8_compress_245 rfl rfl ?_
      refine rs_laload C dX8_compress_246 hs1 rfl (by omega) (by decide) ?_
      refine rn_lload C dX8_compress_247 rfl ?_
      refine rn_ladd C dX8_compress_249 rfl ?_
      refine rs_lastore C dX8_compress_250 hs1 rfl (by omega) (by decide) ?_
      refine rn_aload_n C dX8_compress_251 rfl ?_
      refine rs_get C dX8_compress_252 fl_X8_7 hS0 rfl ?_
      refine rn_bipush (v := nI 7) C dX8_compress_255 rfl ?_
      refine rn_dup2 C dX8_compress_257 rfl rfl ?_
      refine rs_laload C dX8_compress_258 hs1 rfl (by omega) (by decide) ?_
      refine rn_lload C dX8_compress_259 rfl ?_
      refine rn_ladd C dX8_compress_261 rfl ?_
      refine rs_lastore C dX8_compress_262 hs1 rfl (by omega) (by decide) ?_
      exact rn_vret C Rt dX8_compress_263 (pv_of rfl) (Nat.zero_le _) (Nat.zero_le _)
    · skip
      refine rn_iload C dX8_compress_67 rfl ?_
      refine rn_bipush (v := nI 80) C dX8_compress_69 rfl ?_
      refine rs_ge (tgt := 175) C dX8_compress_71 (by decide) rfl rfl (by omega) (by omega) (fun q => absurd q (by omega)) (fun _ => ?_)
      refine rn_lload C dX8_compress_74 rfl ?_
      refine rn_lload C dX8_compress_76 rfl ?_
      refine rs_sl C dX8_compress_78 mk_X8_bigSigma1 ls_X8_53 (cp_hbigSigma1 ) rfl rfl (by decide) (Nat.le_of_ble_eq_true rfl) (by decide) (by decide) ?_
      refine rn_ladd C dX8_compress_81 rfl ?_
      refine rn_lload C dX8_compress_82 rfl ?_
      refine rn_lload C dX8_compress_84 rfl ?_
      refine rn_land C dX8_compress_86 rfl ?_
      refine rn_lload C dX8_compress_87 rfl ?_
      refine rn_ldc2 C dX8_compress_89 lc_X8_56 ?_
      refine rn_lxor C dX8_compress_92 rfl ?_
      refine rn_lload C dX8_compress_93 rfl ?_
      refine rn_land C dX8_compress_95 rfl ?_
      refine rn_lxor C dX8_compress_96 rfl ?_
      refine rn_ladd C dX8_compress_97 rfl ?_
      refine rn_gets C dX8_compress_98 gs_X8_58 hz2 ?_
      refine rn_iload C dX8_compress_101 rfl ?_
      refine rn_stl C dX8_compress_103 ht2 rfl (by omega) (by decide) ?_
      refine rn_ladd C dX8_compress_104 rfl ?_
      refine rn_aload_n C dX8_compress_105 rfl ?_
      refine rs_get C dX8_compress_106 fl_X8_13 hS0 rfl ?_
      refine rn_iload C dX8_compress_109 rfl ?_
      refine rs_laload C dX8_compress_111 hs2 rfl (by omega) (by decide) ?_
      refine rn_ladd C dX8_compress_112 rfl ?_
      refine rn_lstore (lv' := [(0, _), (1, _), (3, _), (5, _), (7, _), (9, _), (11, _), (13, _), (15, _), (17, _), (18, _)]) C dX8_compress_113 (by decide) rfl ?_
      refine rn_lload_n C dX8_compress_115 rfl ?_
      refine rs_sl C dX8_compress_116 mk_X8_bigSigma0 ls_X8_61 (cp_hbigSigma0 ) rfl rfl (by decide) (Nat.le_of_ble_eq_true rfl) (by decide) (by decide) ?_
      refine rn_lload_n C dX8_compress_119 rfl ?_
      refine rn_lload_n C dX8_compress_120 rfl ?_
      refine rn_land C dX8_compress_121 rfl ?_
      refine rn_lload_n C dX8_compress_122 rfl ?_
      refine rn_lload C dX8_compress_123 rfl ?_
      refine rn_land C dX8_compress_125 rfl ?_
      refine rn_lxor C dX8_compress_126 rfl ?_
      refine rn_lload_n C dX8_compress_127 rfl ?_
      refine rn_lload C dX8_compress_128 rfl ?_
      refine rn_land C dX8_compress_130 rfl ?_
      refine rn_lxor C dX8_compress_131 rfl ?_
      refine rn_ladd C dX8_compress_132 rfl ?_
      refine rn_lstore (lv' := [(0, _), (1, _), (3, _), (5, _), (7, _), (9, _), (11, _), (13, _), (15, _), (17, _), (18, _), (20, _)]) C dX8_compress_133 (by decide) rfl ?_
      refine rn_lload C dX8_compress_135 rfl ?_
      refine rn_lstore (lv' := [(0, _), (1, _), (3, _), (5, _), (7, _), (9, _), (11, _), (13, _), (15, _), (17, _), (18, _), (20, _)]) C dX8_compress_137 (by decide) rfl ?_
      refine rn_lload C dX8_compress_139 rfl ?_
      refine rn_lstore (lv' := [(0, _), (1, _), (3, _), (5, _), (7, _), (9, _), (11, _), (13, _), (15, _), (17, _), (18, _), (20, _)]) C dX8_compress_141 (by decide) rfl ?_
      refine rn_lload C dX8_compress_143 rfl ?_
      refine rn_lstore (lv' := [(0, _), (1, _), (3, _), (5, _), (7, _), (9, _), (11, _), (13, _), (15, _), (17, _), (18, _), (20, _)]) C dX8_compress_145 (by decide) rfl ?_
      refine rn_lload C dX8_compress_147 rfl ?_
      refine rn_lload C dX8_compress_149 rfl ?_
      refine rn_ladd C dX8_compress_151 rfl ?_
      refine rn_lstore (lv' := [(0, _), (1, _), (3, _), (5, _), (7, _), (9, _), (11, _), (13, _), (15, _), (17, _), (18, _), (20, _)]) C dX8_compress_152 (by decide) rfl ?_
      refine rn_lload C dX8_compress_154 rfl ?_
      refine rn_lstore (lv' := [(0, _), (1, _), (3, _), (5, _), (7, _), (9, _), (11, _), (13, _), (15, _), (17, _), (18, _), (20, _)]) C dX8_compress_156 (by decide) rfl ?_
      refine rn_lload_n C dX8_compress_158 rfl ?_
      refine rn_lstore (lv' := [(0, _), (1, _), (3, _), (5, _), (7, _), (9, _), (11, _), (13, _), (15, _), (17, _), (18, _), (20, _)]) C dX8_compress_159 (by decide) rfl ?_
      refine rn_lload_n C dX8_compress_161 rfl ?_
      refine rn_lstore_n (lv' := [(0, _), (1, _), (3, _), (5, _), (7, _), (9, _), (11, _), (13, _), (15, _), (17, _), (18, _), (20, _)]) C dX8_compress_162 (by decide) rfl ?_
      refine rn_lload C dX8_compress_163 rfl ?_
      refine rn_lload C dX8_compress_165 rfl ?_
      refine rn_ladd C dX8_compress_167 rfl ?_
      refine rn_lstore_n (lv' := [(0, _), (1, _), (3, _), (5, _), (7, _), (9, _), (11, _), (13, _), (15, _), (17, _), (18, _), (20, _)]) C dX8_compress_168 (by decide) rfl ?_
      refine rn_iinc (lv' := [(0, _), (1, _), (3, _), (5, _), (7, _), (9, _), (11, _), (13, _), (15, _), (17, _), (18, _), (20, _)]) C dX8_compress_169 rfl (nI_inc _) (by decide) rfl ?_
      refine rn_goto (tgt := 67) C dX8_compress_172 (by decide) ?_
      exact rn_ks [0, 1, 3, 5, 7, 9, 11, 13, 15, 17] ih67 rfl
  exact lp67 0 (Nat.zero_le _)
