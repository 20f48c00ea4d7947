/-! CurveSuite: its public methods where they refuse nothing, by program (dc.py, spec_cls5.py) -/
theorem aclimb_z (c : Bool) (ao : Nat) (fo : Nat) (to : Nat) (sc : Nat) (S : StT) : narrow .boolean (.int (aclimb_f c ao fo to sc S).1) = .int (aclimb_f c ao fo to sc S).1 :=
  (nz_let (v := aload_f c (ao) fo (sc) S) (f := fun S1 => (let S2 := fcopy_f c (ao + 3) (fo + 1) (S1.1, S1.2.1, S.2.2); (let S3 := fill_f (ao + 4) (16) (0) (S1.1, S2.2.1, S.2.2); (let S4 := fcopy_f c (ao + 5) (ao + 2) (S1.1, S3.2.1, S.2.2); (let S5 := fcopy_f c (ao + 6) (fo + 1) (S1.1, S4.2.1, S.2.2); (let S7 := finv_f c (fo) (ao + 4) (ao + 4) (S1.1, (aclimb_l81 c ao fo (S1.1, S5.2.1, S.2.2) (ldN c)), S.2.2); (let S8 := mul_f c (fo) (ao + 3) (ao + 3) (ao + 4) (S1.1, S7.2.1, S.2.2); (let S9 := fwrite_f c (fo) (to) (ao + 3) (S1.1, S8.2.1, S.2.2); (let r10 := fisZero_f c (fo) (ao + 3) (S9.1, S9.2.1, S.2.2); (if (r10.1) ≠ 0 then (nI (0), (S9.1, r10.2.2.1, S.2.2)) else (nI (1), (S9.1, r10.2.2.1, S.2.2)))))))))))) (fun S1 e_S1 => (nz_let (v := fcopy_f c (ao + 3) (fo + 1) (S1.1, S1.2.1, S.2.2)) (f := fun S2 => (let S3 := fill_f (ao + 4) (16) (0) (S1.1, S2.2.1, S.2.2); (let S4 := fcopy_f c (ao + 5) (ao + 2) (S1.1, S3.2.1, S.2.2); (let S5 := fcopy_f c (ao + 6) (fo + 1) (S1.1, S4.2.1, S.2.2); (let S7 := finv_f c (fo) (ao + 4) (ao + 4) (S1.1, (aclimb_l81 c ao fo (S1.1, S5.2.1, S.2.2) (ldN c)), S.2.2); (let S8 := mul_f c (fo) (ao + 3) (ao + 3) (ao + 4) (S1.1, S7.2.1, S.2.2); (let S9 := fwrite_f c (fo) (to) (ao + 3) (S1.1, S8.2.1, S.2.2); (let r10 := fisZero_f c (fo) (ao + 3) (S9.1, S9.2.1, S.2.2); (if (r10.1) ≠ 0 then (nI (0), (S9.1, r10.2.2.1, S.2.2)) else (nI (1), (S9.1, r10.2.2.1, S.2.2))))))))))) (fun S2 e_S2 => (nz_let (v := fill_f (ao + 4) (16) (0) (S1.1, S2.2.1, S.2.2)) (f := fun S3 => (let S4 := fcopy_f c (ao + 5) (ao + 2) (S1.1, S3.2.1, S.2.2); (let S5 := fcopy_f c (ao + 6) (fo + 1) (S1.1, S4.2.1, S.2.2); (let S7 := finv_f c (fo) (ao + 4) (ao + 4) (S1.1, (aclimb_l81 c ao fo (S1.1, S5.2.1, S.2.2) (ldN c)), S.2.2); (let S8 := mul_f c (fo) (ao + 3) (ao + 3) (ao + 4) (S1.1, S7.2.1, S.2.2); (let S9 := fwrite_f c (fo) (to) (ao + 3) (S1.1, S8.2.1, S.2.2); (let r10 := fisZero_f c (fo) (ao + 3) (S9.1, S9.2.1, S.2.2); (if (r10.1) ≠ 0 then (nI (0), (S9.1, r10.2.2.1, S.2.2)) else (nI (1), (S9.1, r10.2.2.1, S.2.2)))))))))) (fun S3 e_S3 => (nz_let (v := fcopy_f c (ao + 5) (ao + 2) (S1.1, S3.2.1, S.2.2)) (f := fun S4 => (let S5 := fcopy_f c (ao + 6) (fo + 1) (S1.1, S4.2.1, S.2.2); (let S7 := finv_f c (fo) (ao + 4) (ao + 4) (S1.1, (aclimb_l81 c ao fo (S1.1, S5.2.1, S.2.2) (ldN c)), S.2.2); (let S8 := mul_f c (fo) (ao + 3) (ao + 3) (ao + 4) (S1.1, S7.2.1, S.2.2); (let S9 := fwrite_f c (fo) (to) (ao + 3) (S1.1, S8.2.1, S.2.2); (let r10 := fisZero_f c (fo) (ao + 3) (S9.1, S9.2.1, S.2.2); (if (r10.1) ≠ 0 then (nI (0), (S9.1, r10.2.2.1, S.2.2)) else (nI (1), (S9.1, r10.2.2.1, S.2.2))))))))) (fun S4 e_S4 => (nz_let (v := fcopy_f c (ao + 6) (fo + 1) (S1.1, S4.2.1, S.2.2)) (f := fun S5 => (let S7 := finv_f c (fo) (ao + 4) (ao + 4) (S1.1, (aclimb_l81 c ao fo (S1.1, S5.2.1, S.2.2) (ldN c)), S.2.2); (let S8 := mul_f c (fo) (ao + 3) (ao + 3) (ao + 4) (S1.1, S7.2.1, S.2.2); (let S9 := fwrite_f c (fo) (to) (ao + 3) (S1.1, S8.2.1, S.2.2); (let r10 := fisZero_f c (fo) (ao + 3) (S9.1, S9.2.1, S.2.2); (if (r10.1) ≠ 0 then (nI (0), (S9.1, r10.2.2.1, S.2.2)) else (nI (1), (S9.1, r10.2.2.1, S.2.2)))))))) (fun S5 e_S5 => (nz_let (v := finv_f c (fo) (ao + 4) (ao + 4) (S1.1, (aclimb_l81 c ao fo (S1.1, S5.2.1, S.2.2) (ldN c)), S.2.2)) (f := fun S7 => (let S8 := mul_f c (fo) (ao + 3) (ao + 3) (ao + 4) (S1.1, S7.2.1, S.2.2); (let S9 := fwrite_f c (fo) (to) (ao + 3) (S1.1, S8.2.1, S.2.2); (let r10 := fisZero_f c (fo) (ao + 3) (S9.1, S9.2.1, S.2.2); (if (r10.1) ≠ 0 then (nI (0), (S9.1, r10.2.2.1, S.2.2)) else (nI (1), (S9.1, r10.2.2.1, S.2.2))))))) (fun S7 e_S7 => (nz_let (v := mul_f c (fo) (ao + 3) (ao + 3) (ao + 4) (S1.1, S7.2.1, S.2.2)) (f := fun S8 => (let S9 := fwrite_f c (fo) (to) (ao + 3) (S1.1, S8.2.1, S.2.2); (let r10 := fisZero_f c (fo) (ao + 3) (S9.1, S9.2.1, S.2.2); (if (r10.1) ≠ 0 then (nI (0), (S9.1, r10.2.2.1, S.2.2)) else (nI (1), (S9.1, r10.2.2.1, S.2.2)))))) (fun S8 e_S8 => (nz_let (v := fwrite_f c (fo) (to) (ao + 3) (S1.1, S8.2.1, S.2.2)) (f := fun S9 => (let r10 := fisZero_f c (fo) (ao + 3) (S9.1, S9.2.1, S.2.2); (if (r10.1) ≠ 0 then (nI (0), (S9.1, r10.2.2.1, S.2.2)) else (nI (1), (S9.1, r10.2.2.1, S.2.2))))) (fun S9 e_S9 => (nz_let (v := fisZero_f c (fo) (ao + 3) (S9.1, S9.2.1, S.2.2)) (f := fun r10 => (if (r10.1) ≠ 0 then (nI (0), (S9.1, r10.2.2.1, S.2.2)) else (nI (1), (S9.1, r10.2.2.1, S.2.2)))) (fun r10 e_r10 => (nz_ite nz0 nz1)))))))))))))))))))
theorem gver_z (c : Bool) (so : Nat) (co : Nat) (fo : Nat) (hs : Nat) (pf : Nat) (bd : Nat) (sg : Nat) (pk : Nat) (S : StT) : narrow .boolean (.int (gver_f c so co fo hs pf bd sg pk S).1) = .int (gver_f c so co fo hs pf bd sg pk S).1 :=
  (nz_let (v := cdec_f c (co) fo (so + 19) (pk) S) (f := fun r1 => (if (r1.1) = 0 then (nI (0), (r1.2.1, r1.2.2.1, S.2.2)) else (let r3 := cdec_f c (co) fo (so + 23) (sg) (r1.2.1, r1.2.2.1, S.2.2); (if (r3.1) = 0 then (nI (0), (r3.2.1, r3.2.2.1, S.2.2)) else (if ((sbel_f c (so + 27) (sg) (cB c) (r3.2.1, r3.2.2.1, S.2.2)).1) ≠ 0 then (let S6 := gcha_f c (so) co fo hs pf bd (sg) (pk) (r3.2.1, r3.2.2.1, S.2.2); (let S7 := sred_f c (so + 27) (so + 14) (so + 8) (2 * (cB c)) (S6.1, S6.2.1, fs S.2.2 (so + 5) 1 (nI (0 + pf + (cB c) + (cB c) + bd))); (let S8 := swrite_f c (so + 27) (so + 10) (0) (so + 14) (S6.1, S7.2.1, fs S.2.2 (so + 5) 1 (nI (0 + pf + (cB c) + (cB c) + bd))); (let S9 := cneg_f c (co) fo (so + 19) (so + 19) (va_up S8.1 (so + 11) (va_cpy (S8.1 (sg)) (S8.1 (so + 11)) (cB c) (0) (cB c)), S8.2.1, fs S.2.2 (so + 5) 1 (nI (0 + pf + (cB c) + (cB c) + bd))); (let S10 := cneg_f c (co) fo (so + 23) (so + 23) (va_up S8.1 (so + 11) (va_cpy (S8.1 (sg)) (S8.1 (so + 11)) (cB c) (0) (cB c)), S9.2.1, fs S.2.2 (so + 5) 1 (nI (0 + pf + (cB c) + (cB c) + bd))); (let S11 := cmul2_f c (co) fo (so + 15) (so + 11) (co + 20) (so + 10) (so + 19) (va_up S8.1 (so + 11) (va_cpy (S8.1 (sg)) (S8.1 (so + 11)) (cB c) (0) (cB c)), S10.2.1, fs S.2.2 (so + 5) 1 (nI (0 + pf + (cB c) + (cB c) + bd))); (let S12 := csum_f c (co) fo (so + 15) (so + 15) (so + 23) (S11.1, S11.2.1, fs S.2.2 (so + 5) 1 (nI (0 + pf + (cB c) + (cB c) + bd))); (let r14 := cisN_f c (co) fo (so + 15) (S11.1, (gver_l202 c so co fo pf bd (S11.1, S12.2.1, S.2.2) (vcN c)), fs S.2.2 (so + 5) 1 (nI (0 + pf + (cB c) + (cB c) + bd))); (r14.1, (S11.1, r14.2.2.1, fs S.2.2 (so + 5) 1 (nI (0 + pf + (cB c) + (cB c) + bd)))))))))))) else (nI (0), (r3.2.1, r3.2.2.1, S.2.2))))))) (fun r1 e_r1 => (nz_ite nz0 (nz_let (v := cdec_f c (co) fo (so + 23) (sg) (r1.2.1, r1.2.2.1, S.2.2)) (f := fun r3 => (if (r3.1) = 0 then (nI (0), (r3.2.1, r3.2.2.1, S.2.2)) else (if ((sbel_f c (so + 27) (sg) (cB c) (r3.2.1, r3.2.2.1, S.2.2)).1) ≠ 0 then (let S6 := gcha_f c (so) co fo hs pf bd (sg) (pk) (r3.2.1, r3.2.2.1, S.2.2); (let S7 := sred_f c (so + 27) (so + 14) (so + 8) (2 * (cB c)) (S6.1, S6.2.1, fs S.2.2 (so + 5) 1 (nI (0 + pf + (cB c) + (cB c) + bd))); (let S8 := swrite_f c (so + 27) (so + 10) (0) (so + 14) (S6.1, S7.2.1, fs S.2.2 (so + 5) 1 (nI (0 + pf + (cB c) + (cB c) + bd))); (let S9 := cneg_f c (co) fo (so + 19) (so + 19) (va_up S8.1 (so + 11) (va_cpy (S8.1 (sg)) (S8.1 (so + 11)) (cB c) (0) (cB c)), S8.2.1, fs S.2.2 (so + 5) 1 (nI (0 + pf + (cB c) + (cB c) + bd))); (let S10 := cneg_f c (co) fo (so + 23) (so + 23) (va_up S8.1 (so + 11) (va_cpy (S8.1 (sg)) (S8.1 (so + 11)) (cB c) (0) (cB c)), S9.2.1, fs S.2.2 (so + 5) 1 (nI (0 + pf + (cB c) + (cB c) + bd))); (let S11 := cmul2_f c (co) fo (so + 15) (so + 11) (co + 20) (so + 10) (so + 19) (va_up S8.1 (so + 11) (va_cpy (S8.1 (sg)) (S8.1 (so + 11)) (cB c) (0) (cB c)), S10.2.1, fs S.2.2 (so + 5) 1 (nI (0 + pf + (cB c) + (cB c) + bd))); (let S12 := csum_f c (co) fo (so + 15) (so + 15) (so + 23) (S11.1, S11.2.1, fs S.2.2 (so + 5) 1 (nI (0 + pf + (cB c) + (cB c) + bd))); (let r14 := cisN_f c (co) fo (so + 15) (S11.1, (gver_l202 c so co fo pf bd (S11.1, S12.2.1, S.2.2) (vcN c)), fs S.2.2 (so + 5) 1 (nI (0 + pf + (cB c) + (cB c) + bd))); (r14.1, (S11.1, r14.2.2.1, fs S.2.2 (so + 5) 1 (nI (0 + pf + (cB c) + (cB c) + bd)))))))))))) else (nI (0), (r3.2.1, r3.2.2.1, S.2.2))))) (fun r3 e_r3 => (nz_ite nz0 (nz_ite (nz_let (v := gcha_f c (so) co fo hs pf bd (sg) (pk) (r3.2.1, r3.2.2.1, S.2.2)) (f := fun S6 => (let S7 := sred_f c (so + 27) (so + 14) (so + 8) (2 * (cB c)) (S6.1, S6.2.1, fs S.2.2 (so + 5) 1 (nI (0 + pf + (cB c) + (cB c) + bd))); (let S8 := swrite_f c (so + 27) (so + 10) (0) (so + 14) (S6.1, S7.2.1, fs S.2.2 (so + 5) 1 (nI (0 + pf + (cB c) + (cB c) + bd))); (let S9 := cneg_f c (co) fo (so + 19) (so + 19) (va_up S8.1 (so + 11) (va_cpy (S8.1 (sg)) (S8.1 (so + 11)) (cB c) (0) (cB c)), S8.2.1, fs S.2.2 (so + 5) 1 (nI (0 + pf + (cB c) + (cB c) + bd))); (let S10 := cneg_f c (co) fo (so + 23) (so + 23) (va_up S8.1 (so + 11) (va_cpy (S8.1 (sg)) (S8.1 (so + 11)) (cB c) (0) (cB c)), S9.2.1, fs S.2.2 (so + 5) 1 (nI (0 + pf + (cB c) + (cB c) + bd))); (let S11 := cmul2_f c (co) fo (so + 15) (so + 11) (co + 20) (so + 10) (so + 19) (va_up S8.1 (so + 11) (va_cpy (S8.1 (sg)) (S8.1 (so + 11)) (cB c) (0) (cB c)), S10.2.1, fs S.2.2 (so + 5) 1 (nI (0 + pf + (cB c) + (cB c) + bd))); (let S12 := csum_f c (co) fo (so + 15) (so + 15) (so + 23) (S11.1, S11.2.1, fs S.2.2 (so + 5) 1 (nI (0 + pf + (cB c) + (cB c) + bd))); (let r14 := cisN_f c (co) fo (so + 15) (S11.1, (gver_l202 c so co fo pf bd (S11.1, S12.2.1, S.2.2) (vcN c)), fs S.2.2 (so + 5) 1 (nI (0 + pf + (cB c) + (cB c) + bd))); (r14.1, (S11.1, r14.2.2.1, fs S.2.2 (so + 5) 1 (nI (0 + pf + (cB c) + (cB c) + bd)))))))))))) (fun S6 e_S6 => (nz_let (v := sred_f c (so + 27) (so + 14) (so + 8) (2 * (cB c)) (S6.1, S6.2.1, fs S.2.2 (so + 5) 1 (nI (0 + pf + (cB c) + (cB c) + bd)))) (f := fun S7 => (let S8 := swrite_f c (so + 27) (so + 10) (0) (so + 14) (S6.1, S7.2.1, fs S.2.2 (so + 5) 1 (nI (0 + pf + (cB c) + (cB c) + bd))); (let S9 := cneg_f c (co) fo (so + 19) (so + 19) (va_up S8.1 (so + 11) (va_cpy (S8.1 (sg)) (S8.1 (so + 11)) (cB c) (0) (cB c)), S8.2.1, fs S.2.2 (so + 5) 1 (nI (0 + pf + (cB c) + (cB c) + bd))); (let S10 := cneg_f c (co) fo (so + 23) (so + 23) (va_up S8.1 (so + 11) (va_cpy (S8.1 (sg)) (S8.1 (so + 11)) (cB c) (0) (cB c)), S9.2.1, fs S.2.2 (so + 5) 1 (nI (0 + pf + (cB c) + (cB c) + bd))); (let S11 := cmul2_f c (co) fo (so + 15) (so + 11) (co + 20) (so + 10) (so + 19) (va_up S8.1 (so + 11) (va_cpy (S8.1 (sg)) (S8.1 (so + 11)) (cB c) (0) (cB c)), S10.2.1, fs S.2.2 (so + 5) 1 (nI (0 + pf + (cB c) + (cB c) + bd))); (let S12 := csum_f c (co) fo (so + 15) (so + 15) (so + 23) (S11.1, S11.2.1, fs S.2.2 (so + 5) 1 (nI (0 + pf + (cB c) + (cB c) + bd))); (let r14 := cisN_f c (co) fo (so + 15) (S11.1, (gver_l202 c so co fo pf bd (S11.1, S12.2.1, S.2.2) (vcN c)), fs S.2.2 (so + 5) 1 (nI (0 + pf + (cB c) + (cB c) + bd))); (r14.1, (S11.1, r14.2.2.1, fs S.2.2 (so + 5) 1 (nI (0 + pf + (cB c) + (cB c) + bd))))))))))) (fun S7 e_S7 => (nz_let (v := swrite_f c (so + 27) (so + 10) (0) (so + 14) (S6.1, S7.2.1, fs S.2.2 (so + 5) 1 (nI (0 + pf + (cB c) + (cB c) + bd)))) (f := fun S8 => (let S9 := cneg_f c (co) fo (so + 19) (so + 19) (va_up S8.1 (so + 11) (va_cpy (S8.1 (sg)) (S8.1 (so + 11)) (cB c) (0) (cB c)), S8.2.1, fs S.2.2 (so + 5) 1 (nI (0 + pf + (cB c) + (cB c) + bd))); (let S10 := cneg_f c (co) fo (so + 23) (so + 23) (va_up S8.1 (so + 11) (va_cpy (S8.1 (sg)) (S8.1 (so + 11)) (cB c) (0) (cB c)), S9.2.1, fs S.2.2 (so + 5) 1 (nI (0 + pf + (cB c) + (cB c) + bd))); (let S11 := cmul2_f c (co) fo (so + 15) (so + 11) (co + 20) (so + 10) (so + 19) (va_up S8.1 (so + 11) (va_cpy (S8.1 (sg)) (S8.1 (so + 11)) (cB c) (0) (cB c)), S10.2.1, fs S.2.2 (so + 5) 1 (nI (0 + pf + (cB c) + (cB c) + bd))); (let S12 := csum_f c (co) fo (so + 15) (so + 15) (so + 23) (S11.1, S11.2.1, fs S.2.2 (so + 5) 1 (nI (0 + pf + (cB c) + (cB c) + bd))); (let r14 := cisN_f c (co) fo (so + 15) (S11.1, (gver_l202 c so co fo pf bd (S11.1, S12.2.1, S.2.2) (vcN c)), fs S.2.2 (so + 5) 1 (nI (0 + pf + (cB c) + (cB c) + bd))); (r14.1, (S11.1, r14.2.2.1, fs S.2.2 (so + 5) 1 (nI (0 + pf + (cB c) + (cB c) + bd)))))))))) (fun S8 e_S8 => (nz_let (v := cneg_f c (co) fo (so + 19) (so + 19) (va_up S8.1 (so + 11) (va_cpy (S8.1 (sg)) (S8.1 (so + 11)) (cB c) (0) (cB c)), S8.2.1, fs S.2.2 (so + 5) 1 (nI (0 + pf + (cB c) + (cB c) + bd)))) (f := fun S9 => (let S10 := cneg_f c (co) fo (so + 23) (so + 23) (va_up S8.1 (so + 11) (va_cpy (S8.1 (sg)) (S8.1 (so + 11)) (cB c) (0) (cB c)), S9.2.1, fs S.2.2 (so + 5) 1 (nI (0 + pf + (cB c) + (cB c) + bd))); (let S11 := cmul2_f c (co) fo (so + 15) (so + 11) (co + 20) (so + 10) (so + 19) (va_up S8.1 (so + 11) (va_cpy (S8.1 (sg)) (S8.1 (so + 11)) (cB c) (0) (cB c)), S10.2.1, fs S.2.2 (so + 5) 1 (nI (0 + pf + (cB c) + (cB c) + bd))); (let S12 := csum_f c (co) fo (so + 15) (so + 15) (so + 23) (S11.1, S11.2.1, fs S.2.2 (so + 5) 1 (nI (0 + pf + (cB c) + (cB c) + bd))); (let r14 := cisN_f c (co) fo (so + 15) (S11.1, (gver_l202 c so co fo pf bd (S11.1, S12.2.1, S.2.2) (vcN c)), fs S.2.2 (so + 5) 1 (nI (0 + pf + (cB c) + (cB c) + bd))); (r14.1, (S11.1, r14.2.2.1, fs S.2.2 (so + 5) 1 (nI (0 + pf + (cB c) + (cB c) + bd))))))))) (fun S9 e_S9 => (nz_let (v := cneg_f c (co) fo (so + 23) (so + 23) (va_up S8.1 (so + 11) (va_cpy (S8.1 (sg)) (S8.1 (so + 11)) (cB c) (0) (cB c)), S9.2.1, fs S.2.2 (so + 5) 1 (nI (0 + pf + (cB c) + (cB c) + bd)))) (f := fun S10 => (let S11 := cmul2_f c (co) fo (so + 15) (so + 11) (co + 20) (so + 10) (so + 19) (va_up S8.1 (so + 11) (va_cpy (S8.1 (sg)) (S8.1 (so + 11)) (cB c) (0) (cB c)), S10.2.1, fs S.2.2 (so + 5) 1 (nI (0 + pf + (cB c) + (cB c) + bd))); (let S12 := csum_f c (co) fo (so + 15) (so + 15) (so + 23) (S11.1, S11.2.1, fs S.2.2 (so + 5) 1 (nI (0 + pf + (cB c) + (cB c) + bd))); (let r14 := cisN_f c (co) fo (so + 15) (S11.1, (gver_l202 c so co fo pf bd (S11.1, S12.2.1, S.2.2) (vcN c)), fs S.2.2 (so + 5) 1 (nI (0 + pf + (cB c) + (cB c) + bd))); (r14.1, (S11.1, r14.2.2.1, fs S.2.2 (so + 5) 1 (nI (0 + pf + (cB c) + (cB c) + bd)))))))) (fun S10 e_S10 => (nz_let (v := cmul2_f c (co) fo (so + 15) (so + 11) (co + 20) (so + 10) (so + 19) (va_up S8.1 (so + 11) (va_cpy (S8.1 (sg)) (S8.1 (so + 11)) (cB c) (0) (cB c)), S10.2.1, fs S.2.2 (so + 5) 1 (nI (0 + pf + (cB c) + (cB c) + bd)))) (f := fun S11 => (let S12 := csum_f c (co) fo (so + 15) (so + 15) (so + 23) (S11.1, S11.2.1, fs S.2.2 (so + 5) 1 (nI (0 + pf + (cB c) + (cB c) + bd))); (let r14 := cisN_f c (co) fo (so + 15) (S11.1, (gver_l202 c so co fo pf bd (S11.1, S12.2.1, S.2.2) (vcN c)), fs S.2.2 (so + 5) 1 (nI (0 + pf + (cB c) + (cB c) + bd))); (r14.1, (S11.1, r14.2.2.1, fs S.2.2 (so + 5) 1 (nI (0 + pf + (cB c) + (cB c) + bd))))))) (fun S11 e_S11 => (nz_let (v := csum_f c (co) fo (so + 15) (so + 15) (so + 23) (S11.1, S11.2.1, fs S.2.2 (so + 5) 1 (nI (0 + pf + (cB c) + (cB c) + bd)))) (f := fun S12 => (let r14 := cisN_f c (co) fo (so + 15) (S11.1, (gver_l202 c so co fo pf bd (S11.1, S12.2.1, S.2.2) (vcN c)), fs S.2.2 (so + 5) 1 (nI (0 + pf + (cB c) + (cB c) + bd))); (r14.1, (S11.1, r14.2.2.1, fs S.2.2 (so + 5) 1 (nI (0 + pf + (cB c) + (cB c) + bd)))))) (fun S12 e_S12 => (nz_let (v := cisN_f c (co) fo (so + 15) (S11.1, (gver_l202 c so co fo pf bd (S11.1, S12.2.1, S.2.2) (vcN c)), fs S.2.2 (so + 5) 1 (nI (0 + pf + (cB c) + (cB c) + bd)))) (f := fun r14 => (r14.1, (S11.1, r14.2.2.1, fs S.2.2 (so + 5) 1 (nI (0 + pf + (cB c) + (cB c) + bd))))) (fun r14 e_r14 => (by have hz := cisN_z c (co) fo (so + 15) (S11.1, (gver_l202 c so co fo pf bd (S11.1, S12.2.1, S.2.2) (vcN c)), fs S.2.2 (so + 5) 1 (nI (0 + pf + (cB c) + (cB c) + bd))); rw [← e_r14] at hz; exact hz))))))))))))))))) nz0)))))))
def rbc_f (a : Nat) (S : StT) : StT := S
set_option maxRecDepth 100000 in
set_option maxHeartbeats 300000 in
theorem c_rbc {k : KX} {L : Nat → Option Sh} {S : StT} {n : Nat} {a : Nat} (h1 : 1 ≤ a) (h8 : a ≤ 8) :
    Cs k yX11_requireByteCount cX11_requireByteCount 1 none 0 0 0 [.int (nI (a))] (inst k L S.1 S.2.1 S.2.2) n (Pv k L n (rbc_f a S)) := by
  refine cs_of (by decide) (Nat.le_of_ble_eq_true rfl) ?_
  intro X hXk C Rt hnm
  subst hXk
  refine rn_lv [(0, .int (nI (a)))] (fun q h => h) ?_
  refine rn_iload_n C dX11_requireByteCount_0 rfl ?_
  refine rn_iconst (v := nI 1) C dX11_requireByteCount_1 rfl ?_
  refine rn_icmp_lt (tgt := 11) C dX11_requireByteCount_2 (by decide) (fun hb => absurd hb (fun h => absurd ((nI_ltI (by omega) (by omega)).mp h) (by omega))) (fun hb => ?_)
  refine rn_iload_n C dX11_requireByteCount_5 rfl ?_
  refine rn_bipush (v := nI 8) C dX11_requireByteCount_6 rfl ?_
  refine rn_icmp_le (tgt := 21) C dX11_requireByteCount_8 (by decide) (fun hb => ?_) (fun hb => absurd ((nI_leI (by omega) (by omega)).mpr (by omega)) hb)
  have hret : rbc_f a S = S := by
    first | (dsimp only [rbc_f]; done) | (dsimp only [rbc_f]; exact rfl) | exact rfl
  exact rn_vret C Rt dX11_requireByteCount_21 (pv_of hret) (Nat.zero_le _) (Nat.zero_le _)
theorem cv_rbc {k : KX} {L : Nat → Option Sh} {S : StT} {n a : Nat} (h1 : 1 ≤ a) (h8 : a ≤ 8) :
    Cs k yX11_requireByteCount cX11_requireByteCount 1 none 0 0 0 [.int (nI a)] (inst k L S.1 S.2.1 S.2.2) n (Pv k L n S) := c_rbc h1 h8
def rfr_f (a : Nat) (S : StT) : StT := S
set_option maxRecDepth 100000 in
set_option maxHeartbeats 300000 in
theorem c_rfr {k : KX} {L : Nat → Option Sh} {S : StT} {n : Nat} {a : Nat} (h1 : a ≤ 2) :
    Cs k yX11_requireFixedRegister cX11_requireFixedRegister 1 none 0 0 0 [.int (nI (a))] (inst k L S.1 S.2.1 S.2.2) n (Pv k L n (rfr_f a S)) := by
  refine cs_of (by decide) (Nat.le_of_ble_eq_true rfl) ?_
  intro X hXk C Rt hnm
  subst hXk
  refine rn_lv [(0, .int (nI (a)))] (fun q h => h) ?_
  refine rn_iload_n C dX11_requireFixedRegister_0 rfl ?_
  refine rn_if_lt (tgt := 9) C dX11_requireFixedRegister_1 (by decide) (fun hb => absurd hb (nI_n0 (by omega))) (fun hb => ?_)
  refine rn_iload_n C dX11_requireFixedRegister_4 rfl ?_
  refine rn_iconst (v := nI 2) C dX11_requireFixedRegister_5 rfl ?_
  refine rn_icmp_le (tgt := 19) C dX11_requireFixedRegister_6 (by decide) (fun hb => ?_) (fun hb => absurd ((nI_leI (by omega) (by omega)).mpr (by omega)) hb)
  have hret : rfr_f a S = S := by
    first | (dsimp only [rfr_f]; done) | (dsimp only [rfr_f]; exact rfl) | exact rfl
  exact rn_vret C Rt dX11_requireFixedRegister_19 (pv_of hret) (Nat.zero_le _) (Nat.zero_le _)
theorem cv_rfr {k : KX} {L : Nat → Option Sh} {S : StT} {n a : Nat} (h1 : a ≤ 2) :
    Cs k yX11_requireFixedRegister cX11_requireFixedRegister 1 none 0 0 0 [.int (nI a)] (inst k L S.1 S.2.1 S.2.2) n (Pv k L n S) := c_rfr h1
def rcu_f (a : Nat) (S : StT) : StT := S
set_option maxRecDepth 100000 in
set_option maxHeartbeats 300000 in
theorem c_rcu {k : KX} {L : Nat → Option Sh} {S : StT} {n : Nat} {a : Nat} (h1 : a < 2) :
    Cs k yX11_requireCurve cX11_requireCurve 1 none 0 0 0 [.int (nI (a))] (inst k L S.1 S.2.1 S.2.2) n (Pv k L n (rcu_f a S)) := by
  refine cs_of (by decide) (Nat.le_of_ble_eq_true rfl) ?_
  intro X hXk C Rt hnm
  subst hXk
  refine rn_lv [(0, .int (nI (a)))] (fun q h => h) ?_
  refine rn_iload_n C dX11_requireCurve_0 rfl ?_
  refine rn_if_lt (tgt := 9) C dX11_requireCurve_1 (by decide) (fun hb => absurd hb (nI_n0 (by omega))) (fun hb => ?_)
  refine rn_iload_n C dX11_requireCurve_4 rfl ?_
  refine rn_iconst (v := nI 2) C dX11_requireCurve_5 rfl ?_
  refine rn_icmp_lt (tgt := 19) C dX11_requireCurve_6 (by decide) (fun hb => ?_) (fun hb => absurd ((nI_ltI (by omega) (by omega)).mpr (by omega)) hb)
  have hret : rcu_f a S = S := by
    first | (dsimp only [rcu_f]; done) | (dsimp only [rcu_f]; exact rfl) | exact rfl
  exact rn_vret C Rt dX11_requireCurve_19 (pv_of hret) (Nat.zero_le _) (Nat.zero_le _)
theorem cv_rcu {k : KX} {L : Nat → Option Sh} {S : StT} {n a : Nat} (h1 : a < 2) :
    Cs k yX11_requireCurve cX11_requireCurve 1 none 0 0 0 [.int (nI a)] (inst k L S.1 S.2.1 S.2.2) n (Pv k L n S) := c_rcu h1
def rpl_f (a : Nat) (S : StT) : StT := S
set_option maxRecDepth 100000 in
set_option maxHeartbeats 300000 in
theorem c_rpl {k : KX} {L : Nat → Option Sh} {S : StT} {n : Nat} {a : Nat} (h1 : a < 3) :
    Cs k yX11_requirePlace cX11_requirePlace 1 none 0 0 0 [.int (nI (a))] (inst k L S.1 S.2.1 S.2.2) n (Pv k L n (rpl_f a S)) := by
  refine cs_of (by decide) (Nat.le_of_ble_eq_true rfl) ?_
  intro X hXk C Rt hnm
  subst hXk
  refine rn_lv [(0, .int (nI (a)))] (fun q h => h) ?_
  refine rn_iload_n C dX11_requirePlace_0 rfl ?_
  refine rn_if_lt (tgt := 9) C dX11_requirePlace_1 (by decide) (fun hb => absurd hb (nI_n0 (by omega))) (fun hb => ?_)
  refine rn_iload_n C dX11_requirePlace_4 rfl ?_
  refine rn_iconst (v := nI 3) C dX11_requirePlace_5 rfl ?_
  refine rn_icmp_lt (tgt := 19) C dX11_requirePlace_6 (by decide) (fun hb => ?_) (fun hb => absurd ((nI_ltI (by omega) (by omega)).mpr (by omega)) hb)
  have hret : rpl_f a S = S := by
    first | (dsimp only [rpl_f]; done) | (dsimp only [rpl_f]; exact rfl) | exact rfl
  exact rn_vret C Rt dX11_requirePlace_19 (pv_of hret) (Nat.zero_le _) (Nat.zero_le _)
theorem cv_rpl {k : KX} {L : Nat → Option Sh} {S : StT} {n a : Nat} (h1 : a < 3) :
    Cs k yX11_requirePlace cX11_requirePlace 1 none 0 0 0 [.int (nI a)] (inst k L S.1 S.2.1 S.2.2) n (Pv k L n S) := c_rpl h1
def xspr_l3 (to : Nat) (fr : Nat) (v : Int64) (nn : Nat) (S : StT)  : Nat → (Nat → Nat → Int32)
  | 0 => S.1
  | i3 + 1 => let y3_0 := (xspr_l3 to fr v nn S i3); (let I1 := va_up y3_0 (to) (upd (y3_0 (to)) (fr + i3) ((((v.toUInt64 >>> ((nI (8 * (nn - 1 - i3))).toInt64.toUInt64 &&& Int64.toUInt64 63)).toInt64).toInt32) &&& (nI (255)))); I1)
def xspr_f (to : Nat) (fr : Nat) (v : Int64) (nn : Nat) (S : StT) : StT := ((xspr_l3 to fr v nn S nn), S.2.1, S.2.2)
theorem xspr_F (to : Nat) (fr : Nat) (v : Int64) (nn : Nat) (S : StT) : (xspr_f to fr v nn S).2.2 = S.2.2 := by
  unfold xspr_f; first | rfl | ((repeat' split) <;> rfl) | (dsimp only; (repeat' split) <;> rfl)
set_option maxRecDepth 100000 in
set_option maxHeartbeats 300000 in
theorem c_xspr {k : KX} {L : Nat → Option Sh} {S : StT} {n : Nat} {to : Nat} {m : Nat} {fr : Nat} {v : Int64} {nn : Nat} (hto : L to = some (sI m)) (hm : m < 2 ^ 31) (hfr : fr + nn ≤ m) (hn8 : nn ≤ 8) :
    Cs k yX11_spread cX11_spread 6 none 0 0 0 [.ref (k_b k + (to)), .int (nI (fr)), .long (v), .int (nI (nn))] (inst k L S.1 S.2.1 S.2.2) n (Pv k L n (xspr_f to fr v nn S)) := by
  refine cs_of (by decide) (Nat.le_of_ble_eq_true rfl) ?_
  intro X hXk C Rt hnm
  subst hXk
  refine rn_lv [(0, .ref (k_b X.1 + (to))), (1, .int (nI (fr))), (2, .long (v)), (4, .int (nI (nn)))] (fun q h => h) ?_
  refine rn_iconst (v := nI 0) C dX11_spread_0 rfl ?_
  refine rn_istore (lv' := [(0, _), (1, _), (2, _), (4, _), (5, _)]) C dX11_spread_1 (by decide) rfl ?_
  have lp3 : ∀ i3, i3 ≤ nn → Rn X 3 [(0, .ref (k_b X.1 + (to))), (1, .int (nI (fr))), (2, .long (v)), (4, .int (nI (nn))), (5, .int (nI (i3)))] [] (inst X.1 L (xspr_l3 to fr v nn S i3) S.2.1 S.2.2) n 0 0 := by
    refine upto _ _ ?_ (fun i3 hi3 ih3 => ?_)
    · skip
      refine rn_iload C dX11_spread_3 rfl ?_
      refine rn_iload C dX11_spread_5 rfl ?_
      refine rs_ge (tgt := 39) C dX11_spread_7 (by decide) rfl rfl (by omega) (by omega) (fun _ => ?_) (fun q => absurd q (by omega))
      have hret : xspr_f to fr v nn S = ((xspr_l3 to fr v nn S nn), S.2.1, S.2.2) := by
        first | (dsimp only [xspr_f]; done) | (dsimp only [xspr_f]; exact rfl) | exact rfl
      exact rn_vret C Rt dX11_spread_39 (pv_of hret) (Nat.zero_le _) (Nat.zero_le _)
    · skip
      refine rn_iload C dX11_spread_3 rfl ?_
      refine rn_iload C dX11_spread_5 rfl ?_
      refine rs_ge (tgt := 39) C dX11_spread_7 (by decide) rfl rfl (by omega) (by omega) (fun q => absurd q (by omega)) (fun _ => ?_)
      refine rn_aload_n C dX11_spread_10 rfl ?_
      refine rn_iload_n C dX11_spread_11 rfl ?_
      refine rn_iload C dX11_spread_12 rfl ?_
      refine rn_iadd C dX11_spread_14 (nI_add _ _) ?_
      refine rn_lload_n C dX11_spread_15 rfl ?_
      refine rn_bipush (v := nI 8) C dX11_spread_16 rfl ?_
      refine rn_iload C dX11_spread_18 rfl ?_
      refine rn_iconst (v := nI 1) C dX11_spread_20 rfl ?_
      refine rn_isub C dX11_spread_21 (pk_sub (by omega)) ?_
      refine rn_iload C dX11_spread_22 rfl ?_
      refine rn_isub C dX11_spread_24 (pk_sub (by omega)) ?_
      refine rn_imul C dX11_spread_25 (pk_mul _ _) ?_
      refine rn_lushr C dX11_spread_26 rfl ?_
      refine rn_l2i C dX11_spread_27 rfl ?_
      refine rn_sipush (v := nI 255) C dX11_spread_28 rfl ?_
      refine rn_iand C dX11_spread_31 rfl ?_
      refine rs_iastore C dX11_spread_32 hto rfl (by omega) hm ?_
      refine rn_iinc (lv' := [(0, _), (1, _), (2, _), (4, _), (5, _)]) C dX11_spread_33 rfl (nI_inc _) (by decide) rfl ?_
      refine rn_goto (tgt := 3) C dX11_spread_36 (by decide) ?_
      have he3 : xspr_l3 to fr v nn S (i3 + 1) = (va_up (xspr_l3 to fr v nn S i3) (to) (upd ((xspr_l3 to fr v nn S i3) (to)) (fr + i3) ((((v.toUInt64 >>> ((nI (8 * (nn - 1 - i3))).toInt64.toUInt64 &&& Int64.toUInt64 63)).toInt64).toInt32) &&& (nI (255))))) := by
        first | (dsimp only [xspr_l3]; done) | (dsimp only [xspr_l3]; exact rfl) | exact rfl
      rw [he3] at ih3
      exact rn_ks [0, 1, 2, 4, 5] ih3 rfl
  exact lp3 0 (Nat.zero_le _)
def xput0_f (xo : Nat) (pl : Nat) (nn : Nat) (v : Int64) (S : StT) : StT := (let S1 := xspr_f (xo + 15 + 2 * 0 + 1) (pl) (v) (nn) S; (S1.1, S1.2.1, S.2.2))
theorem xput0_F (xo : Nat) (pl : Nat) (nn : Nat) (v : Int64) (S : StT) : (xput0_f xo pl nn v S).2.2 = S.2.2 := by
  unfold xput0_f; first | rfl | ((repeat' split) <;> rfl) | (dsimp only; (repeat' split) <;> rfl)
set_option maxRecDepth 100000 in
set_option maxHeartbeats 300000 in
theorem c_xput0 {k : KX} {L : Nat → Option Sh} {S : StT} {n : Nat} {xo : Nat} {pl : Nat} {nn : Nat} {v : Int64} (hX : SuiteAt k L xo) (hgn0 : S.2.2 (xo + 15 + 2 * 0) 1 = nI 57) (hn1 : 1 ≤ nn) (hn8 : nn ≤ 8) (hpl2 : pl + nn ≤ 57) :
    Cs k yX11_put cX11_put 7 none 1 0 0 [.ref (k_b k + (xo)), .int (nI (0)), .int (nI (pl)), .long (v), .int (nI (nn))] (inst k L S.1 S.2.1 S.2.2) n (Pv k L n (xput0_f xo pl nn v S)) := by
  refine cs_of (by decide) (Nat.le_of_ble_eq_true rfl) ?_
  intro X hXk C Rt hnm
  subst hXk
  have hX9 := hX
  obtain ⟨hX0, hx1, hx2, hx4, hx6, hx7, hx8, hx9, hx10, hx11, hg0, hg1, hg2, hg3, hhs, hall, hpl⟩ := hX9
  have hg09 := hg0
  obtain ⟨hg0a, hg0b⟩ := hg09
  have hg19 := hg1
  obtain ⟨hg1a, hg1b⟩ := hg19
  have hg29 := hg2
  obtain ⟨hg2a, hg2b⟩ := hg29
  have hg39 := hg3
  obtain ⟨hg3a, hg3b⟩ := hg39
  have hx29 := hx2
  obtain ⟨hx2a, hx2b⟩ := hx29
  have hx49 := hx4
  obtain ⟨hx4a, hx4b⟩ := hx49
  have hx119 := hx11
  obtain ⟨hx110, hx111, hx112, hx113⟩ := hx119
  refine rn_lv [(0, .ref (k_b X.1 + (xo))), (1, .int (nI (0))), (2, .int (nI (pl))), (3, .long (v)), (5, .int (nI (nn)))] (fun q h => h) ?_
  refine rn_iload C dX11_put_0 rfl ?_
  refine rs_sv C dX11_put_2 mk_X11_requireByteCount ls_X11_90 (cv_rbc (a := nn) (by omega) (by omega)) rfl rfl (by decide) (Nat.le_of_ble_eq_true rfl) (by decide) (by decide) ?_
  refine rn_iload_n C dX11_put_5 rfl ?_
  refine rs_sv C dX11_put_6 mk_X11_requireFixedRegister ls_X11_93 (cv_rfr (a := 0) (by omega)) rfl rfl (by decide) (Nat.le_of_ble_eq_true rfl) (by decide) (by decide) ?_
  refine rn_aload_n C dX11_put_9 rfl ?_
  refine rs_get C dX11_put_10 fl_X11_11 hX0 rfl ?_
  refine rn_iload_n C dX11_put_13 rfl ?_
  refine rs_aaload C dX11_put_14 hx1 rfl rfl (by decide) (by decide) (if_pos (by decide)) ?_
  refine rn_astore (lv' := [(0, _), (1, _), (2, _), (3, _), (5, _), (6, _)]) C dX11_put_15 (by decide) rfl ?_
  refine rn_iload_n C dX11_put_17 rfl ?_
  refine rn_if_lt (tgt := 33) C dX11_put_18 (by decide) (fun hb => absurd hb (nI_n0 (by omega))) (fun hb => ?_)
  refine rn_iload_n C dX11_put_21 rfl ?_
  refine rn_aload C dX11_put_22 rfl ?_
  refine rs_getFe C dX11_put_24 fl_X11_61 hg0a rfl hgn0 ?_
  refine rn_iload C dX11_put_27 rfl ?_
  refine rn_isub C dX11_put_29 (pk_sub (by omega)) ?_
  refine rn_icmp_le (tgt := 43) C dX11_put_30 (by decide) (fun hb => ?_) (fun hb => absurd ((nI_leI (by omega) (by omega)).mpr (by omega)) hb)
  refine rn_aload C dX11_put_43 rfl ?_
  refine rs_get C dX11_put_45 fl_X11_58 hg0a rfl ?_
  refine rn_iload_n C dX11_put_48 rfl ?_
  refine rn_lload_n C dX11_put_49 rfl ?_
  refine rn_iload C dX11_put_50 rfl ?_
  refine rs_sv C dX11_put_52 mk_X11_spread ls_X11_103 (c_xspr hg0b (by decide) (by omega) (by omega)) rfl rfl (by decide) (Nat.le_of_ble_eq_true rfl) (by decide) (by decide) ?_
  rw [show (xspr_f (xo + 15 + 2 * 0 + 1) (pl) (v) (nn) S).2.2 = S.2.2 from (xspr_F (xo + 15 + 2 * 0 + 1) (pl) (v) (nn) S)]
  generalize hS1 : xspr_f (xo + 15 + 2 * 0 + 1) (pl) (v) (nn) S = S1
  have hret : xput0_f xo pl nn v S = (S1.1, S1.2.1, S.2.2) := by
    subst hS1
    first | (dsimp only [xput0_f]; done) | (dsimp only [xput0_f]; exact rfl) | exact rfl
  exact rn_vret C Rt dX11_put_55 (pv_of hret) (Nat.zero_le _) (Nat.zero_le _)
def xmove0_f (xo : Nat) (ou : Nat) (S : StT) : Int32 × StT := (let I1 := va_up S.1 (xo + 15 + 2 * 0 + 1) (va_cpy (S.1 (xo + 15 + 2 * 3 + 1)) (S.1 (xo + 15 + 2 * 0 + 1)) (0) (0) (min ou 57)); (nI (min ou 57), (I1, S.2.1, S.2.2)))
theorem xmove0_F (xo : Nat) (ou : Nat) (S : StT) : (xmove0_f xo ou S).2.2.2 = S.2.2 := by
  unfold xmove0_f; first | rfl | ((repeat' split) <;> rfl) | (dsimp only; (repeat' split) <;> rfl)
set_option maxRecDepth 100000 in
set_option maxHeartbeats 300000 in
theorem c_xmove0 {k : KX} {L : Nat → Option Sh} {S : StT} {n : Nat} {xo : Nat} {ou : Nat} (hX : SuiteAt k L xo) (hgn0 : S.2.2 (xo + 15 + 2 * 0) 1 = nI 57) (hou : S.2.2 (xo + 15 + 2 * 3) 1 = nI ou) (hou1 : ou ≤ 114) :
    Cs k yX11_move cX11_move 5 (some .int) 1 0 0 [.ref (k_b k + (xo)), .int (nI (0))] (inst k L S.1 S.2.1 S.2.2) n (Pi k L n (xmove0_f xo ou S)) := by
  refine cs_of (by decide) (Nat.le_of_ble_eq_true rfl) ?_
  intro X hXk C Rt hnm
  subst hXk
  have hX9 := hX
  obtain ⟨hX0, hx1, hx2, hx4, hx6, hx7, hx8, hx9, hx10, hx11, hg0, hg1, hg2, hg3, hhs, hall, hpl⟩ := hX9
  have hg09 := hg0
  obtain ⟨hg0a, hg0b⟩ := hg09
  have hg19 := hg1
  obtain ⟨hg1a, hg1b⟩ := hg19
  have hg29 := hg2
  obtain ⟨hg2a, hg2b⟩ := hg29
  have hg39 := hg3
  obtain ⟨hg3a, hg3b⟩ := hg39
  have hx29 := hx2
  obtain ⟨hx2a, hx2b⟩ := hx29
  have hx49 := hx4
  obtain ⟨hx4a, hx4b⟩ := hx49
  have hx119 := hx11
  obtain ⟨hx110, hx111, hx112, hx113⟩ := hx119
  refine rn_lv [(0, .ref (k_b X.1 + (xo))), (1, .int (nI (0)))] (fun q h => h) ?_
  refine rn_iload_n C dX11_move_0 rfl ?_
  refine rs_sv C dX11_move_1 mk_X11_requireFixedRegister ls_X11_93 (cv_rfr (a := 0) (by omega)) rfl rfl (by decide) (Nat.le_of_ble_eq_true rfl) (by decide) (by decide) ?_
  refine rn_aload_n C dX11_move_4 rfl ?_
  refine rs_get C dX11_move_5 fl_X11_11 hX0 rfl ?_
  refine rn_iconst (v := nI 3) C dX11_move_8 rfl ?_
  refine rs_aaload C dX11_move_9 hx1 rfl rfl (by decide) (by decide) (if_pos (by decide)) ?_
  refine rn_astore_n (lv' := [(0, _), (1, _), (2, _)]) C dX11_move_10 (by decide) rfl ?_
  refine rn_aload_n C dX11_move_11 rfl ?_
  refine rs_get C dX11_move_12 fl_X11_11 hX0 rfl ?_
  refine rn_iload_n C dX11_move_15 rfl ?_
  refine rs_aaload C dX11_move_16 hx1 rfl rfl (by decide) (by decide) (if_pos (by decide)) ?_
  refine rn_astore_n (lv' := [(0, _), (1, _), (2, _), (3, _)]) C dX11_move_17 (by decide) rfl ?_
  refine rn_aload_n C dX11_move_18 rfl ?_
  refine rs_getFe C dX11_move_19 fl_X11_61 hg3a rfl hou ?_
  refine rn_aload_n C dX11_move_22 rfl ?_
  refine rs_getFe C dX11_move_23 fl_X11_61 hg0a rfl hgn0 ?_
  refine rn_mmin C dX11_move_26 (mm_n (by omega) (by omega)) (by decide) (Nat.le_of_ble_eq_true rfl) (by decide) (by decide) ?_
  refine rn_istore (lv' := [(0, _), (1, _), (2, _), (3, _), (4, _)]) C dX11_move_29 (by decide) rfl ?_
  refine rn_aload_n C dX11_move_31 rfl ?_
  refine rs_get C dX11_move_32 fl_X11_58 hg3a rfl ?_
  refine rn_iconst (v := nI 0) C dX11_move_35 rfl ?_
  refine rn_aload_n C dX11_move_36 rfl ?_
  refine rs_get C dX11_move_37 fl_X11_58 hg0a rfl ?_
  refine rn_iconst (v := nI 0) C dX11_move_40 rfl ?_
  refine rn_iload C dX11_move_41 rfl ?_
  refine rs_copyI C dX11_move_43 lcp_X11_118 hg3b hg0b rfl rfl rfl (by omega) (by omega) (by decide) (by decide) (by decide) (by decide) ?_
  refine rn_iload C dX11_move_46 rfl ?_
  have hret : xmove0_f xo ou S = (nI (min ou 57), ((va_up S.1 (xo + 15 + 2 * 0 + 1) (va_cpy (S.1 (xo + 15 + 2 * 3 + 1)) (S.1 (xo + 15 + 2 * 0 + 1)) (0) (0) (min ou 57))), S.2.1, S.2.2)) := by
    first | (dsimp only [xmove0_f]; done) | (dsimp only [xmove0_f]; exact rfl) | exact rfl
  exact rn_iret C Rt dX11_move_48 (pi_of hret) (Nat.zero_le _) (Nat.zero_le _)
def xput1_f (xo : Nat) (pl : Nat) (nn : Nat) (v : Int64) (S : StT) : StT := (let S1 := xspr_f (xo + 15 + 2 * 1 + 1) (pl) (v) (nn) S; (S1.1, S1.2.1, S.2.2))
theorem xput1_F (xo : Nat) (pl : Nat) (nn : Nat) (v : Int64) (S : StT) : (xput1_f xo pl nn v S).2.2 = S.2.2 := by
  unfold xput1_f; first | rfl | ((repeat' split) <;> rfl) | (dsimp only; (repeat' split) <;> rfl)
set_option maxRecDepth 100000 in
set_option maxHeartbeats 300000 in
theorem c_xput1 {k : KX} {L : Nat → Option Sh} {S : StT} {n : Nat} {xo : Nat} {pl : Nat} {nn : Nat} {v : Int64} (hX : SuiteAt k L xo) (hgn1 : S.2.2 (xo + 15 + 2 * 1) 1 = nI 57) (hn1 : 1 ≤ nn) (hn8 : nn ≤ 8) (hpl2 : pl + nn ≤ 57) :
    Cs k yX11_put cX11_put 7 none 1 0 0 [.ref (k_b k + (xo)), .int (nI (1)), .int (nI (pl)), .long (v), .int (nI (nn))] (inst k L S.1 S.2.1 S.2.2) n (Pv k L n (xput1_f xo pl nn v S)) := by
  refine cs_of (by decide) (Nat.le_of_ble_eq_true rfl) ?_
  intro X hXk C Rt hnm
  subst hXk
  have hX9 := hX
  obtain ⟨hX0, hx1, hx2, hx4, hx6, hx7, hx8, hx9, hx10, hx11, hg0, hg1, hg2, hg3, hhs, hall, hpl⟩ := hX9
  have hg09 := hg0
  obtain ⟨hg0a, hg0b⟩ := hg09
  have hg19 := hg1
  obtain ⟨hg1a, hg1b⟩ := hg19
  have hg29 := hg2
  obtain ⟨hg2a, hg2b⟩ := hg29
  have hg39 := hg3
  obtain ⟨hg3a, hg3b⟩ := hg39
  have hx29 := hx2
  obtain ⟨hx2a, hx2b⟩ := hx29
  have hx49 := hx4
  obtain ⟨hx4a, hx4b⟩ := hx49
  have hx119 := hx11
  obtain ⟨hx110, hx111, hx112, hx113⟩ := hx119
  refine rn_lv [(0, .ref (k_b X.1 + (xo))), (1, .int (nI (1))), (2, .int (nI (pl))), (3, .long (v)), (5, .int (nI (nn)))] (fun q h => h) ?_
  refine rn_iload C dX11_put_0 rfl ?_
  refine rs_sv C dX11_put_2 mk_X11_requireByteCount ls_X11_90 (cv_rbc (a := nn) (by omega) (by omega)) rfl rfl (by decide) (Nat.le_of_ble_eq_true rfl) (by decide) (by decide) ?_
  refine rn_iload_n C dX11_put_5 rfl ?_
  refine rs_sv C dX11_put_6 mk_X11_requireFixedRegister ls_X11_93 (cv_rfr (a := 1) (by omega)) rfl rfl (by decide) (Nat.le_of_ble_eq_true rfl) (by decide) (by decide) ?_
  refine rn_aload_n C dX11_put_9 rfl ?_
  refine rs_get C dX11_put_10 fl_X11_11 hX0 rfl ?_
  refine rn_iload_n C dX11_put_13 rfl ?_
  refine rs_aaload C dX11_put_14 hx1 rfl rfl (by decide) (by decide) (if_pos (by decide)) ?_
  refine rn_astore (lv' := [(0, _), (1, _), (2, _), (3, _), (5, _), (6, _)]) C dX11_put_15 (by decide) rfl ?_
  refine rn_iload_n C dX11_put_17 rfl ?_
  refine rn_if_lt (tgt := 33) C dX11_put_18 (by decide) (fun hb => absurd hb (nI_n0 (by omega))) (fun hb => ?_)
  refine rn_iload_n C dX11_put_21 rfl ?_
  refine rn_aload C dX11_put_22 rfl ?_
  refine rs_getFe C dX11_put_24 fl_X11_61 hg1a rfl hgn1 ?_
  refine rn_iload C dX11_put_27 rfl ?_
  refine rn_isub C dX11_put_29 (pk_sub (by omega)) ?_
  refine rn_icmp_le (tgt := 43) C dX11_put_30 (by decide) (fun hb => ?_) (fun hb => absurd ((nI_leI (by omega) (by omega)).mpr (by omega)) hb)
  refine rn_aload C dX11_put_43 rfl ?_
  refine rs_get C dX11_put_45 fl_X11_58 hg1a rfl ?_
  refine rn_iload_n C dX11_put_48 rfl ?_
  refine rn_lload_n C dX11_put_49 rfl ?_
  refine rn_iload C dX11_put_50 rfl ?_
  refine rs_sv C dX11_put_52 mk_X11_spread ls_X11_103 (c_xspr hg1b (by decide) (by omega) (by omega)) rfl rfl (by decide) (Nat.le_of_ble_eq_true rfl) (by decide) (by decide) ?_
  rw [show (xspr_f (xo + 15 + 2 * 1 + 1) (pl) (v) (nn) S).2.2 = S.2.2 from (xspr_F (xo + 15 + 2 * 1 + 1) (pl) (v) (nn) S)]
  generalize hS1 : xspr_f (xo + 15 + 2 * 1 + 1) (pl) (v) (nn) S = S1
  have hret : xput1_f xo pl nn v S = (S1.1, S1.2.1, S.2.2) := by
    subst hS1
    first | (dsimp only [xput1_f]; done) | (dsimp only [xput1_f]; exact rfl) | exact rfl
  exact rn_vret C Rt dX11_put_55 (pv_of hret) (Nat.zero_le _) (Nat.zero_le _)
def xmove1_f (xo : Nat) (ou : Nat) (S : StT) : Int32 × StT := (let I1 := va_up S.1 (xo + 15 + 2 * 1 + 1) (va_cpy (S.1 (xo + 15 + 2 * 3 + 1)) (S.1 (xo + 15 + 2 * 1 + 1)) (0) (0) (min ou 57)); (nI (min ou 57), (I1, S.2.1, S.2.2)))
theorem xmove1_F (xo : Nat) (ou : Nat) (S : StT) : (xmove1_f xo ou S).2.2.2 = S.2.2 := by
  unfold xmove1_f; first | rfl | ((repeat' split) <;> rfl) | (dsimp only; (repeat' split) <;> rfl)
set_option maxRecDepth 100000 in
set_option maxHeartbeats 300000 in
theorem c_xmove1 {k : KX} {L : Nat → Option Sh} {S : StT} {n : Nat} {xo : Nat} {ou : Nat} (hX : SuiteAt k L xo) (hgn1 : S.2.2 (xo + 15 + 2 * 1) 1 = nI 57) (hou : S.2.2 (xo + 15 + 2 * 3) 1 = nI ou) (hou1 : ou ≤ 114) :
    Cs k yX11_move cX11_move 5 (some .int) 1 0 0 [.ref (k_b k + (xo)), .int (nI (1))] (inst k L S.1 S.2.1 S.2.2) n (Pi k L n (xmove1_f xo ou S)) := by
  refine cs_of (by decide) (Nat.le_of_ble_eq_true rfl) ?_
  intro X hXk C Rt hnm
  subst hXk
  have hX9 := hX
  obtain ⟨hX0, hx1, hx2, hx4, hx6, hx7, hx8, hx9, hx10, hx11, hg0, hg1, hg2, hg3, hhs, hall, hpl⟩ := hX9
  have hg09 := hg0
  obtain ⟨hg0a, hg0b⟩ := hg09
  have hg19 := hg1
  obtain ⟨hg1a, hg1b⟩ := hg19
  have hg29 := hg2
  obtain ⟨hg2a, hg2b⟩ := hg29
  have hg39 := hg3
  obtain ⟨hg3a, hg3b⟩ := hg39
  have hx29 := hx2
  obtain ⟨hx2a, hx2b⟩ := hx29
  have hx49 := hx4
  obtain ⟨hx4a, hx4b⟩ := hx49
  have hx119 := hx11
  obtain ⟨hx110, hx111, hx112, hx113⟩ := hx119
  refine rn_lv [(0, .ref (k_b X.1 + (xo))), (1, .int (nI (1)))] (fun q h => h) ?_
  refine rn_iload_n C dX11_move_0 rfl ?_
  refine rs_sv C dX11_move_1 mk_X11_requireFixedRegister ls_X11_93 (cv_rfr (a := 1) (by omega)) rfl rfl (by decide) (Nat.le_of_ble_eq_true rfl) (by decide) (by decide) ?_
  refine rn_aload_n C dX11_move_4 rfl ?_
  refine rs_get C dX11_move_5 fl_X11_11 hX0 rfl ?_
  refine rn_iconst (v := nI 3) C dX11_move_8 rfl ?_
  refine rs_aaload C dX11_move_9 hx1 rfl rfl (by decide) (by decide) (if_pos (by decide)) ?_
  refine rn_astore_n (lv' := [(0, _), (1, _), (2, _)]) C dX11_move_10 (by decide) rfl ?_
  refine rn_aload_n C dX11_move_11 rfl ?_
  refine rs_get C dX11_move_12 fl_X11_11 hX0 rfl ?_
  refine rn_iload_n C dX11_move_15 rfl ?_
  refine rs_aaload C dX11_move_16 hx1 rfl rfl (by decide) (by decide) (if_pos (by decide)) ?_
  refine rn_astore_n (lv' := [(0, _), (1, _), (2, _), (3, _)]) C dX11_move_17 (by decide) rfl ?_
  refine rn_aload_n C dX11_move_18 rfl ?_
  refine rs_getFe C dX11_move_19 fl_X11_61 hg3a rfl hou ?_
  refine rn_aload_n C dX11_move_22 rfl ?_
  refine rs_getFe C dX11_move_23 fl_X11_61 hg1a rfl hgn1 ?_
  refine rn_mmin C dX11_move_26 (mm_n (by omega) (by omega)) (by decide) (Nat.le_of_ble_eq_true rfl) (by decide) (by decide) ?_
  refine rn_istore (lv' := [(0, _), (1, _), (2, _), (3, _), (4, _)]) C dX11_move_29 (by decide) rfl ?_
  refine rn_aload_n C dX11_move_31 rfl ?_
  refine rs_get C dX11_move_32 fl_X11_58 hg3a rfl ?_
  refine rn_iconst (v := nI 0) C dX11_move_35 rfl ?_
  refine rn_aload_n C dX11_move_36 rfl ?_
  refine rs_get C dX11_move_37 fl_X11_58 hg1a rfl ?_
  refine rn_iconst (v := nI 0) C dX11_move_40 rfl ?_
  refine rn_iload C dX11_move_41 rfl ?_
  refine rs_copyI C dX11_move_43 lcp_X11_118 hg3b hg1b rfl rfl rfl (by omega) (by omega) (by decide) (by decide) (by decide) (by decide) ?_
  refine rn_iload C dX11_move_46 rfl ?_
  have hret : xmove1_f xo ou S = (nI (min ou 57), ((va_up S.1 (xo + 15 + 2 * 1 + 1) (va_cpy (S.1 (xo + 15 + 2 * 3 + 1)) (S.1 (xo + 15 + 2 * 1 + 1)) (0) (0) (min ou 57))), S.2.1, S.2.2)) := by
    first | (dsimp only [xmove1_f]; done) | (dsimp only [xmove1_f]; exact rfl) | exact rfl
  exact rn_iret C Rt dX11_move_48 (pi_of hret) (Nat.zero_le _) (Nat.zero_le _)
def xput2_f (xo : Nat) (pl : Nat) (nn : Nat) (v : Int64) (S : StT) : StT := (let S1 := xspr_f (xo + 15 + 2 * 2 + 1) (pl) (v) (nn) S; (S1.1, S1.2.1, S.2.2))
theorem xput2_F (xo : Nat) (pl : Nat) (nn : Nat) (v : Int64) (S : StT) : (xput2_f xo pl nn v S).2.2 = S.2.2 := by
  unfold xput2_f; first | rfl | ((repeat' split) <;> rfl) | (dsimp only; (repeat' split) <;> rfl)
set_option maxRecDepth 100000 in
set_option maxHeartbeats 300000 in
theorem c_xput2 {k : KX} {L : Nat → Option Sh} {S : StT} {n : Nat} {xo : Nat} {pl : Nat} {nn : Nat} {v : Int64} (hX : SuiteAt k L xo) (hgn2 : S.2.2 (xo + 15 + 2 * 2) 1 = nI 114) (hn1 : 1 ≤ nn) (hn8 : nn ≤ 8) (hpl2 : pl + nn ≤ 114) :
    Cs k yX11_put cX11_put 7 none 1 0 0 [.ref (k_b k + (xo)), .int (nI (2)), .int (nI (pl)), .long (v), .int (nI (nn))] (inst k L S.1 S.2.1 S.2.2) n (Pv k L n (xput2_f xo pl nn v S)) := by
  refine cs_of (by decide) (Nat.le_of_ble_eq_true rfl) ?_
  intro X hXk C Rt hnm
  subst hXk
  have hX9 := hX
  obtain ⟨hX0, hx1, hx2, hx4, hx6, hx7, hx8, hx9, hx10, hx11, hg0, hg1, hg2, hg3, hhs, hall, hpl⟩ := hX9
  have hg09 := hg0
  obtain ⟨hg0a, hg0b⟩ := hg09
  have hg19 := hg1
  obtain ⟨hg1a, hg1b⟩ := hg19
  have hg29 := hg2
  obtain ⟨hg2a, hg2b⟩ := hg29
  have hg39 := hg3
  obtain ⟨hg3a, hg3b⟩ := hg39
  have hx29 := hx2
  obtain ⟨hx2a, hx2b⟩ := hx29
  have hx49 := hx4
  obtain ⟨hx4a, hx4b⟩ := hx49
  have hx119 := hx11
  obtain ⟨hx110, hx111, hx112, hx113⟩ := hx119
  refine rn_lv [(0, .ref (k_b X.1 + (xo))), (1, .int (nI (2))), (2, .int (nI (pl))), (3, .long (v)), (5, .int (nI (nn)))] (fun q h => h) ?_
  refine rn_iload C dX11_put_0 rfl ?_
  refine rs_sv C dX11_put_2 mk_X11_requireByteCount ls_X11_90 (cv_rbc (a := nn) (by omega) (by omega)) rfl rfl (by decide) (Nat.le_of_ble_eq_true rfl) (by decide) (by decide) ?_
  refine rn_iload_n C dX11_put_5 rfl ?_
  refine rs_sv C dX11_put_6 mk_X11_requireFixedRegister ls_X11_93 (cv_rfr (a := 2) (by omega)) rfl rfl (by decide) (Nat.le_of_ble_eq_true rfl) (by decide) (by decide) ?_
  refine rn_aload_n C dX11_put_9 rfl ?_
  refine rs_get C dX11_put_10 fl_X11_11 hX0 rfl ?_
  refine rn_iload_n C dX11_put_13 rfl ?_
  refine rs_aaload C dX11_put_14 hx1 rfl rfl (by decide) (by decide) (if_pos (by decide)) ?_
  refine rn_astore (lv' := [(0, _), (1, _), (2, _), (3, _), (5, _), (6, _)]) C dX11_put_15 (by decide) rfl ?_
  refine rn_iload_n C dX11_put_17 rfl ?_
  refine rn_if_lt (tgt := 33) C dX11_put_18 (by decide) (fun hb => absurd hb (nI_n0 (by omega))) (fun hb => ?_)
  refine rn_iload_n C dX11_put_21 rfl ?_
  refine rn_aload C dX11_put_22 rfl ?_
  refine rs_getFe C dX11_put_24 fl_X11_61 hg2a rfl hgn2 ?_
  refine rn_iload C dX11_put_27 rfl ?_
  refine rn_isub C dX11_put_29 (pk_sub (by omega)) ?_
  refine rn_icmp_le (tgt := 43) C dX11_put_30 (by decide) (fun hb => ?_) (fun hb => absurd ((nI_leI (by omega) (by omega)).mpr (by omega)) hb)
  refine rn_aload C dX11_put_43 rfl ?_
  refine rs_get C dX11_put_45 fl_X11_58 hg2a rfl ?_
  refine rn_iload_n C dX11_put_48 rfl ?_
  refine rn_lload_n C dX11_put_49 rfl ?_
  refine rn_iload C dX11_put_50 rfl ?_
  refine rs_sv C dX11_put_52 mk_X11_spread ls_X11_103 (c_xspr hg2b (by decide) (by omega) (by omega)) rfl rfl (by decide) (Nat.le_of_ble_eq_true rfl) (by decide) (by decide) ?_
  rw [show (xspr_f (xo + 15 + 2 * 2 + 1) (pl) (v) (nn) S).2.2 = S.2.2 from (xspr_F (xo + 15 + 2 * 2 + 1) (pl) (v) (nn) S)]
  generalize hS1 : xspr_f (xo + 15 + 2 * 2 + 1) (pl) (v) (nn) S = S1
  have hret : xput2_f xo pl nn v S = (S1.1, S1.2.1, S.2.2) := by
    subst hS1
    first | (dsimp only [xput2_f]; done) | (dsimp only [xput2_f]; exact rfl) | exact rfl
  exact rn_vret C Rt dX11_put_55 (pv_of hret) (Nat.zero_le _) (Nat.zero_le _)
def xmove2_f (xo : Nat) (ou : Nat) (S : StT) : Int32 × StT := (let I1 := va_up S.1 (xo + 15 + 2 * 2 + 1) (va_cpy (S.1 (xo + 15 + 2 * 3 + 1)) (S.1 (xo + 15 + 2 * 2 + 1)) (0) (0) (min ou 114)); (nI (min ou 114), (I1, S.2.1, S.2.2)))
theorem xmove2_F (xo : Nat) (ou : Nat) (S : StT) : (xmove2_f xo ou S).2.2.2 = S.2.2 := by
  unfold xmove2_f; first | rfl | ((repeat' split) <;> rfl) | (dsimp only; (repeat' split) <;> rfl)
set_option maxRecDepth 100000 in
set_option maxHeartbeats 300000 in
theorem c_xmove2 {k : KX} {L : Nat → Option Sh} {S : StT} {n : Nat} {xo : Nat} {ou : Nat} (hX : SuiteAt k L xo) (hgn2 : S.2.2 (xo + 15 + 2 * 2) 1 = nI 114) (hou : S.2.2 (xo + 15 + 2 * 3) 1 = nI ou) (hou1 : ou ≤ 114) :
    Cs k yX11_move cX11_move 5 (some .int) 1 0 0 [.ref (k_b k + (xo)), .int (nI (2))] (inst k L S.1 S.2.1 S.2.2) n (Pi k L n (xmove2_f xo ou S)) := by
  refine cs_of (by decide) (Nat.le_of_ble_eq_true rfl) ?_
  intro X hXk C Rt hnm
  subst hXk
  have hX9 := hX
  obtain ⟨hX0, hx1, hx2, hx4, hx6, hx7, hx8, hx9, hx10, hx11, hg0, hg1, hg2, hg3, hhs, hall, hpl⟩ := hX9
  have hg09 := hg0
  obtain ⟨hg0a, hg0b⟩ := hg09
  have hg19 := hg1
  obtain ⟨hg1a, hg1b⟩ := hg19
  have hg29 := hg2
  obtain ⟨hg2a, hg2b⟩ := hg29
  have hg39 := hg3
  obtain ⟨hg3a, hg3b⟩ := hg39
  have hx29 := hx2
  obtain ⟨hx2a, hx2b⟩ := hx29
  have hx49 := hx4
  obtain ⟨hx4a, hx4b⟩ := hx49
  have hx119 := hx11
  obtain ⟨hx110, hx111, hx112, hx113⟩ := hx119
  refine rn_lv [(0, .ref (k_b X.1 + (xo))), (1, .int (nI (2)))] (fun q h => h) ?_
  refine rn_iload_n C dX11_move_0 rfl ?_
  refine rs_sv C dX11_move_1 mk_X11_requireFixedRegister ls_X11_93 (cv_rfr (a := 2) (by omega)) rfl rfl (by decide) (Nat.le_of_ble_eq_true rfl) (by decide) (by decide) ?_
  refine rn_aload_n C dX11_move_4 rfl ?_
  refine rs_get C dX11_move_5 fl_X11_11 hX0 rfl ?_
  refine rn_iconst (v := nI 3) C dX11_move_8 rfl ?_
  refine rs_aaload C dX11_move_9 hx1 rfl rfl (by decide) (by decide) (if_pos (by decide)) ?_
  refine rn_astore_n (lv' := [(0, _), (1, _), (2, _)]) C dX11_move_10 (by decide) rfl ?_
  refine rn_aload_n C dX11_move_11 rfl ?_
  refine rs_get C dX11_move_12 fl_X11_11 hX0 rfl ?_
  refine rn_iload_n C dX11_move_15 rfl ?_
  refine rs_aaload C dX11_move_16 hx1 rfl rfl (by decide) (by decide) (if_pos (by decide)) ?_
  refine rn_astore_n (lv' := [(0, _), (1, _), (2, _), (3, _)]) C dX11_move_17 (by decide) rfl ?_
  refine rn_aload_n C dX11_move_18 rfl ?_
  refine rs_getFe C dX11_move_19 fl_X11_61 hg3a rfl hou ?_
  refine rn_aload_n C dX11_move_22 rfl ?_
  refine rs_getFe C dX11_move_23 fl_X11_61 hg2a rfl hgn2 ?_
  refine rn_mmin C dX11_move_26 (mm_n (by omega) (by omega)) (by decide) (Nat.le_of_ble_eq_true rfl) (by decide) (by decide) ?_
  refine rn_istore (lv' := [(0, _), (1, _), (2, _), (3, _), (4, _)]) C dX11_move_29 (by decide) rfl ?_
  refine rn_aload_n C dX11_move_31 rfl ?_
  refine rs_get C dX11_move_32 fl_X11_58 hg3a rfl ?_
  refine rn_iconst (v := nI 0) C dX11_move_35 rfl ?_
  refine rn_aload_n C dX11_move_36 rfl ?_
  refine rs_get C dX11_move_37 fl_X11_58 hg2a rfl ?_
  refine rn_iconst (v := nI 0) C dX11_move_40 rfl ?_
  refine rn_iload C dX11_move_41 rfl ?_
  refine rs_copyI C dX11_move_43 lcp_X11_118 hg3b hg2b rfl rfl rfl (by omega) (by omega) (by decide) (by decide) (by decide) (by decide) ?_
  refine rn_iload C dX11_move_46 rfl ?_
  have hret : xmove2_f xo ou S = (nI (min ou 114), ((va_up S.1 (xo + 15 + 2 * 2 + 1) (va_cpy (S.1 (xo + 15 + 2 * 3 + 1)) (S.1 (xo + 15 + 2 * 2 + 1)) (0) (0) (min ou 114))), S.2.1, S.2.2)) := by
    first | (dsimp only [xmove2_f]; done) | (dsimp only [xmove2_f]; exact rfl) | exact rfl
  exact rn_iret C Rt dX11_move_48 (pi_of hret) (Nat.zero_le _) (Nat.zero_le _)
def xfeed0_f (xo : Nat) (mg : Nat) (nn : Nat) (v : Int64) (S : StT) : Int32 × StT := (let S1 := xspr_f (xo + 2 + 1) (mg) (v) (nn) S; (nI (mg + nn), (S1.1, S1.2.1, fs S.2.2 (xo + 2) 1 (nI (mg + nn)))))
theorem xfeed0_F (xo : Nat) (mg : Nat) (nn : Nat) (v : Int64) (S : StT) : (xfeed0_f xo mg nn v S).2.2.2 = fs S.2.2 (xo + 2) 1 (nI (mg + nn)) := by
  unfold xfeed0_f; first | rfl | ((repeat' split) <;> rfl) | (dsimp only; (repeat' split) <;> rfl)
set_option maxRecDepth 100000 in
set_option maxHeartbeats 300000 in
theorem c_xfeed0 {k : KX} {L : Nat → Option Sh} {S : StT} {n : Nat} {xo : Nat} {mg : Nat} {nn : Nat} {v : Int64} (hX : SuiteAt k L xo) (hmg : S.2.2 (xo + 2) 1 = nI mg) (hmg1 : mg ≤ 256) (hn1 : 1 ≤ nn) (hn8 : nn ≤ 8) (hfit : mg + nn ≤ 256) :
    Cs k yX11_feed cX11_feed 6 (some .int) 1 0 0 [.ref (k_b k + (xo)), .int (nI (0)), .long (v), .int (nI (nn))] (inst k L S.1 S.2.1 S.2.2) n (Pi k L n (xfeed0_f xo mg nn v S)) := by
  refine cs_of (by decide) (Nat.le_of_ble_eq_true rfl) ?_
  intro X hXk C Rt hnm
  subst hXk
  have hX9 := hX
  obtain ⟨hX0, hx1, hx2, hx4, hx6, hx7, hx8, hx9, hx10, hx11, hg0, hg1, hg2, hg3, hhs, hall, hpl⟩ := hX9
  have hg09 := hg0
  obtain ⟨hg0a, hg0b⟩ := hg09
  have hg19 := hg1
  obtain ⟨hg1a, hg1b⟩ := hg19
  have hg29 := hg2
  obtain ⟨hg2a, hg2b⟩ := hg29
  have hg39 := hg3
  obtain ⟨hg3a, hg3b⟩ := hg39
  have hx29 := hx2
  obtain ⟨hx2a, hx2b⟩ := hx29
  have hx49 := hx4
  obtain ⟨hx4a, hx4b⟩ := hx49
  have hx119 := hx11
  obtain ⟨hx110, hx111, hx112, hx113⟩ := hx119
  refine rn_lv [(0, .ref (k_b X.1 + (xo))), (1, .int (nI (0))), (2, .long (v)), (4, .int (nI (nn)))] (fun q h => h) ?_
  refine rn_iload C dX11_feed_0 rfl ?_
  refine rs_sv C dX11_feed_2 mk_X11_requireByteCount ls_X11_90 (cv_rbc (a := nn) (by omega) (by omega)) rfl rfl (by decide) (Nat.le_of_ble_eq_true rfl) (by decide) (by decide) ?_
  refine rn_iload_n C dX11_feed_5 rfl ?_
  refine rn_if_eq (tgt := 16) C dX11_feed_6 (by decide) (fun hb => ?_) (fun hb => absurd (show (nI (0)) = 0 from by decide) hb)
  refine rn_aload_n C dX11_feed_16 rfl ?_
  refine rs_get C dX11_feed_17 fl_X11_18 hX0 rfl ?_
  refine rn_astore (lv' := [(0, _), (1, _), (2, _), (4, _), (5, _)]) C dX11_feed_20 (by decide) rfl ?_
  refine rn_aload C dX11_feed_22 rfl ?_
  refine rs_getFe C dX11_feed_24 fl_X11_61 hx2a rfl hmg ?_
  refine rn_aload C dX11_feed_27 rfl ?_
  refine rs_get C dX11_feed_29 fl_X11_58 hx2a rfl ?_
  refine rs_alenI C dX11_feed_32 hx2b ?_
  refine rn_iload C dX11_feed_33 rfl ?_
  refine rn_isub C dX11_feed_35 (pk_sub (by omega)) ?_
  refine rn_icmp_le (tgt := 49) C dX11_feed_36 (by decide) (fun hb => ?_) (fun hb => absurd ((nI_leI (by omega) (by omega)).mpr (by omega)) hb)
  refine rn_aload C dX11_feed_49 rfl ?_
  refine rs_get C dX11_feed_51 fl_X11_58 hx2a rfl ?_
  refine rn_aload C dX11_feed_54 rfl ?_
  refine rs_getFe C dX11_feed_56 fl_X11_61 hx2a rfl hmg ?_
  refine rn_lload_n C dX11_feed_59 rfl ?_
  refine rn_iload C dX11_feed_60 rfl ?_
  refine rs_sv C dX11_feed_62 mk_X11_spread ls_X11_103 (c_xspr hx2b (by decide) (by omega) (by omega)) rfl rfl (by decide) (Nat.le_of_ble_eq_true rfl) (by decide) (by decide) ?_
  rw [show (xspr_f (xo + 2 + 1) (mg) (v) (nn) S).2.2 = S.2.2 from (xspr_F (xo + 2 + 1) (mg) (v) (nn) S)]
  generalize hS1 : xspr_f (xo + 2 + 1) (mg) (v) (nn) S = S1
  refine rn_aload C dX11_feed_65 rfl ?_
  refine rn_dup C dX11_feed_67 rfl ?_
  refine rs_getFe C dX11_feed_68 fl_X11_61 hx2a rfl hmg ?_
  refine rn_iload C dX11_feed_71 rfl ?_
  refine rn_iadd C dX11_feed_73 (nI_add _ _) ?_
  refine rs_putF C dX11_feed_74 fp_X11_61 hx2a rfl ?_
  refine rn_aload C dX11_feed_77 rfl ?_
  refine rs_getFe C dX11_feed_79 fl_X11_61 hx2a rfl fs_get ?_
  have hret : xfeed0_f xo mg nn v S = (nI (mg + nn), (S1.1, S1.2.1, fs S.2.2 (xo + 2) 1 (nI (mg + nn)))) := by
    subst hS1
    first | (dsimp only [xfeed0_f]; done) | (dsimp only [xfeed0_f]; exact rfl) | exact rfl
  exact rn_iret C Rt dX11_feed_82 (pi_of hret) (Nat.zero_le _) (Nat.zero_le _)
def xclear0_f (xo : Nat) (S : StT) : StT := (S.1, S.2.1, fs S.2.2 (xo + 2) 1 (nI (0)))
theorem xclear0_F (xo : Nat) (S : StT) : (xclear0_f xo S).2.2 = fs S.2.2 (xo + 2) 1 (nI (0)) := by
  unfold xclear0_f; first | rfl | ((repeat' split) <;> rfl) | (dsimp only; (repeat' split) <;> rfl)
set_option maxRecDepth 100000 in
set_option maxHeartbeats 300000 in
theorem c_xclear0 {k : KX} {L : Nat → Option Sh} {S : StT} {n : Nat} {xo : Nat} (hX : SuiteAt k L xo) :
    Cs k yX11_clear cX11_clear 3 none 1 0 0 [.ref (k_b k + (xo)), .int (nI (0))] (inst k L S.1 S.2.1 S.2.2) n (Pv k L n (xclear0_f xo S)) := by
  refine cs_of (by decide) (Nat.le_of_ble_eq_true rfl) ?_
  intro X hXk C Rt hnm
  subst hXk
  have hX9 := hX
  obtain ⟨hX0, hx1, hx2, hx4, hx6, hx7, hx8, hx9, hx10, hx11, hg0, hg1, hg2, hg3, hhs, hall, hpl⟩ := hX9
  have hg09 := hg0
  obtain ⟨hg0a, hg0b⟩ := hg09
  have hg19 := hg1
  obtain ⟨hg1a, hg1b⟩ := hg19
  have hg29 := hg2
  obtain ⟨hg2a, hg2b⟩ := hg29
  have hg39 := hg3
  obtain ⟨hg3a, hg3b⟩ := hg39
  have hx29 := hx2
  obtain ⟨hx2a, hx2b⟩ := hx29
  have hx49 := hx4
  obtain ⟨hx4a, hx4b⟩ := hx49
  have hx119 := hx11
  obtain ⟨hx110, hx111, hx112, hx113⟩ := hx119
  refine rn_lv [(0, .ref (k_b X.1 + (xo))), (1, .int (nI (0)))] (fun q h => h) ?_
  refine rn_iload_n C dX11_clear_0 rfl ?_
  refine rn_if_eq (tgt := 11) C dX11_clear_1 (by decide) (fun hb => ?_) (fun hb => absurd (show (nI (0)) = 0 from by decide) hb)
  refine rn_aload_n C dX11_clear_11 rfl ?_
  refine rs_get C dX11_clear_12 fl_X11_18 hX0 rfl ?_
  refine rn_astore_n (lv' := [(0, _), (1, _), (2, _)]) C dX11_clear_15 (by decide) rfl ?_
  refine rn_aload_n C dX11_clear_16 rfl ?_
  refine rn_iconst (v := nI 0) C dX11_clear_17 rfl ?_
  refine rs_putF C dX11_clear_18 fp_X11_61 hx2a rfl ?_
  have hret : xclear0_f xo S = (S.1, S.2.1, fs S.2.2 (xo + 2) 1 (nI (0))) := by
    first | (dsimp only [xclear0_f]; done) | (dsimp only [xclear0_f]; exact rfl) | exact rfl
  exact rn_vret C Rt dX11_clear_21 (pv_of hret) (Nat.zero_le _) (Nat.zero_le _)
def xfeed1_f (xo : Nat) (cx : Nat) (nn : Nat) (v : Int64) (S : StT) : Int32 × StT := (let S1 := xspr_f (xo + 4 + 1) (cx) (v) (nn) S; (nI (cx + nn), (S1.1, S1.2.1, fs S.2.2 (xo + 4) 1 (nI (cx + nn)))))
theorem xfeed1_F (xo : Nat) (cx : Nat) (nn : Nat) (v : Int64) (S : StT) : (xfeed1_f xo cx nn v S).2.2.2 = fs S.2.2 (xo + 4) 1 (nI (cx + nn)) := by
  unfold xfeed1_f; first | rfl | ((repeat' split) <;> rfl) | (dsimp only; (repeat' split) <;> rfl)
set_option maxRecDepth 100000 in
set_option maxHeartbeats 300000 in
theorem c_xfeed1 {k : KX} {L : Nat → Option Sh} {S : StT} {n : Nat} {xo : Nat} {cx : Nat} {nn : Nat} {v : Int64} (hX : SuiteAt k L xo) (hcx : S.2.2 (xo + 4) 1 = nI cx) (hcx1 : cx ≤ 64) (hn1 : 1 ≤ nn) (hn8 : nn ≤ 8) (hfit : cx + nn ≤ 64) :
    Cs k yX11_feed cX11_feed 6 (some .int) 1 0 0 [.ref (k_b k + (xo)), .int (nI (1)), .long (v), .int (nI (nn))] (inst k L S.1 S.2.1 S.2.2) n (Pi k L n (xfeed1_f xo cx nn v S)) := by
  refine cs_of (by decide) (Nat.le_of_ble_eq_true rfl) ?_
  intro X hXk C Rt hnm
  subst hXk
  have hX9 := hX
  obtain ⟨hX0, hx1, hx2, hx4, hx6, hx7, hx8, hx9, hx10, hx11, hg0, hg1, hg2, hg3, hhs, hall, hpl⟩ := hX9
  have hg09 := hg0
  obtain ⟨hg0a, hg0b⟩ := hg09
  have hg19 := hg1
  obtain ⟨hg1a, hg1b⟩ := hg19
  have hg29 := hg2
  obtain ⟨hg2a, hg2b⟩ := hg29
  have hg39 := hg3
  obtain ⟨hg3a, hg3b⟩ := hg39
  have hx29 := hx2
  obtain ⟨hx2a, hx2b⟩ := hx29
  have hx49 := hx4
  obtain ⟨hx4a, hx4b⟩ := hx49
  have hx119 := hx11
  obtain ⟨hx110, hx111, hx112, hx113⟩ := hx119
  refine rn_lv [(0, .ref (k_b X.1 + (xo))), (1, .int (nI (1))), (2, .long (v)), (4, .int (nI (nn)))] (fun q h => h) ?_
  refine rn_iload C dX11_feed_0 rfl ?_
  refine rs_sv C dX11_feed_2 mk_X11_requireByteCount ls_X11_90 (cv_rbc (a := nn) (by omega) (by omega)) rfl rfl (by decide) (Nat.le_of_ble_eq_true rfl) (by decide) (by decide) ?_
  refine rn_iload_n C dX11_feed_5 rfl ?_
  refine rn_if_eq (tgt := 16) C dX11_feed_6 (by decide) (fun hb => absurd hb (show ¬ (nI (1)) = 0 from by decide)) (fun hb => ?_)
  refine rn_aload_n C dX11_feed_9 rfl ?_
  refine rs_get C dX11_feed_10 fl_X11_22 hX0 rfl ?_
  refine rn_goto (tgt := 20) C dX11_feed_13 (by decide) ?_
  refine rn_astore (lv' := [(0, _), (1, _), (2, _), (4, _), (5, _)]) C dX11_feed_20 (by decide) rfl ?_
  refine rn_aload C dX11_feed_22 rfl ?_
  refine rs_getFe C dX11_feed_24 fl_X11_61 hx4a rfl hcx ?_
  refine rn_aload C dX11_feed_27 rfl ?_
  refine rs_get C dX11_feed_29 fl_X11_58 hx4a rfl ?_
  refine rs_alenI C dX11_feed_32 hx4b ?_
  refine rn_iload C dX11_feed_33 rfl ?_
  refine rn_isub C dX11_feed_35 (pk_sub (by omega)) ?_
  refine rn_icmp_le (tgt := 49) C dX11_feed_36 (by decide) (fun hb => ?_) (fun hb => absurd ((nI_leI (by omega) (by omega)).mpr (by omega)) hb)
  refine rn_aload C dX11_feed_49 rfl ?_
  refine rs_get C dX11_feed_51 fl_X11_58 hx4a rfl ?_
  refine rn_aload C dX11_feed_54 rfl ?_
  refine rs_getFe C dX11_feed_56 fl_X11_61 hx4a rfl hcx ?_
  refine rn_lload_n C dX11_feed_59 rfl ?_
  refine rn_iload C dX11_feed_60 rfl ?_
  refine rs_sv C dX11_feed_62 mk_X11_spread ls_X11_103 (c_xspr hx4b (by decide) (by omega) (by omega)) rfl rfl (by decide) (Nat.le_of_ble_eq_true rfl) (by decide) (by decide) ?_
  rw [show (xspr_f (xo + 4 + 1) (cx) (v) (nn) S).2.2 = S.2.2 from (xspr_F (xo + 4 + 1) (cx) (v) (nn) S)]
  generalize hS1 : xspr_f (xo + 4 + 1) (cx) (v) (nn) S = S1
  refine rn_aload C dX11_feed_65 rfl ?_
  refine rn_dup C dX11_feed_67 rfl ?_
  refine rs_getFe C dX11_feed_68 fl_X11_61 hx4a rfl hcx ?_
  refine rn_iload C dX11_feed_71 rfl ?_
  refine rn_iadd C dX11_feed_73 (nI_add _ _) ?_
  refine rs_putF C dX11_feed_74 fp_X11_61 hx4a rfl ?_
  refine rn_aload C dX11_feed_77 rfl ?_
  refine rs_getFe C dX11_feed_79 fl_X11_61 hx4a rfl fs_get ?_
  have hret : xfeed1_f xo cx nn v S = (nI (cx + nn), (S1.1, S1.2.1, fs S.2.2 (xo + 4) 1 (nI (cx + nn)))) := by
    subst hS1
    first | (dsimp only [xfeed1_f]; done) | (dsimp only [xfeed1_f]; exact rfl) | exact rfl
  exact rn_iret C Rt dX11_feed_82 (pi_of hret) (Nat.zero_le _) (Nat.zero_le _)
def xclear1_f (xo : Nat) (S : StT) : StT := (S.1, S.2.1, fs S.2.2 (xo + 4) 1 (nI (0)))
theorem xclear1_F (xo : Nat) (S : StT) : (xclear1_f xo S).2.2 = fs S.2.2 (xo + 4) 1 (nI (0)) := by
  unfold xclear1_f; first | rfl | ((repeat' split) <;> rfl) | (dsimp only; (repeat' split) <;> rfl)
set_option maxRecDepth 100000 in
set_option maxHeartbeats 300000 in
theorem c_xclear1 {k : KX} {L : Nat → Option Sh} {S : StT} {n : Nat} {xo : Nat} (hX : SuiteAt k L xo) :
    Cs k yX11_clear cX11_clear 3 none 1 0 0 [.ref (k_b k + (xo)), .int (nI (1))] (inst k L S.1 S.2.1 S.2.2) n (Pv k L n (xclear1_f xo S)) := by
  refine cs_of (by decide) (Nat.le_of_ble_eq_true rfl) ?_
  intro X hXk C Rt hnm
  subst hXk
  have hX9 := hX
  obtain ⟨hX0, hx1, hx2, hx4, hx6, hx7, hx8, hx9, hx10, hx11, hg0, hg1, hg2, hg3, hhs, hall, hpl⟩ := hX9
  have hg09 := hg0
  obtain ⟨hg0a, hg0b⟩ := hg09
  have hg19 := hg1
  obtain ⟨hg1a, hg1b⟩ := hg19
  have hg29 := hg2
  obtain ⟨hg2a, hg2b⟩ := hg29
  have hg39 := hg3
  obtain ⟨hg3a, hg3b⟩ := hg39
  have hx29 := hx2
  obtain ⟨hx2a, hx2b⟩ := hx29
  have hx49 := hx4
  obtain ⟨hx4a, hx4b⟩ := hx49
  have hx119 := hx11
  obtain ⟨hx110, hx111, hx112, hx113⟩ := hx119
  refine rn_lv [(0, .ref (k_b X.1 + (xo))), (1, .int (nI (1)))] (fun q h => h) ?_
  refine rn_iload_n C dX11_clear_0 rfl ?_
  refine rn_if_eq (tgt := 11) C dX11_clear_1 (by decide) (fun hb => absurd hb (show ¬ (nI (1)) = 0 from by decide)) (fun hb => ?_)
  refine rn_aload_n C dX11_clear_4 rfl ?_
  refine rs_get C dX11_clear_5 fl_X11_22 hX0 rfl ?_
  refine rn_goto (tgt := 15) C dX11_clear_8 (by decide) ?_
  refine rn_astore_n (lv' := [(0, _), (1, _), (2, _)]) C dX11_clear_15 (by decide) rfl ?_
  refine rn_aload_n C dX11_clear_16 rfl ?_
  refine rn_iconst (v := nI 0) C dX11_clear_17 rfl ?_
  refine rs_putF C dX11_clear_18 fp_X11_61 hx4a rfl ?_
  have hret : xclear1_f xo S = (S.1, S.2.1, fs S.2.2 (xo + 4) 1 (nI (0))) := by
    first | (dsimp only [xclear1_f]; done) | (dsimp only [xclear1_f]; exact rfl) | exact rfl
  exact rn_vret C Rt dX11_clear_21 (pv_of hret) (Nat.zero_le _) (Nat.zero_le _)
def xlook0_f (xo : Nat) (q : Nat) (S : StT) : Int32 × StT := (S.1 (xo + 15 + 2 * 0 + 1) (q), S)
theorem xlook0_F (xo : Nat) (q : Nat) (S : StT) : (xlook0_f xo q S).2.2.2 = S.2.2 := by
  unfold xlook0_f; first | rfl | ((repeat' split) <;> rfl) | (dsimp only; (repeat' split) <;> rfl)
set_option maxRecDepth 100000 in
set_option maxHeartbeats 300000 in
theorem c_xlook0 {k : KX} {L : Nat → Option Sh} {S : StT} {n : Nat} {xo : Nat} {q : Nat} (hX : SuiteAt k L xo) (hgn0 : S.2.2 (xo + 15 + 2 * 0) 1 = nI 57) (hq : q < 57) :
    Cs k yX11_look cX11_look 4 (some .int) 1 0 0 [.ref (k_b k + (xo)), .int (nI (0)), .int (nI (q))] (inst k L S.1 S.2.1 S.2.2) n (Pi k L n (xlook0_f xo q S)) := by
  refine cs_of (by decide) (Nat.le_of_ble_eq_true rfl) ?_
  intro X hXk C Rt hnm
  subst hXk
  have hX9 := hX
  obtain ⟨hX0, hx1, hx2, hx4, hx6, hx7, hx8, hx9, hx10, hx11, hg0, hg1, hg2, hg3, hhs, hall, hpl⟩ := hX9
  have hg09 := hg0
  obtain ⟨hg0a, hg0b⟩ := hg09
  have hg19 := hg1
  obtain ⟨hg1a, hg1b⟩ := hg19
  have hg29 := hg2
  obtain ⟨hg2a, hg2b⟩ := hg29
  have hg39 := hg3
  obtain ⟨hg3a, hg3b⟩ := hg39
  have hx29 := hx2
  obtain ⟨hx2a, hx2b⟩ := hx29
  have hx49 := hx4
  obtain ⟨hx4a, hx4b⟩ := hx49
  have hx119 := hx11
  obtain ⟨hx110, hx111, hx112, hx113⟩ := hx119
  refine rn_lv [(0, .ref (k_b X.1 + (xo))), (1, .int (nI (0))), (2, .int (nI (q)))] (fun q h => h) ?_
  refine rn_iload_n C dX11_look_0 rfl ?_
  refine rn_if_lt (tgt := 9) C dX11_look_1 (by decide) (fun hb => absurd hb (show ¬ (nI (0)) < 0 from by decide)) (fun hb => ?_)
  refine rn_iload_n C dX11_look_4 rfl ?_
  refine rn_iconst (v := nI 3) C dX11_look_5 rfl ?_
  refine rn_icmp_le (tgt := 19) C dX11_look_6 (by decide) (fun hb => ?_) (fun hb => absurd (show (nI (0)) ≤ (nI (3)) from by decide) hb)
  refine rn_aload_n C dX11_look_19 rfl ?_
  refine rs_get C dX11_look_20 fl_X11_11 hX0 rfl ?_
  refine rn_iload_n C dX11_look_23 rfl ?_
  refine rs_aaload C dX11_look_24 hx1 rfl rfl (by decide) (by decide) (if_pos (by decide)) ?_
  refine rn_astore_n (lv' := [(0, _), (1, _), (2, _), (3, _)]) C dX11_look_25 (by decide) rfl ?_
  refine rn_iload_n C dX11_look_26 rfl ?_
  refine rn_if_lt (tgt := 38) C dX11_look_27 (by decide) (fun hb => absurd hb (nI_n0 (by omega))) (fun hb => ?_)
  refine rn_iload_n C dX11_look_30 rfl ?_
  refine rn_aload_n C dX11_look_31 rfl ?_
  refine rs_getFe C dX11_look_32 fl_X11_61 hg0a rfl hgn0 ?_
  refine rn_icmp_lt (tgt := 48) C dX11_look_35 (by decide) (fun hb => ?_) (fun hb => absurd ((nI_ltI (by omega) (by omega)).mpr (by omega)) hb)
  refine rn_aload_n C dX11_look_48 rfl ?_
  refine rs_get C dX11_look_49 fl_X11_58 hg0a rfl ?_
  refine rn_iload_n C dX11_look_52 rfl ?_
  refine rs_iaload C dX11_look_53 hg0b rfl (by omega) (by decide) ?_
  have hret : xlook0_f xo q S = (S.1 (xo + 15 + 2 * 0 + 1) (q), S) := by
    first | (dsimp only [xlook0_f]; done) | (dsimp only [xlook0_f]; exact rfl) | exact rfl
  exact rn_iret C Rt dX11_look_54 (pi_of hret) (Nat.zero_le _) (Nat.zero_le _)
def xlook1_f (xo : Nat) (q : Nat) (S : StT) : Int32 × StT := (S.1 (xo + 15 + 2 * 1 + 1) (q), S)
theorem xlook1_F (xo : Nat) (q : Nat) (S : StT) : (xlook1_f xo q S).2.2.2 = S.2.2 := by
  unfold xlook1_f; first | rfl | ((repeat' split) <;> rfl) | (dsimp only; (repeat' split) <;> rfl)
set_option maxRecDepth 100000 in
set_option maxHeartbeats 300000 in
theorem c_xlook1 {k : KX} {L : Nat → Option Sh} {S : StT} {n : Nat} {xo : Nat} {q : Nat} (hX : SuiteAt k L xo) (hgn1 : S.2.2 (xo + 15 + 2 * 1) 1 = nI 57) (hq : q < 57) :
    Cs k yX11_look cX11_look 4 (some .int) 1 0 0 [.ref (k_b k + (xo)), .int (nI (1)), .int (nI (q))] (inst k L S.1 S.2.1 S.2.2) n (Pi k L n (xlook1_f xo q S)) := by
  refine cs_of (by decide) (Nat.le_of_ble_eq_true rfl) ?_
  intro X hXk C Rt hnm
  subst hXk
  have hX9 := hX
  obtain ⟨hX0, hx1, hx2, hx4, hx6, hx7, hx8, hx9, hx10, hx11, hg0, hg1, hg2, hg3, hhs, hall, hpl⟩ := hX9
  have hg09 := hg0
  obtain ⟨hg0a, hg0b⟩ := hg09
  have hg19 := hg1
  obtain ⟨hg1a, hg1b⟩ := hg19
  have hg29 := hg2
  obtain ⟨hg2a, hg2b⟩ := hg29
  have hg39 := hg3
  obtain ⟨hg3a, hg3b⟩ := hg39
  have hx29 := hx2
  obtain ⟨hx2a, hx2b⟩ := hx29
  have hx49 := hx4
  obtain ⟨hx4a, hx4b⟩ := hx49
  have hx119 := hx11
  obtain ⟨hx110, hx111, hx112, hx113⟩ := hx119
  refine rn_lv [(0, .ref (k_b X.1 + (xo))), (1, .int (nI (1))), (2, .int (nI (q)))] (fun q h => h) ?_
  refine rn_iload_n C dX11_look_0 rfl ?_
  refine rn_if_lt (tgt := 9) C dX11_look_1 (by decide) (fun hb => absurd hb (show ¬ (nI (1)) < 0 from by decide)) (fun hb => ?_)
  refine rn_iload_n C dX11_look_4 rfl ?_
  refine rn_iconst (v := nI 3) C dX11_look_5 rfl ?_
  refine rn_icmp_le (tgt := 19) C dX11_look_6 (by decide) (fun hb => ?_) (fun hb => absurd (show (nI (1)) ≤ (nI (3)) from by decide) hb)
  refine rn_aload_n C dX11_look_19 rfl ?_
  refine rs_get C dX11_look_20 fl_X11_11 hX0 rfl ?_
  refine rn_iload_n C dX11_look_23 rfl ?_
  refine rs_aaload C dX11_look_24 hx1 rfl rfl (by decide) (by decide) (if_pos (by decide)) ?_
  refine rn_astore_n (lv' := [(0, _), (1, _), (2, _), (3, _)]) C dX11_look_25 (by decide) rfl ?_
  refine rn_iload_n C dX11_look_26 rfl ?_
  refine rn_if_lt (tgt := 38) C dX11_look_27 (by decide) (fun hb => absurd hb (nI_n0 (by omega))) (fun hb => ?_)
  refine rn_iload_n C dX11_look_30 rfl ?_
  refine rn_aload_n C dX11_look_31 rfl ?_
  refine rs_getFe C dX11_look_32 fl_X11_61 hg1a rfl hgn1 ?_
  refine rn_icmp_lt (tgt := 48) C dX11_look_35 (by decide) (fun hb => ?_) (fun hb => absurd ((nI_ltI (by omega) (by omega)).mpr (by omega)) hb)
  refine rn_aload_n C dX11_look_48 rfl ?_
  refine rs_get C dX11_look_49 fl_X11_58 hg1a rfl ?_
  refine rn_iload_n C dX11_look_52 rfl ?_
  refine rs_iaload C dX11_look_53 hg1b rfl (by omega) (by decide) ?_
  have hret : xlook1_f xo q S = (S.1 (xo + 15 + 2 * 1 + 1) (q), S) := by
    first | (dsimp only [xlook1_f]; done) | (dsimp only [xlook1_f]; exact rfl) | exact rfl
  exact rn_iret C Rt dX11_look_54 (pi_of hret) (Nat.zero_le _) (Nat.zero_le _)
def xlook2_f (xo : Nat) (q : Nat) (S : StT) : Int32 × StT := (S.1 (xo + 15 + 2 * 2 + 1) (q), S)
theorem xlook2_F (xo : Nat) (q : Nat) (S : StT) : (xlook2_f xo q S).2.2.2 = S.2.2 := by
  unfold xlook2_f; first | rfl | ((repeat' split) <;> rfl) | (dsimp only; (repeat' split) <;> rfl)
set_option maxRecDepth 100000 in
set_option maxHeartbeats 300000 in
theorem c_xlook2 {k : KX} {L : Nat → Option Sh} {S : StT} {n : Nat} {xo : Nat} {q : Nat} (hX : SuiteAt k L xo) (hgn2 : S.2.2 (xo + 15 + 2 * 2) 1 = nI 114) (hq : q < 114) :
    Cs k yX11_look cX11_look 4 (some .int) 1 0 0 [.ref (k_b k + (xo)), .int (nI (2)), .int (nI (q))] (inst k L S.1 S.2.1 S.2.2) n (Pi k L n (xlook2_f xo q S)) := by
  refine cs_of (by decide) (Nat.le_of_ble_eq_true rfl) ?_
  intro X hXk C Rt hnm
  subst hXk
  have hX9 := hX
  obtain ⟨hX0, hx1, hx2, hx4, hx6, hx7, hx8, hx9, hx10, hx11, hg0, hg1, hg2, hg3, hhs, hall, hpl⟩ := hX9
  have hg09 := hg0
  obtain ⟨hg0a, hg0b⟩ := hg09
  have hg19 := hg1
  obtain ⟨hg1a, hg1b⟩ := hg19
  have hg29 := hg2
  obtain ⟨hg2a, hg2b⟩ := hg29
  have hg39 := hg3
  obtain ⟨hg3a, hg3b⟩ := hg39
  have hx29 := hx2
  obtain ⟨hx2a, hx2b⟩ := hx29
  have hx49 := hx4
  obtain ⟨hx4a, hx4b⟩ := hx49
  have hx119 := hx11
  obtain ⟨hx110, hx111, hx112, hx113⟩ := hx119
  refine rn_lv [(0, .ref (k_b X.1 + (xo))), (1, .int (nI (2))), (2, .int (nI (q)))] (fun q h => h) ?_
  refine rn_iload_n C dX11_look_0 rfl ?_
  refine rn_if_lt (tgt := 9) C dX11_look_1 (by decide) (fun hb => absurd hb (show ¬ (nI (2)) < 0 from by decide)) (fun hb => ?_)
  refine rn_iload_n C dX11_look_4 rfl ?_
  refine rn_iconst (v := nI 3) C dX11_look_5 rfl ?_
  refine rn_icmp_le (tgt := 19) C dX11_look_6 (by decide) (fun hb => ?_) (fun hb => absurd (show (nI (2)) ≤ (nI (3)) from by decide) hb)
  refine rn_aload_n C dX11_look_19 rfl ?_
  refine rs_get C dX11_look_20 fl_X11_11 hX0 rfl ?_
  refine rn_iload_n C dX11_look_23 rfl ?_
  refine rs_aaload C dX11_look_24 hx1 rfl rfl (by decide) (by decide) (if_pos (by decide)) ?_
  refine rn_astore_n (lv' := [(0, _), (1, _), (2, _), (3, _)]) C dX11_look_25 (by decide) rfl ?_
  refine rn_iload_n C dX11_look_26 rfl ?_
  refine rn_if_lt (tgt := 38) C dX11_look_27 (by decide) (fun hb => absurd hb (nI_n0 (by omega))) (fun hb => ?_)
  refine rn_iload_n C dX11_look_30 rfl ?_
  refine rn_aload_n C dX11_look_31 rfl ?_
  refine rs_getFe C dX11_look_32 fl_X11_61 hg2a rfl hgn2 ?_
  refine rn_icmp_lt (tgt := 48) C dX11_look_35 (by decide) (fun hb => ?_) (fun hb => absurd ((nI_ltI (by omega) (by omega)).mpr (by omega)) hb)
  refine rn_aload_n C dX11_look_48 rfl ?_
  refine rs_get C dX11_look_49 fl_X11_58 hg2a rfl ?_
  refine rn_iload_n C dX11_look_52 rfl ?_
  refine rs_iaload C dX11_look_53 hg2b rfl (by omega) (by decide) ?_
  have hret : xlook2_f xo q S = (S.1 (xo + 15 + 2 * 2 + 1) (q), S) := by
    first | (dsimp only [xlook2_f]; done) | (dsimp only [xlook2_f]; exact rfl) | exact rfl
  exact rn_iret C Rt dX11_look_54 (pi_of hret) (Nat.zero_le _) (Nat.zero_le _)
def xlook3_f (xo : Nat) (q : Nat) (ou : Nat) (S : StT) : Int32 × StT := (S.1 (xo + 15 + 2 * 3 + 1) (q), S)
theorem xlook3_F (xo : Nat) (q : Nat) (ou : Nat) (S : StT) : (xlook3_f xo q ou S).2.2.2 = S.2.2 := by
  unfold xlook3_f; first | rfl | ((repeat' split) <;> rfl) | (dsimp only; (repeat' split) <;> rfl)
set_option maxRecDepth 100000 in
set_option maxHeartbeats 300000 in
theorem c_xlook3 {k : KX} {L : Nat → Option Sh} {S : StT} {n : Nat} {xo : Nat} {q : Nat} {ou : Nat} (hX : SuiteAt k L xo) (hou : S.2.2 (xo + 15 + 2 * 3) 1 = nI ou) (hou1 : ou ≤ 114) (hq : q < ou) :
    Cs k yX11_look cX11_look 4 (some .int) 1 0 0 [.ref (k_b k + (xo)), .int (nI (3)), .int (nI (q))] (inst k L S.1 S.2.1 S.2.2) n (Pi k L n (xlook3_f xo q ou S)) := by
  refine cs_of (by decide) (Nat.le_of_ble_eq_true rfl) ?_
  intro X hXk C Rt hnm
  subst hXk
  have hX9 := hX
  obtain ⟨hX0, hx1, hx2, hx4, hx6, hx7, hx8, hx9, hx10, hx11, hg0, hg1, hg2, hg3, hhs, hall, hpl⟩ := hX9
  have hg09 := hg0
  obtain ⟨hg0a, hg0b⟩ := hg09
  have hg19 := hg1
  obtain ⟨hg1a, hg1b⟩ := hg19
  have hg29 := hg2
  obtain ⟨hg2a, hg2b⟩ := hg29
  have hg39 := hg3
  obtain ⟨hg3a, hg3b⟩ := hg39
  have hx29 := hx2
  obtain ⟨hx2a, hx2b⟩ := hx29
  have hx49 := hx4
  obtain ⟨hx4a, hx4b⟩ := hx49
  have hx119 := hx11
  obtain ⟨hx110, hx111, hx112, hx113⟩ := hx119
  refine rn_lv [(0, .ref (k_b X.1 + (xo))), (1, .int (nI (3))), (2, .int (nI (q)))] (fun q h => h) ?_
  refine rn_iload_n C dX11_look_0 rfl ?_
  refine rn_if_lt (tgt := 9) C dX11_look_1 (by decide) (fun hb => absurd hb (show ¬ (nI (3)) < 0 from by decide)) (fun hb => ?_)
  refine rn_iload_n C dX11_look_4 rfl ?_
  refine rn_iconst (v := nI 3) C dX11_look_5 rfl ?_
  refine rn_icmp_le (tgt := 19) C dX11_look_6 (by decide) (fun hb => ?_) (fun hb => absurd (show (nI (3)) ≤ (nI (3)) from by decide) hb)
  refine rn_aload_n C dX11_look_19 rfl ?_
  refine rs_get C dX11_look_20 fl_X11_11 hX0 rfl ?_
  refine rn_iload_n C dX11_look_23 rfl ?_
  refine rs_aaload C dX11_look_24 hx1 rfl rfl (by decide) (by decide) (if_pos (by decide)) ?_
  refine rn_astore_n (lv' := [(0, _), (1, _), (2, _), (3, _)]) C dX11_look_25 (by decide) rfl ?_
  refine rn_iload_n C dX11_look_26 rfl ?_
  refine rn_if_lt (tgt := 38) C dX11_look_27 (by decide) (fun hb => absurd hb (nI_n0 (by omega))) (fun hb => ?_)
  refine rn_iload_n C dX11_look_30 rfl ?_
  refine rn_aload_n C dX11_look_31 rfl ?_
  refine rs_getFe C dX11_look_32 fl_X11_61 hg3a rfl hou ?_
  refine rn_icmp_lt (tgt := 48) C dX11_look_35 (by decide) (fun hb => ?_) (fun hb => absurd ((nI_ltI (by omega) (by omega)).mpr (by omega)) hb)
  refine rn_aload_n C dX11_look_48 rfl ?_
  refine rs_get C dX11_look_49 fl_X11_58 hg3a rfl ?_
  refine rn_iload_n C dX11_look_52 rfl ?_
  refine rs_iaload C dX11_look_53 hg3b rfl (by omega) (by decide) ?_
  have hret : xlook3_f xo q ou S = (S.1 (xo + 15 + 2 * 3 + 1) (q), S) := by
    first | (dsimp only [xlook3_f]; done) | (dsimp only [xlook3_f]; exact rfl) | exact rfl
  exact rn_iret C Rt dX11_look_54 (pi_of hret) (Nat.zero_le _) (Nat.zero_le _)
def xsize_f (xo : Nat) (ou : Nat) (S : StT) : Int32 × StT := (nI (ou), S)
theorem xsize_F (xo : Nat) (ou : Nat) (S : StT) : (xsize_f xo ou S).2.2.2 = S.2.2 := by
  unfold xsize_f; first | rfl | ((repeat' split) <;> rfl) | (dsimp only; (repeat' split) <;> rfl)
set_option maxRecDepth 100000 in
set_option maxHeartbeats 300000 in
theorem c_xsize {k : KX} {L : Nat → Option Sh} {S : StT} {n : Nat} {xo : Nat} {ou : Nat} (hX : SuiteAt k L xo) (hou : S.2.2 (xo + 15 + 2 * 3) 1 = nI ou) (hou1 : ou ≤ 114) :
    Cs k yX11_size cX11_size 1 (some .int) 1 0 0 [.ref (k_b k + (xo))] (inst k L S.1 S.2.1 S.2.2) n (Pi k L n (xsize_f xo ou S)) := by
  refine cs_of (by decide) (Nat.le_of_ble_eq_true rfl) ?_
  intro X hXk C Rt hnm
  subst hXk
  have hX9 := hX
  obtain ⟨hX0, hx1, hx2, hx4, hx6, hx7, hx8, hx9, hx10, hx11, hg0, hg1, hg2, hg3, hhs, hall, hpl⟩ := hX9
  have hg09 := hg0
  obtain ⟨hg0a, hg0b⟩ := hg09
  have hg19 := hg1
  obtain ⟨hg1a, hg1b⟩ := hg19
  have hg29 := hg2
  obtain ⟨hg2a, hg2b⟩ := hg29
  have hg39 := hg3
  obtain ⟨hg3a, hg3b⟩ := hg39
  have hx29 := hx2
  obtain ⟨hx2a, hx2b⟩ := hx29
  have hx49 := hx4
  obtain ⟨hx4a, hx4b⟩ := hx49
  have hx119 := hx11
  obtain ⟨hx110, hx111, hx112, hx113⟩ := hx119
  refine rn_lv [(0, .ref (k_b X.1 + (xo)))] (fun q h => h) ?_
  refine rn_aload_n C dX11_size_0 rfl ?_
  refine rs_get C dX11_size_1 fl_X11_11 hX0 rfl ?_
  refine rn_iconst (v := nI 3) C dX11_size_4 rfl ?_
  refine rs_aaload C dX11_size_5 hx1 rfl rfl (by decide) (by decide) (if_pos (by decide)) ?_
  refine rs_getFe C dX11_size_6 fl_X11_61 hg3a rfl hou ?_
  have hret : xsize_f xo ou S = (nI (ou), S) := by
    first | (dsimp only [xsize_f]; done) | (dsimp only [xsize_f]; exact rfl) | exact rfl
  exact rn_iret C Rt dX11_size_9 (pi_of hret) (Nat.zero_le _) (Nat.zero_le _)
def xhash0_f (xo : Nat) (mg : Nat) (n_ : Int32) (S : StT) : StT := (let S1 := dig_f false (xo + 23) (xo + 15 + 2 * 3 + 1) (xo + 2) (mg) (64) (S.1, S.2.1, fs S.2.2 (xo + 15 + 2 * 3) 1 (nI (64))); (S1.1, S1.2.1, fs S.2.2 (xo + 15 + 2 * 3) 1 (nI (64))))
theorem xhash0_F (xo : Nat) (mg : Nat) (n_ : Int32) (S : StT) : (xhash0_f xo mg n_ S).2.2 = fs S.2.2 (xo + 15 + 2 * 3) 1 (nI (64)) := by
  unfold xhash0_f; first | rfl | ((repeat' split) <;> rfl) | (dsimp only; (repeat' split) <;> rfl)
set_option maxRecDepth 100000 in
set_option maxHeartbeats 300000 in
theorem c_xhash0 {k : KX} {L : Nat → Option Sh} {S : StT} {n : Nat} {xo : Nat} {mg : Nat} {n_ : Int32} (hX : SuiteAt k L xo) (hst : ∀ U, k_F k U → HsS k U) (hmg : S.2.2 (xo + 2) 1 = nI mg) (hmg1 : mg ≤ 256) :
    Cs k yX11_hash cX11_hash 5 none 4 0 0 [.ref (k_b k + (xo)), .int (nI (0)), .int (n_)] (inst k L S.1 S.2.1 S.2.2) n (Pv k L n (xhash0_f xo mg n_ S)) := by
  refine cs_of (by decide) (Nat.le_of_ble_eq_true rfl) ?_
  intro X hXk C Rt hnm
  subst hXk
  have hX9 := hX
  obtain ⟨hX0, hx1, hx2, hx4, hx6, hx7, hx8, hx9, hx10, hx11, hg0, hg1, hg2, hg3, hhs, hall, hpl⟩ := hX9
  have hg09 := hg0
  obtain ⟨hg0a, hg0b⟩ := hg09
  have hg19 := hg1
  obtain ⟨hg1a, hg1b⟩ := hg19
  have hg29 := hg2
  obtain ⟨hg2a, hg2b⟩ := hg29
  have hg39 := hg3
  obtain ⟨hg3a, hg3b⟩ := hg39
  have hx29 := hx2
  obtain ⟨hx2a, hx2b⟩ := hx29
  have hx49 := hx4
  obtain ⟨hx4a, hx4b⟩ := hx49
  have hx119 := hx11
  obtain ⟨hx110, hx111, hx112, hx113⟩ := hx119
  refine rn_lv [(0, .ref (k_b X.1 + (xo))), (1, .int (nI (0))), (2, .int (n_))] (fun q h => h) ?_
  refine rn_iload_n C dX11_hash_0 rfl ?_
  refine rn_if_eq (tgt := 24) C dX11_hash_1 (by decide) (fun hb => ?_) (fun hb => absurd (show (nI (0)) = 0 from by decide) hb)
  refine rn_aload_n C dX11_hash_24 rfl ?_
  refine rs_get C dX11_hash_25 fl_X11_11 hX0 rfl ?_
  refine rn_iconst (v := nI 3) C dX11_hash_28 rfl ?_
  refine rs_aaload C dX11_hash_29 hx1 rfl rfl (by decide) (by decide) (if_pos (by decide)) ?_
  refine rn_astore_n (lv' := [(0, _), (1, _), (2, _), (3, _)]) C dX11_hash_30 (by decide) rfl ?_
  refine rn_aload_n C dX11_hash_31 rfl ?_
  refine rn_iload_n C dX11_hash_32 rfl ?_
  refine rn_if_eq (tgt := 40) C dX11_hash_33 (by decide) (fun hb => ?_) (fun hb => absurd (show (nI (0)) = 0 from by decide) hb)
  refine rn_bipush (v := nI 64) C dX11_hash_40 rfl ?_
  refine rs_putF C dX11_hash_42 fp_X11_61 hg3a rfl ?_
  refine rn_iload_n C dX11_hash_45 rfl ?_
  refine rn_if_eq (tgt := 56) C dX11_hash_46 (by decide) (fun hb => ?_) (fun hb => absurd (show (nI (0)) = 0 from by decide) hb)
  refine rn_aload_n C dX11_hash_56 rfl ?_
  refine rs_get C dX11_hash_57 fl_X11_71 hX0 rfl ?_
  refine rn_astore (lv' := [(0, _), (1, _), (2, _), (3, _), (4, _)]) C dX11_hash_60 (by decide) rfl ?_
  refine rn_aload C dX11_hash_62 rfl ?_
  refine rn_aload_n C dX11_hash_64 rfl ?_
  refine rs_get C dX11_hash_65 fl_X11_58 hg3a rfl ?_
  refine rn_aload_n C dX11_hash_68 rfl ?_
  refine rs_get C dX11_hash_69 fl_X11_18 hX0 rfl ?_
  refine rn_aload_n C dX11_hash_72 rfl ?_
  refine rs_getFe C dX11_hash_73 fl_X11_61 hg3a rfl fs_get ?_
  refine rs_dig (c := false) (S := (S.1, S.2.1, fs S.2.2 (xo + 15 + 2 * 3) 1 (nI (64)))) C dX11_hash_76 dg_l11 hst (hhs false) hg3b (by decide) (by omega) hx2 (by decide) ((fs_nob (by omega)).trans hmg) (by omega) (by omega) (by first | decide | (show _ ≤ 136; omega)) (by decide) (Nat.le_of_ble_eq_true rfl) (by decide) (by decide) ?_
  rw [show (dig_f false (xo + 23) (xo + 15 + 2 * 3 + 1) (xo + 2) (mg) (64) (S.1, S.2.1, fs S.2.2 (xo + 15 + 2 * 3) 1 (nI (64)))).2.2 = fs S.2.2 (xo + 15 + 2 * 3) 1 (nI (64)) from dig_F _ _ _ _ _ _ _]
  generalize hS1 : dig_f false (xo + 23) (xo + 15 + 2 * 3 + 1) (xo + 2) (mg) (64) (S.1, S.2.1, fs S.2.2 (xo + 15 + 2 * 3) 1 (nI (64))) = S1
  have hret : xhash0_f xo mg n_ S = (S1.1, S1.2.1, fs S.2.2 (xo + 15 + 2 * 3) 1 (nI (64))) := by
    subst hS1
    first | (dsimp only [xhash0_f]; done) | (dsimp only [xhash0_f]; exact rfl) | exact rfl
  exact rn_vret C Rt dX11_hash_81 (pv_of hret) (Nat.zero_le _) (Nat.zero_le _)
def xhash1_f (xo : Nat) (mg : Nat) (nn : Nat) (S : StT) : StT := (let S1 := dig_f true (xo + 26) (xo + 15 + 2 * 3 + 1) (xo + 2) (mg) (nn) (S.1, S.2.1, fs S.2.2 (xo + 15 + 2 * 3) 1 (nI (nn))); (S1.1, S1.2.1, fs S.2.2 (xo + 15 + 2 * 3) 1 (nI (nn))))
theorem xhash1_F (xo : Nat) (mg : Nat) (nn : Nat) (S : StT) : (xhash1_f xo mg nn S).2.2 = fs S.2.2 (xo + 15 + 2 * 3) 1 (nI (nn)) := by
  unfold xhash1_f; first | rfl | ((repeat' split) <;> rfl) | (dsimp only; (repeat' split) <;> rfl)
set_option maxRecDepth 100000 in
set_option maxHeartbeats 300000 in
theorem c_xhash1 {k : KX} {L : Nat → Option Sh} {S : StT} {n : Nat} {xo : Nat} {mg : Nat} {nn : Nat} (hX : SuiteAt k L xo) (hst : ∀ U, k_F k U → HsS k U) (hmg : S.2.2 (xo + 2) 1 = nI mg) (hmg1 : mg ≤ 256) (hn : nn ≤ 114) :
    Cs k yX11_hash cX11_hash 5 none 4 0 0 [.ref (k_b k + (xo)), .int (nI (1)), .int (nI (nn))] (inst k L S.1 S.2.1 S.2.2) n (Pv k L n (xhash1_f xo mg nn S)) := by
  refine cs_of (by decide) (Nat.le_of_ble_eq_true rfl) ?_
  intro X hXk C Rt hnm
  subst hXk
  have hX9 := hX
  obtain ⟨hX0, hx1, hx2, hx4, hx6, hx7, hx8, hx9, hx10, hx11, hg0, hg1, hg2, hg3, hhs, hall, hpl⟩ := hX9
  have hg09 := hg0
  obtain ⟨hg0a, hg0b⟩ := hg09
  have hg19 := hg1
  obtain ⟨hg1a, hg1b⟩ := hg19
  have hg29 := hg2
  obtain ⟨hg2a, hg2b⟩ := hg29
  have hg39 := hg3
  obtain ⟨hg3a, hg3b⟩ := hg39
  have hx29 := hx2
  obtain ⟨hx2a, hx2b⟩ := hx29
  have hx49 := hx4
  obtain ⟨hx4a, hx4b⟩ := hx49
  have hx119 := hx11
  obtain ⟨hx110, hx111, hx112, hx113⟩ := hx119
  refine rn_lv [(0, .ref (k_b X.1 + (xo))), (1, .int (nI (1))), (2, .int (nI (nn)))] (fun q h => h) ?_
  refine rn_iload_n C dX11_hash_0 rfl ?_
  refine rn_if_eq (tgt := 24) C dX11_hash_1 (by decide) (fun hb => absurd hb (show ¬ (nI (1)) = 0 from by decide)) (fun hb => ?_)
  refine rn_iload_n C dX11_hash_4 rfl ?_
  refine rn_if_lt (tgt := 14) C dX11_hash_5 (by decide) (fun hb => absurd hb (nI_n0 (by omega))) (fun hb => ?_)
  refine rn_iload_n C dX11_hash_8 rfl ?_
  refine rn_bipush (v := nI 114) C dX11_hash_9 rfl ?_
  refine rn_icmp_le (tgt := 24) C dX11_hash_11 (by decide) (fun hb => ?_) (fun hb => absurd ((nI_leI (by omega) (by omega)).mpr (by omega)) hb)
  refine rn_aload_n C dX11_hash_24 rfl ?_
  refine rs_get C dX11_hash_25 fl_X11_11 hX0 rfl ?_
  refine rn_iconst (v := nI 3) C dX11_hash_28 rfl ?_
  refine rs_aaload C dX11_hash_29 hx1 rfl rfl (by decide) (by decide) (if_pos (by decide)) ?_
  refine rn_astore_n (lv' := [(0, _), (1, _), (2, _), (3, _)]) C dX11_hash_30 (by decide) rfl ?_
  refine rn_aload_n C dX11_hash_31 rfl ?_
  refine rn_iload_n C dX11_hash_32 rfl ?_
  refine rn_if_eq (tgt := 40) C dX11_hash_33 (by decide) (fun hb => absurd hb (show ¬ (nI (1)) = 0 from by decide)) (fun hb => ?_)
  refine rn_iload_n C dX11_hash_36 rfl ?_
  refine rn_goto (tgt := 42) C dX11_hash_37 (by decide) ?_
  refine rs_putF C dX11_hash_42 fp_X11_61 hg3a rfl ?_
  refine rn_iload_n C dX11_hash_45 rfl ?_
  refine rn_if_eq (tgt := 56) C dX11_hash_46 (by decide) (fun hb => absurd hb (show ¬ (nI (1)) = 0 from by decide)) (fun hb => ?_)
  refine rn_aload_n C dX11_hash_49 rfl ?_
  refine rs_get C dX11_hash_50 fl_X11_75 hX0 rfl ?_
  refine rn_goto (tgt := 60) C dX11_hash_53 (by decide) ?_
  refine rn_astore (lv' := [(0, _), (1, _), (2, _), (3, _), (4, _)]) C dX11_hash_60 (by decide) rfl ?_
  refine rn_aload C dX11_hash_62 rfl ?_
  refine rn_aload_n C dX11_hash_64 rfl ?_
  refine rs_get C dX11_hash_65 fl_X11_58 hg3a rfl ?_
  refine rn_aload_n C dX11_hash_68 rfl ?_
  refine rs_get C dX11_hash_69 fl_X11_18 hX0 rfl ?_
  refine rn_aload_n C dX11_hash_72 rfl ?_
  refine rs_getFe C dX11_hash_73 fl_X11_61 hg3a rfl fs_get ?_
  refine rs_dig (c := true) (S := (S.1, S.2.1, fs S.2.2 (xo + 15 + 2 * 3) 1 (nI (nn)))) C dX11_hash_76 dg_l11 hst (hhs true) hg3b (by decide) (by omega) hx2 (by decide) ((fs_nob (by omega)).trans hmg) (by omega) (by omega) (by first | decide | (show _ ≤ 136; omega)) (by decide) (Nat.le_of_ble_eq_true rfl) (by decide) (by decide) ?_
  rw [show (dig_f true (xo + 26) (xo + 15 + 2 * 3 + 1) (xo + 2) (mg) (nn) (S.1, S.2.1, fs S.2.2 (xo + 15 + 2 * 3) 1 (nI (nn)))).2.2 = fs S.2.2 (xo + 15 + 2 * 3) 1 (nI (nn)) from dig_F _ _ _ _ _ _ _]
  generalize hS1 : dig_f true (xo + 26) (xo + 15 + 2 * 3 + 1) (xo + 2) (mg) (nn) (S.1, S.2.1, fs S.2.2 (xo + 15 + 2 * 3) 1 (nI (nn))) = S1
  have hret : xhash1_f xo mg nn S = (S1.1, S1.2.1, fs S.2.2 (xo + 15 + 2 * 3) 1 (nI (nn))) := by
    subst hS1
    first | (dsimp only [xhash1_f]; done) | (dsimp only [xhash1_f]; exact rfl) | exact rfl
  exact rn_vret C Rt dX11_hash_81 (pv_of hret) (Nat.zero_le _) (Nat.zero_le _)
def xagreeB_f (c : Bool) (xo : Nat) (S : StT) : Int32 × StT := (let S1 := abase_f c (xo + 131 + 147 * bN c) (xo + 29 + 147 * bN c) S; (let r2 := aclimb_f c (xo + 131 + 147 * bN c) (xo + 29 + 147 * bN c) (xo + 15 + 2 * 3 + 1) (xo + 15 + 2 * 0 + 1) (S.1, S1.2.1, fs S.2.2 (xo + 15 + 2 * 3) 1 (nI (fB c))); (r2.1, (r2.2.1, r2.2.2.1, fs S.2.2 (xo + 15 + 2 * 3) 1 (nI (fB c))))))
theorem xagreeB_F (c : Bool) (xo : Nat) (S : StT) : (xagreeB_f c xo S).2.2.2 = fs S.2.2 (xo + 15 + 2 * 3) 1 (nI (fB c)) := by
  unfold xagreeB_f; first | rfl | ((repeat' split) <;> rfl) | (dsimp only; (repeat' split) <;> rfl)
set_option maxRecDepth 100000 in
set_option maxHeartbeats 300000 in
theorem c_xagreeB {k : KX} {L : Nat → Option Sh} {S : StT} {n : Nat} {c : Bool} {xo : Nat} (hX : SuiteAt k L xo) :
    Cs k yX11_agree cX11_agree 5 (some .boolean) 5 0 0 [.ref (k_b k + (xo)), .int (nI (bN c)), .int (nI (1))] (inst k L S.1 S.2.1 S.2.2) n (Pi k L n (xagreeB_f c xo S)) := by
  refine cs_of (by decide) (Nat.le_of_ble_eq_true rfl) ?_
  intro X hXk C Rt hnm
  subst hXk
  have hX9 := hX
  obtain ⟨hX0, hx1, hx2, hx4, hx6, hx7, hx8, hx9, hx10, hx11, hg0, hg1, hg2, hg3, hhs, hall, hpl⟩ := hX9
  have hg09 := hg0
  obtain ⟨hg0a, hg0b⟩ := hg09
  have hg19 := hg1
  obtain ⟨hg1a, hg1b⟩ := hg19
  have hg29 := hg2
  obtain ⟨hg2a, hg2b⟩ := hg29
  have hg39 := hg3
  obtain ⟨hg3a, hg3b⟩ := hg39
  have hx29 := hx2
  obtain ⟨hx2a, hx2b⟩ := hx29
  have hx49 := hx4
  obtain ⟨hx4a, hx4b⟩ := hx49
  have hx119 := hx11
  obtain ⟨hx110, hx111, hx112, hx113⟩ := hx119
  have hbn := bN_le c
  obtain ⟨hcv, hag, hsg⟩ := hall c
  have hcv0 := hcv.1
  have hag0 := hag.1
  have hsg0 := hsg.1
  obtain ⟨hk1, hk2⟩ := cB_le c
  have hHc := hhs c
  refine rn_lv [(0, .ref (k_b X.1 + (xo))), (1, .int (nI (bN c))), (2, .int (nI (1)))] (fun q h => h) ?_
  refine rn_iload_n C dX11_agree_0 rfl ?_
  refine rs_sv C dX11_agree_1 mk_X11_requireCurve ls_X11_139 (cv_rcu (a := bN c) (by omega)) rfl rfl (by decide) (Nat.le_of_ble_eq_true rfl) (by decide) (by decide) ?_
  refine rn_aload_n C dX11_agree_4 rfl ?_
  refine rs_get C dX11_agree_5 fl_X11_33 hX0 rfl ?_
  refine rn_iload_n C dX11_agree_8 rfl ?_
  refine rs_aaload C dX11_agree_9 hx7 rfl rfl (by omega) (by decide) (if_pos (by omega)) ?_
  refine rn_astore_n (lv' := [(0, _), (1, _), (2, _), (3, _)]) C dX11_agree_10 (by decide) rfl ?_
  refine rn_iload_n C dX11_agree_11 rfl ?_
  refine rn_if_eq (tgt := 22) C dX11_agree_12 (by decide) (fun hb => absurd hb (show ¬ (nI (1)) = 0 from by decide)) (fun hb => ?_)
  refine rn_aload_n C dX11_agree_15 rfl ?_
  refine rs_vv C dX11_agree_16 mk_X0_startFromBase lv_X11_142 (c_abase hag) hag0 rfl rfl rfl rfl (by decide) (Nat.le_of_ble_eq_true rfl) (by decide) (by decide) ?_
  rw [show (abase_f c (xo + 131 + 147 * bN c) (xo + 29 + 147 * bN c) S).2.2 = S.2.2 from (abase_F c (xo + 131 + 147 * bN c) (xo + 29 + 147 * bN c) S)]
  rw [show (abase_f c (xo + 131 + 147 * bN c) (xo + 29 + 147 * bN c) S).1 = S.1 from abase_I c (xo + 131 + 147 * bN c) (xo + 29 + 147 * bN c) S]
  generalize hS1 : abase_f c (xo + 131 + 147 * bN c) (xo + 29 + 147 * bN c) S = S1
  refine rn_goto (tgt := 35) C dX11_agree_19 (by decide) ?_
  refine rn_aload_n C dX11_agree_35 rfl ?_
  refine rs_get C dX11_agree_36 fl_X11_11 hX0 rfl ?_
  refine rn_iconst (v := nI 3) C dX11_agree_39 rfl ?_
  refine rs_aaload C dX11_agree_40 hx1 rfl rfl (by decide) (by decide) (if_pos (by decide)) ?_
  refine rn_astore (lv' := [(0, _), (1, _), (2, _), (3, _), (4, _)]) C dX11_agree_41 (by decide) rfl ?_
  refine rn_aload C dX11_agree_43 rfl ?_
  refine rn_aload_n C dX11_agree_45 rfl ?_
  refine rs_get C dX11_agree_46 fl_X11_149 hag0 rfl ?_
  refine rs_putF C dX11_agree_49 fp_X11_61 hg3a rfl ?_
  refine rn_aload_n C dX11_agree_52 rfl ?_
  refine rn_aload C dX11_agree_53 rfl ?_
  refine rs_get C dX11_agree_55 fl_X11_58 hg3a rfl ?_
  refine rn_aload_n C dX11_agree_58 rfl ?_
  refine rs_get C dX11_agree_59 fl_X11_11 hX0 rfl ?_
  refine rn_iconst (v := nI 0) C dX11_agree_62 rfl ?_
  refine rs_aaload C dX11_agree_63 hx1 rfl rfl (by decide) (by decide) (if_pos (by decide)) ?_
  refine rs_get C dX11_agree_64 fl_X11_58 hg0a rfl ?_
  refine rs_vz C dX11_agree_67 mk_X0_climb lv_X11_152 (c_aclimb (S := (S.1, S1.2.1, fs S.2.2 (xo + 15 + 2 * 3) 1 (nI (fB c)))) hag hg3b (by decide) (by decide) hg0b) hag0 rfl rfl rfl rfl (by decide) (Nat.le_of_ble_eq_true rfl) (by decide) (by decide) ?_
  rw [show (aclimb_f c (xo + 131 + 147 * bN c) (xo + 29 + 147 * bN c) (xo + 15 + 2 * 3 + 1) (xo + 15 + 2 * 0 + 1) (S.1, S1.2.1, fs S.2.2 (xo + 15 + 2 * 3) 1 (nI (fB c)))).2.2.2 = fs S.2.2 (xo + 15 + 2 * 3) 1 (nI (fB c)) from (aclimb_F c (xo + 131 + 147 * bN c) (xo + 29 + 147 * bN c) (xo + 15 + 2 * 3 + 1) (xo + 15 + 2 * 0 + 1) (S.1, S1.2.1, fs S.2.2 (xo + 15 + 2 * 3) 1 (nI (fB c))))]
  generalize hr2 : aclimb_f c (xo + 131 + 147 * bN c) (xo + 29 + 147 * bN c) (xo + 15 + 2 * 3 + 1) (xo + 15 + 2 * 0 + 1) (S.1, S1.2.1, fs S.2.2 (xo + 15 + 2 * 3) 1 (nI (fB c))) = r2
  have hret : xagreeB_f c xo S = (r2.1, (r2.2.1, r2.2.2.1, fs S.2.2 (xo + 15 + 2 * 3) 1 (nI (fB c)))) := by
    subst hr2
    subst hS1
    first | (dsimp only [xagreeB_f]; done) | (dsimp only [xagreeB_f]; exact rfl) | exact rfl
  exact rn_zret C Rt dX11_agree_70 (by subst hr2; exact aclimb_z _ _ _ _ _ _) (pi_of hret) (Nat.zero_le _) (Nat.zero_le _)
def xagreeP_f (c : Bool) (xo : Nat) (S : StT) : Int32 × StT := (let S1 := astart_f c (xo + 131 + 147 * bN c) (xo + 29 + 147 * bN c) (xo + 15 + 2 * 1 + 1) S; (let r2 := aclimb_f c (xo + 131 + 147 * bN c) (xo + 29 + 147 * bN c) (xo + 15 + 2 * 3 + 1) (xo + 15 + 2 * 0 + 1) (S.1, S1.2.1, fs S.2.2 (xo + 15 + 2 * 3) 1 (nI (fB c))); (r2.1, (r2.2.1, r2.2.2.1, fs S.2.2 (xo + 15 + 2 * 3) 1 (nI (fB c))))))
theorem xagreeP_F (c : Bool) (xo : Nat) (S : StT) : (xagreeP_f c xo S).2.2.2 = fs S.2.2 (xo + 15 + 2 * 3) 1 (nI (fB c)) := by
  unfold xagreeP_f; first | rfl | ((repeat' split) <;> rfl) | (dsimp only; (repeat' split) <;> rfl)
set_option maxRecDepth 100000 in
set_option maxHeartbeats 300000 in
theorem c_xagreeP {k : KX} {L : Nat → Option Sh} {S : StT} {n : Nat} {c : Bool} {xo : Nat} (hX : SuiteAt k L xo) :
    Cs k yX11_agree cX11_agree 5 (some .boolean) 5 0 0 [.ref (k_b k + (xo)), .int (nI (bN c)), .int (nI (0))] (inst k L S.1 S.2.1 S.2.2) n (Pi k L n (xagreeP_f c xo S)) := by
  refine cs_of (by decide) (Nat.le_of_ble_eq_true rfl) ?_
  intro X hXk C Rt hnm
  subst hXk
  have hX9 := hX
  obtain ⟨hX0, hx1, hx2, hx4, hx6, hx7, hx8, hx9, hx10, hx11, hg0, hg1, hg2, hg3, hhs, hall, hpl⟩ := hX9
  have hg09 := hg0
  obtain ⟨hg0a, hg0b⟩ := hg09
  have hg19 := hg1
  obtain ⟨hg1a, hg1b⟩ := hg19
  have hg29 := hg2
  obtain ⟨hg2a, hg2b⟩ := hg29
  have hg39 := hg3
  obtain ⟨hg3a, hg3b⟩ := hg39
  have hx29 := hx2
  obtain ⟨hx2a, hx2b⟩ := hx29
  have hx49 := hx4
  obtain ⟨hx4a, hx4b⟩ := hx49
  have hx119 := hx11
  obtain ⟨hx110, hx111, hx112, hx113⟩ := hx119
  have hbn := bN_le c
  obtain ⟨hcv, hag, hsg⟩ := hall c
  have hcv0 := hcv.1
  have hag0 := hag.1
  have hsg0 := hsg.1
  obtain ⟨hk1, hk2⟩ := cB_le c
  have hHc := hhs c
  refine rn_lv [(0, .ref (k_b X.1 + (xo))), (1, .int (nI (bN c))), (2, .int (nI (0)))] (fun q h => h) ?_
  refine rn_iload_n C dX11_agree_0 rfl ?_
  refine rs_sv C dX11_agree_1 mk_X11_requireCurve ls_X11_139 (cv_rcu (a := bN c) (by omega)) rfl rfl (by decide) (Nat.le_of_ble_eq_true rfl) (by decide) (by decide) ?_
  refine rn_aload_n C dX11_agree_4 rfl ?_
  refine rs_get C dX11_agree_5 fl_X11_33 hX0 rfl ?_
  refine rn_iload_n C dX11_agree_8 rfl ?_
  refine rs_aaload C dX11_agree_9 hx7 rfl rfl (by omega) (by decide) (if_pos (by omega)) ?_
  refine rn_astore_n (lv' := [(0, _), (1, _), (2, _), (3, _)]) C dX11_agree_10 (by decide) rfl ?_
  refine rn_iload_n C dX11_agree_11 rfl ?_
  refine rn_if_eq (tgt := 22) C dX11_agree_12 (by decide) (fun hb => ?_) (fun hb => absurd (show (nI (0)) = 0 from by decide) hb)
  refine rn_aload_n C dX11_agree_22 rfl ?_
  refine rn_aload_n C dX11_agree_23 rfl ?_
  refine rs_get C dX11_agree_24 fl_X11_11 hX0 rfl ?_
  refine rn_iconst (v := nI 1) C dX11_agree_27 rfl ?_
  refine rs_aaload C dX11_agree_28 hx1 rfl rfl (by decide) (by decide) (if_pos (by decide)) ?_
  refine rs_get C dX11_agree_29 fl_X11_58 hg1a rfl ?_
  refine rs_vv C dX11_agree_32 mk_X0_startFrom lv_X11_145 (c_astart hag hg1b (by decide) (by omega)) hag0 rfl rfl rfl rfl (by decide) (Nat.le_of_ble_eq_true rfl) (by decide) (by decide) ?_
  rw [show (astart_f c (xo + 131 + 147 * bN c) (xo + 29 + 147 * bN c) (xo + 15 + 2 * 1 + 1) S).2.2 = S.2.2 from (astart_F c (xo + 131 + 147 * bN c) (xo + 29 + 147 * bN c) (xo + 15 + 2 * 1 + 1) S)]
  rw [show (astart_f c (xo + 131 + 147 * bN c) (xo + 29 + 147 * bN c) (xo + 15 + 2 * 1 + 1) S).1 = S.1 from astart_I c (xo + 131 + 147 * bN c) (xo + 29 + 147 * bN c) (xo + 15 + 2 * 1 + 1) S]
  generalize hS1 : astart_f c (xo + 131 + 147 * bN c) (xo + 29 + 147 * bN c) (xo + 15 + 2 * 1 + 1) S = S1
  refine rn_aload_n C dX11_agree_35 rfl ?_
  refine rs_get C dX11_agree_36 fl_X11_11 hX0 rfl ?_
  refine rn_iconst (v := nI 3) C dX11_agree_39 rfl ?_
  refine rs_aaload C dX11_agree_40 hx1 rfl rfl (by decide) (by decide) (if_pos (by decide)) ?_
  refine rn_astore (lv' := [(0, _), (1, _), (2, _), (3, _), (4, _)]) C dX11_agree_41 (by decide) rfl ?_
  refine rn_aload C dX11_agree_43 rfl ?_
  refine rn_aload_n C dX11_agree_45 rfl ?_
  refine rs_get C dX11_agree_46 fl_X11_149 hag0 rfl ?_
  refine rs_putF C dX11_agree_49 fp_X11_61 hg3a rfl ?_
  refine rn_aload_n C dX11_agree_52 rfl ?_
  refine rn_aload C dX11_agree_53 rfl ?_
  refine rs_get C dX11_agree_55 fl_X11_58 hg3a rfl ?_
  refine rn_aload_n C dX11_agree_58 rfl ?_
  refine rs_get C dX11_agree_59 fl_X11_11 hX0 rfl ?_
  refine rn_iconst (v := nI 0) C dX11_agree_62 rfl ?_
  refine rs_aaload C dX11_agree_63 hx1 rfl rfl (by decide) (by decide) (if_pos (by decide)) ?_
  refine rs_get C dX11_agree_64 fl_X11_58 hg0a rfl ?_
  refine rs_vz C dX11_agree_67 mk_X0_climb lv_X11_152 (c_aclimb (S := (S.1, S1.2.1, fs S.2.2 (xo + 15 + 2 * 3) 1 (nI (fB c)))) hag hg3b (by decide) (by decide) hg0b) hag0 rfl rfl rfl rfl (by decide) (Nat.le_of_ble_eq_true rfl) (by decide) (by decide) ?_
  rw [show (aclimb_f c (xo + 131 + 147 * bN c) (xo + 29 + 147 * bN c) (xo + 15 + 2 * 3 + 1) (xo + 15 + 2 * 0 + 1) (S.1, S1.2.1, fs S.2.2 (xo + 15 + 2 * 3) 1 (nI (fB c)))).2.2.2 = fs S.2.2 (xo + 15 + 2 * 3) 1 (nI (fB c)) from (aclimb_F c (xo + 131 + 147 * bN c) (xo + 29 + 147 * bN c) (xo + 15 + 2 * 3 + 1) (xo + 15 + 2 * 0 + 1) (S.1, S1.2.1, fs S.2.2 (xo + 15 + 2 * 3) 1 (nI (fB c))))]
  generalize hr2 : aclimb_f c (xo + 131 + 147 * bN c) (xo + 29 + 147 * bN c) (xo + 15 + 2 * 3 + 1) (xo + 15 + 2 * 0 + 1) (S.1, S1.2.1, fs S.2.2 (xo + 15 + 2 * 3) 1 (nI (fB c))) = r2
  have hret : xagreeP_f c xo S = (r2.1, (r2.2.1, r2.2.2.1, fs S.2.2 (xo + 15 + 2 * 3) 1 (nI (fB c)))) := by
    subst hr2
    subst hS1
    first | (dsimp only [xagreeP_f]; done) | (dsimp only [xagreeP_f]; exact rfl) | exact rfl
  exact rn_zret C Rt dX11_agree_70 (by subst hr2; exact aclimb_z _ _ _ _ _ _) (pi_of hret) (Nat.zero_le _) (Nat.zero_le _)
def xderive_f (c : Bool) (xo : Nat) (S : StT) : StT := (let S1 := gpub_f c (xo + 143 + 147 * bN c) (xo + 39 + 147 * bN c) (xo + 29 + 147 * bN c) (xo + 23 + 3 * bN c) (xo + 15 + 2 * 3 + 1) (xo + 15 + 2 * 0 + 1) S; (S1.1, S1.2.1, fs (fs S.2.2 (xo + 143 + 147 * bN c + 5) 1 (nI (0 + (cB c)))) (xo + 15 + 2 * 3) 1 (nI (cB c))))
theorem xderive_F (c : Bool) (xo : Nat) (S : StT) : (xderive_f c xo S).2.2 = fs (fs S.2.2 (xo + 143 + 147 * bN c + 5) 1 (nI (0 + (cB c)))) (xo + 15 + 2 * 3) 1 (nI (cB c)) := by
  unfold xderive_f; first | rfl | ((repeat' split) <;> rfl) | (dsimp only; (repeat' split) <;> rfl)
set_option maxRecDepth 100000 in
set_option maxHeartbeats 300000 in
theorem c_xderive {k : KX} {L : Nat → Option Sh} {S : StT} {n : Nat} {c : Bool} {xo : Nat} (hX : SuiteAt k L xo) (hst : ∀ U, k_F k U → HsS k U) :
    Cs k yX11_derive cX11_derive 3 none 7 0 0 [.ref (k_b k + (xo)), .int (nI (bN c))] (inst k L S.1 S.2.1 S.2.2) n (Pv k L n (xderive_f c xo S)) := by
  refine cs_of (by decide) (Nat.le_of_ble_eq_true rfl) ?_
  intro X hXk C Rt hnm
  subst hXk
  have hX9 := hX
  obtain ⟨hX0, hx1, hx2, hx4, hx6, hx7, hx8, hx9, hx10, hx11, hg0, hg1, hg2, hg3, hhs, hall, hpl⟩ := hX9
  have hg09 := hg0
  obtain ⟨hg0a, hg0b⟩ := hg09
  have hg19 := hg1
  obtain ⟨hg1a, hg1b⟩ := hg19
  have hg29 := hg2
  obtain ⟨hg2a, hg2b⟩ := hg29
  have hg39 := hg3
  obtain ⟨hg3a, hg3b⟩ := hg39
  have hx29 := hx2
  obtain ⟨hx2a, hx2b⟩ := hx29
  have hx49 := hx4
  obtain ⟨hx4a, hx4b⟩ := hx49
  have hx119 := hx11
  obtain ⟨hx110, hx111, hx112, hx113⟩ := hx119
  have hbn := bN_le c
  obtain ⟨hcv, hag, hsg⟩ := hall c
  have hcv0 := hcv.1
  have hag0 := hag.1
  have hsg0 := hsg.1
  obtain ⟨hk1, hk2⟩ := cB_le c
  have hHc := hhs c
  refine rn_lv [(0, .ref (k_b X.1 + (xo))), (1, .int (nI (bN c)))] (fun q h => h) ?_
  refine rn_iload_n C dX11_derive_0 rfl ?_
  refine rs_sv C dX11_derive_1 mk_X11_requireCurve ls_X11_139 (cv_rcu (a := bN c) (by omega)) rfl rfl (by decide) (Nat.le_of_ble_eq_true rfl) (by decide) (by decide) ?_
  refine rn_aload_n C dX11_derive_4 rfl ?_
  refine rs_get C dX11_derive_5 fl_X11_11 hX0 rfl ?_
  refine rn_iconst (v := nI 3) C dX11_derive_8 rfl ?_
  refine rs_aaload C dX11_derive_9 hx1 rfl rfl (by decide) (by decide) (if_pos (by decide)) ?_
  refine rn_astore_n (lv' := [(0, _), (1, _), (2, _)]) C dX11_derive_10 (by decide) rfl ?_
  refine rn_aload_n C dX11_derive_11 rfl ?_
  refine rs_get C dX11_derive_12 fl_X11_39 hX0 rfl ?_
  refine rn_iload_n C dX11_derive_15 rfl ?_
  refine rs_aaload C dX11_derive_16 hx8 rfl rfl (by omega) (by decide) (if_pos (by omega)) ?_
  refine rn_aload_n C dX11_derive_17 rfl ?_
  refine rs_get C dX11_derive_18 fl_X11_58 hg3a rfl ?_
  refine rn_aload_n C dX11_derive_21 rfl ?_
  refine rs_get C dX11_derive_22 fl_X11_11 hX0 rfl ?_
  refine rn_iconst (v := nI 0) C dX11_derive_25 rfl ?_
  refine rs_aaload C dX11_derive_26 hx1 rfl rfl (by decide) (by decide) (if_pos (by decide)) ?_
  refine rs_get C dX11_derive_27 fl_X11_58 hg0a rfl ?_
  refine rs_vv C dX11_derive_30 mk_X10_publicKey lv_X11_156 (c_gpub hsg hst hg3b hg0b) hsg0 rfl rfl rfl rfl (by decide) (Nat.le_of_ble_eq_true rfl) (by decide) (by decide) ?_
  rw [show (gpub_f c (xo + 143 + 147 * bN c) (xo + 39 + 147 * bN c) (xo + 29 + 147 * bN c) (xo + 23 + 3 * bN c) (xo + 15 + 2 * 3 + 1) (xo + 15 + 2 * 0 + 1) S).2.2 = fs S.2.2 (xo + 143 + 147 * bN c + 5) 1 (nI (0 + (cB c))) from (gpub_F c (xo + 143 + 147 * bN c) (xo + 39 + 147 * bN c) (xo + 29 + 147 * bN c) (xo + 23 + 3 * bN c) (xo + 15 + 2 * 3 + 1) (xo + 15 + 2 * 0 + 1) S)]
  generalize hS1 : gpub_f c (xo + 143 + 147 * bN c) (xo + 39 + 147 * bN c) (xo + 29 + 147 * bN c) (xo + 23 + 3 * bN c) (xo + 15 + 2 * 3 + 1) (xo + 15 + 2 * 0 + 1) S = S1
  refine rn_aload_n C dX11_derive_33 rfl ?_
  refine rn_aload_n C dX11_derive_34 rfl ?_
  refine rs_get C dX11_derive_35 fl_X11_27 hX0 rfl ?_
  refine rn_iload_n C dX11_derive_38 rfl ?_
  refine rs_aaload C dX11_derive_39 hx6 rfl rfl (by omega) (by decide) (if_pos (by omega)) ?_
  refine rs_get C dX11_derive_40 fl_X11_160 hcv0 rfl ?_
  refine rs_putF C dX11_derive_43 fp_X11_61 hg3a rfl ?_
  have hret : xderive_f c xo S = (S1.1, S1.2.1, fs (fs S.2.2 (xo + 143 + 147 * bN c + 5) 1 (nI (0 + (cB c)))) (xo + 15 + 2 * 3) 1 (nI (cB c))) := by
    subst hS1
    first | (dsimp only [xderive_f]; done) | (dsimp only [xderive_f]; exact rfl) | exact rfl
  exact rn_vret C Rt dX11_derive_46 (pv_of hret) (Nat.zero_le _) (Nat.zero_le _)
def xsign_f (c : Bool) (xo : Nat) (mg : Nat) (cx : Nat) (ph : Bool) (s4 : Nat) (s2 : Nat) (S : StT) : StT := (let S1 := gcho_f c (xo + 143 + 147 * bN c) (xo + 39 + 147 * bN c) (xo + 29 + 147 * bN c) (xo + 23 + 3 * bN c) (xo + 2) (xo + 4) mg cx ph s4 s2 S; (let S2 := gmak_f c (xo + 143 + 147 * bN c) (xo + 39 + 147 * bN c) (xo + 29 + 147 * bN c) (xo + 23 + 3 * bN c) (dmN c ph cx) (if ph then 64 else mg) (xo + 15 + 2 * 3 + 1) (xo + 15 + 2 * 0 + 1) (S1.1, S1.2.1, fs (fs S.2.2 (xo + 143 + 147 * bN c + 1) 1 (nI (dmN c ph cx))) (xo + 143 + 147 * bN c + 3) 1 (nI (if ph then 64 else mg))); (S2.1, S2.2.1, fs (fs (fs (fs S.2.2 (xo + 143 + 147 * bN c + 1) 1 (nI (dmN c ph cx))) (xo + 143 + 147 * bN c + 3) 1 (nI (if ph then 64 else mg))) (xo + 143 + 147 * bN c + 5) 1 (nI (0 + (dmN c ph cx) + (cB c) + (cB c) + (if ph then 64 else mg)))) (xo + 15 + 2 * 3) 1 (nI (2 * (cB c))))))
theorem xsign_F (c : Bool) (xo : Nat) (mg : Nat) (cx : Nat) (ph : Bool) (s4 : Nat) (s2 : Nat) (S : StT) : (xsign_f c xo mg cx ph s4 s2 S).2.2 = fs (fs (fs (fs S.2.2 (xo + 143 + 147 * bN c + 1) 1 (nI (dmN c ph cx))) (xo + 143 + 147 * bN c + 3) 1 (nI (if ph then 64 else mg))) (xo + 143 + 147 * bN c + 5) 1 (nI (0 + (dmN c ph cx) + (cB c) + (cB c) + (if ph then 64 else mg)))) (xo + 15 + 2 * 3) 1 (nI (2 * (cB c))) := by
  unfold xsign_f; first | rfl | ((repeat' split) <;> rfl) | (dsimp only; (repeat' split) <;> rfl)
set_option maxRecDepth 100000 in
set_option maxHeartbeats 300000 in
theorem c_xsign {k : KX} {L : Nat → Option Sh} {S : StT} {n : Nat} {c : Bool} {xo : Nat} {mg : Nat} {cx : Nat} {ph : Bool} {s4 : Nat} {s2 : Nat} (hX : SuiteAt k L xo) (hst : ∀ U, k_F k U → HsS k U) (hmg : S.2.2 (xo + 2) 1 = nI mg) (hmg1 : mg ≤ 256) (hcx : S.2.2 (xo + 4) 1 = nI cx) (hcx1 : cx ≤ 64) (hks4 : StrK k s4 8 lb4) (hks2 : StrK k s2 32 lb2) (hl4 : ∀ U, k_F k U → vk_R RX10 98 "SigEd448" s4 U) (hl2 : ∀ U, k_F k U → vk_R RX10 100 "SigEd25519 no Ed25519 collisions" s2 U) :
    Cs k yX11_sign cX11_sign 4 none 7 0 0 [.ref (k_b k + (xo)), .int (nI (bN c)), .int (bI ph)] (inst k L S.1 S.2.1 S.2.2) n (Pv k L n (xsign_f c xo mg cx ph s4 s2 S)) := by
  refine cs_of (by decide) (Nat.le_of_ble_eq_true rfl) ?_
  intro X hXk C Rt hnm
  subst hXk
  have hX9 := hX
  obtain ⟨hX0, hx1, hx2, hx4, hx6, hx7, hx8, hx9, hx10, hx11, hg0, hg1, hg2, hg3, hhs, hall, hpl⟩ := hX9
  have hg09 := hg0
  obtain ⟨hg0a, hg0b⟩ := hg09
  have hg19 := hg1
  obtain ⟨hg1a, hg1b⟩ := hg19
  have hg29 := hg2
  obtain ⟨hg2a, hg2b⟩ := hg29
  have hg39 := hg3
  obtain ⟨hg3a, hg3b⟩ := hg39
  have hx29 := hx2
  obtain ⟨hx2a, hx2b⟩ := hx29
  have hx49 := hx4
  obtain ⟨hx4a, hx4b⟩ := hx49
  have hx119 := hx11
  obtain ⟨hx110, hx111, hx112, hx113⟩ := hx119
  have hbn := bN_le c
  obtain ⟨hcv, hag, hsg⟩ := hall c
  have hcv0 := hcv.1
  have hag0 := hag.1
  have hsg0 := hsg.1
  obtain ⟨hk1, hk2⟩ := cB_le c
  have hHc := hhs c
  have hdl := dm_le c ph cx
  have hpm : (if ph then 64 else mg) ≤ 256 := by split <;> omega
  refine rn_lv [(0, .ref (k_b X.1 + (xo))), (1, .int (nI (bN c))), (2, .int (bI ph))] (fun q h => h) ?_
  refine rn_iload_n C dX11_sign_0 rfl ?_
  refine rs_sv C dX11_sign_1 mk_X11_requireCurve ls_X11_139 (cv_rcu (a := bN c) (by omega)) rfl rfl (by decide) (Nat.le_of_ble_eq_true rfl) (by decide) (by decide) ?_
  refine rn_aload_n C dX11_sign_4 rfl ?_
  refine rs_get C dX11_sign_5 fl_X11_11 hX0 rfl ?_
  refine rn_iconst (v := nI 3) C dX11_sign_8 rfl ?_
  refine rs_aaload C dX11_sign_9 hx1 rfl rfl (by decide) (by decide) (if_pos (by decide)) ?_
  refine rn_astore_n (lv' := [(0, _), (1, _), (2, _), (3, _)]) C dX11_sign_10 (by decide) rfl ?_
  refine rn_aload_n C dX11_sign_11 rfl ?_
  refine rs_get C dX11_sign_12 fl_X11_39 hX0 rfl ?_
  refine rn_iload_n C dX11_sign_15 rfl ?_
  refine rs_aaload C dX11_sign_16 hx8 rfl rfl (by omega) (by decide) (if_pos (by omega)) ?_
  refine rn_aload_n C dX11_sign_17 rfl ?_
  refine rs_get C dX11_sign_18 fl_X11_18 hX0 rfl ?_
  refine rn_aload_n C dX11_sign_21 rfl ?_
  refine rs_get C dX11_sign_22 fl_X11_22 hX0 rfl ?_
  refine rn_iload_n C dX11_sign_25 rfl ?_
  refine rs_vv C dX11_sign_26 mk_X10_choose lv_X11_163 (c_gcho hsg hst hx2 hx4 hmg (by omega) hcx (by omega) (fun j hj => by omega) (fun j hj => by omega) hks4 hks2 hl4 hl2) hsg0 rfl rfl rfl rfl (by decide) (Nat.le_of_ble_eq_true rfl) (by decide) (by decide) ?_
  rw [show (gcho_f c (xo + 143 + 147 * bN c) (xo + 39 + 147 * bN c) (xo + 29 + 147 * bN c) (xo + 23 + 3 * bN c) (xo + 2) (xo + 4) mg cx ph s4 s2 S).2.2 = fs (fs S.2.2 (xo + 143 + 147 * bN c + 1) 1 (nI (dmN c ph cx))) (xo + 143 + 147 * bN c + 3) 1 (nI (if ph then 64 else mg)) from (gcho_F c (xo + 143 + 147 * bN c) (xo + 39 + 147 * bN c) (xo + 29 + 147 * bN c) (xo + 23 + 3 * bN c) (xo + 2) (xo + 4) mg cx ph s4 s2 S)]
  generalize hS1 : gcho_f c (xo + 143 + 147 * bN c) (xo + 39 + 147 * bN c) (xo + 29 + 147 * bN c) (xo + 23 + 3 * bN c) (xo + 2) (xo + 4) mg cx ph s4 s2 S = S1
  refine rn_aload_n C dX11_sign_29 rfl ?_
  refine rs_get C dX11_sign_30 fl_X11_39 hX0 rfl ?_
  refine rn_iload_n C dX11_sign_33 rfl ?_
  refine rs_aaload C dX11_sign_34 hx8 rfl rfl (by omega) (by decide) (if_pos (by omega)) ?_
  refine rn_aload_n C dX11_sign_35 rfl ?_
  refine rs_get C dX11_sign_36 fl_X11_58 hg3a rfl ?_
  refine rn_aload_n C dX11_sign_39 rfl ?_
  refine rs_get C dX11_sign_40 fl_X11_11 hX0 rfl ?_
  refine rn_iconst (v := nI 0) C dX11_sign_43 rfl ?_
  refine rs_aaload C dX11_sign_44 hx1 rfl rfl (by decide) (by decide) (if_pos (by decide)) ?_
  refine rs_get C dX11_sign_45 fl_X11_58 hg0a rfl ?_
  refine rs_vv C dX11_sign_48 mk_X10_makeSignature lv_X11_167 (c_gmak (S := (S1.1, S1.2.1, fs (fs S.2.2 (xo + 143 + 147 * bN c + 1) 1 (nI (dmN c ph cx))) (xo + 143 + 147 * bN c + 3) 1 (nI (if ph then 64 else mg)))) hsg hst ((fs_nob (by omega)).trans fs_get) (by omega) fs_get (by omega) hg3b hg0b) hsg0 rfl rfl rfl rfl (by decide) (Nat.le_of_ble_eq_true rfl) (by decide) (by decide) ?_
  rw [show (gmak_f c (xo + 143 + 147 * bN c) (xo + 39 + 147 * bN c) (xo + 29 + 147 * bN c) (xo + 23 + 3 * bN c) (dmN c ph cx) (if ph then 64 else mg) (xo + 15 + 2 * 3 + 1) (xo + 15 + 2 * 0 + 1) (S1.1, S1.2.1, fs (fs S.2.2 (xo + 143 + 147 * bN c + 1) 1 (nI (dmN c ph cx))) (xo + 143 + 147 * bN c + 3) 1 (nI (if ph then 64 else mg)))).2.2 = fs (fs (fs S.2.2 (xo + 143 + 147 * bN c + 1) 1 (nI (dmN c ph cx))) (xo + 143 + 147 * bN c + 3) 1 (nI (if ph then 64 else mg))) (xo + 143 + 147 * bN c + 5) 1 (nI (0 + (dmN c ph cx) + (cB c) + (cB c) + (if ph then 64 else mg))) from (gmak_F c (xo + 143 + 147 * bN c) (xo + 39 + 147 * bN c) (xo + 29 + 147 * bN c) (xo + 23 + 3 * bN c) (dmN c ph cx) (if ph then 64 else mg) (xo + 15 + 2 * 3 + 1) (xo + 15 + 2 * 0 + 1) (S1.1, S1.2.1, fs (fs S.2.2 (xo + 143 + 147 * bN c + 1) 1 (nI (dmN c ph cx))) (xo + 143 + 147 * bN c + 3) 1 (nI (if ph then 64 else mg))))]
  generalize hS2 : gmak_f c (xo + 143 + 147 * bN c) (xo + 39 + 147 * bN c) (xo + 29 + 147 * bN c) (xo + 23 + 3 * bN c) (dmN c ph cx) (if ph then 64 else mg) (xo + 15 + 2 * 3 + 1) (xo + 15 + 2 * 0 + 1) (S1.1, S1.2.1, fs (fs S.2.2 (xo + 143 + 147 * bN c + 1) 1 (nI (dmN c ph cx))) (xo + 143 + 147 * bN c + 3) 1 (nI (if ph then 64 else mg))) = S2
  refine rn_aload_n C dX11_sign_51 rfl ?_
  refine rn_iconst (v := nI 2) C dX11_sign_52 rfl ?_
  refine rn_aload_n C dX11_sign_53 rfl ?_
  refine rs_get C dX11_sign_54 fl_X11_27 hX0 rfl ?_
  refine rn_iload_n C dX11_sign_57 rfl ?_
  refine rs_aaload C dX11_sign_58 hx6 rfl rfl (by omega) (by decide) (if_pos (by omega)) ?_
  refine rs_get C dX11_sign_59 fl_X11_160 hcv0 rfl ?_
  refine rn_imul C dX11_sign_62 (pk_mul _ _) ?_
  refine rs_putF C dX11_sign_63 fp_X11_61 hg3a rfl ?_
  have hret : xsign_f c xo mg cx ph s4 s2 S = (S2.1, S2.2.1, fs (fs (fs (fs S.2.2 (xo + 143 + 147 * bN c + 1) 1 (nI (dmN c ph cx))) (xo + 143 + 147 * bN c + 3) 1 (nI (if ph then 64 else mg))) (xo + 143 + 147 * bN c + 5) 1 (nI (0 + (dmN c ph cx) + (cB c) + (cB c) + (if ph then 64 else mg)))) (xo + 15 + 2 * 3) 1 (nI (2 * (cB c)))) := by
    subst hS2
    subst hS1
    first | (dsimp only [xsign_f]; done) | (dsimp only [xsign_f]; exact rfl) | exact rfl
  exact rn_vret C Rt dX11_sign_66 (pv_of hret) (Nat.zero_le _) (Nat.zero_le _)
def xverify_f (c : Bool) (xo : Nat) (mg : Nat) (cx : Nat) (ph : Bool) (s4 : Nat) (s2 : Nat) (S : StT) : Int32 × StT := (let S1 := gcho_f c (xo + 143 + 147 * bN c) (xo + 39 + 147 * bN c) (xo + 29 + 147 * bN c) (xo + 23 + 3 * bN c) (xo + 2) (xo + 4) mg cx ph s4 s2 (S.1, S.2.1, fs S.2.2 (xo + 15 + 2 * 3) 1 (nI (0))); (let r2 := gver_f c (xo + 143 + 147 * bN c) (xo + 39 + 147 * bN c) (xo + 29 + 147 * bN c) (xo + 23 + 3 * bN c) (dmN c ph cx) (if ph then 64 else mg) (xo + 15 + 2 * 2 + 1) (xo + 15 + 2 * 1 + 1) (S1.1, S1.2.1, fs (fs (fs S.2.2 (xo + 15 + 2 * 3) 1 (nI (0))) (xo + 143 + 147 * bN c + 1) 1 (nI (dmN c ph cx))) (xo + 143 + 147 * bN c + 3) 1 (nI (if ph then 64 else mg))); (r2.1, (r2.2.1, r2.2.2.1, r2.2.2.2))))
set_option maxRecDepth 100000 in
set_option maxHeartbeats 300000 in
theorem c_xverify {k : KX} {L : Nat → Option Sh} {S : StT} {n : Nat} {c : Bool} {xo : Nat} {mg : Nat} {cx : Nat} {ph : Bool} {s4 : Nat} {s2 : Nat} (hX : SuiteAt k L xo) (hst : ∀ U, k_F k U → HsS k U) (hmg : S.2.2 (xo + 2) 1 = nI mg) (hmg1 : mg ≤ 256) (hcx : S.2.2 (xo + 4) 1 = nI cx) (hcx1 : cx ≤ 64) (hks4 : StrK k s4 8 lb4) (hks2 : StrK k s2 32 lb2) (hl4 : ∀ U, k_F k U → vk_R RX10 98 "SigEd448" s4 U) (hl2 : ∀ U, k_F k U → vk_R RX10 100 "SigEd25519 no Ed25519 collisions" s2 U) :
    Cs k yX11_verify cX11_verify 3 (some .boolean) 7 0 0 [.ref (k_b k + (xo)), .int (nI (bN c)), .int (bI ph)] (inst k L S.1 S.2.1 S.2.2) n (Pi k L n (xverify_f c xo mg cx ph s4 s2 S)) := by
  refine cs_of (by decide) (Nat.le_of_ble_eq_true rfl) ?_
  intro X hXk C Rt hnm
  subst hXk
  have hX9 := hX
  obtain ⟨hX0, hx1, hx2, hx4, hx6, hx7, hx8, hx9, hx10, hx11, hg0, hg1, hg2, hg3, hhs, hall, hpl⟩ := hX9
  have hg09 := hg0
  obtain ⟨hg0a, hg0b⟩ := hg09
  have hg19 := hg1
  obtain ⟨hg1a, hg1b⟩ := hg19
  have hg29 := hg2
  obtain ⟨hg2a, hg2b⟩ := hg29
  have hg39 := hg3
  obtain ⟨hg3a, hg3b⟩ := hg39
  have hx29 := hx2
  obtain ⟨hx2a, hx2b⟩ := hx29
  have hx49 := hx4
  obtain ⟨hx4a, hx4b⟩ := hx49
  have hx119 := hx11
  obtain ⟨hx110, hx111, hx112, hx113⟩ := hx119
  have hbn := bN_le c
  obtain ⟨hcv, hag, hsg⟩ := hall c
  have hcv0 := hcv.1
  have hag0 := hag.1
  have hsg0 := hsg.1
  obtain ⟨hk1, hk2⟩ := cB_le c
  have hHc := hhs c
  have hdl := dm_le c ph cx
  have hpm : (if ph then 64 else mg) ≤ 256 := by split <;> omega
  refine rn_lv [(0, .ref (k_b X.1 + (xo))), (1, .int (nI (bN c))), (2, .int (bI ph))] (fun q h => h) ?_
  refine rn_iload_n C dX11_verify_0 rfl ?_
  refine rs_sv C dX11_verify_1 mk_X11_requireCurve ls_X11_139 (cv_rcu (a := bN c) (by omega)) rfl rfl (by decide) (Nat.le_of_ble_eq_true rfl) (by decide) (by decide) ?_
  refine rn_aload_n C dX11_verify_4 rfl ?_
  refine rs_get C dX11_verify_5 fl_X11_11 hX0 rfl ?_
  refine rn_iconst (v := nI 3) C dX11_verify_8 rfl ?_
  refine rs_aaload C dX11_verify_9 hx1 rfl rfl (by decide) (by decide) (if_pos (by decide)) ?_
  refine rn_iconst (v := nI 0) C dX11_verify_10 rfl ?_
  refine rs_putF C dX11_verify_11 fp_X11_61 hg3a rfl ?_
  refine rn_aload_n C dX11_verify_14 rfl ?_
  refine rs_get C dX11_verify_15 fl_X11_39 hX0 rfl ?_
  refine rn_iload_n C dX11_verify_18 rfl ?_
  refine rs_aaload C dX11_verify_19 hx8 rfl rfl (by omega) (by decide) (if_pos (by omega)) ?_
  refine rn_aload_n C dX11_verify_20 rfl ?_
  refine rs_get C dX11_verify_21 fl_X11_18 hX0 rfl ?_
  refine rn_aload_n C dX11_verify_24 rfl ?_
  refine rs_get C dX11_verify_25 fl_X11_22 hX0 rfl ?_
  refine rn_iload_n C dX11_verify_28 rfl ?_
  refine rs_vv C dX11_verify_29 mk_X10_choose lv_X11_163 (c_gcho (S := (S.1, S.2.1, fs S.2.2 (xo + 15 + 2 * 3) 1 (nI (0)))) hsg hst hx2 hx4 ((fs_nob (by omega)).trans hmg) (by omega) ((fs_nob (by omega)).trans hcx) (by omega) (fun j hj => by omega) (fun j hj => by omega) hks4 hks2 hl4 hl2) hsg0 rfl rfl rfl rfl (by decide) (Nat.le_of_ble_eq_true rfl) (by decide) (by decide) ?_
  rw [show (gcho_f c (xo + 143 + 147 * bN c) (xo + 39 + 147 * bN c) (xo + 29 + 147 * bN c) (xo + 23 + 3 * bN c) (xo + 2) (xo + 4) mg cx ph s4 s2 (S.1, S.2.1, fs S.2.2 (xo + 15 + 2 * 3) 1 (nI (0)))).2.2 = fs (fs (fs S.2.2 (xo + 15 + 2 * 3) 1 (nI (0))) (xo + 143 + 147 * bN c + 1) 1 (nI (dmN c ph cx))) (xo + 143 + 147 * bN c + 3) 1 (nI (if ph then 64 else mg)) from (gcho_F c (xo + 143 + 147 * bN c) (xo + 39 + 147 * bN c) (xo + 29 + 147 * bN c) (xo + 23 + 3 * bN c) (xo + 2) (xo + 4) mg cx ph s4 s2 (S.1, S.2.1, fs S.2.2 (xo + 15 + 2 * 3) 1 (nI (0))))]
  generalize hS1 : gcho_f c (xo + 143 + 147 * bN c) (xo + 39 + 147 * bN c) (xo + 29 + 147 * bN c) (xo + 23 + 3 * bN c) (xo + 2) (xo + 4) mg cx ph s4 s2 (S.1, S.2.1, fs S.2.2 (xo + 15 + 2 * 3) 1 (nI (0))) = S1
  refine rn_aload_n C dX11_verify_32 rfl ?_
  refine rs_get C dX11_verify_33 fl_X11_39 hX0 rfl ?_
  refine rn_iload_n C dX11_verify_36 rfl ?_
  refine rs_aaload C dX11_verify_37 hx8 rfl rfl (by omega) (by decide) (if_pos (by omega)) ?_
  refine rn_aload_n C dX11_verify_38 rfl ?_
  refine rs_get C dX11_verify_39 fl_X11_11 hX0 rfl ?_
  refine rn_iconst (v := nI 2) C dX11_verify_42 rfl ?_
  refine rs_aaload C dX11_verify_43 hx1 rfl rfl (by decide) (by decide) (if_pos (by decide)) ?_
  refine rs_get C dX11_verify_44 fl_X11_58 hg2a rfl ?_
  refine rn_aload_n C dX11_verify_47 rfl ?_
  refine rs_get C dX11_verify_48 fl_X11_11 hX0 rfl ?_
  refine rn_iconst (v := nI 1) C dX11_verify_51 rfl ?_
  refine rs_aaload C dX11_verify_52 hx1 rfl rfl (by decide) (by decide) (if_pos (by decide)) ?_
  refine rs_get C dX11_verify_53 fl_X11_58 hg1a rfl ?_
  refine rs_vz C dX11_verify_56 mk_X10_isVerified lv_X11_170 (c_gver (S := (S1.1, S1.2.1, fs (fs (fs S.2.2 (xo + 15 + 2 * 3) 1 (nI (0))) (xo + 143 + 147 * bN c + 1) 1 (nI (dmN c ph cx))) (xo + 143 + 147 * bN c + 3) 1 (nI (if ph then 64 else mg)))) hsg hst ((fs_nob (by omega)).trans fs_get) (by omega) fs_get (by omega) hg2b hg1b) hsg0 rfl rfl rfl rfl (by decide) (Nat.le_of_ble_eq_true rfl) (by decide) (by decide) ?_
  generalize hr2 : gver_f c (xo + 143 + 147 * bN c) (xo + 39 + 147 * bN c) (xo + 29 + 147 * bN c) (xo + 23 + 3 * bN c) (dmN c ph cx) (if ph then 64 else mg) (xo + 15 + 2 * 2 + 1) (xo + 15 + 2 * 1 + 1) (S1.1, S1.2.1, fs (fs (fs S.2.2 (xo + 15 + 2 * 3) 1 (nI (0))) (xo + 143 + 147 * bN c + 1) 1 (nI (dmN c ph cx))) (xo + 143 + 147 * bN c + 3) 1 (nI (if ph then 64 else mg))) = r2
  have hret : xverify_f c xo mg cx ph s4 s2 S = (r2.1, (r2.2.1, r2.2.2.1, r2.2.2.2)) := by
    subst hr2
    subst hS1
    first | (dsimp only [xverify_f]; done) | (dsimp only [xverify_f]; exact rfl) | exact rfl
  exact rn_zret C Rt dX11_verify_59 (by subst hr2; exact gver_z _ _ _ _ _ _ _ _ _ _) (pi_of hret) (Nat.zero_le _) (Nat.zero_le _)
def xpoint_f (c : Bool) (xo : Nat) (pl : Nat) (S : StT) : Int32 × StT := (let r1 := cdec_f c (xo + 39 + 147 * bN c) (xo + 29 + 147 * bN c) (xo + 323 + 4 * pl) (xo + 15 + 2 * 1 + 1) S; (if (r1.1) ≠ 0 then (nI (1), (va_up r1.2.1 (xo + 10) (upd (r1.2.1 (xo + 10)) (pl) (nI (bN c))), r1.2.2.1, S.2.2)) else (nI (0), (r1.2.1, r1.2.2.1, S.2.2))))
theorem xpoint_F (c : Bool) (xo : Nat) (pl : Nat) (S : StT) : (xpoint_f c xo pl S).2.2.2 = S.2.2 := by
  unfold xpoint_f; first | rfl | ((repeat' split) <;> rfl) | (dsimp only; (repeat' split) <;> rfl)
set_option maxRecDepth 100000 in
set_option maxHeartbeats 300000 in
theorem c_xpoint {k : KX} {L : Nat → Option Sh} {S : StT} {n : Nat} {c : Bool} {xo : Nat} {pl : Nat} (hX : SuiteAt k L xo) (hpl3 : pl < 3) :
    Cs k yX11_point cX11_point 3 (some .boolean) 6 0 0 [.ref (k_b k + (xo)), .int (nI (bN c)), .int (nI (pl))] (inst k L S.1 S.2.1 S.2.2) n (Pi k L n (xpoint_f c xo pl S)) := by
  refine cs_of (by decide) (Nat.le_of_ble_eq_true rfl) ?_
  intro X hXk C Rt hnm
  subst hXk
  have hX9 := hX
  obtain ⟨hX0, hx1, hx2, hx4, hx6, hx7, hx8, hx9, hx10, hx11, hg0, hg1, hg2, hg3, hhs, hall, hpl⟩ := hX9
  have hg09 := hg0
  obtain ⟨hg0a, hg0b⟩ := hg09
  have hg19 := hg1
  obtain ⟨hg1a, hg1b⟩ := hg19
  have hg29 := hg2
  obtain ⟨hg2a, hg2b⟩ := hg29
  have hg39 := hg3
  obtain ⟨hg3a, hg3b⟩ := hg39
  have hx29 := hx2
  obtain ⟨hx2a, hx2b⟩ := hx29
  have hx49 := hx4
  obtain ⟨hx4a, hx4b⟩ := hx49
  have hx119 := hx11
  obtain ⟨hx110, hx111, hx112, hx113⟩ := hx119
  have hbn := bN_le c
  obtain ⟨hcv, hag, hsg⟩ := hall c
  have hcv0 := hcv.1
  have hag0 := hag.1
  have hsg0 := hsg.1
  obtain ⟨hk1, hk2⟩ := cB_le c
  have hHc := hhs c
  refine rn_lv [(0, .ref (k_b X.1 + (xo))), (1, .int (nI (bN c))), (2, .int (nI (pl)))] (fun q h => h) ?_
  refine rn_iload_n C dX11_point_0 rfl ?_
  refine rs_sv C dX11_point_1 mk_X11_requireCurve ls_X11_139 (cv_rcu (a := bN c) (by omega)) rfl rfl (by decide) (Nat.le_of_ble_eq_true rfl) (by decide) (by decide) ?_
  refine rn_iload_n C dX11_point_4 rfl ?_
  refine rs_sv C dX11_point_5 mk_X11_requirePlace ls_X11_173 (cv_rpl (a := pl) (by omega)) rfl rfl (by decide) (Nat.le_of_ble_eq_true rfl) (by decide) (by decide) ?_
  refine rn_aload_n C dX11_point_8 rfl ?_
  refine rs_get C dX11_point_9 fl_X11_27 hX0 rfl ?_
  refine rn_iload_n C dX11_point_12 rfl ?_
  refine rs_aaload C dX11_point_13 hx6 rfl rfl (by omega) (by decide) (if_pos (by omega)) ?_
  refine rn_aload_n C dX11_point_14 rfl ?_
  refine rs_get C dX11_point_15 fl_X11_45 hX0 rfl ?_
  refine rn_iload_n C dX11_point_18 rfl ?_
  refine rs_aaload C dX11_point_19 hx9 rfl rfl (by omega) (by decide) (if_pos (by omega)) ?_
  refine rn_aload_n C dX11_point_20 rfl ?_
  refine rs_get C dX11_point_21 fl_X11_11 hX0 rfl ?_
  refine rn_iconst (v := nI 1) C dX11_point_24 rfl ?_
  refine rs_aaload C dX11_point_25 hx1 rfl rfl (by decide) (by decide) (if_pos (by decide)) ?_
  refine rs_get C dX11_point_26 fl_X11_58 hg1a rfl ?_
  refine rs_vz C dX11_point_29 mk_X1_decode lv_X11_176 (c_cdec hcv (hpl pl (by omega)) hg1b (by decide) (by omega)) hcv0 rfl rfl rfl rfl (by decide) (Nat.le_of_ble_eq_true rfl) (by decide) (by decide) ?_
  rw [show (cdec_f c (xo + 39 + 147 * bN c) (xo + 29 + 147 * bN c) (xo + 323 + 4 * pl) (xo + 15 + 2 * 1 + 1) S).2.2.2 = S.2.2 from (cdec_F _ _ _ _ _ _)]
  generalize hr1 : cdec_f c (xo + 39 + 147 * bN c) (xo + 29 + 147 * bN c) (xo + 323 + 4 * pl) (xo + 15 + 2 * 1 + 1) S = r1
  refine rn_if_ne (tgt := 37) C dX11_point_32 (by decide) (fun hb2 => ?_) (fun hb2 => ?_)
  · skip
    refine rn_aload_n C dX11_point_37 rfl ?_
    refine rs_get C dX11_point_38 fl_X11_49 hX0 rfl ?_
    refine rn_iload_n C dX11_point_41 rfl ?_
    refine rn_iload_n C dX11_point_42 rfl ?_
    refine rs_iastore C dX11_point_43 hx10 rfl (by omega) (by decide) ?_
    refine rn_iconst (v := nI 1) C dX11_point_44 rfl ?_
    have hret : xpoint_f c xo pl S = (nI (1), (va_up r1.2.1 (xo + 10) (upd (r1.2.1 (xo + 10)) (pl) (nI (bN c))), r1.2.2.1, S.2.2)) := by
      subst hr1
      first | (dsimp only [xpoint_f]; done) | (dsimp only [xpoint_f]; exact (if_pos hb2)) | exact (if_pos hb2)
    exact rn_zret C Rt dX11_point_45 (by first | rfl | exact rfl) (pi_of hret) (Nat.zero_le _) (Nat.zero_le _)
  · skip
    refine rn_iconst (v := nI 0) C dX11_point_35 rfl ?_
    have hret : xpoint_f c xo pl S = (nI (0), (r1.2.1, r1.2.2.1, S.2.2)) := by
      subst hr1
      first | (dsimp only [xpoint_f]; done) | (dsimp only [xpoint_f]; exact (if_neg (fun q => q hb2))) | exact (if_neg (fun q => q hb2))
    exact rn_zret C Rt dX11_point_36 (by first | rfl | exact rfl) (pi_of hret) (Nat.zero_le _) (Nat.zero_le _)
def xadd0_f (c : Bool) (xo : Nat) (to : Nat) (a : Nat) (b : Nat) (S : StT) : StT := (let S1 := csum_f c (xo + 39 + 147 * bN c) (xo + 29 + 147 * bN c) (xo + 323 + 4 * to) (xo + 323 + 4 * a) (xo + 323 + 4 * b) S; (va_up S.1 (xo + 10) (upd (S.1 (xo + 10)) (to) (S.1 (xo + 10) (a))), S1.2.1, S.2.2))
theorem xadd0_F (c : Bool) (xo : Nat) (to : Nat) (a : Nat) (b : Nat) (S : StT) : (xadd0_f c xo to a b S).2.2 = S.2.2 := by
  unfold xadd0_f; first | rfl | ((repeat' split) <;> rfl) | (dsimp only; (repeat' split) <;> rfl)
set_option maxRecDepth 100000 in
set_option maxHeartbeats 300000 in
theorem c_xadd0 {k : KX} {L : Nat → Option Sh} {S : StT} {n : Nat} {c : Bool} {xo : Nat} {to : Nat} {a : Nat} {b : Nat} (hX : SuiteAt k L xo) (ht3 : to < 3) (ha3 : a < 3) (hb3 : b < 3) (hca : S.1 (xo + 10) a = nI (bN c)) (hcb : S.1 (xo + 10) b = nI (bN c)) :
    Cs k yX11_add cX11_add 7 none 5 0 0 [.ref (k_b k + (xo)), .int (nI (to)), .int (nI (a)), .int (nI (b)), .int (nI (0))] (inst k L S.1 S.2.1 S.2.2) n (Pv k L n (xadd0_f c xo to a b S)) := by
  refine cs_of (by decide) (Nat.le_of_ble_eq_true rfl) ?_
  intro X hXk C Rt hnm
  subst hXk
  have hX9 := hX
  obtain ⟨hX0, hx1, hx2, hx4, hx6, hx7, hx8, hx9, hx10, hx11, hg0, hg1, hg2, hg3, hhs, hall, hpl⟩ := hX9
  have hg09 := hg0
  obtain ⟨hg0a, hg0b⟩ := hg09
  have hg19 := hg1
  obtain ⟨hg1a, hg1b⟩ := hg19
  have hg29 := hg2
  obtain ⟨hg2a, hg2b⟩ := hg29
  have hg39 := hg3
  obtain ⟨hg3a, hg3b⟩ := hg39
  have hx29 := hx2
  obtain ⟨hx2a, hx2b⟩ := hx29
  have hx49 := hx4
  obtain ⟨hx4a, hx4b⟩ := hx49
  have hx119 := hx11
  obtain ⟨hx110, hx111, hx112, hx113⟩ := hx119
  have hbn := bN_le c
  obtain ⟨hcv, hag, hsg⟩ := hall c
  have hcv0 := hcv.1
  have hag0 := hag.1
  have hsg0 := hsg.1
  obtain ⟨hk1, hk2⟩ := cB_le c
  have hHc := hhs c
  refine rn_lv [(0, .ref (k_b X.1 + (xo))), (1, .int (nI (to))), (2, .int (nI (a))), (3, .int (nI (b))), (4, .int (nI (0)))] (fun q h => h) ?_
  refine rn_iload_n C dX11_add_0 rfl ?_
  refine rs_sv C dX11_add_1 mk_X11_requirePlace ls_X11_173 (cv_rpl (a := to) (by omega)) rfl rfl (by decide) (Nat.le_of_ble_eq_true rfl) (by decide) (by decide) ?_
  refine rn_iload_n C dX11_add_4 rfl ?_
  refine rs_sv C dX11_add_5 mk_X11_requirePlace ls_X11_173 (cv_rpl (a := a) (by omega)) rfl rfl (by decide) (Nat.le_of_ble_eq_true rfl) (by decide) (by decide) ?_
  refine rn_iload_n C dX11_add_8 rfl ?_
  refine rs_sv C dX11_add_9 mk_X11_requirePlace ls_X11_173 (cv_rpl (a := b) (by omega)) rfl rfl (by decide) (Nat.le_of_ble_eq_true rfl) (by decide) (by decide) ?_
  refine rn_aload_n C dX11_add_12 rfl ?_
  refine rs_get C dX11_add_13 fl_X11_49 hX0 rfl ?_
  refine rn_iload_n C dX11_add_16 rfl ?_
  refine rs_iaload C dX11_add_17 hx10 rfl (by omega) (by decide) ?_
  rw [show S.1 (xo + 10) (a) = nI (bN c) from hca]
  refine rn_aload_n C dX11_add_18 rfl ?_
  refine rs_get C dX11_add_19 fl_X11_49 hX0 rfl ?_
  refine rn_iload_n C dX11_add_22 rfl ?_
  refine rs_iaload C dX11_add_23 hx10 rfl (by omega) (by decide) ?_
  rw [show S.1 (xo + 10) (b) = nI (bN c) from hcb]
  refine rn_icmp_eq (tgt := 37) C dX11_add_24 (by decide) (fun hb => ?_) (fun hb => absurd rfl hb)
  refine rn_aload_n C dX11_add_37 rfl ?_
  refine rs_get C dX11_add_38 fl_X11_27 hX0 rfl ?_
  refine rn_aload_n C dX11_add_41 rfl ?_
  refine rs_get C dX11_add_42 fl_X11_49 hX0 rfl ?_
  refine rn_iload_n C dX11_add_45 rfl ?_
  refine rs_iaload C dX11_add_46 hx10 rfl (by omega) (by decide) ?_
  rw [show S.1 (xo + 10) (a) = nI (bN c) from hca]
  refine rs_aaload C dX11_add_47 hx6 rfl rfl (by omega) (by decide) (if_pos (by omega)) ?_
  refine rn_astore (lv' := [(0, _), (1, _), (2, _), (3, _), (4, _), (5, _)]) C dX11_add_48 (by decide) rfl ?_
  refine rn_aload_n C dX11_add_50 rfl ?_
  refine rs_get C dX11_add_51 fl_X11_45 hX0 rfl ?_
  refine rn_iload_n C dX11_add_54 rfl ?_
  refine rs_aaload C dX11_add_55 hx9 rfl rfl (by omega) (by decide) (if_pos (by omega)) ?_
  refine rn_astore (lv' := [(0, _), (1, _), (2, _), (3, _), (4, _), (5, _), (6, _)]) C dX11_add_56 (by decide) rfl ?_
  refine rn_iload C dX11_add_58 rfl ?_
  refine rn_if_eq (tgt := 80) C dX11_add_60 (by decide) (fun hb => ?_) (fun hb => absurd (show (nI (0)) = 0 from by decide) hb)
  refine rn_aload C dX11_add_80 rfl ?_
  refine rn_aload_n C dX11_add_82 rfl ?_
  refine rs_get C dX11_add_83 fl_X11_45 hX0 rfl ?_
  refine rn_iload_n C dX11_add_86 rfl ?_
  refine rs_aaload C dX11_add_87 hx9 rfl rfl (by omega) (by decide) (if_pos (by omega)) ?_
  refine rn_aload_n C dX11_add_88 rfl ?_
  refine rs_get C dX11_add_89 fl_X11_45 hX0 rfl ?_
  refine rn_iload_n C dX11_add_92 rfl ?_
  refine rs_aaload C dX11_add_93 hx9 rfl rfl (by omega) (by decide) (if_pos (by omega)) ?_
  refine rn_aload C dX11_add_94 rfl ?_
  refine rs_vv C dX11_add_96 mk_X1_sum lv_X11_186 (c_csum hcv (hpl to (by omega)) (hpl a (by omega)) (hpl b (by omega))) hcv0 rfl rfl rfl rfl (by decide) (Nat.le_of_ble_eq_true rfl) (by decide) (by decide) ?_
  rw [show (csum_f c (xo + 39 + 147 * bN c) (xo + 29 + 147 * bN c) (xo + 323 + 4 * to) (xo + 323 + 4 * a) (xo + 323 + 4 * b) S).2.2 = S.2.2 from (csum_F c (xo + 39 + 147 * bN c) (xo + 29 + 147 * bN c) (xo + 323 + 4 * to) (xo + 323 + 4 * a) (xo + 323 + 4 * b) S)]
  rw [show (csum_f c (xo + 39 + 147 * bN c) (xo + 29 + 147 * bN c) (xo + 323 + 4 * to) (xo + 323 + 4 * a) (xo + 323 + 4 * b) S).1 = S.1 from csum_I c (xo + 39 + 147 * bN c) (xo + 29 + 147 * bN c) (xo + 323 + 4 * to) (xo + 323 + 4 * a) (xo + 323 + 4 * b) S]
  generalize hS1 : csum_f c (xo + 39 + 147 * bN c) (xo + 29 + 147 * bN c) (xo + 323 + 4 * to) (xo + 323 + 4 * a) (xo + 323 + 4 * b) S = S1
  refine rn_aload_n C dX11_add_99 rfl ?_
  refine rs_get C dX11_add_100 fl_X11_49 hX0 rfl ?_
  refine rn_iload_n C dX11_add_103 rfl ?_
  refine rn_aload_n C dX11_add_104 rfl ?_
  refine rs_get C dX11_add_105 fl_X11_49 hX0 rfl ?_
  refine rn_iload_n C dX11_add_108 rfl ?_
  refine rs_iaload C dX11_add_109 hx10 rfl (by omega) (by decide) ?_
  refine rs_iastore C dX11_add_110 hx10 rfl (by omega) (by decide) ?_
  have hret : xadd0_f c xo to a b S = (va_up S.1 (xo + 10) (upd (S.1 (xo + 10)) (to) (S.1 (xo + 10) (a))), S1.2.1, S.2.2) := by
    subst hS1
    first | (dsimp only [xadd0_f]; done) | (dsimp only [xadd0_f]; exact rfl) | exact rfl
  exact rn_vret C Rt dX11_add_111 (pv_of hret) (Nat.zero_le _) (Nat.zero_le _)
def xadd1_f (c : Bool) (xo : Nat) (to : Nat) (a : Nat) (b : Nat) (S : StT) : StT := (let S1 := cneg_f c (xo + 39 + 147 * bN c) (xo + 29 + 147 * bN c) (xo + 11) (xo + 323 + 4 * b) S; (let S2 := csum_f c (xo + 39 + 147 * bN c) (xo + 29 + 147 * bN c) (xo + 323 + 4 * to) (xo + 323 + 4 * a) (xo + 11) (S.1, S1.2.1, S.2.2); (va_up S.1 (xo + 10) (upd (S.1 (xo + 10)) (to) (S.1 (xo + 10) (a))), S2.2.1, S.2.2)))
theorem xadd1_F (c : Bool) (xo : Nat) (to : Nat) (a : Nat) (b : Nat) (S : StT) : (xadd1_f c xo to a b S).2.2 = S.2.2 := by
  unfold xadd1_f; first | rfl | ((repeat' split) <;> rfl) | (dsimp only; (repeat' split) <;> rfl)
set_option maxRecDepth 100000 in
set_option maxHeartbeats 300000 in
theorem c_xadd1 {k : KX} {L : Nat → Option Sh} {S : StT} {n : Nat} {c : Bool} {xo : Nat} {to : Nat} {a : Nat} {b : Nat} (hX : SuiteAt k L xo) (ht3 : to < 3) (ha3 : a < 3) (hb3 : b < 3) (hca : S.1 (xo + 10) a = nI (bN c)) (hcb : S.1 (xo + 10) b = nI (bN c)) :
    Cs k yX11_add cX11_add 7 none 5 0 0 [.ref (k_b k + (xo)), .int (nI (to)), .int (nI (a)), .int (nI (b)), .int (nI (1))] (inst k L S.1 S.2.1 S.2.2) n (Pv k L n (xadd1_f c xo to a b S)) := by
  refine cs_of (by decide) (Nat.le_of_ble_eq_true rfl) ?_
  intro X hXk C Rt hnm
  subst hXk
  have hX9 := hX
  obtain ⟨hX0, hx1, hx2, hx4, hx6, hx7, hx8, hx9, hx10, hx11, hg0, hg1, hg2, hg3, hhs, hall, hpl⟩ := hX9
  have hg09 := hg0
  obtain ⟨hg0a, hg0b⟩ := hg09
  have hg19 := hg1
  obtain ⟨hg1a, hg1b⟩ := hg19
  have hg29 := hg2
  obtain ⟨hg2a, hg2b⟩ := hg29
  have hg39 := hg3
  obtain ⟨hg3a, hg3b⟩ := hg39
  have hx29 := hx2
  obtain ⟨hx2a, hx2b⟩ := hx29
  have hx49 := hx4
  obtain ⟨hx4a, hx4b⟩ := hx49
  have hx119 := hx11
  obtain ⟨hx110, hx111, hx112, hx113⟩ := hx119
  have hbn := bN_le c
  obtain ⟨hcv, hag, hsg⟩ := hall c
  have hcv0 := hcv.1
  have hag0 := hag.1
  have hsg0 := hsg.1
  obtain ⟨hk1, hk2⟩ := cB_le c
  have hHc := hhs c
  refine rn_lv [(0, .ref (k_b X.1 + (xo))), (1, .int (nI (to))), (2, .int (nI (a))), (3, .int (nI (b))), (4, .int (nI (1)))] (fun q h => h) ?_
  refine rn_iload_n C dX11_add_0 rfl ?_
  refine rs_sv C dX11_add_1 mk_X11_requirePlace ls_X11_173 (cv_rpl (a := to) (by omega)) rfl rfl (by decide) (Nat.le_of_ble_eq_true rfl) (by decide) (by decide) ?_
  refine rn_iload_n C dX11_add_4 rfl ?_
  refine rs_sv C dX11_add_5 mk_X11_requirePlace ls_X11_173 (cv_rpl (a := a) (by omega)) rfl rfl (by decide) (Nat.le_of_ble_eq_true rfl) (by decide) (by decide) ?_
  refine rn_iload_n C dX11_add_8 rfl ?_
  refine rs_sv C dX11_add_9 mk_X11_requirePlace ls_X11_173 (cv_rpl (a := b) (by omega)) rfl rfl (by decide) (Nat.le_of_ble_eq_true rfl) (by decide) (by decide) ?_
  refine rn_aload_n C dX11_add_12 rfl ?_
  refine rs_get C dX11_add_13 fl_X11_49 hX0 rfl ?_
  refine rn_iload_n C dX11_add_16 rfl ?_
  refine rs_iaload C dX11_add_17 hx10 rfl (by omega) (by decide) ?_
  rw [show S.1 (xo + 10) (a) = nI (bN c) from hca]
  refine rn_aload_n C dX11_add_18 rfl ?_
  refine rs_get C dX11_add_19 fl_X11_49 hX0 rfl ?_
  refine rn_iload_n C dX11_add_22 rfl ?_
  refine rs_iaload C dX11_add_23 hx10 rfl (by omega) (by decide) ?_
  rw [show S.1 (xo + 10) (b) = nI (bN c) from hcb]
  refine rn_icmp_eq (tgt := 37) C dX11_add_24 (by decide) (fun hb => ?_) (fun hb => absurd rfl hb)
  refine rn_aload_n C dX11_add_37 rfl ?_
  refine rs_get C dX11_add_38 fl_X11_27 hX0 rfl ?_
  refine rn_aload_n C dX11_add_41 rfl ?_
  refine rs_get C dX11_add_42 fl_X11_49 hX0 rfl ?_
  refine rn_iload_n C dX11_add_45 rfl ?_
  refine rs_iaload C dX11_add_46 hx10 rfl (by omega) (by decide) ?_
  rw [show S.1 (xo + 10) (a) = nI (bN c) from hca]
  refine rs_aaload C dX11_add_47 hx6 rfl rfl (by omega) (by decide) (if_pos (by omega)) ?_
  refine rn_astore (lv' := [(0, _), (1, _), (2, _), (3, _), (4, _), (5, _)]) C dX11_add_48 (by decide) rfl ?_
  refine rn_aload_n C dX11_add_50 rfl ?_
  refine rs_get C dX11_add_51 fl_X11_45 hX0 rfl ?_
  refine rn_iload_n C dX11_add_54 rfl ?_
  refine rs_aaload C dX11_add_55 hx9 rfl rfl (by omega) (by decide) (if_pos (by omega)) ?_
  refine rn_astore (lv' := [(0, _), (1, _), (2, _), (3, _), (4, _), (5, _), (6, _)]) C dX11_add_56 (by decide) rfl ?_
  refine rn_iload C dX11_add_58 rfl ?_
  refine rn_if_eq (tgt := 80) C dX11_add_60 (by decide) (fun hb => absurd hb (show ¬ (nI (1)) = 0 from by decide)) (fun hb => ?_)
  refine rn_aload C dX11_add_63 rfl ?_
  refine rn_aload_n C dX11_add_65 rfl ?_
  refine rs_get C dX11_add_66 fl_X11_54 hX0 rfl ?_
  refine rn_aload C dX11_add_69 rfl ?_
  refine rs_vv C dX11_add_71 mk_X1_negate lv_X11_182 (c_cneg hcv hx11 (hpl b (by omega))) hcv0 rfl rfl rfl rfl (by decide) (Nat.le_of_ble_eq_true rfl) (by decide) (by decide) ?_
  rw [show (cneg_f c (xo + 39 + 147 * bN c) (xo + 29 + 147 * bN c) (xo + 11) (xo + 323 + 4 * b) S).2.2 = S.2.2 from (cneg_F c (xo + 39 + 147 * bN c) (xo + 29 + 147 * bN c) (xo + 11) (xo + 323 + 4 * b) S)]
  rw [show (cneg_f c (xo + 39 + 147 * bN c) (xo + 29 + 147 * bN c) (xo + 11) (xo + 323 + 4 * b) S).1 = S.1 from cneg_I c (xo + 39 + 147 * bN c) (xo + 29 + 147 * bN c) (xo + 11) (xo + 323 + 4 * b) S]
  generalize hS1 : cneg_f c (xo + 39 + 147 * bN c) (xo + 29 + 147 * bN c) (xo + 11) (xo + 323 + 4 * b) S = S1
  refine rn_aload_n C dX11_add_74 rfl ?_
  refine rs_get C dX11_add_75 fl_X11_54 hX0 rfl ?_
  refine rn_astore (lv' := [(0, _), (1, _), (2, _), (3, _), (4, _), (5, _), (6, _)]) C dX11_add_78 (by decide) rfl ?_
  refine rn_aload C dX11_add_80 rfl ?_
  refine rn_aload_n C dX11_add_82 rfl ?_
  refine rs_get C dX11_add_83 fl_X11_45 hX0 rfl ?_
  refine rn_iload_n C dX11_add_86 rfl ?_
  refine rs_aaload C dX11_add_87 hx9 rfl rfl (by omega) (by decide) (if_pos (by omega)) ?_
  refine rn_aload_n C dX11_add_88 rfl ?_
  refine rs_get C dX11_add_89 fl_X11_45 hX0 rfl ?_
  refine rn_iload_n C dX11_add_92 rfl ?_
  refine rs_aaload C dX11_add_93 hx9 rfl rfl (by omega) (by decide) (if_pos (by omega)) ?_
  refine rn_aload C dX11_add_94 rfl ?_
  refine rs_vv C dX11_add_96 mk_X1_sum lv_X11_186 (c_csum (S := (S.1, S1.2.1, S.2.2)) hcv (hpl to (by omega)) (hpl a (by omega)) hx11) hcv0 rfl rfl rfl rfl (by decide) (Nat.le_of_ble_eq_true rfl) (by decide) (by decide) ?_
  rw [show (csum_f c (xo + 39 + 147 * bN c) (xo + 29 + 147 * bN c) (xo + 323 + 4 * to) (xo + 323 + 4 * a) (xo + 11) (S.1, S1.2.1, S.2.2)).2.2 = S.2.2 from (csum_F c (xo + 39 + 147 * bN c) (xo + 29 + 147 * bN c) (xo + 323 + 4 * to) (xo + 323 + 4 * a) (xo + 11) (S.1, S1.2.1, S.2.2))]
  rw [show (csum_f c (xo + 39 + 147 * bN c) (xo + 29 + 147 * bN c) (xo + 323 + 4 * to) (xo + 323 + 4 * a) (xo + 11) (S.1, S1.2.1, S.2.2)).1 = S.1 from csum_I c (xo + 39 + 147 * bN c) (xo + 29 + 147 * bN c) (xo + 323 + 4 * to) (xo + 323 + 4 * a) (xo + 11) (S.1, S1.2.1, S.2.2)]
  generalize hS2 : csum_f c (xo + 39 + 147 * bN c) (xo + 29 + 147 * bN c) (xo + 323 + 4 * to) (xo + 323 + 4 * a) (xo + 11) (S.1, S1.2.1, S.2.2) = S2
  refine rn_aload_n C dX11_add_99 rfl ?_
  refine rs_get C dX11_add_100 fl_X11_49 hX0 rfl ?_
  refine rn_iload_n C dX11_add_103 rfl ?_
  refine rn_aload_n C dX11_add_104 rfl ?_
  refine rs_get C dX11_add_105 fl_X11_49 hX0 rfl ?_
  refine rn_iload_n C dX11_add_108 rfl ?_
  refine rs_iaload C dX11_add_109 hx10 rfl (by omega) (by decide) ?_
  refine rs_iastore C dX11_add_110 hx10 rfl (by omega) (by decide) ?_
  have hret : xadd1_f c xo to a b S = (va_up S.1 (xo + 10) (upd (S.1 (xo + 10)) (to) (S.1 (xo + 10) (a))), S2.2.1, S.2.2) := by
    subst hS2
    subst hS1
    first | (dsimp only [xadd1_f]; done) | (dsimp only [xadd1_f]; exact rfl) | exact rfl
  exact rn_vret C Rt dX11_add_111 (pv_of hret) (Nat.zero_le _) (Nat.zero_le _)
def xtimes_f (c : Bool) (xo : Nat) (to : Nat) (a : Nat) (S : StT) : StT := (let S1 := cmult_f c (xo + 39 + 147 * bN c) (xo + 29 + 147 * bN c) (xo + 323 + 4 * to) (xo + 15 + 2 * 0 + 1) (xo + 323 + 4 * a) S; (va_up S1.1 (xo + 10) (upd (S1.1 (xo + 10)) (to) (S1.1 (xo + 10) (a))), S1.2.1, S.2.2))
theorem xtimes_F (c : Bool) (xo : Nat) (to : Nat) (a : Nat) (S : StT) : (xtimes_f c xo to a S).2.2 = S.2.2 := by
  unfold xtimes_f; first | rfl | ((repeat' split) <;> rfl) | (dsimp only; (repeat' split) <;> rfl)
set_option maxRecDepth 100000 in
set_option maxHeartbeats 300000 in
theorem c_xtimes {k : KX} {L : Nat → Option Sh} {S : StT} {n : Nat} {c : Bool} {xo : Nat} {to : Nat} {a : Nat} (hX : SuiteAt k L xo) (ht3 : to < 3) (ha3 : a < 3) (hca : S.1 (xo + 10) a = nI (bN c)) :
    Cs k yX11_times cX11_times 3 none 5 0 0 [.ref (k_b k + (xo)), .int (nI (to)), .int (nI (a))] (inst k L S.1 S.2.1 S.2.2) n (Pv k L n (xtimes_f c xo to a S)) := by
  refine cs_of (by decide) (Nat.le_of_ble_eq_true rfl) ?_
  intro X hXk C Rt hnm
  subst hXk
  have hX9 := hX
  obtain ⟨hX0, hx1, hx2, hx4, hx6, hx7, hx8, hx9, hx10, hx11, hg0, hg1, hg2, hg3, hhs, hall, hpl⟩ := hX9
  have hg09 := hg0
  obtain ⟨hg0a, hg0b⟩ := hg09
  have hg19 := hg1
  obtain ⟨hg1a, hg1b⟩ := hg19
  have hg29 := hg2
  obtain ⟨hg2a, hg2b⟩ := hg29
  have hg39 := hg3
  obtain ⟨hg3a, hg3b⟩ := hg39
  have hx29 := hx2
  obtain ⟨hx2a, hx2b⟩ := hx29
  have hx49 := hx4
  obtain ⟨hx4a, hx4b⟩ := hx49
  have hx119 := hx11
  obtain ⟨hx110, hx111, hx112, hx113⟩ := hx119
  have hbn := bN_le c
  obtain ⟨hcv, hag, hsg⟩ := hall c
  have hcv0 := hcv.1
  have hag0 := hag.1
  have hsg0 := hsg.1
  obtain ⟨hk1, hk2⟩ := cB_le c
  have hHc := hhs c
  refine rn_lv [(0, .ref (k_b X.1 + (xo))), (1, .int (nI (to))), (2, .int (nI (a)))] (fun q h => h) ?_
  refine rn_iload_n C dX11_times_0 rfl ?_
  refine rs_sv C dX11_times_1 mk_X11_requirePlace ls_X11_173 (cv_rpl (a := to) (by omega)) rfl rfl (by decide) (Nat.le_of_ble_eq_true rfl) (by decide) (by decide) ?_
  refine rn_iload_n C dX11_times_4 rfl ?_
  refine rs_sv C dX11_times_5 mk_X11_requirePlace ls_X11_173 (cv_rpl (a := a) (by omega)) rfl rfl (by decide) (Nat.le_of_ble_eq_true rfl) (by decide) (by decide) ?_
  refine rn_aload_n C dX11_times_8 rfl ?_
  refine rs_get C dX11_times_9 fl_X11_27 hX0 rfl ?_
  refine rn_aload_n C dX11_times_12 rfl ?_
  refine rs_get C dX11_times_13 fl_X11_49 hX0 rfl ?_
  refine rn_iload_n C dX11_times_16 rfl ?_
  refine rs_iaload C dX11_times_17 hx10 rfl (by omega) (by decide) ?_
  rw [show S.1 (xo + 10) (a) = nI (bN c) from hca]
  refine rs_aaload C dX11_times_18 hx6 rfl rfl (by omega) (by decide) (if_pos (by omega)) ?_
  refine rn_aload_n C dX11_times_19 rfl ?_
  refine rs_get C dX11_times_20 fl_X11_45 hX0 rfl ?_
  refine rn_iload_n C dX11_times_23 rfl ?_
  refine rs_aaload C dX11_times_24 hx9 rfl rfl (by omega) (by decide) (if_pos (by omega)) ?_
  refine rn_aload_n C dX11_times_25 rfl ?_
  refine rs_get C dX11_times_26 fl_X11_11 hX0 rfl ?_
  refine rn_iconst (v := nI 0) C dX11_times_29 rfl ?_
  refine rs_aaload C dX11_times_30 hx1 rfl rfl (by decide) (by decide) (if_pos (by decide)) ?_
  refine rs_get C dX11_times_31 fl_X11_58 hg0a rfl ?_
  refine rn_aload_n C dX11_times_34 rfl ?_
  refine rs_get C dX11_times_35 fl_X11_45 hX0 rfl ?_
  refine rn_iload_n C dX11_times_38 rfl ?_
  refine rs_aaload C dX11_times_39 hx9 rfl rfl (by omega) (by decide) (if_pos (by omega)) ?_
  refine rs_vv C dX11_times_40 mk_X1_multiply lv_X11_190 (c_cmult hcv (hpl to (by omega)) hg0b (by decide) (by decide) (by omega) (hpl a (by omega))) hcv0 rfl rfl rfl rfl (by decide) (Nat.le_of_ble_eq_true rfl) (by decide) (by decide) ?_
  rw [show (cmult_f c (xo + 39 + 147 * bN c) (xo + 29 + 147 * bN c) (xo + 323 + 4 * to) (xo + 15 + 2 * 0 + 1) (xo + 323 + 4 * a) S).2.2 = S.2.2 from (cmult_F c (xo + 39 + 147 * bN c) (xo + 29 + 147 * bN c) (xo + 323 + 4 * to) (xo + 15 + 2 * 0 + 1) (xo + 323 + 4 * a) S)]
  generalize hS1 : cmult_f c (xo + 39 + 147 * bN c) (xo + 29 + 147 * bN c) (xo + 323 + 4 * to) (xo + 15 + 2 * 0 + 1) (xo + 323 + 4 * a) S = S1
  refine rn_aload_n C dX11_times_43 rfl ?_
  refine rs_get C dX11_times_44 fl_X11_49 hX0 rfl ?_
  refine rn_iload_n C dX11_times_47 rfl ?_
  refine rn_aload_n C dX11_times_48 rfl ?_
  refine rs_get C dX11_times_49 fl_X11_49 hX0 rfl ?_
  refine rn_iload_n C dX11_times_52 rfl ?_
  refine rs_iaload C dX11_times_53 hx10 rfl (by omega) (by decide) ?_
  refine rs_iastore C dX11_times_54 hx10 rfl (by omega) (by decide) ?_
  have hret : xtimes_f c xo to a S = (va_up S1.1 (xo + 10) (upd (S1.1 (xo + 10)) (to) (S1.1 (xo + 10) (a))), S1.2.1, S.2.2) := by
    subst hS1
    first | (dsimp only [xtimes_f]; done) | (dsimp only [xtimes_f]; exact rfl) | exact rfl
  exact rn_vret C Rt dX11_times_55 (pv_of hret) (Nat.zero_le _) (Nat.zero_le _)
def xcode_f (c : Bool) (xo : Nat) (a : Nat) (S : StT) : StT := (let S1 := cenc_f c (xo + 39 + 147 * bN c) (xo + 29 + 147 * bN c) (xo + 15 + 2 * 3 + 1) (xo + 323 + 4 * a) S; (S1.1, S1.2.1, fs S.2.2 (xo + 15 + 2 * 3) 1 (nI (cB c))))
theorem xcode_F (c : Bool) (xo : Nat) (a : Nat) (S : StT) : (xcode_f c xo a S).2.2 = fs S.2.2 (xo + 15 + 2 * 3) 1 (nI (cB c)) := by
  unfold xcode_f; first | rfl | ((repeat' split) <;> rfl) | (dsimp only; (repeat' split) <;> rfl)
set_option maxRecDepth 100000 in
set_option maxHeartbeats 300000 in
theorem c_xcode {k : KX} {L : Nat → Option Sh} {S : StT} {n : Nat} {c : Bool} {xo : Nat} {a : Nat} (hX : SuiteAt k L xo) (ha3 : a < 3) (hca : S.1 (xo + 10) a = nI (bN c)) :
    Cs k yX11_code cX11_code 4 none 6 0 0 [.ref (k_b k + (xo)), .int (nI (a))] (inst k L S.1 S.2.1 S.2.2) n (Pv k L n (xcode_f c xo a S)) := by
  refine cs_of (by decide) (Nat.le_of_ble_eq_true rfl) ?_
  intro X hXk C Rt hnm
  subst hXk
  have hX9 := hX
  obtain ⟨hX0, hx1, hx2, hx4, hx6, hx7, hx8, hx9, hx10, hx11, hg0, hg1, hg2, hg3, hhs, hall, hpl⟩ := hX9
  have hg09 := hg0
  obtain ⟨hg0a, hg0b⟩ := hg09
  have hg19 := hg1
  obtain ⟨hg1a, hg1b⟩ := hg19
  have hg29 := hg2
  obtain ⟨hg2a, hg2b⟩ := hg29
  have hg39 := hg3
  obtain ⟨hg3a, hg3b⟩ := hg39
  have hx29 := hx2
  obtain ⟨hx2a, hx2b⟩ := hx29
  have hx49 := hx4
  obtain ⟨hx4a, hx4b⟩ := hx49
  have hx119 := hx11
  obtain ⟨hx110, hx111, hx112, hx113⟩ := hx119
  have hbn := bN_le c
  obtain ⟨hcv, hag, hsg⟩ := hall c
  have hcv0 := hcv.1
  have hag0 := hag.1
  have hsg0 := hsg.1
  obtain ⟨hk1, hk2⟩ := cB_le c
  have hHc := hhs c
  refine rn_lv [(0, .ref (k_b X.1 + (xo))), (1, .int (nI (a)))] (fun q h => h) ?_
  refine rn_iload_n C dX11_code_0 rfl ?_
  refine rs_sv C dX11_code_1 mk_X11_requirePlace ls_X11_173 (cv_rpl (a := a) (by omega)) rfl rfl (by decide) (Nat.le_of_ble_eq_true rfl) (by decide) (by decide) ?_
  refine rn_aload_n C dX11_code_4 rfl ?_
  refine rs_get C dX11_code_5 fl_X11_27 hX0 rfl ?_
  refine rn_aload_n C dX11_code_8 rfl ?_
  refine rs_get C dX11_code_9 fl_X11_49 hX0 rfl ?_
  refine rn_iload_n C dX11_code_12 rfl ?_
  refine rs_iaload C dX11_code_13 hx10 rfl (by omega) (by decide) ?_
  rw [show S.1 (xo + 10) (a) = nI (bN c) from hca]
  refine rs_aaload C dX11_code_14 hx6 rfl rfl (by omega) (by decide) (if_pos (by omega)) ?_
  refine rn_astore_n (lv' := [(0, _), (1, _), (2, _)]) C dX11_code_15 (by decide) rfl ?_
  refine rn_aload_n C dX11_code_16 rfl ?_
  refine rs_get C dX11_code_17 fl_X11_11 hX0 rfl ?_
  refine rn_iconst (v := nI 3) C dX11_code_20 rfl ?_
  refine rs_aaload C dX11_code_21 hx1 rfl rfl (by decide) (by decide) (if_pos (by decide)) ?_
  refine rn_astore_n (lv' := [(0, _), (1, _), (2, _), (3, _)]) C dX11_code_22 (by decide) rfl ?_
  refine rn_aload_n C dX11_code_23 rfl ?_
  refine rn_aload_n C dX11_code_24 rfl ?_
  refine rs_get C dX11_code_25 fl_X11_58 hg3a rfl ?_
  refine rn_aload_n C dX11_code_28 rfl ?_
  refine rs_get C dX11_code_29 fl_X11_45 hX0 rfl ?_
  refine rn_iload_n C dX11_code_32 rfl ?_
  refine rs_aaload C dX11_code_33 hx9 rfl rfl (by omega) (by decide) (if_pos (by omega)) ?_
  refine rs_vv C dX11_code_34 mk_X1_encode lv_X11_194 (c_cenc hcv hg3b (by decide) (by omega) (hpl a (by omega))) hcv0 rfl rfl rfl rfl (by decide) (Nat.le_of_ble_eq_true rfl) (by decide) (by decide) ?_
  rw [show (cenc_f c (xo + 39 + 147 * bN c) (xo + 29 + 147 * bN c) (xo + 15 + 2 * 3 + 1) (xo + 323 + 4 * a) S).2.2 = S.2.2 from (cenc_F c (xo + 39 + 147 * bN c) (xo + 29 + 147 * bN c) (xo + 15 + 2 * 3 + 1) (xo + 323 + 4 * a) S)]
  generalize hS1 : cenc_f c (xo + 39 + 147 * bN c) (xo + 29 + 147 * bN c) (xo + 15 + 2 * 3 + 1) (xo + 323 + 4 * a) S = S1
  refine rn_aload_n C dX11_code_37 rfl ?_
  refine rn_aload_n C dX11_code_38 rfl ?_
  refine rs_get C dX11_code_39 fl_X11_160 hcv0 rfl ?_
  refine rs_putF C dX11_code_42 fp_X11_61 hg3a rfl ?_
  have hret : xcode_f c xo a S = (S1.1, S1.2.1, fs S.2.2 (xo + 15 + 2 * 3) 1 (nI (cB c))) := by
    subst hS1
    first | (dsimp only [xcode_f]; done) | (dsimp only [xcode_f]; exact rfl) | exact rfl
  exact rn_vret C Rt dX11_code_45 (pv_of hret) (Nat.zero_le _) (Nat.zero_le _)
def xsame_f (c : Bool) (xo : Nat) (a : Nat) (b : Nat) (S : StT) : Int32 × StT := (let r1 := cEq_f c (xo + 39 + 147 * bN c) (xo + 29 + 147 * bN c) (xo + 323 + 4 * a) (xo + 323 + 4 * b) S; (if (r1.1) = 0 then (nI (0), (S.1, r1.2.2.1, S.2.2)) else (nI (1), (S.1, r1.2.2.1, S.2.2))))
theorem xsame_F (c : Bool) (xo : Nat) (a : Nat) (b : Nat) (S : StT) : (xsame_f c xo a b S).2.2.2 = S.2.2 := by
  exact (ft_let (v := cEq_f c (xo + 39 + 147 * bN c) (xo + 29 + 147 * bN c) (xo + 323 + 4 * a) (xo + 323 + 4 * b) S) (f := fun r1 => (if (r1.1) = 0 then (nI (0), (S.1, r1.2.2.1, S.2.2)) else (nI (1), (S.1, r1.2.2.1, S.2.2)))) (fun r1 e_r1 => (ft_ite rfl rfl)))
set_option maxRecDepth 100000 in
set_option maxHeartbeats 300000 in
theorem c_xsame {k : KX} {L : Nat → Option Sh} {S : StT} {n : Nat} {c : Bool} {xo : Nat} {a : Nat} {b : Nat} (hX : SuiteAt k L xo) (ha3 : a < 3) (hb3 : b < 3) (hca : S.1 (xo + 10) a = nI (bN c)) (hcb : S.1 (xo + 10) b = nI (bN c)) :
    Cs k yX11_same cX11_same 3 (some .boolean) 5 0 0 [.ref (k_b k + (xo)), .int (nI (a)), .int (nI (b))] (inst k L S.1 S.2.1 S.2.2) n (Pi k L n (xsame_f c xo a b S)) := by
  refine cs_of (by decide) (Nat.le_of_ble_eq_true rfl) ?_
  intro X hXk C Rt hnm
  subst hXk
  have hX9 := hX
  obtain ⟨hX0, hx1, hx2, hx4, hx6, hx7, hx8, hx9, hx10, hx11, hg0, hg1, hg2, hg3, hhs, hall, hpl⟩ := hX9
  have hg09 := hg0
  obtain ⟨hg0a, hg0b⟩ := hg09
  have hg19 := hg1
  obtain ⟨hg1a, hg1b⟩ := hg19
  have hg29 := hg2
  obtain ⟨hg2a, hg2b⟩ := hg29
  have hg39 := hg3
  obtain ⟨hg3a, hg3b⟩ := hg39
  have hx29 := hx2
  obtain ⟨hx2a, hx2b⟩ := hx29
  have hx49 := hx4
  obtain ⟨hx4a, hx4b⟩ := hx49
  have hx119 := hx11
  obtain ⟨hx110, hx111, hx112, hx113⟩ := hx119
  have hbn := bN_le c
  obtain ⟨hcv, hag, hsg⟩ := hall c
  have hcv0 := hcv.1
  have hag0 := hag.1
  have hsg0 := hsg.1
  obtain ⟨hk1, hk2⟩ := cB_le c
  have hHc := hhs c
  refine rn_lv [(0, .ref (k_b X.1 + (xo))), (1, .int (nI (a))), (2, .int (nI (b)))] (fun q h => h) ?_
  refine rn_iload_n C dX11_same_0 rfl ?_
  refine rs_sv C dX11_same_1 mk_X11_requirePlace ls_X11_173 (cv_rpl (a := a) (by omega)) rfl rfl (by decide) (Nat.le_of_ble_eq_true rfl) (by decide) (by decide) ?_
  refine rn_iload_n C dX11_same_4 rfl ?_
  refine rs_sv C dX11_same_5 mk_X11_requirePlace ls_X11_173 (cv_rpl (a := b) (by omega)) rfl rfl (by decide) (Nat.le_of_ble_eq_true rfl) (by decide) (by decide) ?_
  refine rn_aload_n C dX11_same_8 rfl ?_
  refine rs_get C dX11_same_9 fl_X11_49 hX0 rfl ?_
  refine rn_iload_n C dX11_same_12 rfl ?_
  refine rs_iaload C dX11_same_13 hx10 rfl (by omega) (by decide) ?_
  rw [show S.1 (xo + 10) (a) = nI (bN c) from hca]
  refine rn_aload_n C dX11_same_14 rfl ?_
  refine rs_get C dX11_same_15 fl_X11_49 hX0 rfl ?_
  refine rn_iload_n C dX11_same_18 rfl ?_
  refine rs_iaload C dX11_same_19 hx10 rfl (by omega) (by decide) ?_
  rw [show S.1 (xo + 10) (b) = nI (bN c) from hcb]
  refine rn_icmp_ne (tgt := 56) C dX11_same_20 (by decide) (fun hb => absurd rfl hb) (fun _ => ?_)
  refine rn_aload_n C dX11_same_23 rfl ?_
  refine rs_get C dX11_same_24 fl_X11_27 hX0 rfl ?_
  refine rn_aload_n C dX11_same_27 rfl ?_
  refine rs_get C dX11_same_28 fl_X11_49 hX0 rfl ?_
  refine rn_iload_n C dX11_same_31 rfl ?_
  refine rs_iaload C dX11_same_32 hx10 rfl (by omega) (by decide) ?_
  rw [show S.1 (xo + 10) (a) = nI (bN c) from hca]
  refine rs_aaload C dX11_same_33 hx6 rfl rfl (by omega) (by decide) (if_pos (by omega)) ?_
  refine rn_aload_n C dX11_same_34 rfl ?_
  refine rs_get C dX11_same_35 fl_X11_45 hX0 rfl ?_
  refine rn_iload_n C dX11_same_38 rfl ?_
  refine rs_aaload C dX11_same_39 hx9 rfl rfl (by omega) (by decide) (if_pos (by omega)) ?_
  refine rn_aload_n C dX11_same_40 rfl ?_
  refine rs_get C dX11_same_41 fl_X11_45 hX0 rfl ?_
  refine rn_iload_n C dX11_same_44 rfl ?_
  refine rs_aaload C dX11_same_45 hx9 rfl rfl (by omega) (by decide) (if_pos (by omega)) ?_
  refine rs_vz C dX11_same_46 mk_X1_areEqual lv_X11_198 (c_cEq hcv (hpl a (by omega)) (hpl b (by omega))) hcv0 rfl rfl rfl rfl (by decide) (Nat.le_of_ble_eq_true rfl) (by decide) (by decide) ?_
  rw [show (cEq_f c (xo + 39 + 147 * bN c) (xo + 29 + 147 * bN c) (xo + 323 + 4 * a) (xo + 323 + 4 * b) S).2.2.2 = S.2.2 from (cEq_F c (xo + 39 + 147 * bN c) (xo + 29 + 147 * bN c) (xo + 323 + 4 * a) (xo + 323 + 4 * b) S)]
  rw [show (cEq_f c (xo + 39 + 147 * bN c) (xo + 29 + 147 * bN c) (xo + 323 + 4 * a) (xo + 323 + 4 * b) S).2.1 = S.1 from cEq_I c (xo + 39 + 147 * bN c) (xo + 29 + 147 * bN c) (xo + 323 + 4 * a) (xo + 323 + 4 * b) S]
  generalize hr1 : cEq_f c (xo + 39 + 147 * bN c) (xo + 29 + 147 * bN c) (xo + 323 + 4 * a) (xo + 323 + 4 * b) S = r1
  refine rn_if_eq (tgt := 56) C dX11_same_49 (by decide) (fun hb2 => ?_) (fun hb2 => ?_)
  · skip
    refine rn_iconst (v := nI 0) C dX11_same_56 rfl ?_
    have hret : xsame_f c xo a b S = (nI (0), (S.1, r1.2.2.1, S.2.2)) := by
      subst hr1
      first | (dsimp only [xsame_f]; done) | (dsimp only [xsame_f]; exact (if_pos hb2)) | exact (if_pos hb2)
    exact rn_zret C Rt dX11_same_57 (by first | rfl | exact rfl) (pi_of hret) (Nat.zero_le _) (Nat.zero_le _)
  · skip
    refine rn_iconst (v := nI 1) C dX11_same_52 rfl ?_
    refine rn_goto (tgt := 57) C dX11_same_53 (by decide) ?_
    have hret : xsame_f c xo a b S = (nI (1), (S.1, r1.2.2.1, S.2.2)) := by
      subst hr1
      first | (dsimp only [xsame_f]; done) | (dsimp only [xsame_f]; exact (if_neg hb2)) | exact (if_neg hb2)
    exact rn_zret C Rt dX11_same_57 (by first | rfl | exact rfl) (pi_of hret) (Nat.zero_le _) (Nat.zero_le _)
def xsameY_f (xo : Nat) (a : Nat) (b : Nat) (S : StT) : Int32 × StT := (nI (0), S)
theorem xsameY_F (xo : Nat) (a : Nat) (b : Nat) (S : StT) : (xsameY_f xo a b S).2.2.2 = S.2.2 := by
  unfold xsameY_f; first | rfl | ((repeat' split) <;> rfl) | (dsimp only; (repeat' split) <;> rfl)
set_option maxRecDepth 100000 in
set_option maxHeartbeats 300000 in
theorem c_xsameY {k : KX} {L : Nat → Option Sh} {S : StT} {n : Nat} {xo : Nat} {a : Nat} {b : Nat} (hX : SuiteAt k L xo) (ha3 : a < 3) (hb3 : b < 3) (hne : ¬ S.1 (xo + 10) a = S.1 (xo + 10) b) :
    Cs k yX11_same cX11_same 3 (some .boolean) 5 0 0 [.ref (k_b k + (xo)), .int (nI (a)), .int (nI (b))] (inst k L S.1 S.2.1 S.2.2) n (Pi k L n (xsameY_f xo a b S)) := by
  refine cs_of (by decide) (Nat.le_of_ble_eq_true rfl) ?_
  intro X hXk C Rt hnm
  subst hXk
  have hX9 := hX
  obtain ⟨hX0, hx1, hx2, hx4, hx6, hx7, hx8, hx9, hx10, hx11, hg0, hg1, hg2, hg3, hhs, hall, hpl⟩ := hX9
  have hg09 := hg0
  obtain ⟨hg0a, hg0b⟩ := hg09
  have hg19 := hg1
  obtain ⟨hg1a, hg1b⟩ := hg19
  have hg29 := hg2
  obtain ⟨hg2a, hg2b⟩ := hg29
  have hg39 := hg3
  obtain ⟨hg3a, hg3b⟩ := hg39
  have hx29 := hx2
  obtain ⟨hx2a, hx2b⟩ := hx29
  have hx49 := hx4
  obtain ⟨hx4a, hx4b⟩ := hx49
  have hx119 := hx11
  obtain ⟨hx110, hx111, hx112, hx113⟩ := hx119
  refine rn_lv [(0, .ref (k_b X.1 + (xo))), (1, .int (nI (a))), (2, .int (nI (b)))] (fun q h => h) ?_
  refine rn_iload_n C dX11_same_0 rfl ?_
  refine rs_sv C dX11_same_1 mk_X11_requirePlace ls_X11_173 (cv_rpl (a := a) (by omega)) rfl rfl (by decide) (Nat.le_of_ble_eq_true rfl) (by decide) (by decide) ?_
  refine rn_iload_n C dX11_same_4 rfl ?_
  refine rs_sv C dX11_same_5 mk_X11_requirePlace ls_X11_173 (cv_rpl (a := b) (by omega)) rfl rfl (by decide) (Nat.le_of_ble_eq_true rfl) (by decide) (by decide) ?_
  refine rn_aload_n C dX11_same_8 rfl ?_
  refine rs_get C dX11_same_9 fl_X11_49 hX0 rfl ?_
  refine rn_iload_n C dX11_same_12 rfl ?_
  refine rs_iaload C dX11_same_13 hx10 rfl (by omega) (by decide) ?_
  refine rn_aload_n C dX11_same_14 rfl ?_
  refine rs_get C dX11_same_15 fl_X11_49 hX0 rfl ?_
  refine rn_iload_n C dX11_same_18 rfl ?_
  refine rs_iaload C dX11_same_19 hx10 rfl (by omega) (by decide) ?_
  refine rn_icmp_ne (tgt := 56) C dX11_same_20 (by decide) (fun _ => ?_) (fun hb => absurd hb hne)
  refine rn_iconst (v := nI 0) C dX11_same_56 rfl ?_
  have hret : xsameY_f xo a b S = (nI (0), S) := by
    first | (dsimp only [xsameY_f]; done) | (dsimp only [xsameY_f]; exact rfl) | exact rfl
  exact rn_zret C Rt dX11_same_57 (by first | rfl | exact rfl) (pi_of hret) (Nat.zero_le _) (Nat.zero_le _)
def xorder0_f (c : Bool) (xo : Nat) (a : Nat) (S : StT) : Int32 × StT := (let r1 := cisN_f c (xo + 39 + 147 * bN c) (xo + 29 + 147 * bN c) (xo + 323 + 4 * a) S; (nI ((if (r1.1) = 0 then 0 else 1)), (S.1, r1.2.2.1, S.2.2)))
theorem xorder0_F (c : Bool) (xo : Nat) (a : Nat) (S : StT) : (xorder0_f c xo a S).2.2.2 = S.2.2 := by
  unfold xorder0_f; first | rfl | ((repeat' split) <;> rfl) | (dsimp only; (repeat' split) <;> rfl)
set_option maxRecDepth 100000 in
set_option maxHeartbeats 300000 in
theorem c_xorder0 {k : KX} {L : Nat → Option Sh} {S : StT} {n : Nat} {c : Bool} {xo : Nat} {a : Nat} (hX : SuiteAt k L xo) (ha3 : a < 3) (hca : S.1 (xo + 10) a = nI (bN c)) :
    Cs k yX11_order cX11_order 4 (some .int) 6 0 0 [.ref (k_b k + (xo)), .int (nI (a)), .int (nI (0))] (inst k L S.1 S.2.1 S.2.2) n (Pi k L n (xorder0_f c xo a S)) := by
  refine cs_of (by decide) (Nat.le_of_ble_eq_true rfl) ?_
  intro X hXk C Rt hnm
  subst hXk
  have hX9 := hX
  obtain ⟨hX0, hx1, hx2, hx4, hx6, hx7, hx8, hx9, hx10, hx11, hg0, hg1, hg2, hg3, hhs, hall, hpl⟩ := hX9
  have hg09 := hg0
  obtain ⟨hg0a, hg0b⟩ := hg09
  have hg19 := hg1
  obtain ⟨hg1a, hg1b⟩ := hg19
  have hg29 := hg2
  obtain ⟨hg2a, hg2b⟩ := hg29
  have hg39 := hg3
  obtain ⟨hg3a, hg3b⟩ := hg39
  have hx29 := hx2
  obtain ⟨hx2a, hx2b⟩ := hx29
  have hx49 := hx4
  obtain ⟨hx4a, hx4b⟩ := hx49
  have hx119 := hx11
  obtain ⟨hx110, hx111, hx112, hx113⟩ := hx119
  have hbn := bN_le c
  obtain ⟨hcv, hag, hsg⟩ := hall c
  have hcv0 := hcv.1
  have hag0 := hag.1
  have hsg0 := hsg.1
  obtain ⟨hk1, hk2⟩ := cB_le c
  have hHc := hhs c
  refine rn_lv [(0, .ref (k_b X.1 + (xo))), (1, .int (nI (a))), (2, .int (nI (0)))] (fun q h => h) ?_
  refine rn_iload_n C dX11_order_0 rfl ?_
  refine rs_sv C dX11_order_1 mk_X11_requirePlace ls_X11_173 (cv_rpl (a := a) (by omega)) rfl rfl (by decide) (Nat.le_of_ble_eq_true rfl) (by decide) (by decide) ?_
  refine rn_iload_n C dX11_order_4 rfl ?_
  refine rn_if_lt (tgt := 13) C dX11_order_5 (by decide) (fun hb => absurd hb (show ¬ (nI (0)) < 0 from by decide)) (fun hb => ?_)
  refine rn_iload_n C dX11_order_8 rfl ?_
  refine rn_iconst (v := nI 2) C dX11_order_9 rfl ?_
  refine rn_icmp_le (tgt := 23) C dX11_order_10 (by decide) (fun hb => ?_) (fun hb => absurd (show (nI (0)) ≤ (nI (2)) from by decide) hb)
  refine rn_aload_n C dX11_order_23 rfl ?_
  refine rs_get C dX11_order_24 fl_X11_27 hX0 rfl ?_
  refine rn_aload_n C dX11_order_27 rfl ?_
  refine rs_get C dX11_order_28 fl_X11_49 hX0 rfl ?_
  refine rn_iload_n C dX11_order_31 rfl ?_
  refine rs_iaload C dX11_order_32 hx10 rfl (by omega) (by decide) ?_
  rw [show S.1 (xo + 10) (a) = nI (bN c) from hca]
  refine rs_aaload C dX11_order_33 hx6 rfl rfl (by omega) (by decide) (if_pos (by omega)) ?_
  refine rn_astore_n (lv' := [(0, _), (1, _), (2, _), (3, _)]) C dX11_order_34 (by decide) rfl ?_
  refine rn_iload_n C dX11_order_35 rfl ?_
  refine rn_if_ne (tgt := 58) C dX11_order_36 (by decide) (fun hb => absurd (show (nI (0)) = 0 from by decide) hb) (fun _ => ?_)
  refine rn_aload_n C dX11_order_39 rfl ?_
  refine rn_aload_n C dX11_order_40 rfl ?_
  refine rs_get C dX11_order_41 fl_X11_45 hX0 rfl ?_
  refine rn_iload_n C dX11_order_44 rfl ?_
  refine rs_aaload C dX11_order_45 hx9 rfl rfl (by omega) (by decide) (if_pos (by omega)) ?_
  refine rs_vz C dX11_order_46 mk_X1_isNeutral lv_X11_204 (c_cisN hcv (hpl a (by omega))) hcv0 rfl rfl rfl rfl (by decide) (Nat.le_of_ble_eq_true rfl) (by decide) (by decide) ?_
  rw [show (cisN_f c (xo + 39 + 147 * bN c) (xo + 29 + 147 * bN c) (xo + 323 + 4 * a) S).2.2.2 = S.2.2 from (cisN_F c (xo + 39 + 147 * bN c) (xo + 29 + 147 * bN c) (xo + 323 + 4 * a) S)]
  rw [show (cisN_f c (xo + 39 + 147 * bN c) (xo + 29 + 147 * bN c) (xo + 323 + 4 * a) S).2.1 = S.1 from cisN_I c (xo + 39 + 147 * bN c) (xo + 29 + 147 * bN c) (xo + 323 + 4 * a) S]
  generalize hr1 : cisN_f c (xo + 39 + 147 * bN c) (xo + 29 + 147 * bN c) (xo + 323 + 4 * a) S = r1
  have K49_2 : Rn X 57 [(0, .ref (k_b X.1 + (xo))), (1, .int (nI (a))), (2, .int (nI (0))), (3, .ref (k_b X.1 + (xo + 39 + 147 * bN c)))] [.int (nI ((if (r1.1) = 0 then 0 else 1)))] (inst X.1 L S.1 r1.2.2.1 S.2.2) n 0 0 := by
    have hret : xorder0_f c xo a S = (nI ((if (r1.1) = 0 then 0 else 1)), (S.1, r1.2.2.1, S.2.2)) := by
      subst hr1
      first | (dsimp only [xorder0_f]; done) | (dsimp only [xorder0_f]; exact rfl) | exact rfl
    exact rn_iret C Rt dX11_order_57 (pi_of hret) (Nat.zero_le _) (Nat.zero_le _)
  refine rn_if_eq (tgt := 56) C dX11_order_49 (by decide) (fun hb2 => ?_) (fun hb2 => ?_)
  · skip
    refine rn_iconst (v := nI 0) C dX11_order_56 rfl ?_
    rw [if_pos hb2] at K49_2
    exact K49_2
  · skip
    refine rn_iconst (v := nI 1) C dX11_order_52 rfl ?_
    refine rn_goto (tgt := 57) C dX11_order_53 (by decide) ?_
    rw [if_neg hb2] at K49_2
    exact K49_2
def xorder1_f (c : Bool) (xo : Nat) (a : Nat) (S : StT) : Int32 × StT := (let r1 := csmall_f c (xo + 39 + 147 * bN c) (xo + 29 + 147 * bN c) (xo + 323 + 4 * a) S; (r1.1, (r1.2.1, r1.2.2.1, r1.2.2.2)))
set_option maxRecDepth 100000 in
set_option maxHeartbeats 300000 in
theorem c_xorder1 {k : KX} {L : Nat → Option Sh} {S : StT} {n : Nat} {c : Bool} {xo : Nat} {a : Nat} (hX : SuiteAt k L xo) (ha3 : a < 3) (hca : S.1 (xo + 10) a = nI (bN c)) :
    Cs k yX11_order cX11_order 4 (some .int) 6 0 0 [.ref (k_b k + (xo)), .int (nI (a)), .int (nI (1))] (inst k L S.1 S.2.1 S.2.2) n (Pi k L n (xorder1_f c xo a S)) := by
  refine cs_of (by decide) (Nat.le_of_ble_eq_true rfl) ?_
  intro X hXk C Rt hnm
  subst hXk
  have hX9 := hX
  obtain ⟨hX0, hx1, hx2, hx4, hx6, hx7, hx8, hx9, hx10, hx11, hg0, hg1, hg2, hg3, hhs, hall, hpl⟩ := hX9
  have hg09 := hg0
  obtain ⟨hg0a, hg0b⟩ := hg09
  have hg19 := hg1
  obtain ⟨hg1a, hg1b⟩ := hg19
  have hg29 := hg2
  obtain ⟨hg2a, hg2b⟩ := hg29
  have hg39 := hg3
  obtain ⟨hg3a, hg3b⟩ := hg39
  have hx29 := hx2
  obtain ⟨hx2a, hx2b⟩ := hx29
  have hx49 := hx4
  obtain ⟨hx4a, hx4b⟩ := hx49
  have hx119 := hx11
  obtain ⟨hx110, hx111, hx112, hx113⟩ := hx119
  have hbn := bN_le c
  obtain ⟨hcv, hag, hsg⟩ := hall c
  have hcv0 := hcv.1
  have hag0 := hag.1
  have hsg0 := hsg.1
  obtain ⟨hk1, hk2⟩ := cB_le c
  have hHc := hhs c
  refine rn_lv [(0, .ref (k_b X.1 + (xo))), (1, .int (nI (a))), (2, .int (nI (1)))] (fun q h => h) ?_
  refine rn_iload_n C dX11_order_0 rfl ?_
  refine rs_sv C dX11_order_1 mk_X11_requirePlace ls_X11_173 (cv_rpl (a := a) (by omega)) rfl rfl (by decide) (Nat.le_of_ble_eq_true rfl) (by decide) (by decide) ?_
  refine rn_iload_n C dX11_order_4 rfl ?_
  refine rn_if_lt (tgt := 13) C dX11_order_5 (by decide) (fun hb => absurd hb (show ¬ (nI (1)) < 0 from by decide)) (fun hb => ?_)
  refine rn_iload_n C dX11_order_8 rfl ?_
  refine rn_iconst (v := nI 2) C dX11_order_9 rfl ?_
  refine rn_icmp_le (tgt := 23) C dX11_order_10 (by decide) (fun hb => ?_) (fun hb => absurd (show (nI (1)) ≤ (nI (2)) from by decide) hb)
  refine rn_aload_n C dX11_order_23 rfl ?_
  refine rs_get C dX11_order_24 fl_X11_27 hX0 rfl ?_
  refine rn_aload_n C dX11_order_27 rfl ?_
  refine rs_get C dX11_order_28 fl_X11_49 hX0 rfl ?_
  refine rn_iload_n C dX11_order_31 rfl ?_
  refine rs_iaload C dX11_order_32 hx10 rfl (by omega) (by decide) ?_
  rw [show S.1 (xo + 10) (a) = nI (bN c) from hca]
  refine rs_aaload C dX11_order_33 hx6 rfl rfl (by omega) (by decide) (if_pos (by omega)) ?_
  refine rn_astore_n (lv' := [(0, _), (1, _), (2, _), (3, _)]) C dX11_order_34 (by decide) rfl ?_
  refine rn_iload_n C dX11_order_35 rfl ?_
  refine rn_if_ne (tgt := 58) C dX11_order_36 (by decide) (fun _ => ?_) (fun hb => absurd hb (show ¬ (nI (1)) = 0 from by decide))
  refine rn_iload_n C dX11_order_58 rfl ?_
  refine rn_iconst (v := nI 1) C dX11_order_59 rfl ?_
  refine rn_icmp_ne (tgt := 76) C dX11_order_60 (by decide) (fun hb => absurd (show (nI (1)) = (nI (1)) from by decide) hb) (fun _ => ?_)
  refine rn_aload_n C dX11_order_63 rfl ?_
  refine rn_aload_n C dX11_order_64 rfl ?_
  refine rs_get C dX11_order_65 fl_X11_45 hX0 rfl ?_
  refine rn_iload_n C dX11_order_68 rfl ?_
  refine rs_aaload C dX11_order_69 hx9 rfl rfl (by omega) (by decide) (if_pos (by omega)) ?_
  refine rs_vi C dX11_order_70 mk_X1_smallOrder lv_X11_208 (c_csmall hcv (hpl a (by omega))) hcv0 rfl rfl rfl rfl (by decide) (Nat.le_of_ble_eq_true rfl) (by decide) (by decide) ?_
  generalize hr1 : csmall_f c (xo + 39 + 147 * bN c) (xo + 29 + 147 * bN c) (xo + 323 + 4 * a) S = r1
  refine rn_goto (tgt := 82) C dX11_order_73 (by decide) ?_
  have hret : xorder1_f c xo a S = (r1.1, (r1.2.1, r1.2.2.1, r1.2.2.2)) := by
    subst hr1
    first | (dsimp only [xorder1_f]; done) | (dsimp only [xorder1_f]; exact rfl) | exact rfl
  exact rn_iret C Rt dX11_order_82 (pi_of hret) (Nat.zero_le _) (Nat.zero_le _)
def xorder2_f (c : Bool) (xo : Nat) (a : Nat) (S : StT) : Int32 × StT := (S.1 (xo + 10) (a), S)
theorem xorder2_F (c : Bool) (xo : Nat) (a : Nat) (S : StT) : (xorder2_f c xo a S).2.2.2 = S.2.2 := by
  unfold xorder2_f; first | rfl | ((repeat' split) <;> rfl) | (dsimp only; (repeat' split) <;> rfl)
set_option maxRecDepth 100000 in
set_option maxHeartbeats 300000 in
theorem c_xorder2 {k : KX} {L : Nat → Option Sh} {S : StT} {n : Nat} {c : Bool} {xo : Nat} {a : Nat} (hX : SuiteAt k L xo) (ha3 : a < 3) (hca : S.1 (xo + 10) a = nI (bN c)) :
    Cs k yX11_order cX11_order 4 (some .int) 6 0 0 [.ref (k_b k + (xo)), .int (nI (a)), .int (nI (2))] (inst k L S.1 S.2.1 S.2.2) n (Pi k L n (xorder2_f c xo a S)) := by
  refine cs_of (by decide) (Nat.le_of_ble_eq_true rfl) ?_
  intro X hXk C Rt hnm
  subst hXk
  have hX9 := hX
  obtain ⟨hX0, hx1, hx2, hx4, hx6, hx7, hx8, hx9, hx10, hx11, hg0, hg1, hg2, hg3, hhs, hall, hpl⟩ := hX9
  have hg09 := hg0
  obtain ⟨hg0a, hg0b⟩ := hg09
  have hg19 := hg1
  obtain ⟨hg1a, hg1b⟩ := hg19
  have hg29 := hg2
  obtain ⟨hg2a, hg2b⟩ := hg29
  have hg39 := hg3
  obtain ⟨hg3a, hg3b⟩ := hg39
  have hx29 := hx2
  obtain ⟨hx2a, hx2b⟩ := hx29
  have hx49 := hx4
  obtain ⟨hx4a, hx4b⟩ := hx49
  have hx119 := hx11
  obtain ⟨hx110, hx111, hx112, hx113⟩ := hx119
  have hbn := bN_le c
  obtain ⟨hcv, hag, hsg⟩ := hall c
  have hcv0 := hcv.1
  have hag0 := hag.1
  have hsg0 := hsg.1
  obtain ⟨hk1, hk2⟩ := cB_le c
  have hHc := hhs c
  refine rn_lv [(0, .ref (k_b X.1 + (xo))), (1, .int (nI (a))), (2, .int (nI (2)))] (fun q h => h) ?_
  refine rn_iload_n C dX11_order_0 rfl ?_
  refine rs_sv C dX11_order_1 mk_X11_requirePlace ls_X11_173 (cv_rpl (a := a) (by omega)) rfl rfl (by decide) (Nat.le_of_ble_eq_true rfl) (by decide) (by decide) ?_
  refine rn_iload_n C dX11_order_4 rfl ?_
  refine rn_if_lt (tgt := 13) C dX11_order_5 (by decide) (fun hb => absurd hb (show ¬ (nI (2)) < 0 from by decide)) (fun hb => ?_)
  refine rn_iload_n C dX11_order_8 rfl ?_
  refine rn_iconst (v := nI 2) C dX11_order_9 rfl ?_
  refine rn_icmp_le (tgt := 23) C dX11_order_10 (by decide) (fun hb => ?_) (fun hb => absurd (show (nI (2)) ≤ (nI (2)) from by decide) hb)
  refine rn_aload_n C dX11_order_23 rfl ?_
  refine rs_get C dX11_order_24 fl_X11_27 hX0 rfl ?_
  refine rn_aload_n C dX11_order_27 rfl ?_
  refine rs_get C dX11_order_28 fl_X11_49 hX0 rfl ?_
  refine rn_iload_n C dX11_order_31 rfl ?_
  refine rs_iaload C dX11_order_32 hx10 rfl (by omega) (by decide) ?_
  rw [show S.1 (xo + 10) (a) = nI (bN c) from hca]
  refine rs_aaload C dX11_order_33 hx6 rfl rfl (by omega) (by decide) (if_pos (by omega)) ?_
  refine rn_astore_n (lv' := [(0, _), (1, _), (2, _), (3, _)]) C dX11_order_34 (by decide) rfl ?_
  refine rn_iload_n C dX11_order_35 rfl ?_
  refine rn_if_ne (tgt := 58) C dX11_order_36 (by decide) (fun _ => ?_) (fun hb => absurd hb (show ¬ (nI (2)) = 0 from by decide))
  refine rn_iload_n C dX11_order_58 rfl ?_
  refine rn_iconst (v := nI 1) C dX11_order_59 rfl ?_
  refine rn_icmp_ne (tgt := 76) C dX11_order_60 (by decide) (fun _ => ?_) (fun hb => absurd hb (show ¬ (nI (2)) = (nI (1)) from by decide))
  refine rn_aload_n C dX11_order_76 rfl ?_
  refine rs_get C dX11_order_77 fl_X11_49 hX0 rfl ?_
  refine rn_iload_n C dX11_order_80 rfl ?_
  refine rs_iaload C dX11_order_81 hx10 rfl (by omega) (by decide) ?_
  have hret : xorder2_f c xo a S = (S.1 (xo + 10) (a), S) := by
    first | (dsimp only [xorder2_f]; done) | (dsimp only [xorder2_f]; exact rfl) | exact rfl
  exact rn_iret C Rt dX11_order_82 (pi_of hret) (Nat.zero_le _) (Nat.zero_le _)
