/-! CurveSuite$Curve, CurveSuite$Agreement: methods as functions of the contents, by program (dc.py, spec_curve.py) -/
def csum_f (c : Bool) (co : Nat) (fo : Nat) (to : Nat) (p : Nat) (q : Nat) (S : StT) : StT := (let S1 := mul_f c (fo) (co + 10) (p + 1) (q + 1) (sqr_f c (fo) (co + 9) (co + 8) (mul_f c (fo) (co + 8) (p + 3) (q + 3) S)); (let S2 := mul_f c (fo) (co + 12) (co + 12) (co + 19) (mul_f c (fo) (co + 12) (co + 10) (co + 11) (mul_f c (fo) (co + 11) (p + 2) (q + 2) S1)); (let S3 := plus_f c (co + 15) (p + 1) (p + 2) (plus_f c (co + 14) (co + 9) (co + 12) (minus_f c (co + 13) (co + 9) (co + 12) S2)); (let S4 := plus_f c (co + 12) (co + 11) (co + 10) (mul_f c (fo) (co + 15) (co + 15) (co + 9) (plus_f c (co + 9) (q + 1) (q + 2) S3)); (if (bI c) = 0 then (let S6 := mul_f c (fo) (co + 13) (co + 13) (co + 8) (mul_f c (fo) (to + 3) (co + 13) (co + 14) (minus_f c (co + 15) (co + 15) (co + 12) S4)); (let S7 := mul_f c (fo) (to + 2) (co + 14) (co + 12) (mul_f c (fo) (co + 14) (co + 14) (co + 8) (mul_f c (fo) (to + 1) (co + 13) (co + 15) S6)); S7)) else (let S8 := mul_f c (fo) (to + 3) (co + 13) (co + 14) (minus_f c (co + 12) (co + 11) (co + 10) (minus_f c (co + 15) (co + 15) (co + 12) S4)); (let S9 := mul_f c (fo) (co + 14) (co + 14) (co + 8) (mul_f c (fo) (to + 1) (co + 13) (co + 15) (mul_f c (fo) (co + 13) (co + 13) (co + 8) S8)); mul_f c (fo) (to + 2) (co + 14) (co + 12) S9)))))))
set_option maxRecDepth 100000 in
set_option maxHeartbeats 4000000 in
theorem c_csum {k : KX} {L : Nat → Option Sh} {S : StT} {n : Nat} {c : Bool} {co : Nat} {fo : Nat} {to : Nat} {p : Nat} {q : Nat} (hC : CurveAt k L co fo c) (hto : PtAt k L to) (hp : PtAt k L p) (hq : PtAt k L q) :
    Cs k yX1_sum cX1_sum 4 none 2 0 0 [.ref (k_b k + (co)), .ref (k_b k + (to)), .ref (k_b k + (p)), .ref (k_b k + (q))] (inst k L S.1 S.2.1 S.2.2) n (Pv k L n (csum_f c co fo to p q S)) := by
  refine cs_of (by decide) (Nat.le_of_ble_eq_true rfl) ?_
  intro X hXk C Rt hnm
  subst hXk
  have hC9 := hC
  obtain ⟨hC0, hF, hc1, hc2, hc3, hc4, hc5, hc6, hc7, hc8, hcr, hcd, hct, hff, hdg, hca, hbs, htb⟩ := hC9
  have hF9 := hF
  obtain ⟨hF0, -⟩ := hF9
  have hff9 := hff
  obtain ⟨hff0, hff1, hff2, hff3⟩ := hff9
  have hto9 := hto
  obtain ⟨hto0, hto1, hto2, hto3⟩ := hto9
  have hp9 := hp
  obtain ⟨hp0, hp1, hp2, hp3⟩ := hp9
  have hq9 := hq
  obtain ⟨hq0, hq1, hq2, hq3⟩ := hq9
  refine rn_lv [(0, .ref (k_b X.1 + (co))), (1, .ref (k_b X.1 + (to))), (2, .ref (k_b X.1 + (p))), (3, .ref (k_b X.1 + (q)))] (fun q h => h) ?_
  refine rn_aload_n C dX1_sum_0 rfl ?_
  refine rs_get C dX1_sum_1 fl_X1_60 hC0 rfl ?_
  refine rn_aload_n C dX1_sum_4 rfl ?_
  refine rs_get C dX1_sum_5 fl_X1_31 hC0 rfl ?_
  refine rn_aload_n C dX1_sum_8 rfl ?_
  refine rs_get C dX1_sum_9 fl_X1_110 hp0 rfl ?_
  refine rn_aload_n C dX1_sum_12 rfl ?_
  refine rs_get C dX1_sum_13 fl_X1_110 hq0 rfl ?_
  refine rs_vv C dX1_sum_16 mk_X3_multiply lv_X1_113 (c_mul hF hc1 hp3 hq3) hF0 rfl rfl rfl rfl (by decide) (Nat.le_of_ble_eq_true rfl) (by decide) (by decide) ?_
  refine rn_aload_n C dX1_sum_19 rfl ?_
  refine rs_get C dX1_sum_20 fl_X1_60 hC0 rfl ?_
  refine rn_aload_n C dX1_sum_23 rfl ?_
  refine rs_get C dX1_sum_24 fl_X1_35 hC0 rfl ?_
  refine rn_aload_n C dX1_sum_27 rfl ?_
  refine rs_get C dX1_sum_28 fl_X1_31 hC0 rfl ?_
  refine rs_vv C dX1_sum_31 mk_X3_square lv_X1_117 (c_sqr hF hc2 hc1) hF0 rfl rfl rfl rfl (by decide) (Nat.le_of_ble_eq_true rfl) (by decide) (by decide) ?_
  refine rn_aload_n C dX1_sum_34 rfl ?_
  refine rs_get C dX1_sum_35 fl_X1_60 hC0 rfl ?_
  refine rn_aload_n C dX1_sum_38 rfl ?_
  refine rs_get C dX1_sum_39 fl_X1_38 hC0 rfl ?_
  refine rn_aload_n C dX1_sum_42 rfl ?_
  refine rs_get C dX1_sum_43 fl_X1_90 hp0 rfl ?_
  refine rn_aload_n C dX1_sum_46 rfl ?_
  refine rs_get C dX1_sum_47 fl_X1_90 hq0 rfl ?_
  refine rs_vv C dX1_sum_50 mk_X3_multiply lv_X1_113 (c_mul hF hc3 hp1 hq1) hF0 rfl rfl rfl rfl (by decide) (Nat.le_of_ble_eq_true rfl) (by decide) (by decide) ?_
  refine rn_aload_n C dX1_sum_53 rfl ?_
  refine rs_get C dX1_sum_54 fl_X1_60 hC0 rfl ?_
  refine rn_aload_n C dX1_sum_57 rfl ?_
  refine rs_get C dX1_sum_58 fl_X1_41 hC0 rfl ?_
  refine rn_aload_n C dX1_sum_61 rfl ?_
  refine rs_get C dX1_sum_62 fl_X1_100 hp0 rfl ?_
  refine rn_aload_n C dX1_sum_65 rfl ?_
  refine rs_get C dX1_sum_66 fl_X1_100 hq0 rfl ?_
  refine rs_vv C dX1_sum_69 mk_X3_multiply lv_X1_113 (c_mul hF hc4 hp2 hq2) hF0 rfl rfl rfl rfl (by decide) (Nat.le_of_ble_eq_true rfl) (by decide) (by decide) ?_
  refine rn_aload_n C dX1_sum_72 rfl ?_
  refine rs_get C dX1_sum_73 fl_X1_60 hC0 rfl ?_
  refine rn_aload_n C dX1_sum_76 rfl ?_
  refine rs_get C dX1_sum_77 fl_X1_44 hC0 rfl ?_
  refine rn_aload_n C dX1_sum_80 rfl ?_
  refine rs_get C dX1_sum_81 fl_X1_38 hC0 rfl ?_
  refine rn_aload_n C dX1_sum_84 rfl ?_
  refine rs_get C dX1_sum_85 fl_X1_41 hC0 rfl ?_
  refine rs_vv C dX1_sum_88 mk_X3_multiply lv_X1_113 (c_mul hF hc5 hc3 hc4) hF0 rfl rfl rfl rfl (by decide) (Nat.le_of_ble_eq_true rfl) (by decide) (by decide) ?_
  refine rn_aload_n C dX1_sum_91 rfl ?_
  refine rs_get C dX1_sum_92 fl_X1_60 hC0 rfl ?_
  refine rn_aload_n C dX1_sum_95 rfl ?_
  refine rs_get C dX1_sum_96 fl_X1_44 hC0 rfl ?_
  refine rn_aload_n C dX1_sum_99 rfl ?_
  refine rs_get C dX1_sum_100 fl_X1_44 hC0 rfl ?_
  refine rn_aload_n C dX1_sum_103 rfl ?_
  refine rs_get C dX1_sum_104 fl_X1_87 hC0 rfl ?_
  refine rs_vv C dX1_sum_107 mk_X3_multiply lv_X1_113 (c_mul hF hc5 hc5 hcd) hF0 rfl rfl rfl rfl (by decide) (Nat.le_of_ble_eq_true rfl) (by decide) (by decide) ?_
  refine rn_aload_n C dX1_sum_110 rfl ?_
  refine rs_get C dX1_sum_111 fl_X1_60 hC0 rfl ?_
  refine rn_aload_n C dX1_sum_114 rfl ?_
  refine rs_get C dX1_sum_115 fl_X1_47 hC0 rfl ?_
  refine rn_aload_n C dX1_sum_118 rfl ?_
  refine rs_get C dX1_sum_119 fl_X1_35 hC0 rfl ?_
  refine rn_aload_n C dX1_sum_122 rfl ?_
  refine rs_get C dX1_sum_123 fl_X1_44 hC0 rfl ?_
  refine rs_vv C dX1_sum_126 mk_X3_minus lv_X1_120 (c_minus hF hc6 hc2 hc5) hF0 rfl rfl rfl rfl (by decide) (Nat.le_of_ble_eq_true rfl) (by decide) (by decide) ?_
  refine rn_aload_n C dX1_sum_129 rfl ?_
  refine rs_get C dX1_sum_130 fl_X1_60 hC0 rfl ?_
  refine rn_aload_n C dX1_sum_133 rfl ?_
  refine rs_get C dX1_sum_134 fl_X1_50 hC0 rfl ?_
  refine rn_aload_n C dX1_sum_137 rfl ?_
  refine rs_get C dX1_sum_138 fl_X1_35 hC0 rfl ?_
  refine rn_aload_n C dX1_sum_141 rfl ?_
  refine rs_get C dX1_sum_142 fl_X1_44 hC0 rfl ?_
  refine rs_vv C dX1_sum_145 mk_X3_plus lv_X1_123 (c_plus hF hc7 hc2 hc5) hF0 rfl rfl rfl rfl (by decide) (Nat.le_of_ble_eq_true rfl) (by decide) (by decide) ?_
  refine rn_aload_n C dX1_sum_148 rfl ?_
  refine rs_get C dX1_sum_149 fl_X1_60 hC0 rfl ?_
  refine rn_aload_n C dX1_sum_152 rfl ?_
  refine rs_get C dX1_sum_153 fl_X1_53 hC0 rfl ?_
  refine rn_aload_n C dX1_sum_156 rfl ?_
  refine rs_get C dX1_sum_157 fl_X1_90 hp0 rfl ?_
  refine rn_aload_n C dX1_sum_160 rfl ?_
  refine rs_get C dX1_sum_161 fl_X1_100 hp0 rfl ?_
  refine rs_vv C dX1_sum_164 mk_X3_plus lv_X1_123 (c_plus hF hc8 hp1 hp2) hF0 rfl rfl rfl rfl (by decide) (Nat.le_of_ble_eq_true rfl) (by decide) (by decide) ?_
  refine rn_aload_n C dX1_sum_167 rfl ?_
  refine rs_get C dX1_sum_168 fl_X1_60 hC0 rfl ?_
  refine rn_aload_n C dX1_sum_171 rfl ?_
  refine rs_get C dX1_sum_172 fl_X1_35 hC0 rfl ?_
  refine rn_aload_n C dX1_sum_175 rfl ?_
  refine rs_get C dX1_sum_176 fl_X1_90 hq0 rfl ?_
  refine rn_aload_n C dX1_sum_179 rfl ?_
  refine rs_get C dX1_sum_180 fl_X1_100 hq0 rfl ?_
  refine rs_vv C dX1_sum_183 mk_X3_plus lv_X1_123 (c_plus hF hc2 hq1 hq2) hF0 rfl rfl rfl rfl (by decide) (Nat.le_of_ble_eq_true rfl) (by decide) (by decide) ?_
  refine rn_aload_n C dX1_sum_186 rfl ?_
  refine rs_get C dX1_sum_187 fl_X1_60 hC0 rfl ?_
  refine rn_aload_n C dX1_sum_190 rfl ?_
  refine rs_get C dX1_sum_191 fl_X1_53 hC0 rfl ?_
  refine rn_aload_n C dX1_sum_194 rfl ?_
  refine rs_get C dX1_sum_195 fl_X1_53 hC0 rfl ?_
  refine rn_aload_n C dX1_sum_198 rfl ?_
  refine rs_get C dX1_sum_199 fl_X1_35 hC0 rfl ?_
  refine rs_vv C dX1_sum_202 mk_X3_multiply lv_X1_113 (c_mul hF hc8 hc8 hc2) hF0 rfl rfl rfl rfl (by decide) (Nat.le_of_ble_eq_true rfl) (by decide) (by decide) ?_
  refine rn_aload_n C dX1_sum_205 rfl ?_
  refine rs_get C dX1_sum_206 fl_X1_60 hC0 rfl ?_
  refine rn_aload_n C dX1_sum_209 rfl ?_
  refine rs_get C dX1_sum_210 fl_X1_44 hC0 rfl ?_
  refine rn_aload_n C dX1_sum_213 rfl ?_
  refine rs_get C dX1_sum_214 fl_X1_41 hC0 rfl ?_
  refine rn_aload_n C dX1_sum_217 rfl ?_
  refine rs_get C dX1_sum_218 fl_X1_38 hC0 rfl ?_
  refine rs_vv C dX1_sum_221 mk_X3_plus lv_X1_123 (c_plus hF hc5 hc4 hc3) hF0 rfl rfl rfl rfl (by decide) (Nat.le_of_ble_eq_true rfl) (by decide) (by decide) ?_
  refine rn_aload_n C dX1_sum_224 rfl ?_
  refine rs_get C dX1_sum_225 fl_X1_60 hC0 rfl ?_
  refine rn_aload_n C dX1_sum_228 rfl ?_
  refine rs_get C dX1_sum_229 fl_X1_53 hC0 rfl ?_
  refine rn_aload_n C dX1_sum_232 rfl ?_
  refine rs_get C dX1_sum_233 fl_X1_53 hC0 rfl ?_
  refine rn_aload_n C dX1_sum_236 rfl ?_
  refine rs_get C dX1_sum_237 fl_X1_44 hC0 rfl ?_
  refine rs_vv C dX1_sum_240 mk_X3_minus lv_X1_120 (c_minus hF hc8 hc8 hc5) hF0 rfl rfl rfl rfl (by decide) (Nat.le_of_ble_eq_true rfl) (by decide) (by decide) ?_
  refine rn_aload_n C dX1_sum_243 rfl ?_
  refine rs_get C dX1_sum_244 fl_X1_56 hC0 rfl ?_
  refine rn_if_eq (tgt := 269) C dX1_sum_247 (by decide) (fun hb5 => ?_) (fun hb5 => ?_)
  · skip
    refine rn_aload_n C dX1_sum_269 rfl ?_
    refine rs_get C dX1_sum_270 fl_X1_60 hC0 rfl ?_
    refine rn_aload_n C dX1_sum_273 rfl ?_
    refine rs_get C dX1_sum_274 fl_X1_110 hto0 rfl ?_
    refine rn_aload_n C dX1_sum_277 rfl ?_
    refine rs_get C dX1_sum_278 fl_X1_47 hC0 rfl ?_
    refine rn_aload_n C dX1_sum_281 rfl ?_
    refine rs_get C dX1_sum_282 fl_X1_50 hC0 rfl ?_
    refine rs_vv C dX1_sum_285 mk_X3_multiply lv_X1_113 (c_mul hF hto3 hc6 hc7) hF0 rfl rfl rfl rfl (by decide) (Nat.le_of_ble_eq_true rfl) (by decide) (by decide) ?_
    refine rn_aload_n C dX1_sum_288 rfl ?_
    refine rs_get C dX1_sum_289 fl_X1_60 hC0 rfl ?_
    refine rn_aload_n C dX1_sum_292 rfl ?_
    refine rs_get C dX1_sum_293 fl_X1_47 hC0 rfl ?_
    refine rn_aload_n C dX1_sum_296 rfl ?_
    refine rs_get C dX1_sum_297 fl_X1_47 hC0 rfl ?_
    refine rn_aload_n C dX1_sum_300 rfl ?_
    refine rs_get C dX1_sum_301 fl_X1_31 hC0 rfl ?_
    refine rs_vv C dX1_sum_304 mk_X3_multiply lv_X1_113 (c_mul hF hc6 hc6 hc1) hF0 rfl rfl rfl rfl (by decide) (Nat.le_of_ble_eq_true rfl) (by decide) (by decide) ?_
    refine rn_aload_n C dX1_sum_307 rfl ?_
    refine rs_get C dX1_sum_308 fl_X1_60 hC0 rfl ?_
    refine rn_aload_n C dX1_sum_311 rfl ?_
    refine rs_get C dX1_sum_312 fl_X1_90 hto0 rfl ?_
    refine rn_aload_n C dX1_sum_315 rfl ?_
    refine rs_get C dX1_sum_316 fl_X1_47 hC0 rfl ?_
    refine rn_aload_n C dX1_sum_319 rfl ?_
    refine rs_get C dX1_sum_320 fl_X1_53 hC0 rfl ?_
    refine rs_vv C dX1_sum_323 mk_X3_multiply lv_X1_113 (c_mul hF hto1 hc6 hc8) hF0 rfl rfl rfl rfl (by decide) (Nat.le_of_ble_eq_true rfl) (by decide) (by decide) ?_
    refine rn_aload_n C dX1_sum_326 rfl ?_
    refine rs_get C dX1_sum_327 fl_X1_60 hC0 rfl ?_
    refine rn_aload_n C dX1_sum_330 rfl ?_
    refine rs_get C dX1_sum_331 fl_X1_50 hC0 rfl ?_
    refine rn_aload_n C dX1_sum_334 rfl ?_
    refine rs_get C dX1_sum_335 fl_X1_50 hC0 rfl ?_
    refine rn_aload_n C dX1_sum_338 rfl ?_
    refine rs_get C dX1_sum_339 fl_X1_31 hC0 rfl ?_
    refine rs_vv C dX1_sum_342 mk_X3_multiply lv_X1_113 (c_mul hF hc7 hc7 hc1) hF0 rfl rfl rfl rfl (by decide) (Nat.le_of_ble_eq_true rfl) (by decide) (by decide) ?_
    refine rn_aload_n C dX1_sum_345 rfl ?_
    refine rs_get C dX1_sum_346 fl_X1_60 hC0 rfl ?_
    refine rn_aload_n C dX1_sum_349 rfl ?_
    refine rs_get C dX1_sum_350 fl_X1_100 hto0 rfl ?_
    refine rn_aload_n C dX1_sum_353 rfl ?_
    refine rs_get C dX1_sum_354 fl_X1_50 hC0 rfl ?_
    refine rn_aload_n C dX1_sum_357 rfl ?_
    refine rs_get C dX1_sum_358 fl_X1_44 hC0 rfl ?_
    refine rs_vv C dX1_sum_361 mk_X3_multiply lv_X1_113 (c_mul hF hto2 hc7 hc5) hF0 rfl rfl rfl rfl (by decide) (Nat.le_of_ble_eq_true rfl) (by decide) (by decide) ?_
    exact rn_vret C Rt dX1_sum_364 (pv_of ((if_pos hb5).trans (tup _))) (Nat.zero_le _) (Nat.zero_le _)
  · skip
    refine rn_aload_n C dX1_sum_250 rfl ?_
    refine rs_get C dX1_sum_251 fl_X1_60 hC0 rfl ?_
    refine rn_aload_n C dX1_sum_254 rfl ?_
    refine rs_get C dX1_sum_255 fl_X1_44 hC0 rfl ?_
    refine rn_aload_n C dX1_sum_258 rfl ?_
    refine rs_get C dX1_sum_259 fl_X1_41 hC0 rfl ?_
    refine rn_aload_n C dX1_sum_262 rfl ?_
    refine rs_get C dX1_sum_263 fl_X1_38 hC0 rfl ?_
    refine rs_vv C dX1_sum_266 mk_X3_minus lv_X1_120 (c_minus hF hc5 hc4 hc3) hF0 rfl rfl rfl rfl (by decide) (Nat.le_of_ble_eq_true rfl) (by decide) (by decide) ?_
    refine rn_aload_n C dX1_sum_269 rfl ?_
    refine rs_get C dX1_sum_270 fl_X1_60 hC0 rfl ?_
    refine rn_aload_n C dX1_sum_273 rfl ?_
    refine rs_get C dX1_sum_274 fl_X1_110 hto0 rfl ?_
    refine rn_aload_n C dX1_sum_277 rfl ?_
    refine rs_get C dX1_sum_278 fl_X1_47 hC0 rfl ?_
    refine rn_aload_n C dX1_sum_281 rfl ?_
    refine rs_get C dX1_sum_282 fl_X1_50 hC0 rfl ?_
    refine rs_vv C dX1_sum_285 mk_X3_multiply lv_X1_113 (c_mul hF hto3 hc6 hc7) hF0 rfl rfl rfl rfl (by decide) (Nat.le_of_ble_eq_true rfl) (by decide) (by decide) ?_
    refine rn_aload_n C dX1_sum_288 rfl ?_
    refine rs_get C dX1_sum_289 fl_X1_60 hC0 rfl ?_
    refine rn_aload_n C dX1_sum_292 rfl ?_
    refine rs_get C dX1_sum_293 fl_X1_47 hC0 rfl ?_
    refine rn_aload_n C dX1_sum_296 rfl ?_
    refine rs_get C dX1_sum_297 fl_X1_47 hC0 rfl ?_
    refine rn_aload_n C dX1_sum_300 rfl ?_
    refine rs_get C dX1_sum_301 fl_X1_31 hC0 rfl ?_
    refine rs_vv C dX1_sum_304 mk_X3_multiply lv_X1_113 (c_mul hF hc6 hc6 hc1) hF0 rfl rfl rfl rfl (by decide) (Nat.le_of_ble_eq_true rfl) (by decide) (by decide) ?_
    refine rn_aload_n C dX1_sum_307 rfl ?_
    refine rs_get C dX1_sum_308 fl_X1_60 hC0 rfl ?_
    refine rn_aload_n C dX1_sum_311 rfl ?_
    refine rs_get C dX1_sum_312 fl_X1_90 hto0 rfl ?_
    refine rn_aload_n C dX1_sum_315 rfl ?_
    refine rs_get C dX1_sum_316 fl_X1_47 hC0 rfl ?_
    refine rn_aload_n C dX1_sum_319 rfl ?_
    refine rs_get C dX1_sum_320 fl_X1_53 hC0 rfl ?_
    refine rs_vv C dX1_sum_323 mk_X3_multiply lv_X1_113 (c_mul hF hto1 hc6 hc8) hF0 rfl rfl rfl rfl (by decide) (Nat.le_of_ble_eq_true rfl) (by decide) (by decide) ?_
    refine rn_aload_n C dX1_sum_326 rfl ?_
    refine rs_get C dX1_sum_327 fl_X1_60 hC0 rfl ?_
    refine rn_aload_n C dX1_sum_330 rfl ?_
    refine rs_get C dX1_sum_331 fl_X1_50 hC0 rfl ?_
    refine rn_aload_n C dX1_sum_334 rfl ?_
    refine rs_get C dX1_sum_335 fl_X1_50 hC0 rfl ?_
    refine rn_aload_n C dX1_sum_338 rfl ?_
    refine rs_get C dX1_sum_339 fl_X1_31 hC0 rfl ?_
    refine rs_vv C dX1_sum_342 mk_X3_multiply lv_X1_113 (c_mul hF hc7 hc7 hc1) hF0 rfl rfl rfl rfl (by decide) (Nat.le_of_ble_eq_true rfl) (by decide) (by decide) ?_
    refine rn_aload_n C dX1_sum_345 rfl ?_
    refine rs_get C dX1_sum_346 fl_X1_60 hC0 rfl ?_
    refine rn_aload_n C dX1_sum_349 rfl ?_
    refine rs_get C dX1_sum_350 fl_X1_100 hto0 rfl ?_
    refine rn_aload_n C dX1_sum_353 rfl ?_
    refine rs_get C dX1_sum_354 fl_X1_50 hC0 rfl ?_
    refine rn_aload_n C dX1_sum_357 rfl ?_
    refine rs_get C dX1_sum_358 fl_X1_44 hC0 rfl ?_
    refine rs_vv C dX1_sum_361 mk_X3_multiply lv_X1_113 (c_mul hF hto2 hc7 hc5) hF0 rfl rfl rfl rfl (by decide) (Nat.le_of_ble_eq_true rfl) (by decide) (by decide) ?_
    exact rn_vret C Rt dX1_sum_364 (pv_of ((if_neg hb5).trans (tup _))) (Nat.zero_le _) (Nat.zero_le _)
def ctwice_f (c : Bool) (co : Nat) (fo : Nat) (to : Nat) (p : Nat) (S : StT) : StT := (let S1 := sqr_f c (fo) (co + 10) (p + 1) (sqr_f c (fo) (co + 9) (co + 9) (plus_f c (co + 9) (p + 1) (p + 2) S)); (let S2 := plus_f c (co + 12) (co + 11) (co + 10) (sqr_f c (fo) (co + 15) (p + 3) (sqr_f c (fo) (co + 11) (p + 2) S1)); (if (bI c) = 0 then (let S5 := plus_f c (co + 15) (co + 15) (co + 15) (minus_f c (co + 9) (co + 9) (co + 12) (minus_f c (co + 14) (co + 11) (co + 10) S2)); (let S6 := mul_f c (fo) (to + 2) (co + 12) (co + 14) (mul_f c (fo) (to + 1) (co + 9) (co + 15) (minus_f c (co + 15) (co + 15) (co + 14) S5)); mul_f c (fo) (to + 3) (co + 14) (co + 15) S6)) else (let S7 := plus_f c (co + 15) (co + 15) (co + 15) (minus_f c (co + 9) (co + 9) (co + 12) (minus_f c (co + 14) (co + 11) (co + 10) S2)); (let S8 := mul_f c (fo) (to + 2) (co + 12) (co + 14) (mul_f c (fo) (to + 1) (co + 9) (co + 15) (minus_f c (co + 15) (co + 15) (co + 12) S7)); mul_f c (fo) (to + 3) (co + 12) (co + 15) S8)))))
set_option maxRecDepth 100000 in
set_option maxHeartbeats 4000000 in
theorem c_ctwice {k : KX} {L : Nat → Option Sh} {S : StT} {n : Nat} {c : Bool} {co : Nat} {fo : Nat} {to : Nat} {p : Nat} (hC : CurveAt k L co fo c) (hto : PtAt k L to) (hp : PtAt k L p) :
    Cs k yX1_twice cX1_twice 4 none 2 0 0 [.ref (k_b k + (co)), .ref (k_b k + (to)), .ref (k_b k + (p))] (inst k L S.1 S.2.1 S.2.2) n (Pv k L n (ctwice_f c co fo to p S)) := by
  refine cs_of (by decide) (Nat.le_of_ble_eq_true rfl) ?_
  intro X hXk C Rt hnm
  subst hXk
  have hC9 := hC
  obtain ⟨hC0, hF, hc1, hc2, hc3, hc4, hc5, hc6, hc7, hc8, hcr, hcd, hct, hff, hdg, hca, hbs, htb⟩ := hC9
  have hF9 := hF
  obtain ⟨hF0, -⟩ := hF9
  have hff9 := hff
  obtain ⟨hff0, hff1, hff2, hff3⟩ := hff9
  have hto9 := hto
  obtain ⟨hto0, hto1, hto2, hto3⟩ := hto9
  have hp9 := hp
  obtain ⟨hp0, hp1, hp2, hp3⟩ := hp9
  refine rn_lv [(0, .ref (k_b X.1 + (co))), (1, .ref (k_b X.1 + (to))), (2, .ref (k_b X.1 + (p)))] (fun q h => h) ?_
  refine rn_aload_n C dX1_twice_0 rfl ?_
  refine rs_get C dX1_twice_1 fl_X1_60 hC0 rfl ?_
  refine rn_aload_n C dX1_twice_4 rfl ?_
  refine rs_get C dX1_twice_5 fl_X1_35 hC0 rfl ?_
  refine rn_aload_n C dX1_twice_8 rfl ?_
  refine rs_get C dX1_twice_9 fl_X1_90 hp0 rfl ?_
  refine rn_aload_n C dX1_twice_12 rfl ?_
  refine rs_get C dX1_twice_13 fl_X1_100 hp0 rfl ?_
  refine rs_vv C dX1_twice_16 mk_X3_plus lv_X1_123 (c_plus hF hc2 hp1 hp2) hF0 rfl rfl rfl rfl (by decide) (Nat.le_of_ble_eq_true rfl) (by decide) (by decide) ?_
  refine rn_aload_n C dX1_twice_19 rfl ?_
  refine rs_get C dX1_twice_20 fl_X1_60 hC0 rfl ?_
  refine rn_aload_n C dX1_twice_23 rfl ?_
  refine rs_get C dX1_twice_24 fl_X1_35 hC0 rfl ?_
  refine rn_aload_n C dX1_twice_27 rfl ?_
  refine rs_get C dX1_twice_28 fl_X1_35 hC0 rfl ?_
  refine rs_vv C dX1_twice_31 mk_X3_square lv_X1_117 (c_sqr hF hc2 hc2) hF0 rfl rfl rfl rfl (by decide) (Nat.le_of_ble_eq_true rfl) (by decide) (by decide) ?_
  refine rn_aload_n C dX1_twice_34 rfl ?_
  refine rs_get C dX1_twice_35 fl_X1_60 hC0 rfl ?_
  refine rn_aload_n C dX1_twice_38 rfl ?_
  refine rs_get C dX1_twice_39 fl_X1_38 hC0 rfl ?_
  refine rn_aload_n C dX1_twice_42 rfl ?_
  refine rs_get C dX1_twice_43 fl_X1_90 hp0 rfl ?_
  refine rs_vv C dX1_twice_46 mk_X3_square lv_X1_117 (c_sqr hF hc3 hp1) hF0 rfl rfl rfl rfl (by decide) (Nat.le_of_ble_eq_true rfl) (by decide) (by decide) ?_
  refine rn_aload_n C dX1_twice_49 rfl ?_
  refine rs_get C dX1_twice_50 fl_X1_60 hC0 rfl ?_
  refine rn_aload_n C dX1_twice_53 rfl ?_
  refine rs_get C dX1_twice_54 fl_X1_41 hC0 rfl ?_
  refine rn_aload_n C dX1_twice_57 rfl ?_
  refine rs_get C dX1_twice_58 fl_X1_100 hp0 rfl ?_
  refine rs_vv C dX1_twice_61 mk_X3_square lv_X1_117 (c_sqr hF hc4 hp2) hF0 rfl rfl rfl rfl (by decide) (Nat.le_of_ble_eq_true rfl) (by decide) (by decide) ?_
  refine rn_aload_n C dX1_twice_64 rfl ?_
  refine rs_get C dX1_twice_65 fl_X1_60 hC0 rfl ?_
  refine rn_aload_n C dX1_twice_68 rfl ?_
  refine rs_get C dX1_twice_69 fl_X1_53 hC0 rfl ?_
  refine rn_aload_n C dX1_twice_72 rfl ?_
  refine rs_get C dX1_twice_73 fl_X1_110 hp0 rfl ?_
  refine rs_vv C dX1_twice_76 mk_X3_square lv_X1_117 (c_sqr hF hc8 hp3) hF0 rfl rfl rfl rfl (by decide) (Nat.le_of_ble_eq_true rfl) (by decide) (by decide) ?_
  refine rn_aload_n C dX1_twice_79 rfl ?_
  refine rs_get C dX1_twice_80 fl_X1_60 hC0 rfl ?_
  refine rn_aload_n C dX1_twice_83 rfl ?_
  refine rs_get C dX1_twice_84 fl_X1_44 hC0 rfl ?_
  refine rn_aload_n C dX1_twice_87 rfl ?_
  refine rs_get C dX1_twice_88 fl_X1_41 hC0 rfl ?_
  refine rn_aload_n C dX1_twice_91 rfl ?_
  refine rs_get C dX1_twice_92 fl_X1_38 hC0 rfl ?_
  refine rs_vv C dX1_twice_95 mk_X3_plus lv_X1_123 (c_plus hF hc5 hc4 hc3) hF0 rfl rfl rfl rfl (by decide) (Nat.le_of_ble_eq_true rfl) (by decide) (by decide) ?_
  refine rn_aload_n C dX1_twice_98 rfl ?_
  refine rs_get C dX1_twice_99 fl_X1_60 hC0 rfl ?_
  refine rn_aload_n C dX1_twice_102 rfl ?_
  refine rs_get C dX1_twice_103 fl_X1_50 hC0 rfl ?_
  refine rn_aload_n C dX1_twice_106 rfl ?_
  refine rs_get C dX1_twice_107 fl_X1_41 hC0 rfl ?_
  refine rn_aload_n C dX1_twice_110 rfl ?_
  refine rs_get C dX1_twice_111 fl_X1_38 hC0 rfl ?_
  refine rs_vv C dX1_twice_114 mk_X3_minus lv_X1_120 (c_minus hF hc7 hc4 hc3) hF0 rfl rfl rfl rfl (by decide) (Nat.le_of_ble_eq_true rfl) (by decide) (by decide) ?_
  refine rn_aload_n C dX1_twice_117 rfl ?_
  refine rs_get C dX1_twice_118 fl_X1_60 hC0 rfl ?_
  refine rn_aload_n C dX1_twice_121 rfl ?_
  refine rs_get C dX1_twice_122 fl_X1_35 hC0 rfl ?_
  refine rn_aload_n C dX1_twice_125 rfl ?_
  refine rs_get C dX1_twice_126 fl_X1_35 hC0 rfl ?_
  refine rn_aload_n C dX1_twice_129 rfl ?_
  refine rs_get C dX1_twice_130 fl_X1_44 hC0 rfl ?_
  refine rs_vv C dX1_twice_133 mk_X3_minus lv_X1_120 (c_minus hF hc2 hc2 hc5) hF0 rfl rfl rfl rfl (by decide) (Nat.le_of_ble_eq_true rfl) (by decide) (by decide) ?_
  refine rn_aload_n C dX1_twice_136 rfl ?_
  refine rs_get C dX1_twice_137 fl_X1_56 hC0 rfl ?_
  refine rn_if_eq (tgt := 150) C dX1_twice_140 (by decide) (fun hb4 => ?_) (fun hb4 => ?_)
  · skip
    refine rn_aload_n C dX1_twice_150 rfl ?_
    refine rs_get C dX1_twice_151 fl_X1_50 hC0 rfl ?_
    refine rn_astore_n (lv' := [(0, _), (1, _), (2, _), (3, _)]) C dX1_twice_154 (by decide) rfl ?_
    refine rn_aload_n C dX1_twice_155 rfl ?_
    refine rs_get C dX1_twice_156 fl_X1_60 hC0 rfl ?_
    refine rn_aload_n C dX1_twice_159 rfl ?_
    refine rs_get C dX1_twice_160 fl_X1_53 hC0 rfl ?_
    refine rn_aload_n C dX1_twice_163 rfl ?_
    refine rs_get C dX1_twice_164 fl_X1_53 hC0 rfl ?_
    refine rn_aload_n C dX1_twice_167 rfl ?_
    refine rs_get C dX1_twice_168 fl_X1_53 hC0 rfl ?_
    refine rs_vv C dX1_twice_171 mk_X3_plus lv_X1_123 (c_plus hF hc8 hc8 hc8) hF0 rfl rfl rfl rfl (by decide) (Nat.le_of_ble_eq_true rfl) (by decide) (by decide) ?_
    refine rn_aload_n C dX1_twice_174 rfl ?_
    refine rs_get C dX1_twice_175 fl_X1_60 hC0 rfl ?_
    refine rn_aload_n C dX1_twice_178 rfl ?_
    refine rs_get C dX1_twice_179 fl_X1_53 hC0 rfl ?_
    refine rn_aload_n C dX1_twice_182 rfl ?_
    refine rs_get C dX1_twice_183 fl_X1_53 hC0 rfl ?_
    refine rn_aload_n C dX1_twice_186 rfl ?_
    refine rs_vv C dX1_twice_187 mk_X3_minus lv_X1_120 (c_minus hF hc8 hc8 hc7) hF0 rfl rfl rfl rfl (by decide) (Nat.le_of_ble_eq_true rfl) (by decide) (by decide) ?_
    refine rn_aload_n C dX1_twice_190 rfl ?_
    refine rs_get C dX1_twice_191 fl_X1_60 hC0 rfl ?_
    refine rn_aload_n C dX1_twice_194 rfl ?_
    refine rs_get C dX1_twice_195 fl_X1_90 hto0 rfl ?_
    refine rn_aload_n C dX1_twice_198 rfl ?_
    refine rs_get C dX1_twice_199 fl_X1_35 hC0 rfl ?_
    refine rn_aload_n C dX1_twice_202 rfl ?_
    refine rs_get C dX1_twice_203 fl_X1_53 hC0 rfl ?_
    refine rs_vv C dX1_twice_206 mk_X3_multiply lv_X1_113 (c_mul hF hto1 hc2 hc8) hF0 rfl rfl rfl rfl (by decide) (Nat.le_of_ble_eq_true rfl) (by decide) (by decide) ?_
    refine rn_aload_n C dX1_twice_209 rfl ?_
    refine rs_get C dX1_twice_210 fl_X1_60 hC0 rfl ?_
    refine rn_aload_n C dX1_twice_213 rfl ?_
    refine rs_get C dX1_twice_214 fl_X1_100 hto0 rfl ?_
    refine rn_aload_n C dX1_twice_217 rfl ?_
    refine rs_get C dX1_twice_218 fl_X1_44 hC0 rfl ?_
    refine rn_aload_n C dX1_twice_221 rfl ?_
    refine rs_get C dX1_twice_222 fl_X1_50 hC0 rfl ?_
    refine rs_vv C dX1_twice_225 mk_X3_multiply lv_X1_113 (c_mul hF hto2 hc5 hc7) hF0 rfl rfl rfl rfl (by decide) (Nat.le_of_ble_eq_true rfl) (by decide) (by decide) ?_
    refine rn_aload_n C dX1_twice_228 rfl ?_
    refine rs_get C dX1_twice_229 fl_X1_60 hC0 rfl ?_
    refine rn_aload_n C dX1_twice_232 rfl ?_
    refine rs_get C dX1_twice_233 fl_X1_110 hto0 rfl ?_
    refine rn_aload_n C dX1_twice_236 rfl ?_
    refine rn_aload_n C dX1_twice_237 rfl ?_
    refine rs_get C dX1_twice_238 fl_X1_53 hC0 rfl ?_
    refine rs_vv C dX1_twice_241 mk_X3_multiply lv_X1_113 (c_mul hF hto3 hc7 hc8) hF0 rfl rfl rfl rfl (by decide) (Nat.le_of_ble_eq_true rfl) (by decide) (by decide) ?_
    exact rn_vret C Rt dX1_twice_244 (pv_of ((if_pos hb4).trans (tup _))) (Nat.zero_le _) (Nat.zero_le _)
  · skip
    refine rn_aload_n C dX1_twice_143 rfl ?_
    refine rs_get C dX1_twice_144 fl_X1_44 hC0 rfl ?_
    refine rn_goto (tgt := 154) C dX1_twice_147 (by decide) ?_
    refine rn_astore_n (lv' := [(0, _), (1, _), (2, _), (3, _)]) C dX1_twice_154 (by decide) rfl ?_
    refine rn_aload_n C dX1_twice_155 rfl ?_
    refine rs_get C dX1_twice_156 fl_X1_60 hC0 rfl ?_
    refine rn_aload_n C dX1_twice_159 rfl ?_
    refine rs_get C dX1_twice_160 fl_X1_53 hC0 rfl ?_
    refine rn_aload_n C dX1_twice_163 rfl ?_
    refine rs_get C dX1_twice_164 fl_X1_53 hC0 rfl ?_
    refine rn_aload_n C dX1_twice_167 rfl ?_
    refine rs_get C dX1_twice_168 fl_X1_53 hC0 rfl ?_
    refine rs_vv C dX1_twice_171 mk_X3_plus lv_X1_123 (c_plus hF hc8 hc8 hc8) hF0 rfl rfl rfl rfl (by decide) (Nat.le_of_ble_eq_true rfl) (by decide) (by decide) ?_
    refine rn_aload_n C dX1_twice_174 rfl ?_
    refine rs_get C dX1_twice_175 fl_X1_60 hC0 rfl ?_
    refine rn_aload_n C dX1_twice_178 rfl ?_
    refine rs_get C dX1_twice_179 fl_X1_53 hC0 rfl ?_
    refine rn_aload_n C dX1_twice_182 rfl ?_
    refine rs_get C dX1_twice_183 fl_X1_53 hC0 rfl ?_
    refine rn_aload_n C dX1_twice_186 rfl ?_
    refine rs_vv C dX1_twice_187 mk_X3_minus lv_X1_120 (c_minus hF hc8 hc8 hc5) hF0 rfl rfl rfl rfl (by decide) (Nat.le_of_ble_eq_true rfl) (by decide) (by decide) ?_
    refine rn_aload_n C dX1_twice_190 rfl ?_
    refine rs_get C dX1_twice_191 fl_X1_60 hC0 rfl ?_
    refine rn_aload_n C dX1_twice_194 rfl ?_
    refine rs_get C dX1_twice_195 fl_X1_90 hto0 rfl ?_
    refine rn_aload_n C dX1_twice_198 rfl ?_
    refine rs_get C dX1_twice_199 fl_X1_35 hC0 rfl ?_
    refine rn_aload_n C dX1_twice_202 rfl ?_
    refine rs_get C dX1_twice_203 fl_X1_53 hC0 rfl ?_
    refine rs_vv C dX1_twice_206 mk_X3_multiply lv_X1_113 (c_mul hF hto1 hc2 hc8) hF0 rfl rfl rfl rfl (by decide) (Nat.le_of_ble_eq_true rfl) (by decide) (by decide) ?_
    refine rn_aload_n C dX1_twice_209 rfl ?_
    refine rs_get C dX1_twice_210 fl_X1_60 hC0 rfl ?_
    refine rn_aload_n C dX1_twice_213 rfl ?_
    refine rs_get C dX1_twice_214 fl_X1_100 hto0 rfl ?_
    refine rn_aload_n C dX1_twice_217 rfl ?_
    refine rs_get C dX1_twice_218 fl_X1_44 hC0 rfl ?_
    refine rn_aload_n C dX1_twice_221 rfl ?_
    refine rs_get C dX1_twice_222 fl_X1_50 hC0 rfl ?_
    refine rs_vv C dX1_twice_225 mk_X3_multiply lv_X1_113 (c_mul hF hto2 hc5 hc7) hF0 rfl rfl rfl rfl (by decide) (Nat.le_of_ble_eq_true rfl) (by decide) (by decide) ?_
    refine rn_aload_n C dX1_twice_228 rfl ?_
    refine rs_get C dX1_twice_229 fl_X1_60 hC0 rfl ?_
    refine rn_aload_n C dX1_twice_232 rfl ?_
    refine rs_get C dX1_twice_233 fl_X1_110 hto0 rfl ?_
    refine rn_aload_n C dX1_twice_236 rfl ?_
    refine rn_aload_n C dX1_twice_237 rfl ?_
    refine rs_get C dX1_twice_238 fl_X1_53 hC0 rfl ?_
    refine rs_vv C dX1_twice_241 mk_X3_multiply lv_X1_113 (c_mul hF hto3 hc5 hc8) hF0 rfl rfl rfl rfl (by decide) (Nat.le_of_ble_eq_true rfl) (by decide) (by decide) ?_
    exact rn_vret C Rt dX1_twice_244 (pv_of ((if_neg hb4).trans (tup _))) (Nat.zero_le _) (Nat.zero_le _)
def cneg_f (c : Bool) (co : Nat) (fo : Nat) (to : Nat) (p : Nat) (S : StT) : StT := fcopy_f c (to + 3) (p + 3) (fcopy_f c (to + 2) (p + 2) (fneg_f c (to + 1) (p + 1) S))
set_option maxRecDepth 100000 in
set_option maxHeartbeats 4000000 in
theorem c_cneg {k : KX} {L : Nat → Option Sh} {S : StT} {n : Nat} {c : Bool} {co : Nat} {fo : Nat} {to : Nat} {p : Nat} (hC : CurveAt k L co fo c) (hto : PtAt k L to) (hp : PtAt k L p) :
    Cs k yX1_negate cX1_negate 3 none 2 0 0 [.ref (k_b k + (co)), .ref (k_b k + (to)), .ref (k_b k + (p))] (inst k L S.1 S.2.1 S.2.2) n (Pv k L n (cneg_f c co fo to p S)) := by
  refine cs_of (by decide) (Nat.le_of_ble_eq_true rfl) ?_
  intro X hXk C Rt hnm
  subst hXk
  have hC9 := hC
  obtain ⟨hC0, hF, hc1, hc2, hc3, hc4, hc5, hc6, hc7, hc8, hcr, hcd, hct, hff, hdg, hca, hbs, htb⟩ := hC9
  have hF9 := hF
  obtain ⟨hF0, -⟩ := hF9
  have hff9 := hff
  obtain ⟨hff0, hff1, hff2, hff3⟩ := hff9
  have hto9 := hto
  obtain ⟨hto0, hto1, hto2, hto3⟩ := hto9
  have hp9 := hp
  obtain ⟨hp0, hp1, hp2, hp3⟩ := hp9
  refine rn_lv [(0, .ref (k_b X.1 + (co))), (1, .ref (k_b X.1 + (to))), (2, .ref (k_b X.1 + (p)))] (fun q h => h) ?_
  refine rn_aload_n C dX1_negate_0 rfl ?_
  refine rs_get C dX1_negate_1 fl_X1_60 hC0 rfl ?_
  refine rn_aload_n C dX1_negate_4 rfl ?_
  refine rs_get C dX1_negate_5 fl_X1_90 hto0 rfl ?_
  refine rn_aload_n C dX1_negate_8 rfl ?_
  refine rs_get C dX1_negate_9 fl_X1_90 hp0 rfl ?_
  refine rs_vv C dX1_negate_12 mk_X3_negate lv_X1_83 (c_fneg hF hto1 hp1) hF0 rfl rfl rfl rfl (by decide) (Nat.le_of_ble_eq_true rfl) (by decide) (by decide) ?_
  refine rn_aload_n C dX1_negate_15 rfl ?_
  refine rs_get C dX1_negate_16 fl_X1_60 hC0 rfl ?_
  refine rn_aload_n C dX1_negate_19 rfl ?_
  refine rs_get C dX1_negate_20 fl_X1_100 hto0 rfl ?_
  refine rn_aload_n C dX1_negate_23 rfl ?_
  refine rs_get C dX1_negate_24 fl_X1_100 hp0 rfl ?_
  refine rs_vv C dX1_negate_27 mk_X3_copy lv_X1_97 (c_fcopy hF hto2 hp2) hF0 rfl rfl rfl rfl (by decide) (Nat.le_of_ble_eq_true rfl) (by decide) (by decide) ?_
  refine rn_aload_n C dX1_negate_30 rfl ?_
  refine rs_get C dX1_negate_31 fl_X1_60 hC0 rfl ?_
  refine rn_aload_n C dX1_negate_34 rfl ?_
  refine rs_get C dX1_negate_35 fl_X1_110 hto0 rfl ?_
  refine rn_aload_n C dX1_negate_38 rfl ?_
  refine rs_get C dX1_negate_39 fl_X1_110 hp0 rfl ?_
  refine rs_vv C dX1_negate_42 mk_X3_copy lv_X1_97 (c_fcopy hF hto3 hp3) hF0 rfl rfl rfl rfl (by decide) (Nat.le_of_ble_eq_true rfl) (by decide) (by decide) ?_
  exact rn_vret C Rt dX1_negate_45 (pv_of (tup _)) (Nat.zero_le _) (Nat.zero_le _)
def ccopy_f (c : Bool) (co : Nat) (fo : Nat) (to : Nat) (p : Nat) (S : StT) : StT := fcopy_f c (to + 3) (p + 3) (fcopy_f c (to + 2) (p + 2) (fcopy_f c (to + 1) (p + 1) S))
set_option maxRecDepth 100000 in
set_option maxHeartbeats 4000000 in
theorem c_ccopy {k : KX} {L : Nat → Option Sh} {S : StT} {n : Nat} {c : Bool} {co : Nat} {fo : Nat} {to : Nat} {p : Nat} (hC : CurveAt k L co fo c) (hto : PtAt k L to) (hp : PtAt k L p) :
    Cs k yX1_copy cX1_copy 3 none 2 0 0 [.ref (k_b k + (co)), .ref (k_b k + (to)), .ref (k_b k + (p))] (inst k L S.1 S.2.1 S.2.2) n (Pv k L n (ccopy_f c co fo to p S)) := by
  refine cs_of (by decide) (Nat.le_of_ble_eq_true rfl) ?_
  intro X hXk C Rt hnm
  subst hXk
  have hC9 := hC
  obtain ⟨hC0, hF, hc1, hc2, hc3, hc4, hc5, hc6, hc7, hc8, hcr, hcd, hct, hff, hdg, hca, hbs, htb⟩ := hC9
  have hF9 := hF
  obtain ⟨hF0, -⟩ := hF9
  have hff9 := hff
  obtain ⟨hff0, hff1, hff2, hff3⟩ := hff9
  have hto9 := hto
  obtain ⟨hto0, hto1, hto2, hto3⟩ := hto9
  have hp9 := hp
  obtain ⟨hp0, hp1, hp2, hp3⟩ := hp9
  refine rn_lv [(0, .ref (k_b X.1 + (co))), (1, .ref (k_b X.1 + (to))), (2, .ref (k_b X.1 + (p)))] (fun q h => h) ?_
  refine rn_aload_n C dX1_copy_0 rfl ?_
  refine rs_get C dX1_copy_1 fl_X1_60 hC0 rfl ?_
  refine rn_aload_n C dX1_copy_4 rfl ?_
  refine rs_get C dX1_copy_5 fl_X1_90 hto0 rfl ?_
  refine rn_aload_n C dX1_copy_8 rfl ?_
  refine rs_get C dX1_copy_9 fl_X1_90 hp0 rfl ?_
  refine rs_vv C dX1_copy_12 mk_X3_copy lv_X1_97 (c_fcopy hF hto1 hp1) hF0 rfl rfl rfl rfl (by decide) (Nat.le_of_ble_eq_true rfl) (by decide) (by decide) ?_
  refine rn_aload_n C dX1_copy_15 rfl ?_
  refine rs_get C dX1_copy_16 fl_X1_60 hC0 rfl ?_
  refine rn_aload_n C dX1_copy_19 rfl ?_
  refine rs_get C dX1_copy_20 fl_X1_100 hto0 rfl ?_
  refine rn_aload_n C dX1_copy_23 rfl ?_
  refine rs_get C dX1_copy_24 fl_X1_100 hp0 rfl ?_
  refine rs_vv C dX1_copy_27 mk_X3_copy lv_X1_97 (c_fcopy hF hto2 hp2) hF0 rfl rfl rfl rfl (by decide) (Nat.le_of_ble_eq_true rfl) (by decide) (by decide) ?_
  refine rn_aload_n C dX1_copy_30 rfl ?_
  refine rs_get C dX1_copy_31 fl_X1_60 hC0 rfl ?_
  refine rn_aload_n C dX1_copy_34 rfl ?_
  refine rs_get C dX1_copy_35 fl_X1_110 hto0 rfl ?_
  refine rn_aload_n C dX1_copy_38 rfl ?_
  refine rs_get C dX1_copy_39 fl_X1_110 hp0 rfl ?_
  refine rs_vv C dX1_copy_42 mk_X3_copy lv_X1_97 (c_fcopy hF hto3 hp3) hF0 rfl rfl rfl rfl (by decide) (Nat.le_of_ble_eq_true rfl) (by decide) (by decide) ?_
  exact rn_vret C Rt dX1_copy_45 (pv_of (tup _)) (Nat.zero_le _) (Nat.zero_le _)
def cisN_f (c : Bool) (co : Nat) (fo : Nat) (p : Nat) (S : StT) : Int32 × StT := (if ((fisZero_f c (fo) (p + 1) S).1) = 0 then (nI (0), (fisZero_f c (fo) (p + 1) S).2) else (if ((fareEq_f c (fo) (p + 2) (p + 3) (fisZero_f c (fo) (p + 1) S).2).1) = 0 then (nI (0), (fareEq_f c (fo) (p + 2) (p + 3) (fisZero_f c (fo) (p + 1) S).2).2) else (nI (1), (fareEq_f c (fo) (p + 2) (p + 3) (fisZero_f c (fo) (p + 1) S).2).2)))
set_option maxRecDepth 100000 in
set_option maxHeartbeats 4000000 in
theorem c_cisN {k : KX} {L : Nat → Option Sh} {S : StT} {n : Nat} {c : Bool} {co : Nat} {fo : Nat} {p : Nat} (hC : CurveAt k L co fo c) (hp : PtAt k L p) :
    Cs k yX1_isNeutral cX1_isNeutral 2 (some .boolean) 4 0 0 [.ref (k_b k + (co)), .ref (k_b k + (p))] (inst k L S.1 S.2.1 S.2.2) n (Pi k L n (cisN_f c co fo p S)) := by
  refine cs_of (by decide) (Nat.le_of_ble_eq_true rfl) ?_
  intro X hXk C Rt hnm
  subst hXk
  have hC9 := hC
  obtain ⟨hC0, hF, hc1, hc2, hc3, hc4, hc5, hc6, hc7, hc8, hcr, hcd, hct, hff, hdg, hca, hbs, htb⟩ := hC9
  have hF9 := hF
  obtain ⟨hF0, -⟩ := hF9
  have hff9 := hff
  obtain ⟨hff0, hff1, hff2, hff3⟩ := hff9
  have hp9 := hp
  obtain ⟨hp0, hp1, hp2, hp3⟩ := hp9
  refine rn_lv [(0, .ref (k_b X.1 + (co))), (1, .ref (k_b X.1 + (p)))] (fun q h => h) ?_
  refine rn_aload_n C dX1_isNeutral_0 rfl ?_
  refine rs_get C dX1_isNeutral_1 fl_X1_60 hC0 rfl ?_
  refine rn_aload_n C dX1_isNeutral_4 rfl ?_
  refine rs_get C dX1_isNeutral_5 fl_X1_90 hp0 rfl ?_
  refine rs_vz C dX1_isNeutral_8 mk_X3_isZero lv_X1_137 (c_fisZero hF hp1) hF0 rfl rfl rfl rfl (by decide) (Nat.le_of_ble_eq_true rfl) (by decide) (by decide) ?_
  refine rn_if_eq (tgt := 36) C dX1_isNeutral_11 (by decide) (fun hb1 => ?_) (fun hb1 => ?_)
  · skip
    refine rn_iconst (v := nI 0) C dX1_isNeutral_36 rfl ?_
    exact rn_zret C Rt dX1_isNeutral_37 (by first | rfl | exact rfl) (pi_of ((if_pos hb1).trans (tupi _ _))) (Nat.zero_le _) (Nat.zero_le _)
  · skip
    refine rn_aload_n C dX1_isNeutral_14 rfl ?_
    refine rs_get C dX1_isNeutral_15 fl_X1_60 hC0 rfl ?_
    refine rn_aload_n C dX1_isNeutral_18 rfl ?_
    refine rs_get C dX1_isNeutral_19 fl_X1_100 hp0 rfl ?_
    refine rn_aload_n C dX1_isNeutral_22 rfl ?_
    refine rs_get C dX1_isNeutral_23 fl_X1_110 hp0 rfl ?_
    refine rs_vz C dX1_isNeutral_26 mk_X3_areEqual lv_X1_141 (c_fareEq hF hp2 hp3) hF0 rfl rfl rfl rfl (by decide) (Nat.le_of_ble_eq_true rfl) (by decide) (by decide) ?_
    refine rn_if_eq (tgt := 36) C dX1_isNeutral_29 (by decide) (fun hb2 => ?_) (fun hb2 => ?_)
    · skip
      refine rn_iconst (v := nI 0) C dX1_isNeutral_36 rfl ?_
      exact rn_zret C Rt dX1_isNeutral_37 (by first | rfl | exact rfl) (pi_of (((if_neg hb1).trans (if_pos hb2)).trans (tupi _ _))) (Nat.zero_le _) (Nat.zero_le _)
    · skip
      refine rn_iconst (v := nI 1) C dX1_isNeutral_32 rfl ?_
      refine rn_goto (tgt := 37) C dX1_isNeutral_33 (by decide) ?_
      exact rn_zret C Rt dX1_isNeutral_37 (by first | rfl | exact rfl) (pi_of (((if_neg hb1).trans (if_neg hb2)).trans (tupi _ _))) (Nat.zero_le _) (Nat.zero_le _)
def cEq_f (c : Bool) (co : Nat) (fo : Nat) (p : Nat) (q : Nat) (S : StT) : Int32 × StT := (let S1 := mul_f c (fo) (co + 10) (p + 2) (q + 3) (mul_f c (fo) (co + 9) (q + 1) (p + 3) (mul_f c (fo) (co + 8) (p + 1) (q + 3) S)); (if ((fareEq_f c (fo) (co + 8) (co + 9) (mul_f c (fo) (co + 11) (q + 2) (p + 3) S1)).1) = 0 then (nI (0), (fareEq_f c (fo) (co + 8) (co + 9) (mul_f c (fo) (co + 11) (q + 2) (p + 3) S1)).2) else (let r3 := fareEq_f c (fo) (co + 10) (co + 11) (fareEq_f c (fo) (co + 8) (co + 9) (mul_f c (fo) (co + 11) (q + 2) (p + 3) S1)).2; (if (r3.1) = 0 then (nI (0), r3.2) else (nI (1), r3.2)))))
set_option maxRecDepth 100000 in
set_option maxHeartbeats 4000000 in
theorem c_cEq {k : KX} {L : Nat → Option Sh} {S : StT} {n : Nat} {c : Bool} {co : Nat} {fo : Nat} {p : Nat} {q : Nat} (hC : CurveAt k L co fo c) (hp : PtAt k L p) (hq : PtAt k L q) :
    Cs k yX1_areEqual cX1_areEqual 3 (some .boolean) 4 0 0 [.ref (k_b k + (co)), .ref (k_b k + (p)), .ref (k_b k + (q))] (inst k L S.1 S.2.1 S.2.2) n (Pi k L n (cEq_f c co fo p q S)) := by
  refine cs_of (by decide) (Nat.le_of_ble_eq_true rfl) ?_
  intro X hXk C Rt hnm
  subst hXk
  have hC9 := hC
  obtain ⟨hC0, hF, hc1, hc2, hc3, hc4, hc5, hc6, hc7, hc8, hcr, hcd, hct, hff, hdg, hca, hbs, htb⟩ := hC9
  have hF9 := hF
  obtain ⟨hF0, -⟩ := hF9
  have hff9 := hff
  obtain ⟨hff0, hff1, hff2, hff3⟩ := hff9
  have hp9 := hp
  obtain ⟨hp0, hp1, hp2, hp3⟩ := hp9
  have hq9 := hq
  obtain ⟨hq0, hq1, hq2, hq3⟩ := hq9
  refine rn_lv [(0, .ref (k_b X.1 + (co))), (1, .ref (k_b X.1 + (p))), (2, .ref (k_b X.1 + (q)))] (fun q h => h) ?_
  refine rn_aload_n C dX1_areEqual_0 rfl ?_
  refine rs_get C dX1_areEqual_1 fl_X1_60 hC0 rfl ?_
  refine rn_aload_n C dX1_areEqual_4 rfl ?_
  refine rs_get C dX1_areEqual_5 fl_X1_31 hC0 rfl ?_
  refine rn_aload_n C dX1_areEqual_8 rfl ?_
  refine rs_get C dX1_areEqual_9 fl_X1_90 hp0 rfl ?_
  refine rn_aload_n C dX1_areEqual_12 rfl ?_
  refine rs_get C dX1_areEqual_13 fl_X1_110 hq0 rfl ?_
  refine rs_vv C dX1_areEqual_16 mk_X3_multiply lv_X1_113 (c_mul hF hc1 hp1 hq3) hF0 rfl rfl rfl rfl (by decide) (Nat.le_of_ble_eq_true rfl) (by decide) (by decide) ?_
  refine rn_aload_n C dX1_areEqual_19 rfl ?_
  refine rs_get C dX1_areEqual_20 fl_X1_60 hC0 rfl ?_
  refine rn_aload_n C dX1_areEqual_23 rfl ?_
  refine rs_get C dX1_areEqual_24 fl_X1_35 hC0 rfl ?_
  refine rn_aload_n C dX1_areEqual_27 rfl ?_
  refine rs_get C dX1_areEqual_28 fl_X1_90 hq0 rfl ?_
  refine rn_aload_n C dX1_areEqual_31 rfl ?_
  refine rs_get C dX1_areEqual_32 fl_X1_110 hp0 rfl ?_
  refine rs_vv C dX1_areEqual_35 mk_X3_multiply lv_X1_113 (c_mul hF hc2 hq1 hp3) hF0 rfl rfl rfl rfl (by decide) (Nat.le_of_ble_eq_true rfl) (by decide) (by decide) ?_
  refine rn_aload_n C dX1_areEqual_38 rfl ?_
  refine rs_get C dX1_areEqual_39 fl_X1_60 hC0 rfl ?_
  refine rn_aload_n C dX1_areEqual_42 rfl ?_
  refine rs_get C dX1_areEqual_43 fl_X1_38 hC0 rfl ?_
  refine rn_aload_n C dX1_areEqual_46 rfl ?_
  refine rs_get C dX1_areEqual_47 fl_X1_100 hp0 rfl ?_
  refine rn_aload_n C dX1_areEqual_50 rfl ?_
  refine rs_get C dX1_areEqual_51 fl_X1_110 hq0 rfl ?_
  refine rs_vv C dX1_areEqual_54 mk_X3_multiply lv_X1_113 (c_mul hF hc3 hp2 hq3) hF0 rfl rfl rfl rfl (by decide) (Nat.le_of_ble_eq_true rfl) (by decide) (by decide) ?_
  refine rn_aload_n C dX1_areEqual_57 rfl ?_
  refine rs_get C dX1_areEqual_58 fl_X1_60 hC0 rfl ?_
  refine rn_aload_n C dX1_areEqual_61 rfl ?_
  refine rs_get C dX1_areEqual_62 fl_X1_41 hC0 rfl ?_
  refine rn_aload_n C dX1_areEqual_65 rfl ?_
  refine rs_get C dX1_areEqual_66 fl_X1_100 hq0 rfl ?_
  refine rn_aload_n C dX1_areEqual_69 rfl ?_
  refine rs_get C dX1_areEqual_70 fl_X1_110 hp0 rfl ?_
  refine rs_vv C dX1_areEqual_73 mk_X3_multiply lv_X1_113 (c_mul hF hc4 hq2 hp3) hF0 rfl rfl rfl rfl (by decide) (Nat.le_of_ble_eq_true rfl) (by decide) (by decide) ?_
  refine rn_aload_n C dX1_areEqual_76 rfl ?_
  refine rs_get C dX1_areEqual_77 fl_X1_60 hC0 rfl ?_
  refine rn_aload_n C dX1_areEqual_80 rfl ?_
  refine rs_get C dX1_areEqual_81 fl_X1_31 hC0 rfl ?_
  refine rn_aload_n C dX1_areEqual_84 rfl ?_
  refine rs_get C dX1_areEqual_85 fl_X1_35 hC0 rfl ?_
  refine rs_vz C dX1_areEqual_88 mk_X3_areEqual lv_X1_141 (c_fareEq hF hc1 hc2) hF0 rfl rfl rfl rfl (by decide) (Nat.le_of_ble_eq_true rfl) (by decide) (by decide) ?_
  refine rn_if_eq (tgt := 116) C dX1_areEqual_91 (by decide) (fun hb2 => ?_) (fun hb2 => ?_)
  · skip
    refine rn_iconst (v := nI 0) C dX1_areEqual_116 rfl ?_
    exact rn_zret C Rt dX1_areEqual_117 (by first | rfl | exact rfl) (pi_of ((if_pos hb2).trans (tupi _ _))) (Nat.zero_le _) (Nat.zero_le _)
  · skip
    refine rn_aload_n C dX1_areEqual_94 rfl ?_
    refine rs_get C dX1_areEqual_95 fl_X1_60 hC0 rfl ?_
    refine rn_aload_n C dX1_areEqual_98 rfl ?_
    refine rs_get C dX1_areEqual_99 fl_X1_38 hC0 rfl ?_
    refine rn_aload_n C dX1_areEqual_102 rfl ?_
    refine rs_get C dX1_areEqual_103 fl_X1_41 hC0 rfl ?_
    refine rs_vz C dX1_areEqual_106 mk_X3_areEqual lv_X1_141 (c_fareEq hF hc3 hc4) hF0 rfl rfl rfl rfl (by decide) (Nat.le_of_ble_eq_true rfl) (by decide) (by decide) ?_
    refine rn_if_eq (tgt := 116) C dX1_areEqual_109 (by decide) (fun hb4 => ?_) (fun hb4 => ?_)
    · skip
      refine rn_iconst (v := nI 0) C dX1_areEqual_116 rfl ?_
      exact rn_zret C Rt dX1_areEqual_117 (by first | rfl | exact rfl) (pi_of (((if_neg hb2).trans (if_pos hb4)).trans (tupi _ _))) (Nat.zero_le _) (Nat.zero_le _)
    · skip
      refine rn_iconst (v := nI 1) C dX1_areEqual_112 rfl ?_
      refine rn_goto (tgt := 117) C dX1_areEqual_113 (by decide) ?_
      exact rn_zret C Rt dX1_areEqual_117 (by first | rfl | exact rfl) (pi_of (((if_neg hb2).trans (if_neg hb4)).trans (tupi _ _))) (Nat.zero_le _) (Nat.zero_le _)
def astep_f (c : Bool) (ao : Nat) (fo : Nat) (x2 : Nat) (z2 : Nat) (x3 : Nat) (z3 : Nat) (S : StT) : StT := (let S1 := plus_f c (ao + 9) (x3) (z3) (minus_f c (ao + 8) (x2) (z2) (plus_f c (ao + 7) (x2) (z2) S)); (let S2 := mul_f c (fo) (ao + 9) (ao + 9) (ao + 8) (mul_f c (fo) (ao + 10) (ao + 10) (ao + 7) (minus_f c (ao + 10) (x3) (z3) S1)); (let S3 := minus_f c (z3) (ao + 10) (ao + 9) (sqr_f c (fo) (x3) (x3) (plus_f c (x3) (ao + 10) (ao + 9) S2)); (let S4 := sqr_f c (fo) (ao + 7) (ao + 7) (mul_f c (fo) (z3) (z3) (ao + 2) (sqr_f c (fo) (z3) (z3) S3)); (let S5 := mul_f c (fo) (x2) (ao + 7) (ao + 8) (minus_f c (ao + 11) (ao + 7) (ao + 8) (sqr_f c (fo) (ao + 8) (ao + 8) S4)); (let S7 := plus_f c (z2) (z2) (ao + 7) (mulS_f c (z2) (ao + 11) ((if (bI c) = 0 then 121665 else 39081)) S5); mul_f c (fo) (z2) (z2) (ao + 11) S7))))))
set_option maxRecDepth 100000 in
set_option maxHeartbeats 4000000 in
theorem c_astep {k : KX} {L : Nat → Option Sh} {S : StT} {n : Nat} {c : Bool} {ao : Nat} {fo : Nat} {x2 : Nat} {z2 : Nat} {x3 : Nat} {z3 : Nat} (hA : AgreeAt k L ao fo c) (hx2 : L x2 = some (sJ 16)) (hz2 : L z2 = some (sJ 16)) (hx3 : L x3 = some (sJ 16)) (hz3 : L z3 = some (sJ 16)) :
    Cs k yX0_step cX0_step 5 none 2 0 0 [.ref (k_b k + (ao)), .ref (k_b k + (x2)), .ref (k_b k + (z2)), .ref (k_b k + (x3)), .ref (k_b k + (z3))] (inst k L S.1 S.2.1 S.2.2) n (Pv k L n (astep_f c ao fo x2 z2 x3 z3 S)) := by
  refine cs_of (by decide) (Nat.le_of_ble_eq_true rfl) ?_
  intro X hXk C Rt hnm
  subst hXk
  have hA9 := hA
  obtain ⟨hA0, hF, ha1, ha2, ha3, ha4, ha5, ha6, ha7, ha8, ha9, ha10, ha11⟩ := hA9
  have hF9 := hF
  obtain ⟨hF0, -⟩ := hF9
  refine rn_lv [(0, .ref (k_b X.1 + (ao))), (1, .ref (k_b X.1 + (x2))), (2, .ref (k_b X.1 + (z2))), (3, .ref (k_b X.1 + (x3))), (4, .ref (k_b X.1 + (z3)))] (fun q h => h) ?_
  refine rn_aload_n C dX0_step_0 rfl ?_
  refine rs_get C dX0_step_1 fl_X0_52 hA0 rfl ?_
  refine rn_aload_n C dX0_step_4 rfl ?_
  refine rs_get C dX0_step_5 fl_X0_33 hA0 rfl ?_
  refine rn_aload_n C dX0_step_8 rfl ?_
  refine rn_aload_n C dX0_step_9 rfl ?_
  refine rs_vv C dX0_step_10 mk_X3_plus lv_X0_112 (c_plus hF ha7 hx2 hz2) hF0 rfl rfl rfl rfl (by decide) (Nat.le_of_ble_eq_true rfl) (by decide) (by decide) ?_
  refine rn_aload_n C dX0_step_13 rfl ?_
  refine rs_get C dX0_step_14 fl_X0_52 hA0 rfl ?_
  refine rn_aload_n C dX0_step_17 rfl ?_
  refine rs_get C dX0_step_18 fl_X0_36 hA0 rfl ?_
  refine rn_aload_n C dX0_step_21 rfl ?_
  refine rn_aload_n C dX0_step_22 rfl ?_
  refine rs_vv C dX0_step_23 mk_X3_minus lv_X0_115 (c_minus hF ha8 hx2 hz2) hF0 rfl rfl rfl rfl (by decide) (Nat.le_of_ble_eq_true rfl) (by decide) (by decide) ?_
  refine rn_aload_n C dX0_step_26 rfl ?_
  refine rs_get C dX0_step_27 fl_X0_52 hA0 rfl ?_
  refine rn_aload_n C dX0_step_30 rfl ?_
  refine rs_get C dX0_step_31 fl_X0_39 hA0 rfl ?_
  refine rn_aload_n C dX0_step_34 rfl ?_
  refine rn_aload C dX0_step_35 rfl ?_
  refine rs_vv C dX0_step_37 mk_X3_plus lv_X0_112 (c_plus hF ha9 hx3 hz3) hF0 rfl rfl rfl rfl (by decide) (Nat.le_of_ble_eq_true rfl) (by decide) (by decide) ?_
  refine rn_aload_n C dX0_step_40 rfl ?_
  refine rs_get C dX0_step_41 fl_X0_52 hA0 rfl ?_
  refine rn_aload_n C dX0_step_44 rfl ?_
  refine rs_get C dX0_step_45 fl_X0_42 hA0 rfl ?_
  refine rn_aload_n C dX0_step_48 rfl ?_
  refine rn_aload C dX0_step_49 rfl ?_
  refine rs_vv C dX0_step_51 mk_X3_minus lv_X0_115 (c_minus hF ha10 hx3 hz3) hF0 rfl rfl rfl rfl (by decide) (Nat.le_of_ble_eq_true rfl) (by decide) (by decide) ?_
  refine rn_aload_n C dX0_step_54 rfl ?_
  refine rs_get C dX0_step_55 fl_X0_52 hA0 rfl ?_
  refine rn_aload_n C dX0_step_58 rfl ?_
  refine rs_get C dX0_step_59 fl_X0_42 hA0 rfl ?_
  refine rn_aload_n C dX0_step_62 rfl ?_
  refine rs_get C dX0_step_63 fl_X0_42 hA0 rfl ?_
  refine rn_aload_n C dX0_step_66 rfl ?_
  refine rs_get C dX0_step_67 fl_X0_33 hA0 rfl ?_
  refine rs_vv C dX0_step_70 mk_X3_multiply lv_X0_94 (c_mul hF ha10 ha10 ha7) hF0 rfl rfl rfl rfl (by decide) (Nat.le_of_ble_eq_true rfl) (by decide) (by decide) ?_
  refine rn_aload_n C dX0_step_73 rfl ?_
  refine rs_get C dX0_step_74 fl_X0_52 hA0 rfl ?_
  refine rn_aload_n C dX0_step_77 rfl ?_
  refine rs_get C dX0_step_78 fl_X0_39 hA0 rfl ?_
  refine rn_aload_n C dX0_step_81 rfl ?_
  refine rs_get C dX0_step_82 fl_X0_39 hA0 rfl ?_
  refine rn_aload_n C dX0_step_85 rfl ?_
  refine rs_get C dX0_step_86 fl_X0_36 hA0 rfl ?_
  refine rs_vv C dX0_step_89 mk_X3_multiply lv_X0_94 (c_mul hF ha9 ha9 ha8) hF0 rfl rfl rfl rfl (by decide) (Nat.le_of_ble_eq_true rfl) (by decide) (by decide) ?_
  refine rn_aload_n C dX0_step_92 rfl ?_
  refine rs_get C dX0_step_93 fl_X0_52 hA0 rfl ?_
  refine rn_aload_n C dX0_step_96 rfl ?_
  refine rn_aload_n C dX0_step_97 rfl ?_
  refine rs_get C dX0_step_98 fl_X0_42 hA0 rfl ?_
  refine rn_aload_n C dX0_step_101 rfl ?_
  refine rs_get C dX0_step_102 fl_X0_39 hA0 rfl ?_
  refine rs_vv C dX0_step_105 mk_X3_plus lv_X0_112 (c_plus hF hx3 ha10 ha9) hF0 rfl rfl rfl rfl (by decide) (Nat.le_of_ble_eq_true rfl) (by decide) (by decide) ?_
  refine rn_aload_n C dX0_step_108 rfl ?_
  refine rs_get C dX0_step_109 fl_X0_52 hA0 rfl ?_
  refine rn_aload_n C dX0_step_112 rfl ?_
  refine rn_aload_n C dX0_step_113 rfl ?_
  refine rs_vv C dX0_step_114 mk_X3_square lv_X0_118 (c_sqr hF hx3 hx3) hF0 rfl rfl rfl rfl (by decide) (Nat.le_of_ble_eq_true rfl) (by decide) (by decide) ?_
  refine rn_aload_n C dX0_step_117 rfl ?_
  refine rs_get C dX0_step_118 fl_X0_52 hA0 rfl ?_
  refine rn_aload C dX0_step_121 rfl ?_
  refine rn_aload_n C dX0_step_123 rfl ?_
  refine rs_get C dX0_step_124 fl_X0_42 hA0 rfl ?_
  refine rn_aload_n C dX0_step_127 rfl ?_
  refine rs_get C dX0_step_128 fl_X0_39 hA0 rfl ?_
  refine rs_vv C dX0_step_131 mk_X3_minus lv_X0_115 (c_minus hF hz3 ha10 ha9) hF0 rfl rfl rfl rfl (by decide) (Nat.le_of_ble_eq_true rfl) (by decide) (by decide) ?_
  refine rn_aload_n C dX0_step_134 rfl ?_
  refine rs_get C dX0_step_135 fl_X0_52 hA0 rfl ?_
  refine rn_aload C dX0_step_138 rfl ?_
  refine rn_aload C dX0_step_140 rfl ?_
  refine rs_vv C dX0_step_142 mk_X3_square lv_X0_118 (c_sqr hF hz3 hz3) hF0 rfl rfl rfl rfl (by decide) (Nat.le_of_ble_eq_true rfl) (by decide) (by decide) ?_
  refine rn_aload_n C dX0_step_145 rfl ?_
  refine rs_get C dX0_step_146 fl_X0_52 hA0 rfl ?_
  refine rn_aload C dX0_step_149 rfl ?_
  refine rn_aload C dX0_step_151 rfl ?_
  refine rn_aload_n C dX0_step_153 rfl ?_
  refine rs_get C dX0_step_154 fl_X0_17 hA0 rfl ?_
  refine rs_vv C dX0_step_157 mk_X3_multiply lv_X0_94 (c_mul hF hz3 hz3 ha2) hF0 rfl rfl rfl rfl (by decide) (Nat.le_of_ble_eq_true rfl) (by decide) (by decide) ?_
  refine rn_aload_n C dX0_step_160 rfl ?_
  refine rs_get C dX0_step_161 fl_X0_52 hA0 rfl ?_
  refine rn_aload_n C dX0_step_164 rfl ?_
  refine rs_get C dX0_step_165 fl_X0_33 hA0 rfl ?_
  refine rn_aload_n C dX0_step_168 rfl ?_
  refine rs_get C dX0_step_169 fl_X0_33 hA0 rfl ?_
  refine rs_vv C dX0_step_172 mk_X3_square lv_X0_118 (c_sqr hF ha7 ha7) hF0 rfl rfl rfl rfl (by decide) (Nat.le_of_ble_eq_true rfl) (by decide) (by decide) ?_
  refine rn_aload_n C dX0_step_175 rfl ?_
  refine rs_get C dX0_step_176 fl_X0_52 hA0 rfl ?_
  refine rn_aload_n C dX0_step_179 rfl ?_
  refine rs_get C dX0_step_180 fl_X0_36 hA0 rfl ?_
  refine rn_aload_n C dX0_step_183 rfl ?_
  refine rs_get C dX0_step_184 fl_X0_36 hA0 rfl ?_
  refine rs_vv C dX0_step_187 mk_X3_square lv_X0_118 (c_sqr hF ha8 ha8) hF0 rfl rfl rfl rfl (by decide) (Nat.le_of_ble_eq_true rfl) (by decide) (by decide) ?_
  refine rn_aload_n C dX0_step_190 rfl ?_
  refine rs_get C dX0_step_191 fl_X0_52 hA0 rfl ?_
  refine rn_aload_n C dX0_step_194 rfl ?_
  refine rs_get C dX0_step_195 fl_X0_45 hA0 rfl ?_
  refine rn_aload_n C dX0_step_198 rfl ?_
  refine rs_get C dX0_step_199 fl_X0_33 hA0 rfl ?_
  refine rn_aload_n C dX0_step_202 rfl ?_
  refine rs_get C dX0_step_203 fl_X0_36 hA0 rfl ?_
  refine rs_vv C dX0_step_206 mk_X3_minus lv_X0_115 (c_minus hF ha11 ha7 ha8) hF0 rfl rfl rfl rfl (by decide) (Nat.le_of_ble_eq_true rfl) (by decide) (by decide) ?_
  refine rn_aload_n C dX0_step_209 rfl ?_
  refine rs_get C dX0_step_210 fl_X0_52 hA0 rfl ?_
  refine rn_aload_n C dX0_step_213 rfl ?_
  refine rn_aload_n C dX0_step_214 rfl ?_
  refine rs_get C dX0_step_215 fl_X0_33 hA0 rfl ?_
  refine rn_aload_n C dX0_step_218 rfl ?_
  refine rs_get C dX0_step_219 fl_X0_36 hA0 rfl ?_
  refine rs_vv C dX0_step_222 mk_X3_multiply lv_X0_94 (c_mul hF hx2 ha7 ha8) hF0 rfl rfl rfl rfl (by decide) (Nat.le_of_ble_eq_true rfl) (by decide) (by decide) ?_
  refine rn_aload_n C dX0_step_225 rfl ?_
  refine rs_get C dX0_step_226 fl_X0_52 hA0 rfl ?_
  refine rn_aload_n C dX0_step_229 rfl ?_
  refine rn_aload_n C dX0_step_230 rfl ?_
  refine rs_get C dX0_step_231 fl_X0_45 hA0 rfl ?_
  refine rn_aload_n C dX0_step_234 rfl ?_
  refine rs_get C dX0_step_235 fl_X0_48 hA0 rfl ?_
  have K238_6 : Rn X 248 [(0, .ref (k_b X.1 + (ao))), (1, .ref (k_b X.1 + (x2))), (2, .ref (k_b X.1 + (z2))), (3, .ref (k_b X.1 + (x3))), (4, .ref (k_b X.1 + (z3)))] [.int ((if (bI c) = 0 then 121665 else 39081)), .ref (k_b X.1 + (ao + 11)), .ref (k_b X.1 + (z2)), .ref (k_b X.1 + (fo))] (inst X.1 L (mul_f c (fo) (x2) (ao + 7) (ao + 8) (minus_f c (ao + 11) (ao + 7) (ao + 8) (sqr_f c (fo) (ao + 8) (ao + 8) (sqr_f c (fo) (ao + 7) (ao + 7) (mul_f c (fo) (z3) (z3) (ao + 2) (sqr_f c (fo) (z3) (z3) (minus_f c (z3) (ao + 10) (ao + 9) (sqr_f c (fo) (x3) (x3) (plus_f c (x3) (ao + 10) (ao + 9) (mul_f c (fo) (ao + 9) (ao + 9) (ao + 8) (mul_f c (fo) (ao + 10) (ao + 10) (ao + 7) (minus_f c (ao + 10) (x3) (z3) (plus_f c (ao + 9) (x3) (z3) (minus_f c (ao + 8) (x2) (z2) (plus_f c (ao + 7) (x2) (z2) S))))))))))))))).1 (mul_f c (fo) (x2) (ao + 7) (ao + 8) (minus_f c (ao + 11) (ao + 7) (ao + 8) (sqr_f c (fo) (ao + 8) (ao + 8) (sqr_f c (fo) (ao + 7) (ao + 7) (mul_f c (fo) (z3) (z3) (ao + 2) (sqr_f c (fo) (z3) (z3) (minus_f c (z3) (ao + 10) (ao + 9) (sqr_f c (fo) (x3) (x3) (plus_f c (x3) (ao + 10) (ao + 9) (mul_f c (fo) (ao + 9) (ao + 9) (ao + 8) (mul_f c (fo) (ao + 10) (ao + 10) (ao + 7) (minus_f c (ao + 10) (x3) (z3) (plus_f c (ao + 9) (x3) (z3) (minus_f c (ao + 8) (x2) (z2) (plus_f c (ao + 7) (x2) (z2) S))))))))))))))).2.1 (mul_f c (fo) (x2) (ao + 7) (ao + 8) (minus_f c (ao + 11) (ao + 7) (ao + 8) (sqr_f c (fo) (ao + 8) (ao + 8) (sqr_f c (fo) (ao + 7) (ao + 7) (mul_f c (fo) (z3) (z3) (ao + 2) (sqr_f c (fo) (z3) (z3) (minus_f c (z3) (ao + 10) (ao + 9) (sqr_f c (fo) (x3) (x3) (plus_f c (x3) (ao + 10) (ao + 9) (mul_f c (fo) (ao + 9) (ao + 9) (ao + 8) (mul_f c (fo) (ao + 10) (ao + 10) (ao + 7) (minus_f c (ao + 10) (x3) (z3) (plus_f c (ao + 9) (x3) (z3) (minus_f c (ao + 8) (x2) (z2) (plus_f c (ao + 7) (x2) (z2) S))))))))))))))).2.2) n 0 0 := by
    refine rs_vv C dX0_step_248 mk_X3_multiplySmall lv_X0_123 (c_mulS (z := (if (bI c) = 0 then 121665 else 39081)) hF hz2 ha11) hF0 rfl rfl rfl rfl (by decide) (Nat.le_of_ble_eq_true rfl) (by decide) (by decide) ?_
    refine rn_aload_n C dX0_step_251 rfl ?_
    refine rs_get C dX0_step_252 fl_X0_52 hA0 rfl ?_
    refine rn_aload_n C dX0_step_255 rfl ?_
    refine rn_aload_n C dX0_step_256 rfl ?_
    refine rn_aload_n C dX0_step_257 rfl ?_
    refine rs_get C dX0_step_258 fl_X0_33 hA0 rfl ?_
    refine rs_vv C dX0_step_261 mk_X3_plus lv_X0_112 (c_plus hF hz2 hz2 ha7) hF0 rfl rfl rfl rfl (by decide) (Nat.le_of_ble_eq_true rfl) (by decide) (by decide) ?_
    refine rn_aload_n C dX0_step_264 rfl ?_
    refine rs_get C dX0_step_265 fl_X0_52 hA0 rfl ?_
    refine rn_aload_n C dX0_step_268 rfl ?_
    refine rn_aload_n C dX0_step_269 rfl ?_
    refine rn_aload_n C dX0_step_270 rfl ?_
    refine rs_get C dX0_step_271 fl_X0_45 hA0 rfl ?_
    refine rs_vv C dX0_step_274 mk_X3_multiply lv_X0_94 (c_mul hF hz2 hz2 ha11) hF0 rfl rfl rfl rfl (by decide) (Nat.le_of_ble_eq_true rfl) (by decide) (by decide) ?_
    exact rn_vret C Rt dX0_step_277 (pv_of (tup _)) (Nat.zero_le _) (Nat.zero_le _)
  refine rn_if_eq (tgt := 246) C dX0_step_238 (by decide) (fun hb6 => ?_) (fun hb6 => ?_)
  · skip
    refine rn_ldc C dX0_step_246 lc_X0_122 ?_
    rw [if_pos hb6] at K238_6
    exact K238_6
  · skip
    refine rn_ldc C dX0_step_241 lc_X0_121 ?_
    refine rn_goto (tgt := 248) C dX0_step_243 (by decide) ?_
    rw [if_neg hb6] at K238_6
    exact K238_6
