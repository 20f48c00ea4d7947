/-! THE LAW: one call of the script in both (law.py) -/
section LWC
variable {X : CX} {L : Nat → Option Sh} {b N m n ce sl s4 s2 : Nat} {xs : Nat → Int32} {B : (c : Bool) → Pt c} {S : StT} {A : AS}
theorem lc_put (hA : LwH X L b N xs s4 s2) (hm : 6 * m + 6 ≤ N) (hI : Inv 0 335 B S A) (hce : ce + 1 ≤ 601024) (hsl : sl + 6 ≤ 7293033)
    (K : ∀ (S' : StT) (A' : AS) (n' : Nat), Inv 0 335 B S' A' → Rn X 1268 [(0, .ref b), (1, .ref (k_b X.1 + 0)), (2, .ref (k_b X.1 + 335)), (3, .ref (k_b X.1 + 363)), (4, .int (nI (6 * m)))] [] (inst X.1 L S'.1 S'.2.1 S'.2.2) n' (ce + 1) (sl + 6)) :
    Rn X 124 [(0, .ref b), (1, .ref (k_b X.1 + 0)), (2, .ref (k_b X.1 + 335)), (3, .ref (k_b X.1 + 363)), (4, .int (nI (6 * m)))] [] (inst X.1 L S.1 S.2.1 S.2.2) n ce sl := by
  obtain ⟨C, hT, hN, hX, hMd, hoo, hex, hst, hk4, hk2, hl4, hl2⟩ := hA
  obtain ⟨kc, T1, T2, A2, hM, hh, cW, cM, e0, hI2⟩ := pr_put hX hMd hex hI (Nat.le_refl _) (xs (6 * m + 1)) (xs (6 * m + 2)) (((xs (6 * m + 3)).toInt64 <<< ((nI 32).toInt64 &&& 63)) ||| ((xs (6 * m + 4)).toInt64 &&& 4294967295)) (xs (6 * m + 5))
  refine rn_aload_n C dL_law_124 rfl ?_
  refine rn_aload_n C dL_law_125 rfl ?_
  refine rn_iload C dL_law_126 rfl ?_
  refine rn_iconst (v := nI 1) C dL_law_128 rfl ?_
  refine rn_iadd C dL_law_129 (nI_add _ _) ?_
  refine rn_sti C dL_law_130 hT rfl (by omega) (by omega) ?_
  refine rn_aload_n C dL_law_131 rfl ?_
  refine rn_iload C dL_law_132 rfl ?_
  refine rn_iconst (v := nI 2) C dL_law_134 rfl ?_
  refine rn_iadd C dL_law_135 (nI_add _ _) ?_
  refine rn_sti C dL_law_136 hT rfl (by omega) (by omega) ?_
  refine rn_aload_n C dL_law_137 rfl ?_
  refine rn_iload C dL_law_138 rfl ?_
  refine rn_iconst (v := nI 3) C dL_law_140 rfl ?_
  refine rn_iadd C dL_law_141 (nI_add _ _) ?_
  refine rn_sti C dL_law_142 hT rfl (by omega) (by omega) ?_
  refine rn_i2l C dL_law_143 rfl ?_
  refine rn_bipush (v := nI 32) C dL_law_144 rfl ?_
  refine rn_lshl C dL_law_146 rfl ?_
  refine rn_aload_n C dL_law_147 rfl ?_
  refine rn_iload C dL_law_148 rfl ?_
  refine rn_iconst (v := nI 4) C dL_law_150 rfl ?_
  refine rn_iadd C dL_law_151 (nI_add _ _) ?_
  refine rn_sti C dL_law_152 hT rfl (by omega) (by omega) ?_
  refine rn_i2l C dL_law_153 rfl ?_
  refine rn_ldc2 C dL_law_154 lc_L_75 ?_
  refine rn_land C dL_law_157 rfl ?_
  refine rn_lor C dL_law_158 rfl ?_
  refine rn_aload_n C dL_law_159 rfl ?_
  refine rn_iload C dL_law_160 rfl ?_
  refine rn_iconst (v := nI 5) C dL_law_162 rfl ?_
  refine rn_iadd C dL_law_163 (nI_add _ _) ?_
  refine rn_sti C dL_law_164 hT rfl (by omega) (by omega) ?_
  refine rn_callSW C dL_law_165 mw_put (cW n) rfl rfl (by decide) (Nat.le_of_ble_eq_true rfl) hce hsl (fun v P' n' hp => ?_)
  obtain ⟨e1, e2, e3⟩ := hp
  cases e1
  subst e2
  refine rn_istore (lv' := [(0, .ref b), (1, .ref (k_b X.1 + 0)), (2, .ref (k_b X.1 + 335)), (3, .ref (k_b X.1 + 363)), (4, .int (nI (6 * m))), (5, .int kc)]) C dL_law_168 (by decide) rfl ?_
  refine rn_aload_n C dL_law_170 rfl ?_
  refine rn_aload_n C dL_law_171 rfl ?_
  refine rn_iload C dL_law_172 rfl ?_
  refine rn_iconst (v := nI 1) C dL_law_174 rfl ?_
  refine rn_iadd C dL_law_175 (nI_add _ _) ?_
  refine rn_sti C dL_law_176 hT rfl (by omega) (by omega) ?_
  refine rn_aload_n C dL_law_177 rfl ?_
  refine rn_iload C dL_law_178 rfl ?_
  refine rn_iconst (v := nI 2) C dL_law_180 rfl ?_
  refine rn_iadd C dL_law_181 (nI_add _ _) ?_
  refine rn_sti C dL_law_182 hT rfl (by omega) (by omega) ?_
  refine rn_aload_n C dL_law_183 rfl ?_
  refine rn_iload C dL_law_184 rfl ?_
  refine rn_iconst (v := nI 3) C dL_law_186 rfl ?_
  refine rn_iadd C dL_law_187 (nI_add _ _) ?_
  refine rn_sti C dL_law_188 hT rfl (by omega) (by omega) ?_
  refine rn_i2l C dL_law_189 rfl ?_
  refine rn_bipush (v := nI 32) C dL_law_190 rfl ?_
  refine rn_lshl C dL_law_192 rfl ?_
  refine rn_aload_n C dL_law_193 rfl ?_
  refine rn_iload C dL_law_194 rfl ?_
  refine rn_iconst (v := nI 4) C dL_law_196 rfl ?_
  refine rn_iadd C dL_law_197 (nI_add _ _) ?_
  refine rn_sti C dL_law_198 hT rfl (by omega) (by omega) ?_
  refine rn_i2l C dL_law_199 rfl ?_
  refine rn_ldc2 C dL_law_200 lc_L_75 ?_
  refine rn_land C dL_law_203 rfl ?_
  refine rn_lor C dL_law_204 rfl ?_
  refine rn_aload_n C dL_law_205 rfl ?_
  refine rn_iload C dL_law_206 rfl ?_
  refine rn_iconst (v := nI 5) C dL_law_208 rfl ?_
  refine rn_iadd C dL_law_209 (nI_add _ _) ?_
  refine rn_sti C dL_law_210 hT rfl (by omega) (by omega) ?_
  refine rs_vv C dL_law_211 mk_X12_put lv_L_82 (cM n') hMd.1 rfl rfl rfl rfl hh (Nat.le_of_ble_eq_true rfl) hce hsl ?_
  refine rn_aload_n C dL_law_214 rfl ?_
  refine rs_vi (R := ((mthrown_f 335 T2).1, T2)) C dL_law_215 mk_X12_thrown lv_L_83 (cp_mthrown (S := T2) hMd) hMd.1 rfl rfl rfl rfl (by decide) (Nat.le_of_ble_eq_true rfl) hce hsl ?_
  rw [show ((mthrown_f 335 T2).1, T2).1 = kc from e0]
  refine rn_iload C dL_law_218 rfl ?_
  refine rn_icmp_eq (tgt := 225) C dL_law_220 (by decide) (fun _ => ?_) (fun h => absurd rfl h)
  refine rn_goto (tgt := 1268) C dL_law_225 (by decide) ?_
  exact rn_ks [0, 1, 2, 3, 4] (K T2 A2 n' hI2) rfl
theorem lc_feed (hA : LwH X L b N xs s4 s2) (hm : 6 * m + 6 ≤ N) (hI : Inv 0 335 B S A) (hce : ce + 1 ≤ 601024) (hsl : sl + 6 ≤ 7293033)
    (K : ∀ (S' : StT) (A' : AS) (n' : Nat), Inv 0 335 B S' A' → Rn X 1268 [(0, .ref b), (1, .ref (k_b X.1 + 0)), (2, .ref (k_b X.1 + 335)), (3, .ref (k_b X.1 + 363)), (4, .int (nI (6 * m)))] [] (inst X.1 L S'.1 S'.2.1 S'.2.2) n' (ce + 1) (sl + 6)) :
    Rn X 228 [(0, .ref b), (1, .ref (k_b X.1 + 0)), (2, .ref (k_b X.1 + 335)), (3, .ref (k_b X.1 + 363)), (4, .int (nI (6 * m)))] [] (inst X.1 L S.1 S.2.1 S.2.2) n ce sl := by
  obtain ⟨C, hT, hN, hX, hMd, hoo, hex, hst, hk4, hk2, hl4, hl2⟩ := hA
  obtain ⟨kc, r, T1, T2, A2, hM, hh, cW, cM, e0, er, hI2⟩ := pr_feed hX hMd hoo hex hI (Nat.le_refl _) (Nat.le_refl _) (decide ((xs (6 * m + 1)) ≠ 0)) (((xs (6 * m + 2)).toInt64 <<< ((nI 32).toInt64 &&& 63)) ||| ((xs (6 * m + 3)).toInt64 &&& 4294967295)) (xs (6 * m + 4))
  refine rn_aload_n C dL_law_228 rfl ?_
  refine rn_aload_n C dL_law_229 rfl ?_
  refine rn_iload C dL_law_230 rfl ?_
  refine rn_iconst (v := nI 1) C dL_law_232 rfl ?_
  refine rn_iadd C dL_law_233 (nI_add _ _) ?_
  refine rn_sti C dL_law_234 hT rfl (by omega) (by omega) ?_
  refine rn_nz C dL_law_235 dL_law_238 dL_law_239 dL_law_242 ?_
  refine rn_aload_n C dL_law_243 rfl ?_
  refine rn_iload C dL_law_244 rfl ?_
  refine rn_iconst (v := nI 2) C dL_law_246 rfl ?_
  refine rn_iadd C dL_law_247 (nI_add _ _) ?_
  refine rn_sti C dL_law_248 hT rfl (by omega) (by omega) ?_
  refine rn_i2l C dL_law_249 rfl ?_
  refine rn_bipush (v := nI 32) C dL_law_250 rfl ?_
  refine rn_lshl C dL_law_252 rfl ?_
  refine rn_aload_n C dL_law_253 rfl ?_
  refine rn_iload C dL_law_254 rfl ?_
  refine rn_iconst (v := nI 3) C dL_law_256 rfl ?_
  refine rn_iadd C dL_law_257 (nI_add _ _) ?_
  refine rn_sti C dL_law_258 hT rfl (by omega) (by omega) ?_
  refine rn_i2l C dL_law_259 rfl ?_
  refine rn_ldc2 C dL_law_260 lc_L_75 ?_
  refine rn_land C dL_law_263 rfl ?_
  refine rn_lor C dL_law_264 rfl ?_
  refine rn_aload_n C dL_law_265 rfl ?_
  refine rn_iload C dL_law_266 rfl ?_
  refine rn_iconst (v := nI 4) C dL_law_268 rfl ?_
  refine rn_iadd C dL_law_269 (nI_add _ _) ?_
  refine rn_sti C dL_law_270 hT rfl (by omega) (by omega) ?_
  refine rn_aload_n C dL_law_271 rfl ?_
  refine rn_callSW C dL_law_272 mw_feed (cW n) rfl rfl (by decide) (Nat.le_of_ble_eq_true rfl) hce hsl (fun v P' n' hp => ?_)
  obtain ⟨e1, e2, e3⟩ := hp
  cases e1
  subst e2
  refine rn_istore (lv' := [(0, .ref b), (1, .ref (k_b X.1 + 0)), (2, .ref (k_b X.1 + 335)), (3, .ref (k_b X.1 + 363)), (4, .int (nI (6 * m))), (5, .int kc)]) C dL_law_275 (by decide) rfl ?_
  refine rn_aload_n C dL_law_277 rfl ?_
  refine rn_aload_n C dL_law_278 rfl ?_
  refine rn_iload C dL_law_279 rfl ?_
  refine rn_iconst (v := nI 1) C dL_law_281 rfl ?_
  refine rn_iadd C dL_law_282 (nI_add _ _) ?_
  refine rn_sti C dL_law_283 hT rfl (by omega) (by omega) ?_
  refine rn_nz C dL_law_284 dL_law_287 dL_law_288 dL_law_291 ?_
  refine rn_aload_n C dL_law_292 rfl ?_
  refine rn_iload C dL_law_293 rfl ?_
  refine rn_iconst (v := nI 2) C dL_law_295 rfl ?_
  refine rn_iadd C dL_law_296 (nI_add _ _) ?_
  refine rn_sti C dL_law_297 hT rfl (by omega) (by omega) ?_
  refine rn_i2l C dL_law_298 rfl ?_
  refine rn_bipush (v := nI 32) C dL_law_299 rfl ?_
  refine rn_lshl C dL_law_301 rfl ?_
  refine rn_aload_n C dL_law_302 rfl ?_
  refine rn_iload C dL_law_303 rfl ?_
  refine rn_iconst (v := nI 3) C dL_law_305 rfl ?_
  refine rn_iadd C dL_law_306 (nI_add _ _) ?_
  refine rn_sti C dL_law_307 hT rfl (by omega) (by omega) ?_
  refine rn_i2l C dL_law_308 rfl ?_
  refine rn_ldc2 C dL_law_309 lc_L_75 ?_
  refine rn_land C dL_law_312 rfl ?_
  refine rn_lor C dL_law_313 rfl ?_
  refine rn_aload_n C dL_law_314 rfl ?_
  refine rn_iload C dL_law_315 rfl ?_
  refine rn_iconst (v := nI 4) C dL_law_317 rfl ?_
  refine rn_iadd C dL_law_318 (nI_add _ _) ?_
  refine rn_sti C dL_law_319 hT rfl (by omega) (by omega) ?_
  refine rs_vi (R := (r, T2)) C dL_law_320 mk_X12_feed lv_L_90 (cM n') hMd.1 rfl rfl rfl rfl hh (Nat.le_of_ble_eq_true rfl) hce hsl ?_
  refine rn_istore (lv' := [(0, .ref b), (1, .ref (k_b X.1 + 0)), (2, .ref (k_b X.1 + 335)), (3, .ref (k_b X.1 + 363)), (4, .int (nI (6 * m))), (5, .int kc), (6, .int r)]) C dL_law_323 (by decide) rfl ?_
  refine rn_aload_n C dL_law_325 rfl ?_
  refine rs_vi (R := ((mthrown_f 335 T2).1, T2)) C dL_law_326 mk_X12_thrown lv_L_83 (cp_mthrown (S := T2) hMd) hMd.1 rfl rfl rfl rfl (by decide) (Nat.le_of_ble_eq_true rfl) hce hsl ?_
  rw [show ((mthrown_f 335 T2).1, T2).1 = kc from e0]
  refine rn_iload C dL_law_329 rfl ?_
  refine rn_icmp_eq (tgt := 336) C dL_law_331 (by decide) (fun _ => ?_) (fun h => absurd rfl h)
  refine rn_iload C dL_law_336 rfl ?_
  have fin : Rn X 353 [(0, .ref b), (1, .ref (k_b X.1 + 0)), (2, .ref (k_b X.1 + 335)), (3, .ref (k_b X.1 + 363)), (4, .int (nI (6 * m))), (5, .int kc), (6, .int r)] [] (inst X.1 L T2.1 T2.2.1 T2.2.2) n' (ce + 1) (sl + 6) := by
    refine rn_goto (tgt := 1268) C dL_law_353 (by decide) ?_
    exact rn_ks [0, 1, 2, 3, 4] (K T2 A2 n' hI2) rfl
  refine rn_if_ne (tgt := 353) C dL_law_338 (by decide) (fun _ => fin) (fun h0 => ?_)
  refine rn_aload_n C dL_law_341 rfl ?_
  refine rn_iconst (v := nI 0) C dL_law_342 rfl ?_
  refine rs_laload (q := 0) C dL_law_343 hoo rfl (by decide) (by decide) ?_
  rw [er h0]
  refine rn_iload C dL_law_344 rfl ?_
  refine rn_i2l C dL_law_346 rfl ?_
  refine rn_lcmp C dL_law_347 ?_
  exact rn_if_eq (tgt := 353) C dL_law_348 (by decide) (fun _ => fin) (fun h => absurd (lgc_self _) h)
theorem lc_clear (hA : LwH X L b N xs s4 s2) (hm : 6 * m + 6 ≤ N) (hI : Inv 0 335 B S A) (hce : ce + 1 ≤ 601024) (hsl : sl + 6 ≤ 7293033)
    (K : ∀ (S' : StT) (A' : AS) (n' : Nat), Inv 0 335 B S' A' → Rn X 1268 [(0, .ref b), (1, .ref (k_b X.1 + 0)), (2, .ref (k_b X.1 + 335)), (3, .ref (k_b X.1 + 363)), (4, .int (nI (6 * m)))] [] (inst X.1 L S'.1 S'.2.1 S'.2.2) n' (ce + 1) (sl + 6)) :
    Rn X 356 [(0, .ref b), (1, .ref (k_b X.1 + 0)), (2, .ref (k_b X.1 + 335)), (3, .ref (k_b X.1 + 363)), (4, .int (nI (6 * m)))] [] (inst X.1 L S.1 S.2.1 S.2.2) n ce sl := by
  obtain ⟨C, hT, hN, hX, hMd, hoo, hex, hst, hk4, hk2, hl4, hl2⟩ := hA
  refine rn_aload_n C dL_law_356 rfl ?_
  refine rn_aload_n C dL_law_357 rfl ?_
  refine rn_iload C dL_law_358 rfl ?_
  refine rn_iconst (v := nI 1) C dL_law_360 rfl ?_
  refine rn_iadd C dL_law_361 (nI_add _ _) ?_
  refine rn_sti C dL_law_362 hT rfl (by omega) (by omega) ?_
  refine rn_nz C dL_law_363 dL_law_366 dL_law_367 dL_law_370 ?_
  by_cases hz : xs (6 * m + 1) = 0
  · rw [show decide (xs (6 * m + 1) ≠ 0) = false from decide_eq_false (fun h => h hz)]
    obtain ⟨r1, r2⟩ := xclear0_r 0 B S A hI.1
    have g := RM_out (Or.inl (Nat.le_refl _)) r2 hI.2.1
    refine rs_vv (R := xclear0_f 0 S) C dL_law_371 mk_X11_clear lv_L_91 (c_xclear0 (S := S) hX) hX.1 rfl rfl rfl rfl (by decide) (Nat.le_of_ble_eq_true rfl) (by omega) (by omega) ?_
    generalize xclear0_f 0 S = T1 at r1 r2 g
    refine rn_aload_n C dL_law_374 rfl ?_
    refine rn_aload_n C dL_law_375 rfl ?_
    refine rn_iload C dL_law_376 rfl ?_
    refine rn_iconst (v := nI 1) C dL_law_378 rfl ?_
    refine rn_iadd C dL_law_379 (nI_add _ _) ?_
    refine rn_sti C dL_law_380 hT rfl (by omega) (by omega) ?_
    refine rn_nz C dL_law_381 dL_law_384 dL_law_385 dL_law_388 ?_
    rw [show decide (xs (6 * m + 1) ≠ 0) = false from decide_eq_false (fun h => h hz)]
    obtain ⟨q1, q2⟩ := mclear0_r 335 B (bI false) T1 A (by decide) g
    refine rs_vv C dL_law_389 mk_X12_clear lv_L_95 (c_mclear (S := T1) hMd) hMd.1 rfl rfl rfl rfl (by decide) (Nat.le_of_ble_eq_true rfl) (by omega) (by omega) ?_
    refine rn_goto (tgt := 1268) C dL_law_392 (by decide) ?_
    exact rn_wide (Nat.le_add_right _ _) (Nat.le_add_right _ _) (K _ (setN A 0 0) _ ⟨RC_out (Or.inl (Nat.le_refl _)) q2 r1, q1, clear0_v hI.2.2⟩)
  · rw [show decide (xs (6 * m + 1) ≠ 0) = true from decide_eq_true hz]
    obtain ⟨r1, r2⟩ := xclear1_r 0 B S A hI.1
    have g := RM_out (Or.inl (Nat.le_refl _)) r2 hI.2.1
    refine rs_vv (R := xclear1_f 0 S) C dL_law_371 mk_X11_clear lv_L_91 (c_xclear1 (S := S) hX) hX.1 rfl rfl rfl rfl (by decide) (Nat.le_of_ble_eq_true rfl) (by omega) (by omega) ?_
    generalize xclear1_f 0 S = T1 at r1 r2 g
    refine rn_aload_n C dL_law_374 rfl ?_
    refine rn_aload_n C dL_law_375 rfl ?_
    refine rn_iload C dL_law_376 rfl ?_
    refine rn_iconst (v := nI 1) C dL_law_378 rfl ?_
    refine rn_iadd C dL_law_379 (nI_add _ _) ?_
    refine rn_sti C dL_law_380 hT rfl (by omega) (by omega) ?_
    refine rn_nz C dL_law_381 dL_law_384 dL_law_385 dL_law_388 ?_
    rw [show decide (xs (6 * m + 1) ≠ 0) = true from decide_eq_true hz]
    obtain ⟨q1, q2⟩ := mclear1_r 335 B (bI true) T1 A (by decide) g
    refine rs_vv C dL_law_389 mk_X12_clear lv_L_95 (c_mclear (S := T1) hMd) hMd.1 rfl rfl rfl rfl (by decide) (Nat.le_of_ble_eq_true rfl) (by omega) (by omega) ?_
    refine rn_goto (tgt := 1268) C dL_law_392 (by decide) ?_
    exact rn_wide (Nat.le_add_right _ _) (Nat.le_add_right _ _) (K _ (setN A 1 0) _ ⟨RC_out (Or.inl (Nat.le_refl _)) q2 r1, q1, clear1_v hI.2.2⟩)
theorem lc_move (hA : LwH X L b N xs s4 s2) (hm : 6 * m + 6 ≤ N) (hI : Inv 0 335 B S A) (hce : ce + 1 ≤ 601024) (hsl : sl + 6 ≤ 7293033)
    (K : ∀ (S' : StT) (A' : AS) (n' : Nat), Inv 0 335 B S' A' → Rn X 1268 [(0, .ref b), (1, .ref (k_b X.1 + 0)), (2, .ref (k_b X.1 + 335)), (3, .ref (k_b X.1 + 363)), (4, .int (nI (6 * m)))] [] (inst X.1 L S'.1 S'.2.1 S'.2.2) n' (ce + 1) (sl + 6)) :
    Rn X 395 [(0, .ref b), (1, .ref (k_b X.1 + 0)), (2, .ref (k_b X.1 + 335)), (3, .ref (k_b X.1 + 363)), (4, .int (nI (6 * m)))] [] (inst X.1 L S.1 S.2.1 S.2.2) n ce sl := by
  obtain ⟨C, hT, hN, hX, hMd, hoo, hex, hst, hk4, hk2, hl4, hl2⟩ := hA
  obtain ⟨kc, r, T1, T2, A2, hM, hh, cW, cM, e0, er, hI2⟩ := pr_move hX hMd hoo hex hI (Nat.le_refl _) (Nat.le_refl _) (xs (6 * m + 1))
  refine rn_aload_n C dL_law_395 rfl ?_
  refine rn_aload_n C dL_law_396 rfl ?_
  refine rn_iload C dL_law_397 rfl ?_
  refine rn_iconst (v := nI 1) C dL_law_399 rfl ?_
  refine rn_iadd C dL_law_400 (nI_add _ _) ?_
  refine rn_sti C dL_law_401 hT rfl (by omega) (by omega) ?_
  refine rn_aload_n C dL_law_402 rfl ?_
  refine rn_callSW C dL_law_403 mw_move (cW n) rfl rfl (by decide) (Nat.le_of_ble_eq_true rfl) hce hsl (fun v P' n' hp => ?_)
  obtain ⟨e1, e2, e3⟩ := hp
  cases e1
  subst e2
  refine rn_istore (lv' := [(0, .ref b), (1, .ref (k_b X.1 + 0)), (2, .ref (k_b X.1 + 335)), (3, .ref (k_b X.1 + 363)), (4, .int (nI (6 * m))), (5, .int kc)]) C dL_law_406 (by decide) rfl ?_
  refine rn_aload_n C dL_law_408 rfl ?_
  refine rn_aload_n C dL_law_409 rfl ?_
  refine rn_iload C dL_law_410 rfl ?_
  refine rn_iconst (v := nI 1) C dL_law_412 rfl ?_
  refine rn_iadd C dL_law_413 (nI_add _ _) ?_
  refine rn_sti C dL_law_414 hT rfl (by omega) (by omega) ?_
  refine rs_vi (R := (r, T2)) C dL_law_415 mk_X12_move lv_L_99 (cM n') hMd.1 rfl rfl rfl rfl hh (Nat.le_of_ble_eq_true rfl) hce hsl ?_
  refine rn_istore (lv' := [(0, .ref b), (1, .ref (k_b X.1 + 0)), (2, .ref (k_b X.1 + 335)), (3, .ref (k_b X.1 + 363)), (4, .int (nI (6 * m))), (5, .int kc), (6, .int r)]) C dL_law_418 (by decide) rfl ?_
  refine rn_aload_n C dL_law_420 rfl ?_
  refine rs_vi (R := ((mthrown_f 335 T2).1, T2)) C dL_law_421 mk_X12_thrown lv_L_83 (cp_mthrown (S := T2) hMd) hMd.1 rfl rfl rfl rfl (by decide) (Nat.le_of_ble_eq_true rfl) hce hsl ?_
  rw [show ((mthrown_f 335 T2).1, T2).1 = kc from e0]
  refine rn_iload C dL_law_424 rfl ?_
  refine rn_icmp_eq (tgt := 431) C dL_law_426 (by decide) (fun _ => ?_) (fun h => absurd rfl h)
  refine rn_iload C dL_law_431 rfl ?_
  have fin : Rn X 448 [(0, .ref b), (1, .ref (k_b X.1 + 0)), (2, .ref (k_b X.1 + 335)), (3, .ref (k_b X.1 + 363)), (4, .int (nI (6 * m))), (5, .int kc), (6, .int r)] [] (inst X.1 L T2.1 T2.2.1 T2.2.2) n' (ce + 1) (sl + 6) := by
    refine rn_goto (tgt := 1268) C dL_law_448 (by decide) ?_
    exact rn_ks [0, 1, 2, 3, 4] (K T2 A2 n' hI2) rfl
  refine rn_if_ne (tgt := 448) C dL_law_433 (by decide) (fun _ => fin) (fun h0 => ?_)
  refine rn_aload_n C dL_law_436 rfl ?_
  refine rn_iconst (v := nI 0) C dL_law_437 rfl ?_
  refine rs_laload (q := 0) C dL_law_438 hoo rfl (by decide) (by decide) ?_
  rw [er h0]
  refine rn_iload C dL_law_439 rfl ?_
  refine rn_i2l C dL_law_441 rfl ?_
  refine rn_lcmp C dL_law_442 ?_
  exact rn_if_eq (tgt := 448) C dL_law_443 (by decide) (fun _ => fin) (fun h => absurd (lgc_self _) h)
theorem lc_look (hA : LwH X L b N xs s4 s2) (hm : 6 * m + 6 ≤ N) (hI : Inv 0 335 B S A) (hce : ce + 1 ≤ 601024) (hsl : sl + 6 ≤ 7293033)
    (K : ∀ (S' : StT) (A' : AS) (n' : Nat), Inv 0 335 B S' A' → Rn X 1268 [(0, .ref b), (1, .ref (k_b X.1 + 0)), (2, .ref (k_b X.1 + 335)), (3, .ref (k_b X.1 + 363)), (4, .int (nI (6 * m)))] [] (inst X.1 L S'.1 S'.2.1 S'.2.2) n' (ce + 1) (sl + 6)) :
    Rn X 451 [(0, .ref b), (1, .ref (k_b X.1 + 0)), (2, .ref (k_b X.1 + 335)), (3, .ref (k_b X.1 + 363)), (4, .int (nI (6 * m)))] [] (inst X.1 L S.1 S.2.1 S.2.2) n ce sl := by
  obtain ⟨C, hT, hN, hX, hMd, hoo, hex, hst, hk4, hk2, hl4, hl2⟩ := hA
  obtain ⟨kc, r, T1, T2, A2, hM, hh, cW, cM, e0, er, hI2⟩ := pr_look hX hMd hoo hex hI (Nat.le_refl _) (Nat.le_refl _) (xs (6 * m + 1)) (xs (6 * m + 2))
  refine rn_aload_n C dL_law_451 rfl ?_
  refine rn_aload_n C dL_law_452 rfl ?_
  refine rn_iload C dL_law_453 rfl ?_
  refine rn_iconst (v := nI 1) C dL_law_455 rfl ?_
  refine rn_iadd C dL_law_456 (nI_add _ _) ?_
  refine rn_sti C dL_law_457 hT rfl (by omega) (by omega) ?_
  refine rn_aload_n C dL_law_458 rfl ?_
  refine rn_iload C dL_law_459 rfl ?_
  refine rn_iconst (v := nI 2) C dL_law_461 rfl ?_
  refine rn_iadd C dL_law_462 (nI_add _ _) ?_
  refine rn_sti C dL_law_463 hT rfl (by omega) (by omega) ?_
  refine rn_aload_n C dL_law_464 rfl ?_
  refine rn_callSW C dL_law_465 mw_look (cW n) rfl rfl (by decide) (Nat.le_of_ble_eq_true rfl) hce hsl (fun v P' n' hp => ?_)
  obtain ⟨e1, e2, e3⟩ := hp
  cases e1
  subst e2
  refine rn_istore (lv' := [(0, .ref b), (1, .ref (k_b X.1 + 0)), (2, .ref (k_b X.1 + 335)), (3, .ref (k_b X.1 + 363)), (4, .int (nI (6 * m))), (5, .int kc)]) C dL_law_468 (by decide) rfl ?_
  refine rn_aload_n C dL_law_470 rfl ?_
  refine rn_aload_n C dL_law_471 rfl ?_
  refine rn_iload C dL_law_472 rfl ?_
  refine rn_iconst (v := nI 1) C dL_law_474 rfl ?_
  refine rn_iadd C dL_law_475 (nI_add _ _) ?_
  refine rn_sti C dL_law_476 hT rfl (by omega) (by omega) ?_
  refine rn_aload_n C dL_law_477 rfl ?_
  refine rn_iload C dL_law_478 rfl ?_
  refine rn_iconst (v := nI 2) C dL_law_480 rfl ?_
  refine rn_iadd C dL_law_481 (nI_add _ _) ?_
  refine rn_sti C dL_law_482 hT rfl (by omega) (by omega) ?_
  refine rs_vi (R := (r, T2)) C dL_law_483 mk_X12_look lv_L_103 (cM n') hMd.1 rfl rfl rfl rfl hh (Nat.le_of_ble_eq_true rfl) hce hsl ?_
  refine rn_istore (lv' := [(0, .ref b), (1, .ref (k_b X.1 + 0)), (2, .ref (k_b X.1 + 335)), (3, .ref (k_b X.1 + 363)), (4, .int (nI (6 * m))), (5, .int kc), (6, .int r)]) C dL_law_486 (by decide) rfl ?_
  refine rn_aload_n C dL_law_488 rfl ?_
  refine rs_vi (R := ((mthrown_f 335 T2).1, T2)) C dL_law_489 mk_X12_thrown lv_L_83 (cp_mthrown (S := T2) hMd) hMd.1 rfl rfl rfl rfl (by decide) (Nat.le_of_ble_eq_true rfl) hce hsl ?_
  rw [show ((mthrown_f 335 T2).1, T2).1 = kc from e0]
  refine rn_iload C dL_law_492 rfl ?_
  refine rn_icmp_eq (tgt := 499) C dL_law_494 (by decide) (fun _ => ?_) (fun h => absurd rfl h)
  refine rn_iload C dL_law_499 rfl ?_
  have fin : Rn X 516 [(0, .ref b), (1, .ref (k_b X.1 + 0)), (2, .ref (k_b X.1 + 335)), (3, .ref (k_b X.1 + 363)), (4, .int (nI (6 * m))), (5, .int kc), (6, .int r)] [] (inst X.1 L T2.1 T2.2.1 T2.2.2) n' (ce + 1) (sl + 6) := by
    refine rn_goto (tgt := 1268) C dL_law_516 (by decide) ?_
    exact rn_ks [0, 1, 2, 3, 4] (K T2 A2 n' hI2) rfl
  refine rn_if_ne (tgt := 516) C dL_law_501 (by decide) (fun _ => fin) (fun h0 => ?_)
  refine rn_aload_n C dL_law_504 rfl ?_
  refine rn_iconst (v := nI 0) C dL_law_505 rfl ?_
  refine rs_laload (q := 0) C dL_law_506 hoo rfl (by decide) (by decide) ?_
  rw [er h0]
  refine rn_iload C dL_law_507 rfl ?_
  refine rn_i2l C dL_law_509 rfl ?_
  refine rn_lcmp C dL_law_510 ?_
  exact rn_if_eq (tgt := 516) C dL_law_511 (by decide) (fun _ => fin) (fun h => absurd (lgc_self _) h)
theorem lc_size (hA : LwH X L b N xs s4 s2) (hm : 6 * m + 6 ≤ N) (hI : Inv 0 335 B S A) (hce : ce + 1 ≤ 601024) (hsl : sl + 6 ≤ 7293033)
    (K : ∀ (S' : StT) (A' : AS) (n' : Nat), Inv 0 335 B S' A' → Rn X 1268 [(0, .ref b), (1, .ref (k_b X.1 + 0)), (2, .ref (k_b X.1 + 335)), (3, .ref (k_b X.1 + 363)), (4, .int (nI (6 * m)))] [] (inst X.1 L S'.1 S'.2.1 S'.2.2) n' (ce + 1) (sl + 6)) :
    Rn X 519 [(0, .ref b), (1, .ref (k_b X.1 + 0)), (2, .ref (k_b X.1 + 335)), (3, .ref (k_b X.1 + 363)), (4, .int (nI (6 * m)))] [] (inst X.1 L S.1 S.2.1 S.2.2) n ce sl := by
  obtain ⟨C, hT, hN, hX, hMd, hoo, hex, hst, hk4, hk2, hl4, hl2⟩ := hA
  obtain ⟨e1, e2, e3, e4, e5⟩ := size_r 0 335 B S S A hI.1 hI.2.1
  refine rn_aload_n C dL_law_519 rfl ?_
  refine rs_vi (R := xsize_f 0 (A.2.1 2) S) C dL_law_520 mk_X11_size lv_L_104 (c_xsize (S := S) hX hI.1.2.1.2.2.1 hI.2.2.2.2.2.2.2.2.2.2) hX.1 rfl rfl rfl rfl (by decide) (Nat.le_of_ble_eq_true rfl) (by omega) (by omega) ?_
  rw [e2, e1]
  refine rn_aload_n C dL_law_523 rfl ?_
  refine rs_vi (R := msize_f 335 S) C dL_law_524 mk_X12_size lv_L_107 (c_msize (S := S) hMd) hMd.1 rfl rfl rfl rfl (by decide) (Nat.le_of_ble_eq_true rfl) (by omega) (by omega) ?_
  rw [e3]
  refine rn_icmp_eq (tgt := 1268) C dL_law_527 (by decide) (fun _ => ?_) (fun h => absurd rfl h)
  exact rn_wide (Nat.le_add_right _ _) (Nat.le_add_right _ _) (K _ A _ ⟨RC_out (Or.inl (Nat.le_refl _)) e5 hI.1, e4, hI.2.2⟩)
theorem lc_hash (hA : LwH X L b N xs s4 s2) (hm : 6 * m + 6 ≤ N) (hI : Inv 0 335 B S A) (hce : ce + 1 ≤ 601024) (hsl : sl + 6 ≤ 7293033)
    (K : ∀ (S' : StT) (A' : AS) (n' : Nat), Inv 0 335 B S' A' → Rn X 1268 [(0, .ref b), (1, .ref (k_b X.1 + 0)), (2, .ref (k_b X.1 + 335)), (3, .ref (k_b X.1 + 363)), (4, .int (nI (6 * m)))] [] (inst X.1 L S'.1 S'.2.1 S'.2.2) n' (ce + 1) (sl + 6)) :
    Rn X 532 [(0, .ref b), (1, .ref (k_b X.1 + 0)), (2, .ref (k_b X.1 + 335)), (3, .ref (k_b X.1 + 363)), (4, .int (nI (6 * m)))] [] (inst X.1 L S.1 S.2.1 S.2.2) n ce sl := by
  obtain ⟨C, hT, hN, hX, hMd, hoo, hex, hst, hk4, hk2, hl4, hl2⟩ := hA
  obtain ⟨kc, T1, T2, A2, hM, hh, cW, cM, e0, hI2⟩ := pr_hash hX hMd hex hst hI (Nat.le_refl _) (decide ((xs (6 * m + 1)) ≠ 0)) (xs (6 * m + 2))
  refine rn_aload_n C dL_law_532 rfl ?_
  refine rn_aload_n C dL_law_533 rfl ?_
  refine rn_iload C dL_law_534 rfl ?_
  refine rn_iconst (v := nI 1) C dL_law_536 rfl ?_
  refine rn_iadd C dL_law_537 (nI_add _ _) ?_
  refine rn_sti C dL_law_538 hT rfl (by omega) (by omega) ?_
  refine rn_nz C dL_law_539 dL_law_542 dL_law_543 dL_law_546 ?_
  refine rn_aload_n C dL_law_547 rfl ?_
  refine rn_iload C dL_law_548 rfl ?_
  refine rn_iconst (v := nI 2) C dL_law_550 rfl ?_
  refine rn_iadd C dL_law_551 (nI_add _ _) ?_
  refine rn_sti C dL_law_552 hT rfl (by omega) (by omega) ?_
  refine rn_callSW C dL_law_553 mw_hash (cW n) rfl rfl (by decide) (Nat.le_of_ble_eq_true rfl) hce hsl (fun v P' n' hp => ?_)
  obtain ⟨e1, e2, e3⟩ := hp
  cases e1
  subst e2
  refine rn_istore (lv' := [(0, .ref b), (1, .ref (k_b X.1 + 0)), (2, .ref (k_b X.1 + 335)), (3, .ref (k_b X.1 + 363)), (4, .int (nI (6 * m))), (5, .int kc)]) C dL_law_556 (by decide) rfl ?_
  refine rn_aload_n C dL_law_558 rfl ?_
  refine rn_aload_n C dL_law_559 rfl ?_
  refine rn_iload C dL_law_560 rfl ?_
  refine rn_iconst (v := nI 1) C dL_law_562 rfl ?_
  refine rn_iadd C dL_law_563 (nI_add _ _) ?_
  refine rn_sti C dL_law_564 hT rfl (by omega) (by omega) ?_
  refine rn_nz C dL_law_565 dL_law_568 dL_law_569 dL_law_572 ?_
  refine rn_aload_n C dL_law_573 rfl ?_
  refine rn_iload C dL_law_574 rfl ?_
  refine rn_iconst (v := nI 2) C dL_law_576 rfl ?_
  refine rn_iadd C dL_law_577 (nI_add _ _) ?_
  refine rn_sti C dL_law_578 hT rfl (by omega) (by omega) ?_
  refine rs_vv C dL_law_579 mk_X12_hash lv_L_111 (cM n') hMd.1 rfl rfl rfl rfl hh (Nat.le_of_ble_eq_true rfl) hce hsl ?_
  refine rn_aload_n C dL_law_582 rfl ?_
  refine rs_vi (R := ((mthrown_f 335 T2).1, T2)) C dL_law_583 mk_X12_thrown lv_L_83 (cp_mthrown (S := T2) hMd) hMd.1 rfl rfl rfl rfl (by decide) (Nat.le_of_ble_eq_true rfl) hce hsl ?_
  rw [show ((mthrown_f 335 T2).1, T2).1 = kc from e0]
  refine rn_iload C dL_law_586 rfl ?_
  refine rn_icmp_eq (tgt := 593) C dL_law_588 (by decide) (fun _ => ?_) (fun h => absurd rfl h)
  refine rn_goto (tgt := 1268) C dL_law_593 (by decide) ?_
  exact rn_ks [0, 1, 2, 3, 4] (K T2 A2 n' hI2) rfl
theorem lc_agree (hA : LwH X L b N xs s4 s2) (hm : 6 * m + 6 ≤ N) (hI : Inv 0 335 B S A) (hce : ce + 1 ≤ 601024) (hsl : sl + 6 ≤ 7293033)
    (K : ∀ (S' : StT) (A' : AS) (n' : Nat), Inv 0 335 B S' A' → Rn X 1268 [(0, .ref b), (1, .ref (k_b X.1 + 0)), (2, .ref (k_b X.1 + 335)), (3, .ref (k_b X.1 + 363)), (4, .int (nI (6 * m)))] [] (inst X.1 L S'.1 S'.2.1 S'.2.2) n' (ce + 1) (sl + 6)) :
    Rn X 596 [(0, .ref b), (1, .ref (k_b X.1 + 0)), (2, .ref (k_b X.1 + 335)), (3, .ref (k_b X.1 + 363)), (4, .int (nI (6 * m)))] [] (inst X.1 L S.1 S.2.1 S.2.2) n ce sl := by
  obtain ⟨C, hT, hN, hX, hMd, hoo, hex, hst, hk4, hk2, hl4, hl2⟩ := hA
  obtain ⟨kc, r, T1, T2, A2, hM, hh, cW, cM, e0, er, hI2⟩ := pr_agree hX hMd hoo hex hI (Nat.le_refl _) (Nat.le_refl _) (xs (6 * m + 1)) (decide ((xs (6 * m + 2)) ≠ 0))
  refine rn_aload_n C dL_law_596 rfl ?_
  refine rn_aload_n C dL_law_597 rfl ?_
  refine rn_iload C dL_law_598 rfl ?_
  refine rn_iconst (v := nI 1) C dL_law_600 rfl ?_
  refine rn_iadd C dL_law_601 (nI_add _ _) ?_
  refine rn_sti C dL_law_602 hT rfl (by omega) (by omega) ?_
  refine rn_aload_n C dL_law_603 rfl ?_
  refine rn_iload C dL_law_604 rfl ?_
  refine rn_iconst (v := nI 2) C dL_law_606 rfl ?_
  refine rn_iadd C dL_law_607 (nI_add _ _) ?_
  refine rn_sti C dL_law_608 hT rfl (by omega) (by omega) ?_
  refine rn_nz C dL_law_609 dL_law_612 dL_law_613 dL_law_616 ?_
  refine rn_aload_n C dL_law_617 rfl ?_
  refine rn_callSW C dL_law_618 mw_agree (cW n) rfl rfl (by decide) (Nat.le_of_ble_eq_true rfl) hce hsl (fun v P' n' hp => ?_)
  obtain ⟨e1, e2, e3⟩ := hp
  cases e1
  subst e2
  refine rn_istore (lv' := [(0, .ref b), (1, .ref (k_b X.1 + 0)), (2, .ref (k_b X.1 + 335)), (3, .ref (k_b X.1 + 363)), (4, .int (nI (6 * m))), (5, .int kc)]) C dL_law_621 (by decide) rfl ?_
  refine rn_aload_n C dL_law_623 rfl ?_
  refine rn_aload_n C dL_law_624 rfl ?_
  refine rn_iload C dL_law_625 rfl ?_
  refine rn_iconst (v := nI 1) C dL_law_627 rfl ?_
  refine rn_iadd C dL_law_628 (nI_add _ _) ?_
  refine rn_sti C dL_law_629 hT rfl (by omega) (by omega) ?_
  refine rn_aload_n C dL_law_630 rfl ?_
  refine rn_iload C dL_law_631 rfl ?_
  refine rn_iconst (v := nI 2) C dL_law_633 rfl ?_
  refine rn_iadd C dL_law_634 (nI_add _ _) ?_
  refine rn_sti C dL_law_635 hT rfl (by omega) (by omega) ?_
  refine rn_nz C dL_law_636 dL_law_639 dL_law_640 dL_law_643 ?_
  refine rs_vi (R := (r, T2)) C dL_law_644 mk_X12_agree lv_L_115 (cM n') hMd.1 rfl rfl rfl rfl hh (Nat.le_of_ble_eq_true rfl) hce hsl ?_
  refine rn_istore (lv' := [(0, .ref b), (1, .ref (k_b X.1 + 0)), (2, .ref (k_b X.1 + 335)), (3, .ref (k_b X.1 + 363)), (4, .int (nI (6 * m))), (5, .int kc), (6, .int r)]) C dL_law_647 (by decide) rfl ?_
  refine rn_aload_n C dL_law_649 rfl ?_
  refine rs_vi (R := ((mthrown_f 335 T2).1, T2)) C dL_law_650 mk_X12_thrown lv_L_83 (cp_mthrown (S := T2) hMd) hMd.1 rfl rfl rfl rfl (by decide) (Nat.le_of_ble_eq_true rfl) hce hsl ?_
  rw [show ((mthrown_f 335 T2).1, T2).1 = kc from e0]
  refine rn_iload C dL_law_653 rfl ?_
  refine rn_icmp_eq (tgt := 660) C dL_law_655 (by decide) (fun _ => ?_) (fun h => absurd rfl h)
  refine rn_iload C dL_law_660 rfl ?_
  have fin : Rn X 684 [(0, .ref b), (1, .ref (k_b X.1 + 0)), (2, .ref (k_b X.1 + 335)), (3, .ref (k_b X.1 + 363)), (4, .int (nI (6 * m))), (5, .int kc), (6, .int r)] [] (inst X.1 L T2.1 T2.2.1 T2.2.2) n' (ce + 1) (sl + 6) := by
    refine rn_goto (tgt := 1268) C dL_law_684 (by decide) ?_
    exact rn_ks [0, 1, 2, 3, 4] (K T2 A2 n' hI2) rfl
  refine rn_if_ne (tgt := 684) C dL_law_662 (by decide) (fun _ => fin) (fun h0 => ?_)
  refine rn_aload_n C dL_law_665 rfl ?_
  refine rn_iconst (v := nI 0) C dL_law_666 rfl ?_
  refine rs_laload (q := 0) C dL_law_667 hoo rfl (by decide) (by decide) ?_
  rw [er h0]
  refine rn_iload C dL_law_668 rfl ?_
  refine rn_nzL C dL_law_670 dL_law_673 dL_law_674 dL_law_677 ?_
  refine rn_lcmp C dL_law_678 ?_
  exact rn_if_eq (tgt := 684) C dL_law_679 (by decide) (fun _ => fin) (fun h => absurd (lgc_self _) h)
theorem lc_derive (hA : LwH X L b N xs s4 s2) (hm : 6 * m + 6 ≤ N) (hI : Inv 0 335 B S A) (hce : ce + 1 ≤ 601024) (hsl : sl + 6 ≤ 7293033)
    (K : ∀ (S' : StT) (A' : AS) (n' : Nat), Inv 0 335 B S' A' → Rn X 1268 [(0, .ref b), (1, .ref (k_b X.1 + 0)), (2, .ref (k_b X.1 + 335)), (3, .ref (k_b X.1 + 363)), (4, .int (nI (6 * m)))] [] (inst X.1 L S'.1 S'.2.1 S'.2.2) n' (ce + 1) (sl + 6)) :
    Rn X 687 [(0, .ref b), (1, .ref (k_b X.1 + 0)), (2, .ref (k_b X.1 + 335)), (3, .ref (k_b X.1 + 363)), (4, .int (nI (6 * m)))] [] (inst X.1 L S.1 S.2.1 S.2.2) n ce sl := by
  obtain ⟨C, hT, hN, hX, hMd, hoo, hex, hst, hk4, hk2, hl4, hl2⟩ := hA
  obtain ⟨kc, T1, T2, A2, hM, hh, cW, cM, e0, hI2⟩ := pr_derive hX hMd hex hst hI (Nat.le_refl _) (xs (6 * m + 1))
  refine rn_aload_n C dL_law_687 rfl ?_
  refine rn_aload_n C dL_law_688 rfl ?_
  refine rn_iload C dL_law_689 rfl ?_
  refine rn_iconst (v := nI 1) C dL_law_691 rfl ?_
  refine rn_iadd C dL_law_692 (nI_add _ _) ?_
  refine rn_sti C dL_law_693 hT rfl (by omega) (by omega) ?_
  refine rn_callSW C dL_law_694 mw_derive (cW n) rfl rfl (by decide) (Nat.le_of_ble_eq_true rfl) hce hsl (fun v P' n' hp => ?_)
  obtain ⟨e1, e2, e3⟩ := hp
  cases e1
  subst e2
  refine rn_istore (lv' := [(0, .ref b), (1, .ref (k_b X.1 + 0)), (2, .ref (k_b X.1 + 335)), (3, .ref (k_b X.1 + 363)), (4, .int (nI (6 * m))), (5, .int kc)]) C dL_law_697 (by decide) rfl ?_
  refine rn_aload_n C dL_law_699 rfl ?_
  refine rn_aload_n C dL_law_700 rfl ?_
  refine rn_iload C dL_law_701 rfl ?_
  refine rn_iconst (v := nI 1) C dL_law_703 rfl ?_
  refine rn_iadd C dL_law_704 (nI_add _ _) ?_
  refine rn_sti C dL_law_705 hT rfl (by omega) (by omega) ?_
  refine rs_vv C dL_law_706 mk_X12_derive lv_L_119 (cM n') hMd.1 rfl rfl rfl rfl hh (Nat.le_of_ble_eq_true rfl) hce hsl ?_
  refine rn_aload_n C dL_law_709 rfl ?_
  refine rs_vi (R := ((mthrown_f 335 T2).1, T2)) C dL_law_710 mk_X12_thrown lv_L_83 (cp_mthrown (S := T2) hMd) hMd.1 rfl rfl rfl rfl (by decide) (Nat.le_of_ble_eq_true rfl) hce hsl ?_
  rw [show ((mthrown_f 335 T2).1, T2).1 = kc from e0]
  refine rn_iload C dL_law_713 rfl ?_
  refine rn_icmp_eq (tgt := 720) C dL_law_715 (by decide) (fun _ => ?_) (fun h => absurd rfl h)
  refine rn_goto (tgt := 1268) C dL_law_720 (by decide) ?_
  exact rn_ks [0, 1, 2, 3, 4] (K T2 A2 n' hI2) rfl
theorem lc_sign (hA : LwH X L b N xs s4 s2) (hm : 6 * m + 6 ≤ N) (hI : Inv 0 335 B S A) (hce : ce + 1 ≤ 601024) (hsl : sl + 6 ≤ 7293033)
    (K : ∀ (S' : StT) (A' : AS) (n' : Nat), Inv 0 335 B S' A' → Rn X 1268 [(0, .ref b), (1, .ref (k_b X.1 + 0)), (2, .ref (k_b X.1 + 335)), (3, .ref (k_b X.1 + 363)), (4, .int (nI (6 * m)))] [] (inst X.1 L S'.1 S'.2.1 S'.2.2) n' (ce + 1) (sl + 6)) :
    Rn X 723 [(0, .ref b), (1, .ref (k_b X.1 + 0)), (2, .ref (k_b X.1 + 335)), (3, .ref (k_b X.1 + 363)), (4, .int (nI (6 * m)))] [] (inst X.1 L S.1 S.2.1 S.2.2) n ce sl := by
  obtain ⟨C, hT, hN, hX, hMd, hoo, hex, hst, hk4, hk2, hl4, hl2⟩ := hA
  obtain ⟨kc, T1, T2, A2, hM, hh, cW, cM, e0, hI2⟩ := pr_sign hX hMd hex hst hk4 hk2 hl4 hl2 hI (Nat.le_refl _) (xs (6 * m + 1)) (decide ((xs (6 * m + 2)) ≠ 0))
  refine rn_aload_n C dL_law_723 rfl ?_
  refine rn_aload_n C dL_law_724 rfl ?_
  refine rn_iload C dL_law_725 rfl ?_
  refine rn_iconst (v := nI 1) C dL_law_727 rfl ?_
  refine rn_iadd C dL_law_728 (nI_add _ _) ?_
  refine rn_sti C dL_law_729 hT rfl (by omega) (by omega) ?_
  refine rn_aload_n C dL_law_730 rfl ?_
  refine rn_iload C dL_law_731 rfl ?_
  refine rn_iconst (v := nI 2) C dL_law_733 rfl ?_
  refine rn_iadd C dL_law_734 (nI_add _ _) ?_
  refine rn_sti C dL_law_735 hT rfl (by omega) (by omega) ?_
  refine rn_nz C dL_law_736 dL_law_739 dL_law_740 dL_law_743 ?_
  refine rn_callSW C dL_law_744 mw_sign (cW n) rfl rfl (by decide) (Nat.le_of_ble_eq_true rfl) hce hsl (fun v P' n' hp => ?_)
  obtain ⟨e1, e2, e3⟩ := hp
  cases e1
  subst e2
  refine rn_istore (lv' := [(0, .ref b), (1, .ref (k_b X.1 + 0)), (2, .ref (k_b X.1 + 335)), (3, .ref (k_b X.1 + 363)), (4, .int (nI (6 * m))), (5, .int kc)]) C dL_law_747 (by decide) rfl ?_
  refine rn_aload_n C dL_law_749 rfl ?_
  refine rn_aload_n C dL_law_750 rfl ?_
  refine rn_iload C dL_law_751 rfl ?_
  refine rn_iconst (v := nI 1) C dL_law_753 rfl ?_
  refine rn_iadd C dL_law_754 (nI_add _ _) ?_
  refine rn_sti C dL_law_755 hT rfl (by omega) (by omega) ?_
  refine rn_aload_n C dL_law_756 rfl ?_
  refine rn_iload C dL_law_757 rfl ?_
  refine rn_iconst (v := nI 2) C dL_law_759 rfl ?_
  refine rn_iadd C dL_law_760 (nI_add _ _) ?_
  refine rn_sti C dL_law_761 hT rfl (by omega) (by omega) ?_
  refine rn_nz C dL_law_762 dL_law_765 dL_law_766 dL_law_769 ?_
  refine rs_vv C dL_law_770 mk_X12_sign lv_L_123 (cM n') hMd.1 rfl rfl rfl rfl hh (Nat.le_of_ble_eq_true rfl) hce hsl ?_
  refine rn_aload_n C dL_law_773 rfl ?_
  refine rs_vi (R := ((mthrown_f 335 T2).1, T2)) C dL_law_774 mk_X12_thrown lv_L_83 (cp_mthrown (S := T2) hMd) hMd.1 rfl rfl rfl rfl (by decide) (Nat.le_of_ble_eq_true rfl) hce hsl ?_
  rw [show ((mthrown_f 335 T2).1, T2).1 = kc from e0]
  refine rn_iload C dL_law_777 rfl ?_
  refine rn_icmp_eq (tgt := 784) C dL_law_779 (by decide) (fun _ => ?_) (fun h => absurd rfl h)
  refine rn_goto (tgt := 1268) C dL_law_784 (by decide) ?_
  exact rn_ks [0, 1, 2, 3, 4] (K T2 A2 n' hI2) rfl
theorem lc_verify (hA : LwH X L b N xs s4 s2) (hm : 6 * m + 6 ≤ N) (hI : Inv 0 335 B S A) (hce : ce + 1 ≤ 601024) (hsl : sl + 6 ≤ 7293033)
    (K : ∀ (S' : StT) (A' : AS) (n' : Nat), Inv 0 335 B S' A' → Rn X 1268 [(0, .ref b), (1, .ref (k_b X.1 + 0)), (2, .ref (k_b X.1 + 335)), (3, .ref (k_b X.1 + 363)), (4, .int (nI (6 * m)))] [] (inst X.1 L S'.1 S'.2.1 S'.2.2) n' (ce + 1) (sl + 6)) :
    Rn X 787 [(0, .ref b), (1, .ref (k_b X.1 + 0)), (2, .ref (k_b X.1 + 335)), (3, .ref (k_b X.1 + 363)), (4, .int (nI (6 * m)))] [] (inst X.1 L S.1 S.2.1 S.2.2) n ce sl := by
  obtain ⟨C, hT, hN, hX, hMd, hoo, hex, hst, hk4, hk2, hl4, hl2⟩ := hA
  obtain ⟨kc, r, T1, T2, A2, hM, hh, cW, cM, e0, er, hI2⟩ := pr_verify hX hMd hoo hex hst hk4 hk2 hl4 hl2 hI (Nat.le_refl _) (Nat.le_refl _) (xs (6 * m + 1)) (decide ((xs (6 * m + 2)) ≠ 0))
  refine rn_aload_n C dL_law_787 rfl ?_
  refine rn_aload_n C dL_law_788 rfl ?_
  refine rn_iload C dL_law_789 rfl ?_
  refine rn_iconst (v := nI 1) C dL_law_791 rfl ?_
  refine rn_iadd C dL_law_792 (nI_add _ _) ?_
  refine rn_sti C dL_law_793 hT rfl (by omega) (by omega) ?_
  refine rn_aload_n C dL_law_794 rfl ?_
  refine rn_iload C dL_law_795 rfl ?_
  refine rn_iconst (v := nI 2) C dL_law_797 rfl ?_
  refine rn_iadd C dL_law_798 (nI_add _ _) ?_
  refine rn_sti C dL_law_799 hT rfl (by omega) (by omega) ?_
  refine rn_nz C dL_law_800 dL_law_803 dL_law_804 dL_law_807 ?_
  refine rn_aload_n C dL_law_808 rfl ?_
  refine rn_callSW C dL_law_809 mw_verify (cW n) rfl rfl (by decide) (Nat.le_of_ble_eq_true rfl) hce hsl (fun v P' n' hp => ?_)
  obtain ⟨e1, e2, e3⟩ := hp
  cases e1
  subst e2
  refine rn_istore (lv' := [(0, .ref b), (1, .ref (k_b X.1 + 0)), (2, .ref (k_b X.1 + 335)), (3, .ref (k_b X.1 + 363)), (4, .int (nI (6 * m))), (5, .int kc)]) C dL_law_812 (by decide) rfl ?_
  refine rn_aload_n C dL_law_814 rfl ?_
  refine rn_aload_n C dL_law_815 rfl ?_
  refine rn_iload C dL_law_816 rfl ?_
  refine rn_iconst (v := nI 1) C dL_law_818 rfl ?_
  refine rn_iadd C dL_law_819 (nI_add _ _) ?_
  refine rn_sti C dL_law_820 hT rfl (by omega) (by omega) ?_
  refine rn_aload_n C dL_law_821 rfl ?_
  refine rn_iload C dL_law_822 rfl ?_
  refine rn_iconst (v := nI 2) C dL_law_824 rfl ?_
  refine rn_iadd C dL_law_825 (nI_add _ _) ?_
  refine rn_sti C dL_law_826 hT rfl (by omega) (by omega) ?_
  refine rn_nz C dL_law_827 dL_law_830 dL_law_831 dL_law_834 ?_
  refine rs_vi (R := (r, T2)) C dL_law_835 mk_X12_verify lv_L_126 (cM n') hMd.1 rfl rfl rfl rfl hh (Nat.le_of_ble_eq_true rfl) hce hsl ?_
  refine rn_istore (lv' := [(0, .ref b), (1, .ref (k_b X.1 + 0)), (2, .ref (k_b X.1 + 335)), (3, .ref (k_b X.1 + 363)), (4, .int (nI (6 * m))), (5, .int kc), (6, .int r)]) C dL_law_838 (by decide) rfl ?_
  refine rn_aload_n C dL_law_840 rfl ?_
  refine rs_vi (R := ((mthrown_f 335 T2).1, T2)) C dL_law_841 mk_X12_thrown lv_L_83 (cp_mthrown (S := T2) hMd) hMd.1 rfl rfl rfl rfl (by decide) (Nat.le_of_ble_eq_true rfl) hce hsl ?_
  rw [show ((mthrown_f 335 T2).1, T2).1 = kc from e0]
  refine rn_iload C dL_law_844 rfl ?_
  refine rn_icmp_eq (tgt := 851) C dL_law_846 (by decide) (fun _ => ?_) (fun h => absurd rfl h)
  refine rn_iload C dL_law_851 rfl ?_
  have fin : Rn X 875 [(0, .ref b), (1, .ref (k_b X.1 + 0)), (2, .ref (k_b X.1 + 335)), (3, .ref (k_b X.1 + 363)), (4, .int (nI (6 * m))), (5, .int kc), (6, .int r)] [] (inst X.1 L T2.1 T2.2.1 T2.2.2) n' (ce + 1) (sl + 6) := by
    refine rn_goto (tgt := 1268) C dL_law_875 (by decide) ?_
    exact rn_ks [0, 1, 2, 3, 4] (K T2 A2 n' hI2) rfl
  refine rn_if_ne (tgt := 875) C dL_law_853 (by decide) (fun _ => fin) (fun h0 => ?_)
  refine rn_aload_n C dL_law_856 rfl ?_
  refine rn_iconst (v := nI 0) C dL_law_857 rfl ?_
  refine rs_laload (q := 0) C dL_law_858 hoo rfl (by decide) (by decide) ?_
  rw [er h0]
  refine rn_iload C dL_law_859 rfl ?_
  refine rn_nzL C dL_law_861 dL_law_864 dL_law_865 dL_law_868 ?_
  refine rn_lcmp C dL_law_869 ?_
  exact rn_if_eq (tgt := 875) C dL_law_870 (by decide) (fun _ => fin) (fun h => absurd (lgc_self _) h)
theorem lc_point (hA : LwH X L b N xs s4 s2) (hm : 6 * m + 6 ≤ N) (hI : Inv 0 335 B S A) (hce : ce + 1 ≤ 601024) (hsl : sl + 6 ≤ 7293033)
    (K : ∀ (S' : StT) (A' : AS) (n' : Nat), Inv 0 335 B S' A' → Rn X 1268 [(0, .ref b), (1, .ref (k_b X.1 + 0)), (2, .ref (k_b X.1 + 335)), (3, .ref (k_b X.1 + 363)), (4, .int (nI (6 * m)))] [] (inst X.1 L S'.1 S'.2.1 S'.2.2) n' (ce + 1) (sl + 6)) :
    Rn X 878 [(0, .ref b), (1, .ref (k_b X.1 + 0)), (2, .ref (k_b X.1 + 335)), (3, .ref (k_b X.1 + 363)), (4, .int (nI (6 * m)))] [] (inst X.1 L S.1 S.2.1 S.2.2) n ce sl := by
  obtain ⟨C, hT, hN, hX, hMd, hoo, hex, hst, hk4, hk2, hl4, hl2⟩ := hA
  obtain ⟨kc, r, T1, T2, A2, hM, hh, cW, cM, e0, er, hI2⟩ := pr_point hX hMd hoo hex hI (Nat.le_refl _) (Nat.le_refl _) (xs (6 * m + 1)) (xs (6 * m + 2))
  refine rn_aload_n C dL_law_878 rfl ?_
  refine rn_aload_n C dL_law_879 rfl ?_
  refine rn_iload C dL_law_880 rfl ?_
  refine rn_iconst (v := nI 1) C dL_law_882 rfl ?_
  refine rn_iadd C dL_law_883 (nI_add _ _) ?_
  refine rn_sti C dL_law_884 hT rfl (by omega) (by omega) ?_
  refine rn_aload_n C dL_law_885 rfl ?_
  refine rn_iload C dL_law_886 rfl ?_
  refine rn_iconst (v := nI 2) C dL_law_888 rfl ?_
  refine rn_iadd C dL_law_889 (nI_add _ _) ?_
  refine rn_sti C dL_law_890 hT rfl (by omega) (by omega) ?_
  refine rn_aload_n C dL_law_891 rfl ?_
  refine rn_callSW C dL_law_892 mw_point (cW n) rfl rfl (by decide) (Nat.le_of_ble_eq_true rfl) hce hsl (fun v P' n' hp => ?_)
  obtain ⟨e1, e2, e3⟩ := hp
  cases e1
  subst e2
  refine rn_istore (lv' := [(0, .ref b), (1, .ref (k_b X.1 + 0)), (2, .ref (k_b X.1 + 335)), (3, .ref (k_b X.1 + 363)), (4, .int (nI (6 * m))), (5, .int kc)]) C dL_law_895 (by decide) rfl ?_
  refine rn_aload_n C dL_law_897 rfl ?_
  refine rn_aload_n C dL_law_898 rfl ?_
  refine rn_iload C dL_law_899 rfl ?_
  refine rn_iconst (v := nI 1) C dL_law_901 rfl ?_
  refine rn_iadd C dL_law_902 (nI_add _ _) ?_
  refine rn_sti C dL_law_903 hT rfl (by omega) (by omega) ?_
  refine rn_aload_n C dL_law_904 rfl ?_
  refine rn_iload C dL_law_905 rfl ?_
  refine rn_iconst (v := nI 2) C dL_law_907 rfl ?_
  refine rn_iadd C dL_law_908 (nI_add _ _) ?_
  refine rn_sti C dL_law_909 hT rfl (by omega) (by omega) ?_
  refine rs_vi (R := (r, T2)) C dL_law_910 mk_X12_point lv_L_129 (cM n') hMd.1 rfl rfl rfl rfl hh (Nat.le_of_ble_eq_true rfl) hce hsl ?_
  refine rn_istore (lv' := [(0, .ref b), (1, .ref (k_b X.1 + 0)), (2, .ref (k_b X.1 + 335)), (3, .ref (k_b X.1 + 363)), (4, .int (nI (6 * m))), (5, .int kc), (6, .int r)]) C dL_law_913 (by decide) rfl ?_
  refine rn_aload_n C dL_law_915 rfl ?_
  refine rs_vi (R := ((mthrown_f 335 T2).1, T2)) C dL_law_916 mk_X12_thrown lv_L_83 (cp_mthrown (S := T2) hMd) hMd.1 rfl rfl rfl rfl (by decide) (Nat.le_of_ble_eq_true rfl) hce hsl ?_
  rw [show ((mthrown_f 335 T2).1, T2).1 = kc from e0]
  refine rn_iload C dL_law_919 rfl ?_
  refine rn_icmp_eq (tgt := 926) C dL_law_921 (by decide) (fun _ => ?_) (fun h => absurd rfl h)
  refine rn_iload C dL_law_926 rfl ?_
  have fin : Rn X 950 [(0, .ref b), (1, .ref (k_b X.1 + 0)), (2, .ref (k_b X.1 + 335)), (3, .ref (k_b X.1 + 363)), (4, .int (nI (6 * m))), (5, .int kc), (6, .int r)] [] (inst X.1 L T2.1 T2.2.1 T2.2.2) n' (ce + 1) (sl + 6) := by
    refine rn_goto (tgt := 1268) C dL_law_950 (by decide) ?_
    exact rn_ks [0, 1, 2, 3, 4] (K T2 A2 n' hI2) rfl
  refine rn_if_ne (tgt := 950) C dL_law_928 (by decide) (fun _ => fin) (fun h0 => ?_)
  refine rn_aload_n C dL_law_931 rfl ?_
  refine rn_iconst (v := nI 0) C dL_law_932 rfl ?_
  refine rs_laload (q := 0) C dL_law_933 hoo rfl (by decide) (by decide) ?_
  rw [er h0]
  refine rn_iload C dL_law_934 rfl ?_
  refine rn_nzL C dL_law_936 dL_law_939 dL_law_940 dL_law_943 ?_
  refine rn_lcmp C dL_law_944 ?_
  exact rn_if_eq (tgt := 950) C dL_law_945 (by decide) (fun _ => fin) (fun h => absurd (lgc_self _) h)
theorem lc_add (hA : LwH X L b N xs s4 s2) (hm : 6 * m + 6 ≤ N) (hI : Inv 0 335 B S A) (hce : ce + 1 ≤ 601024) (hsl : sl + 6 ≤ 7293033)
    (K : ∀ (S' : StT) (A' : AS) (n' : Nat), Inv 0 335 B S' A' → Rn X 1268 [(0, .ref b), (1, .ref (k_b X.1 + 0)), (2, .ref (k_b X.1 + 335)), (3, .ref (k_b X.1 + 363)), (4, .int (nI (6 * m)))] [] (inst X.1 L S'.1 S'.2.1 S'.2.2) n' (ce + 1) (sl + 6)) :
    Rn X 953 [(0, .ref b), (1, .ref (k_b X.1 + 0)), (2, .ref (k_b X.1 + 335)), (3, .ref (k_b X.1 + 363)), (4, .int (nI (6 * m)))] [] (inst X.1 L S.1 S.2.1 S.2.2) n ce sl := by
  obtain ⟨C, hT, hN, hX, hMd, hoo, hex, hst, hk4, hk2, hl4, hl2⟩ := hA
  obtain ⟨kc, T1, T2, A2, hM, hh, cW, cM, e0, hI2⟩ := pr_add hX hMd hex hI (Nat.le_refl _) (xs (6 * m + 1)) (xs (6 * m + 2)) (xs (6 * m + 3)) (decide ((xs (6 * m + 4)) ≠ 0))
  refine rn_aload_n C dL_law_953 rfl ?_
  refine rn_aload_n C dL_law_954 rfl ?_
  refine rn_iload C dL_law_955 rfl ?_
  refine rn_iconst (v := nI 1) C dL_law_957 rfl ?_
  refine rn_iadd C dL_law_958 (nI_add _ _) ?_
  refine rn_sti C dL_law_959 hT rfl (by omega) (by omega) ?_
  refine rn_aload_n C dL_law_960 rfl ?_
  refine rn_iload C dL_law_961 rfl ?_
  refine rn_iconst (v := nI 2) C dL_law_963 rfl ?_
  refine rn_iadd C dL_law_964 (nI_add _ _) ?_
  refine rn_sti C dL_law_965 hT rfl (by omega) (by omega) ?_
  refine rn_aload_n C dL_law_966 rfl ?_
  refine rn_iload C dL_law_967 rfl ?_
  refine rn_iconst (v := nI 3) C dL_law_969 rfl ?_
  refine rn_iadd C dL_law_970 (nI_add _ _) ?_
  refine rn_sti C dL_law_971 hT rfl (by omega) (by omega) ?_
  refine rn_aload_n C dL_law_972 rfl ?_
  refine rn_iload C dL_law_973 rfl ?_
  refine rn_iconst (v := nI 4) C dL_law_975 rfl ?_
  refine rn_iadd C dL_law_976 (nI_add _ _) ?_
  refine rn_sti C dL_law_977 hT rfl (by omega) (by omega) ?_
  refine rn_nz C dL_law_978 dL_law_981 dL_law_982 dL_law_985 ?_
  refine rn_callSW C dL_law_986 mw_add (cW n) rfl rfl (by decide) (Nat.le_of_ble_eq_true rfl) hce hsl (fun v P' n' hp => ?_)
  obtain ⟨e1, e2, e3⟩ := hp
  cases e1
  subst e2
  refine rn_istore (lv' := [(0, .ref b), (1, .ref (k_b X.1 + 0)), (2, .ref (k_b X.1 + 335)), (3, .ref (k_b X.1 + 363)), (4, .int (nI (6 * m))), (5, .int kc)]) C dL_law_989 (by decide) rfl ?_
  refine rn_aload_n C dL_law_991 rfl ?_
  refine rn_aload_n C dL_law_992 rfl ?_
  refine rn_iload C dL_law_993 rfl ?_
  refine rn_iconst (v := nI 1) C dL_law_995 rfl ?_
  refine rn_iadd C dL_law_996 (nI_add _ _) ?_
  refine rn_sti C dL_law_997 hT rfl (by omega) (by omega) ?_
  refine rn_aload_n C dL_law_998 rfl ?_
  refine rn_iload C dL_law_999 rfl ?_
  refine rn_iconst (v := nI 2) C dL_law_1001 rfl ?_
  refine rn_iadd C dL_law_1002 (nI_add _ _) ?_
  refine rn_sti C dL_law_1003 hT rfl (by omega) (by omega) ?_
  refine rn_aload_n C dL_law_1004 rfl ?_
  refine rn_iload C dL_law_1005 rfl ?_
  refine rn_iconst (v := nI 3) C dL_law_1007 rfl ?_
  refine rn_iadd C dL_law_1008 (nI_add _ _) ?_
  refine rn_sti C dL_law_1009 hT rfl (by omega) (by omega) ?_
  refine rn_aload_n C dL_law_1010 rfl ?_
  refine rn_iload C dL_law_1011 rfl ?_
  refine rn_iconst (v := nI 4) C dL_law_1013 rfl ?_
  refine rn_iadd C dL_law_1014 (nI_add _ _) ?_
  refine rn_sti C dL_law_1015 hT rfl (by omega) (by omega) ?_
  refine rn_nz C dL_law_1016 dL_law_1019 dL_law_1020 dL_law_1023 ?_
  refine rs_vv C dL_law_1024 mk_X12_add lv_L_133 (cM n') hMd.1 rfl rfl rfl rfl hh (Nat.le_of_ble_eq_true rfl) hce hsl ?_
  refine rn_aload_n C dL_law_1027 rfl ?_
  refine rs_vi (R := ((mthrown_f 335 T2).1, T2)) C dL_law_1028 mk_X12_thrown lv_L_83 (cp_mthrown (S := T2) hMd) hMd.1 rfl rfl rfl rfl (by decide) (Nat.le_of_ble_eq_true rfl) hce hsl ?_
  rw [show ((mthrown_f 335 T2).1, T2).1 = kc from e0]
  refine rn_iload C dL_law_1031 rfl ?_
  refine rn_icmp_eq (tgt := 1038) C dL_law_1033 (by decide) (fun _ => ?_) (fun h => absurd rfl h)
  refine rn_goto (tgt := 1268) C dL_law_1038 (by decide) ?_
  exact rn_ks [0, 1, 2, 3, 4] (K T2 A2 n' hI2) rfl
theorem lc_times (hA : LwH X L b N xs s4 s2) (hm : 6 * m + 6 ≤ N) (hI : Inv 0 335 B S A) (hce : ce + 1 ≤ 601024) (hsl : sl + 6 ≤ 7293033)
    (K : ∀ (S' : StT) (A' : AS) (n' : Nat), Inv 0 335 B S' A' → Rn X 1268 [(0, .ref b), (1, .ref (k_b X.1 + 0)), (2, .ref (k_b X.1 + 335)), (3, .ref (k_b X.1 + 363)), (4, .int (nI (6 * m)))] [] (inst X.1 L S'.1 S'.2.1 S'.2.2) n' (ce + 1) (sl + 6)) :
    Rn X 1041 [(0, .ref b), (1, .ref (k_b X.1 + 0)), (2, .ref (k_b X.1 + 335)), (3, .ref (k_b X.1 + 363)), (4, .int (nI (6 * m)))] [] (inst X.1 L S.1 S.2.1 S.2.2) n ce sl := by
  obtain ⟨C, hT, hN, hX, hMd, hoo, hex, hst, hk4, hk2, hl4, hl2⟩ := hA
  obtain ⟨kc, T1, T2, A2, hM, hh, cW, cM, e0, hI2⟩ := pr_times hX hMd hex hI (Nat.le_refl _) (xs (6 * m + 1)) (xs (6 * m + 2))
  refine rn_aload_n C dL_law_1041 rfl ?_
  refine rn_aload_n C dL_law_1042 rfl ?_
  refine rn_iload C dL_law_1043 rfl ?_
  refine rn_iconst (v := nI 1) C dL_law_1045 rfl ?_
  refine rn_iadd C dL_law_1046 (nI_add _ _) ?_
  refine rn_sti C dL_law_1047 hT rfl (by omega) (by omega) ?_
  refine rn_aload_n C dL_law_1048 rfl ?_
  refine rn_iload C dL_law_1049 rfl ?_
  refine rn_iconst (v := nI 2) C dL_law_1051 rfl ?_
  refine rn_iadd C dL_law_1052 (nI_add _ _) ?_
  refine rn_sti C dL_law_1053 hT rfl (by omega) (by omega) ?_
  refine rn_callSW C dL_law_1054 mw_times (cW n) rfl rfl (by decide) (Nat.le_of_ble_eq_true rfl) hce hsl (fun v P' n' hp => ?_)
  obtain ⟨e1, e2, e3⟩ := hp
  cases e1
  subst e2
  refine rn_istore (lv' := [(0, .ref b), (1, .ref (k_b X.1 + 0)), (2, .ref (k_b X.1 + 335)), (3, .ref (k_b X.1 + 363)), (4, .int (nI (6 * m))), (5, .int kc)]) C dL_law_1057 (by decide) rfl ?_
  refine rn_aload_n C dL_law_1059 rfl ?_
  refine rn_aload_n C dL_law_1060 rfl ?_
  refine rn_iload C dL_law_1061 rfl ?_
  refine rn_iconst (v := nI 1) C dL_law_1063 rfl ?_
  refine rn_iadd C dL_law_1064 (nI_add _ _) ?_
  refine rn_sti C dL_law_1065 hT rfl (by omega) (by omega) ?_
  refine rn_aload_n C dL_law_1066 rfl ?_
  refine rn_iload C dL_law_1067 rfl ?_
  refine rn_iconst (v := nI 2) C dL_law_1069 rfl ?_
  refine rn_iadd C dL_law_1070 (nI_add _ _) ?_
  refine rn_sti C dL_law_1071 hT rfl (by omega) (by omega) ?_
  refine rs_vv C dL_law_1072 mk_X12_times lv_L_137 (cM n') hMd.1 rfl rfl rfl rfl hh (Nat.le_of_ble_eq_true rfl) hce hsl ?_
  refine rn_aload_n C dL_law_1075 rfl ?_
  refine rs_vi (R := ((mthrown_f 335 T2).1, T2)) C dL_law_1076 mk_X12_thrown lv_L_83 (cp_mthrown (S := T2) hMd) hMd.1 rfl rfl rfl rfl (by decide) (Nat.le_of_ble_eq_true rfl) hce hsl ?_
  rw [show ((mthrown_f 335 T2).1, T2).1 = kc from e0]
  refine rn_iload C dL_law_1079 rfl ?_
  refine rn_icmp_eq (tgt := 1086) C dL_law_1081 (by decide) (fun _ => ?_) (fun h => absurd rfl h)
  refine rn_goto (tgt := 1268) C dL_law_1086 (by decide) ?_
  exact rn_ks [0, 1, 2, 3, 4] (K T2 A2 n' hI2) rfl
theorem lc_code (hA : LwH X L b N xs s4 s2) (hm : 6 * m + 6 ≤ N) (hI : Inv 0 335 B S A) (hce : ce + 1 ≤ 601024) (hsl : sl + 6 ≤ 7293033)
    (K : ∀ (S' : StT) (A' : AS) (n' : Nat), Inv 0 335 B S' A' → Rn X 1268 [(0, .ref b), (1, .ref (k_b X.1 + 0)), (2, .ref (k_b X.1 + 335)), (3, .ref (k_b X.1 + 363)), (4, .int (nI (6 * m)))] [] (inst X.1 L S'.1 S'.2.1 S'.2.2) n' (ce + 1) (sl + 6)) :
    Rn X 1089 [(0, .ref b), (1, .ref (k_b X.1 + 0)), (2, .ref (k_b X.1 + 335)), (3, .ref (k_b X.1 + 363)), (4, .int (nI (6 * m)))] [] (inst X.1 L S.1 S.2.1 S.2.2) n ce sl := by
  obtain ⟨C, hT, hN, hX, hMd, hoo, hex, hst, hk4, hk2, hl4, hl2⟩ := hA
  obtain ⟨kc, T1, T2, A2, hM, hh, cW, cM, e0, hI2⟩ := pr_code hX hMd hex hI (Nat.le_refl _) (xs (6 * m + 1))
  refine rn_aload_n C dL_law_1089 rfl ?_
  refine rn_aload_n C dL_law_1090 rfl ?_
  refine rn_iload C dL_law_1091 rfl ?_
  refine rn_iconst (v := nI 1) C dL_law_1093 rfl ?_
  refine rn_iadd C dL_law_1094 (nI_add _ _) ?_
  refine rn_sti C dL_law_1095 hT rfl (by omega) (by omega) ?_
  refine rn_callSW C dL_law_1096 mw_code (cW n) rfl rfl (by decide) (Nat.le_of_ble_eq_true rfl) hce hsl (fun v P' n' hp => ?_)
  obtain ⟨e1, e2, e3⟩ := hp
  cases e1
  subst e2
  refine rn_istore (lv' := [(0, .ref b), (1, .ref (k_b X.1 + 0)), (2, .ref (k_b X.1 + 335)), (3, .ref (k_b X.1 + 363)), (4, .int (nI (6 * m))), (5, .int kc)]) C dL_law_1099 (by decide) rfl ?_
  refine rn_aload_n C dL_law_1101 rfl ?_
  refine rn_aload_n C dL_law_1102 rfl ?_
  refine rn_iload C dL_law_1103 rfl ?_
  refine rn_iconst (v := nI 1) C dL_law_1105 rfl ?_
  refine rn_iadd C dL_law_1106 (nI_add _ _) ?_
  refine rn_sti C dL_law_1107 hT rfl (by omega) (by omega) ?_
  refine rs_vv C dL_law_1108 mk_X12_code lv_L_140 (cM n') hMd.1 rfl rfl rfl rfl hh (Nat.le_of_ble_eq_true rfl) hce hsl ?_
  refine rn_aload_n C dL_law_1111 rfl ?_
  refine rs_vi (R := ((mthrown_f 335 T2).1, T2)) C dL_law_1112 mk_X12_thrown lv_L_83 (cp_mthrown (S := T2) hMd) hMd.1 rfl rfl rfl rfl (by decide) (Nat.le_of_ble_eq_true rfl) hce hsl ?_
  rw [show ((mthrown_f 335 T2).1, T2).1 = kc from e0]
  refine rn_iload C dL_law_1115 rfl ?_
  refine rn_icmp_eq (tgt := 1122) C dL_law_1117 (by decide) (fun _ => ?_) (fun h => absurd rfl h)
  refine rn_goto (tgt := 1268) C dL_law_1122 (by decide) ?_
  exact rn_ks [0, 1, 2, 3, 4] (K T2 A2 n' hI2) rfl
theorem lc_same (hA : LwH X L b N xs s4 s2) (hm : 6 * m + 6 ≤ N) (hI : Inv 0 335 B S A) (hce : ce + 1 ≤ 601024) (hsl : sl + 6 ≤ 7293033)
    (K : ∀ (S' : StT) (A' : AS) (n' : Nat), Inv 0 335 B S' A' → Rn X 1268 [(0, .ref b), (1, .ref (k_b X.1 + 0)), (2, .ref (k_b X.1 + 335)), (3, .ref (k_b X.1 + 363)), (4, .int (nI (6 * m)))] [] (inst X.1 L S'.1 S'.2.1 S'.2.2) n' (ce + 1) (sl + 6)) :
    Rn X 1125 [(0, .ref b), (1, .ref (k_b X.1 + 0)), (2, .ref (k_b X.1 + 335)), (3, .ref (k_b X.1 + 363)), (4, .int (nI (6 * m)))] [] (inst X.1 L S.1 S.2.1 S.2.2) n ce sl := by
  obtain ⟨C, hT, hN, hX, hMd, hoo, hex, hst, hk4, hk2, hl4, hl2⟩ := hA
  obtain ⟨kc, r, T1, T2, A2, hM, hh, cW, cM, e0, er, hI2⟩ := pr_same hX hMd hoo hex hI (Nat.le_refl _) (Nat.le_refl _) (xs (6 * m + 1)) (xs (6 * m + 2))
  refine rn_aload_n C dL_law_1125 rfl ?_
  refine rn_aload_n C dL_law_1126 rfl ?_
  refine rn_iload C dL_law_1127 rfl ?_
  refine rn_iconst (v := nI 1) C dL_law_1129 rfl ?_
  refine rn_iadd C dL_law_1130 (nI_add _ _) ?_
  refine rn_sti C dL_law_1131 hT rfl (by omega) (by omega) ?_
  refine rn_aload_n C dL_law_1132 rfl ?_
  refine rn_iload C dL_law_1133 rfl ?_
  refine rn_iconst (v := nI 2) C dL_law_1135 rfl ?_
  refine rn_iadd C dL_law_1136 (nI_add _ _) ?_
  refine rn_sti C dL_law_1137 hT rfl (by omega) (by omega) ?_
  refine rn_aload_n C dL_law_1138 rfl ?_
  refine rn_callSW C dL_law_1139 mw_same (cW n) rfl rfl (by decide) (Nat.le_of_ble_eq_true rfl) hce hsl (fun v P' n' hp => ?_)
  obtain ⟨e1, e2, e3⟩ := hp
  cases e1
  subst e2
  refine rn_istore (lv' := [(0, .ref b), (1, .ref (k_b X.1 + 0)), (2, .ref (k_b X.1 + 335)), (3, .ref (k_b X.1 + 363)), (4, .int (nI (6 * m))), (5, .int kc)]) C dL_law_1142 (by decide) rfl ?_
  refine rn_aload_n C dL_law_1144 rfl ?_
  refine rn_aload_n C dL_law_1145 rfl ?_
  refine rn_iload C dL_law_1146 rfl ?_
  refine rn_iconst (v := nI 1) C dL_law_1148 rfl ?_
  refine rn_iadd C dL_law_1149 (nI_add _ _) ?_
  refine rn_sti C dL_law_1150 hT rfl (by omega) (by omega) ?_
  refine rn_aload_n C dL_law_1151 rfl ?_
  refine rn_iload C dL_law_1152 rfl ?_
  refine rn_iconst (v := nI 2) C dL_law_1154 rfl ?_
  refine rn_iadd C dL_law_1155 (nI_add _ _) ?_
  refine rn_sti C dL_law_1156 hT rfl (by omega) (by omega) ?_
  refine rs_vi (R := (r, T2)) C dL_law_1157 mk_X12_same lv_L_143 (cM n') hMd.1 rfl rfl rfl rfl hh (Nat.le_of_ble_eq_true rfl) hce hsl ?_
  refine rn_istore (lv' := [(0, .ref b), (1, .ref (k_b X.1 + 0)), (2, .ref (k_b X.1 + 335)), (3, .ref (k_b X.1 + 363)), (4, .int (nI (6 * m))), (5, .int kc), (6, .int r)]) C dL_law_1160 (by decide) rfl ?_
  refine rn_aload_n C dL_law_1162 rfl ?_
  refine rs_vi (R := ((mthrown_f 335 T2).1, T2)) C dL_law_1163 mk_X12_thrown lv_L_83 (cp_mthrown (S := T2) hMd) hMd.1 rfl rfl rfl rfl (by decide) (Nat.le_of_ble_eq_true rfl) hce hsl ?_
  rw [show ((mthrown_f 335 T2).1, T2).1 = kc from e0]
  refine rn_iload C dL_law_1166 rfl ?_
  refine rn_icmp_eq (tgt := 1173) C dL_law_1168 (by decide) (fun _ => ?_) (fun h => absurd rfl h)
  refine rn_iload C dL_law_1173 rfl ?_
  have fin : Rn X 1197 [(0, .ref b), (1, .ref (k_b X.1 + 0)), (2, .ref (k_b X.1 + 335)), (3, .ref (k_b X.1 + 363)), (4, .int (nI (6 * m))), (5, .int kc), (6, .int r)] [] (inst X.1 L T2.1 T2.2.1 T2.2.2) n' (ce + 1) (sl + 6) := by
    refine rn_goto (tgt := 1268) C dL_law_1197 (by decide) ?_
    exact rn_ks [0, 1, 2, 3, 4] (K T2 A2 n' hI2) rfl
  refine rn_if_ne (tgt := 1197) C dL_law_1175 (by decide) (fun _ => fin) (fun h0 => ?_)
  refine rn_aload_n C dL_law_1178 rfl ?_
  refine rn_iconst (v := nI 0) C dL_law_1179 rfl ?_
  refine rs_laload (q := 0) C dL_law_1180 hoo rfl (by decide) (by decide) ?_
  rw [er h0]
  refine rn_iload C dL_law_1181 rfl ?_
  refine rn_nzL C dL_law_1183 dL_law_1186 dL_law_1187 dL_law_1190 ?_
  refine rn_lcmp C dL_law_1191 ?_
  exact rn_if_eq (tgt := 1197) C dL_law_1192 (by decide) (fun _ => fin) (fun h => absurd (lgc_self _) h)
theorem lc_order (hA : LwH X L b N xs s4 s2) (hm : 6 * m + 6 ≤ N) (hI : Inv 0 335 B S A) (hce : ce + 1 ≤ 601024) (hsl : sl + 6 ≤ 7293033)
    (K : ∀ (S' : StT) (A' : AS) (n' : Nat), Inv 0 335 B S' A' → Rn X 1268 [(0, .ref b), (1, .ref (k_b X.1 + 0)), (2, .ref (k_b X.1 + 335)), (3, .ref (k_b X.1 + 363)), (4, .int (nI (6 * m)))] [] (inst X.1 L S'.1 S'.2.1 S'.2.2) n' (ce + 1) (sl + 6)) :
    Rn X 1200 [(0, .ref b), (1, .ref (k_b X.1 + 0)), (2, .ref (k_b X.1 + 335)), (3, .ref (k_b X.1 + 363)), (4, .int (nI (6 * m)))] [] (inst X.1 L S.1 S.2.1 S.2.2) n ce sl := by
  obtain ⟨C, hT, hN, hX, hMd, hoo, hex, hst, hk4, hk2, hl4, hl2⟩ := hA
  obtain ⟨kc, r, T1, T2, A2, hM, hh, cW, cM, e0, er, hI2⟩ := pr_order hX hMd hoo hex hI (Nat.le_refl _) (Nat.le_refl _) (xs (6 * m + 1)) (xs (6 * m + 2))
  refine rn_aload_n C dL_law_1200 rfl ?_
  refine rn_aload_n C dL_law_1201 rfl ?_
  refine rn_iload C dL_law_1202 rfl ?_
  refine rn_iconst (v := nI 1) C dL_law_1204 rfl ?_
  refine rn_iadd C dL_law_1205 (nI_add _ _) ?_
  refine rn_sti C dL_law_1206 hT rfl (by omega) (by omega) ?_
  refine rn_aload_n C dL_law_1207 rfl ?_
  refine rn_iload C dL_law_1208 rfl ?_
  refine rn_iconst (v := nI 2) C dL_law_1210 rfl ?_
  refine rn_iadd C dL_law_1211 (nI_add _ _) ?_
  refine rn_sti C dL_law_1212 hT rfl (by omega) (by omega) ?_
  refine rn_aload_n C dL_law_1213 rfl ?_
  refine rn_callSW C dL_law_1214 mw_order (cW n) rfl rfl (by decide) (Nat.le_of_ble_eq_true rfl) hce hsl (fun v P' n' hp => ?_)
  obtain ⟨e1, e2, e3⟩ := hp
  cases e1
  subst e2
  refine rn_istore (lv' := [(0, .ref b), (1, .ref (k_b X.1 + 0)), (2, .ref (k_b X.1 + 335)), (3, .ref (k_b X.1 + 363)), (4, .int (nI (6 * m))), (5, .int kc)]) C dL_law_1217 (by decide) rfl ?_
  refine rn_aload_n C dL_law_1219 rfl ?_
  refine rn_aload_n C dL_law_1220 rfl ?_
  refine rn_iload C dL_law_1221 rfl ?_
  refine rn_iconst (v := nI 1) C dL_law_1223 rfl ?_
  refine rn_iadd C dL_law_1224 (nI_add _ _) ?_
  refine rn_sti C dL_law_1225 hT rfl (by omega) (by omega) ?_
  refine rn_aload_n C dL_law_1226 rfl ?_
  refine rn_iload C dL_law_1227 rfl ?_
  refine rn_iconst (v := nI 2) C dL_law_1229 rfl ?_
  refine rn_iadd C dL_law_1230 (nI_add _ _) ?_
  refine rn_sti C dL_law_1231 hT rfl (by omega) (by omega) ?_
  refine rs_vi (R := (r, T2)) C dL_law_1232 mk_X12_order lv_L_146 (cM n') hMd.1 rfl rfl rfl rfl hh (Nat.le_of_ble_eq_true rfl) hce hsl ?_
  refine rn_istore (lv' := [(0, .ref b), (1, .ref (k_b X.1 + 0)), (2, .ref (k_b X.1 + 335)), (3, .ref (k_b X.1 + 363)), (4, .int (nI (6 * m))), (5, .int kc), (6, .int r)]) C dL_law_1235 (by decide) rfl ?_
  refine rn_aload_n C dL_law_1237 rfl ?_
  refine rs_vi (R := ((mthrown_f 335 T2).1, T2)) C dL_law_1238 mk_X12_thrown lv_L_83 (cp_mthrown (S := T2) hMd) hMd.1 rfl rfl rfl rfl (by decide) (Nat.le_of_ble_eq_true rfl) hce hsl ?_
  rw [show ((mthrown_f 335 T2).1, T2).1 = kc from e0]
  refine rn_iload C dL_law_1241 rfl ?_
  refine rn_icmp_eq (tgt := 1248) C dL_law_1243 (by decide) (fun _ => ?_) (fun h => absurd rfl h)
  refine rn_iload C dL_law_1248 rfl ?_
  have fin : Rn X 1265 [(0, .ref b), (1, .ref (k_b X.1 + 0)), (2, .ref (k_b X.1 + 335)), (3, .ref (k_b X.1 + 363)), (4, .int (nI (6 * m))), (5, .int kc), (6, .int r)] [] (inst X.1 L T2.1 T2.2.1 T2.2.2) n' (ce + 1) (sl + 6) := by
    refine rn_goto (tgt := 1268) C dL_law_1265 (by decide) ?_
    exact rn_ks [0, 1, 2, 3, 4] (K T2 A2 n' hI2) rfl
  refine rn_if_ne (tgt := 1265) C dL_law_1250 (by decide) (fun _ => fin) (fun h0 => ?_)
  refine rn_aload_n C dL_law_1253 rfl ?_
  refine rn_iconst (v := nI 0) C dL_law_1254 rfl ?_
  refine rs_laload (q := 0) C dL_law_1255 hoo rfl (by decide) (by decide) ?_
  rw [er h0]
  refine rn_iload C dL_law_1256 rfl ?_
  refine rn_i2l C dL_law_1258 rfl ?_
  refine rn_lcmp C dL_law_1259 ?_
  exact rn_if_eq (tgt := 1265) C dL_law_1260 (by decide) (fun _ => fin) (fun h => absurd (lgc_self _) h)
end LWC
/-- one call of the script, whichever it is -/
theorem lw_one {X : CX} {L : Nat → Option Sh} {b N m n ce sl s4 s2 : Nat} {xs : Nat → Int32} {B : (c : Bool) → Pt c} {S : StT} {A : AS} (hA : LwH X L b N xs s4 s2) (hm : 6 * m + 6 ≤ N) (hI : Inv 0 335 B S A) (hce : ce + 1 ≤ 601024) (hsl : sl + 6 ≤ 7293033)
    (K : ∀ (S' : StT) (A' : AS) (n' : Nat), Inv 0 335 B S' A' → Rn X 1268 [(0, .ref b), (1, .ref (k_b X.1 + 0)), (2, .ref (k_b X.1 + 335)), (3, .ref (k_b X.1 + 363)), (4, .int (nI (6 * m)))] [] (inst X.1 L S'.1 S'.2.1 S'.2.2) n' (ce + 1) (sl + 6)) :
    Rn X 33 [(0, .ref b), (1, .ref (k_b X.1 + 0)), (2, .ref (k_b X.1 + 335)), (3, .ref (k_b X.1 + 363)), (4, .int (nI (6 * m)))] [] (inst X.1 L S.1 S.2.1 S.2.2) n ce sl := by
  have C := hA.1
  have hT := hA.2.1
  have hN := hA.2.2.1
  refine rn_aload_n C dL_law_33 rfl ?_
  refine rn_iload C dL_law_34 rfl ?_
  refine rn_sti C dL_law_36 hT rfl (by omega) (by omega) ?_
  refine rn_bipush (v := nI 31) C dL_law_37 rfl ?_
  refine rn_iand C dL_law_39 rfl ?_
  rcases i3_lt (xs (6 * m) &&& nI 31) 17 (by decide) with hb | ⟨q, hq, e⟩
  · refine rn_tout (tgt := 1268) C dL_law_40 ?_ (by decide) (rn_wide (Nat.le_add_right _ _) (Nat.le_add_right _ _) (K S A n hI))
    rcases hb with h | h
    · exact Or.inl (Int32.lt_iff_toInt_lt.mp h)
    · refine Or.inr ?_
      have h2 : ¬ (xs (6 * m) &&& nI 31).toInt < (nI 17).toInt := fun z => h (Int32.lt_iff_toInt_lt.mpr z)
      rw [nI_toInt (by decide)] at h2
      omega
  · rw [e]
    have hq17 : q = 0 ∨ q = 1 ∨ q = 2 ∨ q = 3 ∨ q = 4 ∨ q = 5 ∨ q = 6 ∨ q = 7 ∨ q = 8 ∨ q = 9 ∨ q = 10 ∨ q = 11 ∨ q = 12 ∨ q = 13 ∨ q = 14 ∨ q = 15 ∨ q = 16 := by omega
    rcases hq17 with rfl | rfl | rfl | rfl | rfl | rfl | rfl | rfl | rfl | rfl | rfl | rfl | rfl | rfl | rfl | rfl | rfl
    · exact rn_tin (off := 84) (tgt := 124) C dL_law_40 (by decide) (by decide) rfl (by decide) (lc_put hA hm hI hce hsl K)
    · exact rn_tin (off := 188) (tgt := 228) C dL_law_40 (by decide) (by decide) rfl (by decide) (lc_feed hA hm hI hce hsl K)
    · exact rn_tin (off := 316) (tgt := 356) C dL_law_40 (by decide) (by decide) rfl (by decide) (lc_clear hA hm hI hce hsl K)
    · exact rn_tin (off := 355) (tgt := 395) C dL_law_40 (by decide) (by decide) rfl (by decide) (lc_move hA hm hI hce hsl K)
    · exact rn_tin (off := 411) (tgt := 451) C dL_law_40 (by decide) (by decide) rfl (by decide) (lc_look hA hm hI hce hsl K)
    · exact rn_tin (off := 479) (tgt := 519) C dL_law_40 (by decide) (by decide) rfl (by decide) (lc_size hA hm hI hce hsl K)
    · exact rn_tin (off := 492) (tgt := 532) C dL_law_40 (by decide) (by decide) rfl (by decide) (lc_hash hA hm hI hce hsl K)
    · exact rn_tin (off := 556) (tgt := 596) C dL_law_40 (by decide) (by decide) rfl (by decide) (lc_agree hA hm hI hce hsl K)
    · exact rn_tin (off := 647) (tgt := 687) C dL_law_40 (by decide) (by decide) rfl (by decide) (lc_derive hA hm hI hce hsl K)
    · exact rn_tin (off := 683) (tgt := 723) C dL_law_40 (by decide) (by decide) rfl (by decide) (lc_sign hA hm hI hce hsl K)
    · exact rn_tin (off := 747) (tgt := 787) C dL_law_40 (by decide) (by decide) rfl (by decide) (lc_verify hA hm hI hce hsl K)
    · exact rn_tin (off := 838) (tgt := 878) C dL_law_40 (by decide) (by decide) rfl (by decide) (lc_point hA hm hI hce hsl K)
    · exact rn_tin (off := 913) (tgt := 953) C dL_law_40 (by decide) (by decide) rfl (by decide) (lc_add hA hm hI hce hsl K)
    · exact rn_tin (off := 1001) (tgt := 1041) C dL_law_40 (by decide) (by decide) rfl (by decide) (lc_times hA hm hI hce hsl K)
    · exact rn_tin (off := 1049) (tgt := 1089) C dL_law_40 (by decide) (by decide) rfl (by decide) (lc_code hA hm hI hce hsl K)
    · exact rn_tin (off := 1085) (tgt := 1125) C dL_law_40 (by decide) (by decide) rfl (by decide) (lc_same hA hm hI hce hsl K)
    · exact rn_tin (off := 1160) (tgt := 1200) C dL_law_40 (by decide) (by decide) rfl (by decide) (lc_order hA hm hI hce hsl K)
