theorem wt {w : Cond} (i : Nat) (h : tables_1[i]? = some w) (g : goodWord w = true) : w ∈ gw := List.mem_filter.mpr ⟨List.mem_append_right _ (List.mem_of_getElem? h), g⟩
theorem wq {w : Cond} (i : Nat) (h : (k2_sels lw_privs)[i]? = some w) (g : goodWord w = true) : w ∈ gw := List.mem_filter.mpr ⟨List.mem_append_left _ (List.mem_of_getElem? h), g⟩
theorem wl {ws : List Cond} (ps : List Nat) (h : ws = ps.filterMap (fun i => tables_1[i]?)) (g : ws.all goodWord = true) : ∀ w ∈ ws, w ∈ gw := by
  intro w hw
  have h1 := List.all_eq_true.mp g w hw
  rw [h] at hw
  obtain ⟨i, -, hi⟩ := List.mem_filterMap.mp hw
  exact wt i hi h1
theorem uw_X0 : ∀ w ∈ u_ws RX0 TX0 14, w ∈ gw := wl [341, 343, 345, 347, 349, 351, 353, 355, 357, 359, 361, 363, 365, 367] (by decide +kernel) (by decide +kernel)
theorem uw_X1 : ∀ w ∈ u_ws RX1 TX1 18, w ∈ gw := wl [283, 285, 287, 289, 291, 293, 295, 297, 299, 301, 303, 305, 307, 309, 311, 313, 315, 317] (by decide +kernel) (by decide +kernel)
theorem uw_X3 : ∀ w ∈ u_ws RX3 TX3 16, w ∈ gw := wl [135, 137, 139, 141, 143, 145, 147, 149, 151, 153, 155, 157, 159, 161, 163, 165] (by decide +kernel) (by decide +kernel)
theorem uw_X5 : ∀ w ∈ u_ws RX5 TX5 3, w ∈ gw := wl [76, 78, 80] (by decide +kernel) (by decide +kernel)
theorem uw_X6 : ∀ w ∈ u_ws RX6 TX6 2, w ∈ gw := wl [51, 53] (by decide +kernel) (by decide +kernel)
theorem uw_X7 : ∀ w ∈ u_ws RX7 TX7 6, w ∈ gw := wl [397, 399, 401, 403, 405, 407] (by decide +kernel) (by decide +kernel)
theorem uw_X8 : ∀ w ∈ u_ws RX8 TX8 2, w ∈ gw := wl [92, 94] (by decide +kernel) (by decide +kernel)
theorem uw_X9 : ∀ w ∈ u_ws RX9 TX9 2, w ∈ gw := wl [105, 107] (by decide +kernel) (by decide +kernel)
theorem uw_X10 : ∀ w ∈ u_ws RX10 TX10 19, w ∈ gw := wl [429, 431, 433, 435, 437, 439, 441, 443, 445, 447, 449, 451, 453, 455, 457, 459, 461, 463, 465] (by decide +kernel) (by decide +kernel)
theorem uw_X11 : ∀ w ∈ u_ws RX11 TX11 11, w ∈ gw := wl [479, 481, 483, 485, 487, 489, 491, 493, 495, 497, 499] (by decide +kernel) (by decide +kernel)
theorem uw_X12 : ∀ w ∈ u_ws RX12 TX12 34, w ∈ gw := wl [1228, 1230, 1232, 1234, 1236, 1238, 1240, 1242, 1244, 1246, 1248, 1250, 1252, 1254, 1256, 1258, 1260, 1262, 1264, 1266, 1268, 1270, 1272, 1274, 1276, 1278, 1280, 1282, 1284, 1286, 1288, 1290, 1292, 1294] (by decide +kernel) (by decide +kernel)
theorem fp_X0_9 : Fp RX0 9 0 3 (.array .int) true := ⟨RX0, TX0, 14, tyX0, rfl, by decide, wt 330 (by decide +kernel) (by decide +kernel), uw_X0, tyX0_ok, nmX0, rfl, (fun _ => rfl), by decide +kernel⟩
theorem fp_X0_17 : Fp RX0 17 0 4 (.array .long) true := ⟨RX0, TX0, 14, tyX0, rfl, by decide, wt 331 (by decide +kernel) (by decide +kernel), uw_X0, tyX0_ok, nmX0, rfl, (fun _ => rfl), by decide +kernel⟩
theorem fp_X0_21 : Fp RX0 21 0 5 (.array .long) true := ⟨RX0, TX0, 14, tyX0, rfl, by decide, wt 332 (by decide +kernel) (by decide +kernel), uw_X0, tyX0_ok, nmX0, rfl, (fun _ => rfl), by decide +kernel⟩
theorem fp_X0_24 : Fp RX0 24 0 6 (.array .long) true := ⟨RX0, TX0, 14, tyX0, rfl, by decide, wt 333 (by decide +kernel) (by decide +kernel), uw_X0, tyX0_ok, nmX0, rfl, (fun _ => rfl), by decide +kernel⟩
theorem fp_X0_27 : Fp RX0 27 0 7 (.array .long) true := ⟨RX0, TX0, 14, tyX0, rfl, by decide, wt 334 (by decide +kernel) (by decide +kernel), uw_X0, tyX0_ok, nmX0, rfl, (fun _ => rfl), by decide +kernel⟩
theorem fp_X0_30 : Fp RX0 30 0 8 (.array .long) true := ⟨RX0, TX0, 14, tyX0, rfl, by decide, wt 335 (by decide +kernel) (by decide +kernel), uw_X0, tyX0_ok, nmX0, rfl, (fun _ => rfl), by decide +kernel⟩
theorem fp_X0_33 : Fp RX0 33 0 9 (.array .long) true := ⟨RX0, TX0, 14, tyX0, rfl, by decide, wt 336 (by decide +kernel) (by decide +kernel), uw_X0, tyX0_ok, nmX0, rfl, (fun _ => rfl), by decide +kernel⟩
theorem fp_X0_36 : Fp RX0 36 0 10 (.array .long) true := ⟨RX0, TX0, 14, tyX0, rfl, by decide, wt 337 (by decide +kernel) (by decide +kernel), uw_X0, tyX0_ok, nmX0, rfl, (fun _ => rfl), by decide +kernel⟩
theorem fp_X0_39 : Fp RX0 39 0 11 (.array .long) true := ⟨RX0, TX0, 14, tyX0, rfl, by decide, wt 338 (by decide +kernel) (by decide +kernel), uw_X0, tyX0_ok, nmX0, rfl, (fun _ => rfl), by decide +kernel⟩
theorem fp_X0_42 : Fp RX0 42 0 12 (.array .long) true := ⟨RX0, TX0, 14, tyX0, rfl, by decide, wt 339 (by decide +kernel) (by decide +kernel), uw_X0, tyX0_ok, nmX0, rfl, (fun _ => rfl), by decide +kernel⟩
theorem fp_X0_45 : Fp RX0 45 0 13 (.array .long) true := ⟨RX0, TX0, 14, tyX0, rfl, by decide, wt 340 (by decide +kernel) (by decide +kernel), uw_X0, tyX0_ok, nmX0, rfl, (fun _ => rfl), by decide +kernel⟩
theorem fp_X0_48 : Fp RX0 48 0 1 (.boolean) true := ⟨RX0, TX0, 14, tyX0, rfl, by decide, wt 328 (by decide +kernel) (by decide +kernel), uw_X0, tyX0_ok, nmX0, rfl, (fun _ => rfl), by decide +kernel⟩
theorem fp_X0_52 : Fp RX0 52 0 2 (.object "CurveSuite$Field") true := ⟨RX0, TX0, 14, tyX0, rfl, by decide, wt 329 (by decide +kernel) (by decide +kernel), uw_X0, tyX0_ok, nmX0, rfl, (fun _ => rfl), by decide +kernel⟩
theorem fp_X0_56 : Fp RX0 56 0 0 (.int) true := ⟨RX0, TX0, 14, tyX0, rfl, by decide, wt 326 (by decide +kernel) (by decide +kernel), uw_X0, tyX0_ok, nmX0, rfl, (fun _ => rfl), by decide +kernel⟩
theorem fl_X0_17 : Fl RX0 17 0 4 := ⟨RX0, TX0, 14, rfl, by decide, wt 331 (by decide +kernel) (by decide +kernel), uw_X0⟩
theorem fl_X0_48 : Fl RX0 48 0 1 := ⟨RX0, TX0, 14, rfl, by decide, wt 328 (by decide +kernel) (by decide +kernel), uw_X0⟩
theorem fl_X0_52 : Fl RX0 52 0 2 := ⟨RX0, TX0, 14, rfl, by decide, wt 329 (by decide +kernel) (by decide +kernel), uw_X0⟩
theorem fl_X0_21 : Fl RX0 21 0 5 := ⟨RX0, TX0, 14, rfl, by decide, wt 332 (by decide +kernel) (by decide +kernel), uw_X0⟩
theorem fl_X0_80 : Fl RX0 80 2 1 := ⟨RX3, TX3, 16, rfl, by decide, wt 119 (by decide +kernel) (by decide +kernel), uw_X3⟩
theorem fl_X0_24 : Fl RX0 24 0 6 := ⟨RX0, TX0, 14, rfl, by decide, wt 333 (by decide +kernel) (by decide +kernel), uw_X0⟩
theorem fl_X0_27 : Fl RX0 27 0 7 := ⟨RX0, TX0, 14, rfl, by decide, wt 334 (by decide +kernel) (by decide +kernel), uw_X0⟩
theorem fl_X0_30 : Fl RX0 30 0 8 := ⟨RX0, TX0, 14, rfl, by decide, wt 335 (by decide +kernel) (by decide +kernel), uw_X0⟩
theorem fl_X0_9 : Fl RX0 9 0 3 := ⟨RX0, TX0, 14, rfl, by decide, wt 330 (by decide +kernel) (by decide +kernel), uw_X0⟩
theorem fl_X0_56 : Fl RX0 56 0 0 := ⟨RX0, TX0, 14, rfl, by decide, wt 326 (by decide +kernel) (by decide +kernel), uw_X0⟩
theorem fl_X0_33 : Fl RX0 33 0 9 := ⟨RX0, TX0, 14, rfl, by decide, wt 336 (by decide +kernel) (by decide +kernel), uw_X0⟩
theorem fl_X0_36 : Fl RX0 36 0 10 := ⟨RX0, TX0, 14, rfl, by decide, wt 337 (by decide +kernel) (by decide +kernel), uw_X0⟩
theorem fl_X0_39 : Fl RX0 39 0 11 := ⟨RX0, TX0, 14, rfl, by decide, wt 338 (by decide +kernel) (by decide +kernel), uw_X0⟩
theorem fl_X0_42 : Fl RX0 42 0 12 := ⟨RX0, TX0, 14, rfl, by decide, wt 339 (by decide +kernel) (by decide +kernel), uw_X0⟩
theorem fl_X0_45 : Fl RX0 45 0 13 := ⟨RX0, TX0, 14, rfl, by decide, wt 340 (by decide +kernel) (by decide +kernel), uw_X0⟩
theorem fp_X1_13 : Fp RX1 13 1 6 (.array (.object "CurveSuite$Point")) true := ⟨RX1, TX1, 18, tyX1, rfl, by decide, wt 271 (by decide +kernel) (by decide +kernel), uw_X1, tyX1_ok, nmX1, rfl, (fun _ => rfl), by decide +kernel⟩
theorem fp_X1_18 : Fp RX1 18 1 7 (.object "CurveSuite$Point") true := ⟨RX1, TX1, 18, tyX1, rfl, by decide, wt 272 (by decide +kernel) (by decide +kernel), uw_X1, tyX1_ok, nmX1, rfl, (fun _ => rfl), by decide +kernel⟩
theorem fp_X1_22 : Fp RX1 22 1 8 (.array .int) true := ⟨RX1, TX1, 18, tyX1, rfl, by decide, wt 273 (by decide +kernel) (by decide +kernel), uw_X1, tyX1_ok, nmX1, rfl, (fun _ => rfl), by decide +kernel⟩
theorem fp_X1_26 : Fp RX1 26 1 9 (.array .int) true := ⟨RX1, TX1, 18, tyX1, rfl, by decide, wt 274 (by decide +kernel) (by decide +kernel), uw_X1, tyX1_ok, nmX1, rfl, (fun _ => rfl), by decide +kernel⟩
theorem fp_X1_31 : Fp RX1 31 1 10 (.array .long) true := ⟨RX1, TX1, 18, tyX1, rfl, by decide, wt 275 (by decide +kernel) (by decide +kernel), uw_X1, tyX1_ok, nmX1, rfl, (fun _ => rfl), by decide +kernel⟩
theorem fp_X1_35 : Fp RX1 35 1 11 (.array .long) true := ⟨RX1, TX1, 18, tyX1, rfl, by decide, wt 276 (by decide +kernel) (by decide +kernel), uw_X1, tyX1_ok, nmX1, rfl, (fun _ => rfl), by decide +kernel⟩
theorem fp_X1_38 : Fp RX1 38 1 12 (.array .long) true := ⟨RX1, TX1, 18, tyX1, rfl, by decide, wt 277 (by decide +kernel) (by decide +kernel), uw_X1, tyX1_ok, nmX1, rfl, (fun _ => rfl), by decide +kernel⟩
theorem fp_X1_41 : Fp RX1 41 1 13 (.array .long) true := ⟨RX1, TX1, 18, tyX1, rfl, by decide, wt 278 (by decide +kernel) (by decide +kernel), uw_X1, tyX1_ok, nmX1, rfl, (fun _ => rfl), by decide +kernel⟩
theorem fp_X1_44 : Fp RX1 44 1 14 (.array .long) true := ⟨RX1, TX1, 18, tyX1, rfl, by decide, wt 279 (by decide +kernel) (by decide +kernel), uw_X1, tyX1_ok, nmX1, rfl, (fun _ => rfl), by decide +kernel⟩
theorem fp_X1_47 : Fp RX1 47 1 15 (.array .long) true := ⟨RX1, TX1, 18, tyX1, rfl, by decide, wt 280 (by decide +kernel) (by decide +kernel), uw_X1, tyX1_ok, nmX1, rfl, (fun _ => rfl), by decide +kernel⟩
theorem fp_X1_50 : Fp RX1 50 1 16 (.array .long) true := ⟨RX1, TX1, 18, tyX1, rfl, by decide, wt 281 (by decide +kernel) (by decide +kernel), uw_X1, tyX1_ok, nmX1, rfl, (fun _ => rfl), by decide +kernel⟩
theorem fp_X1_53 : Fp RX1 53 1 17 (.array .long) true := ⟨RX1, TX1, 18, tyX1, rfl, by decide, wt 282 (by decide +kernel) (by decide +kernel), uw_X1, tyX1_ok, nmX1, rfl, (fun _ => rfl), by decide +kernel⟩
theorem fp_X1_56 : Fp RX1 56 1 2 (.boolean) true := ⟨RX1, TX1, 18, tyX1, rfl, by decide, wt 267 (by decide +kernel) (by decide +kernel), uw_X1, tyX1_ok, nmX1, rfl, (fun _ => rfl), by decide +kernel⟩
theorem fp_X1_60 : Fp RX1 60 1 3 (.object "CurveSuite$Field") true := ⟨RX1, TX1, 18, tyX1, rfl, by decide, wt 268 (by decide +kernel) (by decide +kernel), uw_X1, tyX1_ok, nmX1, rfl, (fun _ => rfl), by decide +kernel⟩
theorem fp_X1_64 : Fp RX1 64 1 0 (.int) true := ⟨RX1, TX1, 18, tyX1, rfl, by decide, wt 262 (by decide +kernel) (by decide +kernel), uw_X1, tyX1_ok, nmX1, rfl, (fun _ => rfl), by decide +kernel⟩
theorem fp_X1_76 : Fp RX1 76 1 5 (.array .long) true := ⟨RX1, TX1, 18, tyX1, rfl, by decide, wt 270 (by decide +kernel) (by decide +kernel), uw_X1, tyX1_ok, nmX1, rfl, (fun _ => rfl), by decide +kernel⟩
theorem fp_X1_87 : Fp RX1 87 1 4 (.array .long) true := ⟨RX1, TX1, 18, tyX1, rfl, by decide, wt 269 (by decide +kernel) (by decide +kernel), uw_X1, tyX1_ok, nmX1, rfl, (fun _ => rfl), by decide +kernel⟩
theorem fl_X1_90 : Fl RX1 90 3 0 := ⟨RX5, TX5, 3, rfl, by decide, wt 71 (by decide +kernel) (by decide +kernel), uw_X5⟩
theorem fl_X1_100 : Fl RX1 100 3 1 := ⟨RX5, TX5, 3, rfl, by decide, wt 73 (by decide +kernel) (by decide +kernel), uw_X5⟩
theorem fp_X1_107 : Fp RX1 107 1 1 (.object "CurveSuite$Point") true := ⟨RX1, TX1, 18, tyX1, rfl, by decide, wt 265 (by decide +kernel) (by decide +kernel), uw_X1, tyX1_ok, nmX1, rfl, (fun _ => rfl), by decide +kernel⟩
theorem fl_X1_13 : Fl RX1 13 1 6 := ⟨RX1, TX1, 18, rfl, by decide, wt 271 (by decide +kernel) (by decide +kernel), uw_X1⟩
theorem fl_X1_60 : Fl RX1 60 1 3 := ⟨RX1, TX1, 18, rfl, by decide, wt 268 (by decide +kernel) (by decide +kernel), uw_X1⟩
theorem fl_X1_31 : Fl RX1 31 1 10 := ⟨RX1, TX1, 18, rfl, by decide, wt 275 (by decide +kernel) (by decide +kernel), uw_X1⟩
theorem fl_X1_110 : Fl RX1 110 3 2 := ⟨RX5, TX5, 3, rfl, by decide, wt 75 (by decide +kernel) (by decide +kernel), uw_X5⟩
theorem fl_X1_35 : Fl RX1 35 1 11 := ⟨RX1, TX1, 18, rfl, by decide, wt 276 (by decide +kernel) (by decide +kernel), uw_X1⟩
theorem fl_X1_38 : Fl RX1 38 1 12 := ⟨RX1, TX1, 18, rfl, by decide, wt 277 (by decide +kernel) (by decide +kernel), uw_X1⟩
theorem fl_X1_41 : Fl RX1 41 1 13 := ⟨RX1, TX1, 18, rfl, by decide, wt 278 (by decide +kernel) (by decide +kernel), uw_X1⟩
theorem fl_X1_44 : Fl RX1 44 1 14 := ⟨RX1, TX1, 18, rfl, by decide, wt 279 (by decide +kernel) (by decide +kernel), uw_X1⟩
theorem fl_X1_87 : Fl RX1 87 1 4 := ⟨RX1, TX1, 18, rfl, by decide, wt 269 (by decide +kernel) (by decide +kernel), uw_X1⟩
theorem fl_X1_47 : Fl RX1 47 1 15 := ⟨RX1, TX1, 18, rfl, by decide, wt 280 (by decide +kernel) (by decide +kernel), uw_X1⟩
theorem fl_X1_50 : Fl RX1 50 1 16 := ⟨RX1, TX1, 18, rfl, by decide, wt 281 (by decide +kernel) (by decide +kernel), uw_X1⟩
theorem fl_X1_53 : Fl RX1 53 1 17 := ⟨RX1, TX1, 18, rfl, by decide, wt 282 (by decide +kernel) (by decide +kernel), uw_X1⟩
theorem fl_X1_56 : Fl RX1 56 1 2 := ⟨RX1, TX1, 18, rfl, by decide, wt 267 (by decide +kernel) (by decide +kernel), uw_X1⟩
theorem fl_X1_18 : Fl RX1 18 1 7 := ⟨RX1, TX1, 18, rfl, by decide, wt 272 (by decide +kernel) (by decide +kernel), uw_X1⟩
theorem fl_X1_64 : Fl RX1 64 1 0 := ⟨RX1, TX1, 18, rfl, by decide, wt 262 (by decide +kernel) (by decide +kernel), uw_X1⟩
theorem fl_X1_22 : Fl RX1 22 1 8 := ⟨RX1, TX1, 18, rfl, by decide, wt 273 (by decide +kernel) (by decide +kernel), uw_X1⟩
theorem fl_X1_26 : Fl RX1 26 1 9 := ⟨RX1, TX1, 18, rfl, by decide, wt 274 (by decide +kernel) (by decide +kernel), uw_X1⟩
theorem fl_X1_169 : Fl RX1 169 2 1 := ⟨RX3, TX3, 16, rfl, by decide, wt 120 (by decide +kernel) (by decide +kernel), uw_X3⟩
theorem fl_X1_76 : Fl RX1 76 1 5 := ⟨RX1, TX1, 18, rfl, by decide, wt 270 (by decide +kernel) (by decide +kernel), uw_X1⟩
theorem fp_X3_9 : Fp RX3 9 2 1 (.array .long) true := ⟨RX3, TX3, 16, tyX3, rfl, by decide, wt 118 (by decide +kernel) (by decide +kernel), uw_X3, tyX3_ok, nmX3, rfl, (fun _ => rfl), by decide +kernel⟩
theorem fp_X3_15 : Fp RX3 15 2 8 (.array .long) true := ⟨RX3, TX3, 16, tyX3, rfl, by decide, wt 127 (by decide +kernel) (by decide +kernel), uw_X3, tyX3_ok, nmX3, rfl, (fun _ => rfl), by decide +kernel⟩
theorem fp_X3_18 : Fp RX3 18 2 9 (.array .long) true := ⟨RX3, TX3, 16, tyX3, rfl, by decide, wt 128 (by decide +kernel) (by decide +kernel), uw_X3, tyX3_ok, nmX3, rfl, (fun _ => rfl), by decide +kernel⟩
theorem fp_X3_21 : Fp RX3 21 2 10 (.array .long) true := ⟨RX3, TX3, 16, tyX3, rfl, by decide, wt 129 (by decide +kernel) (by decide +kernel), uw_X3, tyX3_ok, nmX3, rfl, (fun _ => rfl), by decide +kernel⟩
theorem fp_X3_24 : Fp RX3 24 2 11 (.array .long) true := ⟨RX3, TX3, 16, tyX3, rfl, by decide, wt 130 (by decide +kernel) (by decide +kernel), uw_X3, tyX3_ok, nmX3, rfl, (fun _ => rfl), by decide +kernel⟩
theorem fp_X3_27 : Fp RX3 27 2 12 (.array .long) true := ⟨RX3, TX3, 16, tyX3, rfl, by decide, wt 131 (by decide +kernel) (by decide +kernel), uw_X3, tyX3_ok, nmX3, rfl, (fun _ => rfl), by decide +kernel⟩
theorem fp_X3_30 : Fp RX3 30 2 13 (.array .long) true := ⟨RX3, TX3, 16, tyX3, rfl, by decide, wt 132 (by decide +kernel) (by decide +kernel), uw_X3, tyX3_ok, nmX3, rfl, (fun _ => rfl), by decide +kernel⟩
theorem fp_X3_33 : Fp RX3 33 2 14 (.array .long) true := ⟨RX3, TX3, 16, tyX3, rfl, by decide, wt 133 (by decide +kernel) (by decide +kernel), uw_X3, tyX3_ok, nmX3, rfl, (fun _ => rfl), by decide +kernel⟩
theorem fp_X3_36 : Fp RX3 36 2 15 (.array .long) true := ⟨RX3, TX3, 16, tyX3, rfl, by decide, wt 134 (by decide +kernel) (by decide +kernel), uw_X3, tyX3_ok, nmX3, rfl, (fun _ => rfl), by decide +kernel⟩
theorem fp_X3_39 : Fp RX3 39 2 2 (.boolean) true := ⟨RX3, TX3, 16, tyX3, rfl, by decide, wt 121 (by decide +kernel) (by decide +kernel), uw_X3, tyX3_ok, nmX3, rfl, (fun _ => rfl), by decide +kernel⟩
theorem fp_X3_43 : Fp RX3 43 2 0 (.int) true := ⟨RX3, TX3, 16, tyX3, rfl, by decide, wt 117 (by decide +kernel) (by decide +kernel), uw_X3, tyX3_ok, nmX3, rfl, (fun _ => rfl), by decide +kernel⟩
theorem fp_X3_47 : Fp RX3 47 2 3 (.int) true := ⟨RX3, TX3, 16, tyX3, rfl, by decide, wt 122 (by decide +kernel) (by decide +kernel), uw_X3, tyX3_ok, nmX3, rfl, (fun _ => rfl), by decide +kernel⟩
theorem fp_X3_50 : Fp RX3 50 2 4 (.int) true := ⟨RX3, TX3, 16, tyX3, rfl, by decide, wt 123 (by decide +kernel) (by decide +kernel), uw_X3, tyX3_ok, nmX3, rfl, (fun _ => rfl), by decide +kernel⟩
theorem fp_X3_53 : Fp RX3 53 2 5 (.int) true := ⟨RX3, TX3, 16, tyX3, rfl, by decide, wt 124 (by decide +kernel) (by decide +kernel), uw_X3, tyX3_ok, nmX3, rfl, (fun _ => rfl), by decide +kernel⟩
theorem fl_X3_50 : Fl RX3 50 2 4 := ⟨RX3, TX3, 16, rfl, by decide, wt 123 (by decide +kernel) (by decide +kernel), uw_X3⟩
theorem fp_X3_56 : Fp RX3 56 2 6 (.long) true := ⟨RX3, TX3, 16, tyX3, rfl, by decide, wt 125 (by decide +kernel) (by decide +kernel), uw_X3, tyX3_ok, nmX3, rfl, (fun _ => rfl), by decide +kernel⟩
theorem fl_X3_53 : Fl RX3 53 2 5 := ⟨RX3, TX3, 16, rfl, by decide, wt 124 (by decide +kernel) (by decide +kernel), uw_X3⟩
theorem fp_X3_60 : Fp RX3 60 2 7 (.long) true := ⟨RX3, TX3, 16, tyX3, rfl, by decide, wt 126 (by decide +kernel) (by decide +kernel), uw_X3, tyX3_ok, nmX3, rfl, (fun _ => rfl), by decide +kernel⟩
theorem fl_X3_9 : Fl RX3 9 2 1 := ⟨RX3, TX3, 16, rfl, by decide, wt 118 (by decide +kernel) (by decide +kernel), uw_X3⟩
theorem fl_X3_47 : Fl RX3 47 2 3 := ⟨RX3, TX3, 16, rfl, by decide, wt 122 (by decide +kernel) (by decide +kernel), uw_X3⟩
theorem fl_X3_15 : Fl RX3 15 2 8 := ⟨RX3, TX3, 16, rfl, by decide, wt 127 (by decide +kernel) (by decide +kernel), uw_X3⟩
theorem fl_X3_56 : Fl RX3 56 2 6 := ⟨RX3, TX3, 16, rfl, by decide, wt 125 (by decide +kernel) (by decide +kernel), uw_X3⟩
theorem fl_X3_60 : Fl RX3 60 2 7 := ⟨RX3, TX3, 16, rfl, by decide, wt 126 (by decide +kernel) (by decide +kernel), uw_X3⟩
theorem fl_X3_43 : Fl RX3 43 2 0 := ⟨RX3, TX3, 16, rfl, by decide, wt 117 (by decide +kernel) (by decide +kernel), uw_X3⟩
theorem fl_X3_21 : Fl RX3 21 2 10 := ⟨RX3, TX3, 16, rfl, by decide, wt 129 (by decide +kernel) (by decide +kernel), uw_X3⟩
theorem fl_X3_18 : Fl RX3 18 2 9 := ⟨RX3, TX3, 16, rfl, by decide, wt 128 (by decide +kernel) (by decide +kernel), uw_X3⟩
theorem fl_X3_33 : Fl RX3 33 2 14 := ⟨RX3, TX3, 16, rfl, by decide, wt 133 (by decide +kernel) (by decide +kernel), uw_X3⟩
theorem fl_X3_39 : Fl RX3 39 2 2 := ⟨RX3, TX3, 16, rfl, by decide, wt 121 (by decide +kernel) (by decide +kernel), uw_X3⟩
theorem fl_X3_27 : Fl RX3 27 2 12 := ⟨RX3, TX3, 16, rfl, by decide, wt 131 (by decide +kernel) (by decide +kernel), uw_X3⟩
theorem fl_X3_30 : Fl RX3 30 2 13 := ⟨RX3, TX3, 16, rfl, by decide, wt 132 (by decide +kernel) (by decide +kernel), uw_X3⟩
theorem fl_X3_36 : Fl RX3 36 2 15 := ⟨RX3, TX3, 16, rfl, by decide, wt 134 (by decide +kernel) (by decide +kernel), uw_X3⟩
theorem fl_X3_24 : Fl RX3 24 2 11 := ⟨RX3, TX3, 16, rfl, by decide, wt 130 (by decide +kernel) (by decide +kernel), uw_X3⟩
theorem fp_X5_9 : Fp RX5 9 3 0 (.array .long) true := ⟨RX5, TX5, 3, tyX5, rfl, by decide, wt 70 (by decide +kernel) (by decide +kernel), uw_X5, tyX5_ok, nmX5, rfl, (fun _ => rfl), by decide +kernel⟩
theorem fp_X5_15 : Fp RX5 15 3 1 (.array .long) true := ⟨RX5, TX5, 3, tyX5, rfl, by decide, wt 72 (by decide +kernel) (by decide +kernel), uw_X5, tyX5_ok, nmX5, rfl, (fun _ => rfl), by decide +kernel⟩
theorem fp_X5_18 : Fp RX5 18 3 2 (.array .long) true := ⟨RX5, TX5, 3, tyX5, rfl, by decide, wt 74 (by decide +kernel) (by decide +kernel), uw_X5, tyX5_ok, nmX5, rfl, (fun _ => rfl), by decide +kernel⟩
theorem fl_X5_15 : Fl RX5 15 3 1 := ⟨RX5, TX5, 3, rfl, by decide, wt 72 (by decide +kernel) (by decide +kernel), uw_X5⟩
theorem fl_X5_18 : Fl RX5 18 3 2 := ⟨RX5, TX5, 3, rfl, by decide, wt 74 (by decide +kernel) (by decide +kernel), uw_X5⟩
theorem fp_X6_7 : Fp RX6 7 4 0 (.array .int) true := ⟨RX6, TX6, 2, tyX6, rfl, by decide, wt 41 (by decide +kernel) (by decide +kernel), uw_X6, tyX6_ok, nmX6, rfl, (fun _ => rfl), by decide +kernel⟩
theorem fl_X6_13 : Fl RX6 13 4 1 := ⟨RX6, TX6, 2, rfl, by decide, wt 47 (by decide +kernel) (by decide +kernel), uw_X6⟩
theorem fl_X6_7 : Fl RX6 7 4 0 := ⟨RX6, TX6, 2, rfl, by decide, wt 41 (by decide +kernel) (by decide +kernel), uw_X6⟩
theorem fp_X6_13 : Fp RX6 13 4 1 (.int) false := ⟨RX6, TX6, 2, tyX6, rfl, by decide, wt 47 (by decide +kernel) (by decide +kernel), uw_X6, tyX6_ok, nmX6, rfl, (fun h => by cases h), by decide +kernel⟩
theorem fp_X7_13 : Fp RX7 13 5 4 (.array .long) true := ⟨RX7, TX7, 6, tyX7, rfl, by decide, wt 395 (by decide +kernel) (by decide +kernel), uw_X7, tyX7_ok, nmX7, rfl, (fun _ => rfl), by decide +kernel⟩
theorem fp_X7_17 : Fp RX7 17 5 5 (.array .long) true := ⟨RX7, TX7, 6, tyX7, rfl, by decide, wt 396 (by decide +kernel) (by decide +kernel), uw_X7, tyX7_ok, nmX7, rfl, (fun _ => rfl), by decide +kernel⟩
theorem fp_X7_20 : Fp RX7 20 5 0 (.int) true := ⟨RX7, TX7, 6, tyX7, rfl, by decide, wt 391 (by decide +kernel) (by decide +kernel), uw_X7, tyX7_ok, nmX7, rfl, (fun _ => rfl), by decide +kernel⟩
theorem fp_X7_24 : Fp RX7 24 5 1 (.int) true := ⟨RX7, TX7, 6, tyX7, rfl, by decide, wt 392 (by decide +kernel) (by decide +kernel), uw_X7, tyX7_ok, nmX7, rfl, (fun _ => rfl), by decide +kernel⟩
theorem fl_X7_20 : Fl RX7 20 5 0 := ⟨RX7, TX7, 6, rfl, by decide, wt 391 (by decide +kernel) (by decide +kernel), uw_X7⟩
theorem fp_X7_39 : Fp RX7 39 5 2 (.array .long) true := ⟨RX7, TX7, 6, tyX7, rfl, by decide, wt 393 (by decide +kernel) (by decide +kernel), uw_X7, tyX7_ok, nmX7, rfl, (fun _ => rfl), by decide +kernel⟩
theorem fp_X7_42 : Fp RX7 42 5 3 (.array .int) true := ⟨RX7, TX7, 6, tyX7, rfl, by decide, wt 394 (by decide +kernel) (by decide +kernel), uw_X7, tyX7_ok, nmX7, rfl, (fun _ => rfl), by decide +kernel⟩
theorem fl_X7_13 : Fl RX7 13 5 4 := ⟨RX7, TX7, 6, rfl, by decide, wt 395 (by decide +kernel) (by decide +kernel), uw_X7⟩
theorem fl_X7_42 : Fl RX7 42 5 3 := ⟨RX7, TX7, 6, rfl, by decide, wt 394 (by decide +kernel) (by decide +kernel), uw_X7⟩
theorem fl_X7_24 : Fl RX7 24 5 1 := ⟨RX7, TX7, 6, rfl, by decide, wt 392 (by decide +kernel) (by decide +kernel), uw_X7⟩
theorem fl_X7_39 : Fl RX7 39 5 2 := ⟨RX7, TX7, 6, rfl, by decide, wt 393 (by decide +kernel) (by decide +kernel), uw_X7⟩
theorem fl_X7_17 : Fl RX7 17 5 5 := ⟨RX7, TX7, 6, rfl, by decide, wt 396 (by decide +kernel) (by decide +kernel), uw_X7⟩
theorem fp_X8_7 : Fp RX8 7 6 0 (.array .long) true := ⟨RX8, TX8, 2, tyX8, rfl, by decide, wt 90 (by decide +kernel) (by decide +kernel), uw_X8, tyX8_ok, nmX8, rfl, (fun _ => rfl), by decide +kernel⟩
theorem fp_X8_13 : Fp RX8 13 6 1 (.array .long) true := ⟨RX8, TX8, 2, tyX8, rfl, by decide, wt 91 (by decide +kernel) (by decide +kernel), uw_X8, tyX8_ok, nmX8, rfl, (fun _ => rfl), by decide +kernel⟩
theorem fl_X8_7 : Fl RX8 7 6 0 := ⟨RX8, TX8, 2, rfl, by decide, wt 90 (by decide +kernel) (by decide +kernel), uw_X8⟩
theorem fl_X8_25 : Fl RX8 25 4 1 := ⟨RX6, TX6, 2, rfl, by decide, wt 50 (by decide +kernel) (by decide +kernel), uw_X6⟩
theorem fl_X8_13 : Fl RX8 13 6 1 := ⟨RX8, TX8, 2, rfl, by decide, wt 91 (by decide +kernel) (by decide +kernel), uw_X8⟩
theorem fl_X8_49 : Fl RX8 49 4 0 := ⟨RX6, TX6, 2, rfl, by decide, wt 45 (by decide +kernel) (by decide +kernel), uw_X6⟩
theorem fp_X9_7 : Fp RX9 7 7 0 (.array .long) true := ⟨RX9, TX9, 2, tyX9, rfl, by decide, wt 103 (by decide +kernel) (by decide +kernel), uw_X9, tyX9_ok, nmX9, rfl, (fun _ => rfl), by decide +kernel⟩
theorem fp_X9_13 : Fp RX9 13 7 1 (.array .long) true := ⟨RX9, TX9, 2, tyX9, rfl, by decide, wt 104 (by decide +kernel) (by decide +kernel), uw_X9, tyX9_ok, nmX9, rfl, (fun _ => rfl), by decide +kernel⟩
theorem fl_X9_7 : Fl RX9 7 7 0 := ⟨RX9, TX9, 2, rfl, by decide, wt 103 (by decide +kernel) (by decide +kernel), uw_X9⟩
theorem fl_X9_22 : Fl RX9 22 4 1 := ⟨RX6, TX6, 2, rfl, by decide, wt 49 (by decide +kernel) (by decide +kernel), uw_X6⟩
theorem fl_X9_28 : Fl RX9 28 4 0 := ⟨RX6, TX6, 2, rfl, by decide, wt 43 (by decide +kernel) (by decide +kernel), uw_X6⟩
theorem fl_X9_13 : Fl RX9 13 7 1 := ⟨RX9, TX9, 2, rfl, by decide, wt 104 (by decide +kernel) (by decide +kernel), uw_X9⟩
theorem fp_X10_16 : Fp RX10 16 8 5 (.object "CurveSuite$Row") true := ⟨RX10, TX10, 19, tyX10, rfl, by decide, wt 415 (by decide +kernel) (by decide +kernel), uw_X10, tyX10_ok, nmX10, rfl, (fun _ => rfl), by decide +kernel⟩
theorem fp_X10_20 : Fp RX10 20 8 6 (.object "CurveSuite$Row") true := ⟨RX10, TX10, 19, tyX10, rfl, by decide, wt 416 (by decide +kernel) (by decide +kernel), uw_X10, tyX10_ok, nmX10, rfl, (fun _ => rfl), by decide +kernel⟩
theorem fp_X10_23 : Fp RX10 23 8 7 (.object "CurveSuite$Row") true := ⟨RX10, TX10, 19, tyX10, rfl, by decide, wt 417 (by decide +kernel) (by decide +kernel), uw_X10, tyX10_ok, nmX10, rfl, (fun _ => rfl), by decide +kernel⟩
theorem fp_X10_26 : Fp RX10 26 8 8 (.array .int) true := ⟨RX10, TX10, 19, tyX10, rfl, by decide, wt 418 (by decide +kernel) (by decide +kernel), uw_X10, tyX10_ok, nmX10, rfl, (fun _ => rfl), by decide +kernel⟩
theorem fp_X10_30 : Fp RX10 30 8 9 (.array .int) true := ⟨RX10, TX10, 19, tyX10, rfl, by decide, wt 419 (by decide +kernel) (by decide +kernel), uw_X10, tyX10_ok, nmX10, rfl, (fun _ => rfl), by decide +kernel⟩
theorem fp_X10_33 : Fp RX10 33 8 10 (.array .int) true := ⟨RX10, TX10, 19, tyX10, rfl, by decide, wt 420 (by decide +kernel) (by decide +kernel), uw_X10, tyX10_ok, nmX10, rfl, (fun _ => rfl), by decide +kernel⟩
theorem fp_X10_36 : Fp RX10 36 8 11 (.array .int) true := ⟨RX10, TX10, 19, tyX10, rfl, by decide, wt 421 (by decide +kernel) (by decide +kernel), uw_X10, tyX10_ok, nmX10, rfl, (fun _ => rfl), by decide +kernel⟩
theorem fp_X10_39 : Fp RX10 39 8 12 (.array .int) true := ⟨RX10, TX10, 19, tyX10, rfl, by decide, wt 422 (by decide +kernel) (by decide +kernel), uw_X10, tyX10_ok, nmX10, rfl, (fun _ => rfl), by decide +kernel⟩
theorem fp_X10_44 : Fp RX10 44 8 13 (.array .long) true := ⟨RX10, TX10, 19, tyX10, rfl, by decide, wt 423 (by decide +kernel) (by decide +kernel), uw_X10, tyX10_ok, nmX10, rfl, (fun _ => rfl), by decide +kernel⟩
theorem fp_X10_48 : Fp RX10 48 8 14 (.array .long) true := ⟨RX10, TX10, 19, tyX10, rfl, by decide, wt 424 (by decide +kernel) (by decide +kernel), uw_X10, tyX10_ok, nmX10, rfl, (fun _ => rfl), by decide +kernel⟩
theorem fp_X10_51 : Fp RX10 51 8 15 (.array .long) true := ⟨RX10, TX10, 19, tyX10, rfl, by decide, wt 425 (by decide +kernel) (by decide +kernel), uw_X10, tyX10_ok, nmX10, rfl, (fun _ => rfl), by decide +kernel⟩
theorem fp_X10_57 : Fp RX10 57 8 16 (.object "CurveSuite$Point") true := ⟨RX10, TX10, 19, tyX10, rfl, by decide, wt 426 (by decide +kernel) (by decide +kernel), uw_X10, tyX10_ok, nmX10, rfl, (fun _ => rfl), by decide +kernel⟩
theorem fp_X10_61 : Fp RX10 61 8 17 (.object "CurveSuite$Point") true := ⟨RX10, TX10, 19, tyX10, rfl, by decide, wt 427 (by decide +kernel) (by decide +kernel), uw_X10, tyX10_ok, nmX10, rfl, (fun _ => rfl), by decide +kernel⟩
theorem fp_X10_64 : Fp RX10 64 8 18 (.object "CurveSuite$Point") true := ⟨RX10, TX10, 19, tyX10, rfl, by decide, wt 428 (by decide +kernel) (by decide +kernel), uw_X10, tyX10_ok, nmX10, rfl, (fun _ => rfl), by decide +kernel⟩
theorem fp_X10_67 : Fp RX10 67 8 0 (.boolean) true := ⟨RX10, TX10, 19, tyX10, rfl, by decide, wt 410 (by decide +kernel) (by decide +kernel), uw_X10, tyX10_ok, nmX10, rfl, (fun _ => rfl), by decide +kernel⟩
theorem fp_X10_71 : Fp RX10 71 8 2 (.object "CurveSuite$Curve") true := ⟨RX10, TX10, 19, tyX10, rfl, by decide, wt 412 (by decide +kernel) (by decide +kernel), uw_X10, tyX10_ok, nmX10, rfl, (fun _ => rfl), by decide +kernel⟩
theorem fp_X10_75 : Fp RX10 75 8 4 (.object "CurveSuite$Digest") true := ⟨RX10, TX10, 19, tyX10, rfl, by decide, wt 414 (by decide +kernel) (by decide +kernel), uw_X10, tyX10_ok, nmX10, rfl, (fun _ => rfl), by decide +kernel⟩
theorem fl_X10_79 : Fl RX10 79 1 0 := ⟨RX1, TX1, 18, rfl, by decide, wt 263 (by decide +kernel) (by decide +kernel), uw_X1⟩
theorem fp_X10_85 : Fp RX10 85 8 1 (.int) true := ⟨RX10, TX10, 19, tyX10, rfl, by decide, wt 411 (by decide +kernel) (by decide +kernel), uw_X10, tyX10_ok, nmX10, rfl, (fun _ => rfl), by decide +kernel⟩
theorem fp_X10_91 : Fp RX10 91 8 3 (.object "CurveSuite$Scalars") true := ⟨RX10, TX10, 19, tyX10, rfl, by decide, wt 413 (by decide +kernel) (by decide +kernel), uw_X10, tyX10_ok, nmX10, rfl, (fun _ => rfl), by decide +kernel⟩
theorem fl_X10_16 : Fl RX10 16 8 5 := ⟨RX10, TX10, 19, rfl, by decide, wt 415 (by decide +kernel) (by decide +kernel), uw_X10⟩
theorem fp_X10_95 : Fp RX10 95 4 1 (.int) false := ⟨RX6, TX6, 2, tyX6, rfl, by decide, wt 48 (by decide +kernel) (by decide +kernel), uw_X6, tyX6_ok, nmX6, rfl, (fun h => by cases h), by decide +kernel⟩
theorem fl_X10_67 : Fl RX10 67 8 0 := ⟨RX10, TX10, 19, rfl, by decide, wt 410 (by decide +kernel) (by decide +kernel), uw_X10⟩
theorem fl_X10_95 : Fl RX10 95 4 1 := ⟨RX6, TX6, 2, rfl, by decide, wt 48 (by decide +kernel) (by decide +kernel), uw_X6⟩
theorem fl_X10_109 : Fl RX10 109 4 0 := ⟨RX6, TX6, 2, rfl, by decide, wt 44 (by decide +kernel) (by decide +kernel), uw_X6⟩
theorem fl_X10_20 : Fl RX10 20 8 6 := ⟨RX10, TX10, 19, rfl, by decide, wt 416 (by decide +kernel) (by decide +kernel), uw_X10⟩
theorem fl_X10_75 : Fl RX10 75 8 4 := ⟨RX10, TX10, 19, rfl, by decide, wt 414 (by decide +kernel) (by decide +kernel), uw_X10⟩
theorem fl_X10_71 : Fl RX10 71 8 2 := ⟨RX10, TX10, 19, rfl, by decide, wt 412 (by decide +kernel) (by decide +kernel), uw_X10⟩
theorem fl_X10_57 : Fl RX10 57 8 16 := ⟨RX10, TX10, 19, rfl, by decide, wt 426 (by decide +kernel) (by decide +kernel), uw_X10⟩
theorem fl_X10_26 : Fl RX10 26 8 8 := ⟨RX10, TX10, 19, rfl, by decide, wt 418 (by decide +kernel) (by decide +kernel), uw_X10⟩
theorem fl_X10_126 : Fl RX10 126 1 1 := ⟨RX1, TX1, 18, rfl, by decide, wt 266 (by decide +kernel) (by decide +kernel), uw_X1⟩
theorem fl_X10_33 : Fl RX10 33 8 10 := ⟨RX10, TX10, 19, rfl, by decide, wt 420 (by decide +kernel) (by decide +kernel), uw_X10⟩
theorem fl_X10_91 : Fl RX10 91 8 3 := ⟨RX10, TX10, 19, rfl, by decide, wt 413 (by decide +kernel) (by decide +kernel), uw_X10⟩
theorem fl_X10_44 : Fl RX10 44 8 13 := ⟨RX10, TX10, 19, rfl, by decide, wt 423 (by decide +kernel) (by decide +kernel), uw_X10⟩
theorem fl_X10_30 : Fl RX10 30 8 9 := ⟨RX10, TX10, 19, rfl, by decide, wt 419 (by decide +kernel) (by decide +kernel), uw_X10⟩
theorem fl_X10_85 : Fl RX10 85 8 1 := ⟨RX10, TX10, 19, rfl, by decide, wt 411 (by decide +kernel) (by decide +kernel), uw_X10⟩
theorem fl_X10_36 : Fl RX10 36 8 11 := ⟨RX10, TX10, 19, rfl, by decide, wt 421 (by decide +kernel) (by decide +kernel), uw_X10⟩
theorem fl_X10_48 : Fl RX10 48 8 14 := ⟨RX10, TX10, 19, rfl, by decide, wt 424 (by decide +kernel) (by decide +kernel), uw_X10⟩
theorem fl_X10_51 : Fl RX10 51 8 15 := ⟨RX10, TX10, 19, rfl, by decide, wt 425 (by decide +kernel) (by decide +kernel), uw_X10⟩
theorem fl_X10_61 : Fl RX10 61 8 17 := ⟨RX10, TX10, 19, rfl, by decide, wt 427 (by decide +kernel) (by decide +kernel), uw_X10⟩
theorem fl_X10_64 : Fl RX10 64 8 18 := ⟨RX10, TX10, 19, rfl, by decide, wt 428 (by decide +kernel) (by decide +kernel), uw_X10⟩
theorem fl_X10_39 : Fl RX10 39 8 12 := ⟨RX10, TX10, 19, rfl, by decide, wt 422 (by decide +kernel) (by decide +kernel), uw_X10⟩
theorem fl_X10_23 : Fl RX10 23 8 7 := ⟨RX10, TX10, 19, rfl, by decide, wt 417 (by decide +kernel) (by decide +kernel), uw_X10⟩
theorem fp_X11_11 : Fp RX11 11 9 0 (.array (.object "CurveSuite$Row")) true := ⟨RX11, TX11, 11, tyX11, rfl, by decide, wt 468 (by decide +kernel) (by decide +kernel), uw_X11, tyX11_ok, nmX11, rfl, (fun _ => rfl), by decide +kernel⟩
theorem fp_X11_18 : Fp RX11 18 9 1 (.object "CurveSuite$Row") true := ⟨RX11, TX11, 11, tyX11, rfl, by decide, wt 469 (by decide +kernel) (by decide +kernel), uw_X11, tyX11_ok, nmX11, rfl, (fun _ => rfl), by decide +kernel⟩
theorem fp_X11_22 : Fp RX11 22 9 2 (.object "CurveSuite$Row") true := ⟨RX11, TX11, 11, tyX11, rfl, by decide, wt 470 (by decide +kernel) (by decide +kernel), uw_X11, tyX11_ok, nmX11, rfl, (fun _ => rfl), by decide +kernel⟩
theorem fp_X11_27 : Fp RX11 27 9 5 (.array (.object "CurveSuite$Curve")) true := ⟨RX11, TX11, 11, tyX11, rfl, by decide, wt 473 (by decide +kernel) (by decide +kernel), uw_X11, tyX11_ok, nmX11, rfl, (fun _ => rfl), by decide +kernel⟩
theorem fp_X11_33 : Fp RX11 33 9 6 (.array (.object "CurveSuite$Agreement")) true := ⟨RX11, TX11, 11, tyX11, rfl, by decide, wt 474 (by decide +kernel) (by decide +kernel), uw_X11, tyX11_ok, nmX11, rfl, (fun _ => rfl), by decide +kernel⟩
theorem fp_X11_39 : Fp RX11 39 9 7 (.array (.object "CurveSuite$Signer")) true := ⟨RX11, TX11, 11, tyX11, rfl, by decide, wt 475 (by decide +kernel) (by decide +kernel), uw_X11, tyX11_ok, nmX11, rfl, (fun _ => rfl), by decide +kernel⟩
theorem fp_X11_45 : Fp RX11 45 9 8 (.array (.object "CurveSuite$Point")) true := ⟨RX11, TX11, 11, tyX11, rfl, by decide, wt 476 (by decide +kernel) (by decide +kernel), uw_X11, tyX11_ok, nmX11, rfl, (fun _ => rfl), by decide +kernel⟩
theorem fp_X11_49 : Fp RX11 49 9 9 (.array .int) true := ⟨RX11, TX11, 11, tyX11, rfl, by decide, wt 477 (by decide +kernel) (by decide +kernel), uw_X11, tyX11_ok, nmX11, rfl, (fun _ => rfl), by decide +kernel⟩
theorem fp_X11_54 : Fp RX11 54 9 10 (.object "CurveSuite$Point") true := ⟨RX11, TX11, 11, tyX11, rfl, by decide, wt 478 (by decide +kernel) (by decide +kernel), uw_X11, tyX11_ok, nmX11, rfl, (fun _ => rfl), by decide +kernel⟩
theorem fl_X11_11 : Fl RX11 11 9 0 := ⟨RX11, TX11, 11, rfl, by decide, wt 468 (by decide +kernel) (by decide +kernel), uw_X11⟩
theorem fl_X11_58 : Fl RX11 58 4 0 := ⟨RX6, TX6, 2, rfl, by decide, wt 42 (by decide +kernel) (by decide +kernel), uw_X6⟩
theorem fp_X11_61 : Fp RX11 61 4 1 (.int) false := ⟨RX6, TX6, 2, tyX6, rfl, by decide, wt 46 (by decide +kernel) (by decide +kernel), uw_X6, tyX6_ok, nmX6, rfl, (fun h => by cases h), by decide +kernel⟩
theorem fp_X11_71 : Fp RX11 71 9 3 (.object "CurveSuite$Digest") true := ⟨RX11, TX11, 11, tyX11, rfl, by decide, wt 471 (by decide +kernel) (by decide +kernel), uw_X11, tyX11_ok, nmX11, rfl, (fun _ => rfl), by decide +kernel⟩
theorem fp_X11_75 : Fp RX11 75 9 4 (.object "CurveSuite$Digest") true := ⟨RX11, TX11, 11, tyX11, rfl, by decide, wt 472 (by decide +kernel) (by decide +kernel), uw_X11, tyX11_ok, nmX11, rfl, (fun _ => rfl), by decide +kernel⟩
theorem fl_X11_27 : Fl RX11 27 9 5 := ⟨RX11, TX11, 11, rfl, by decide, wt 473 (by decide +kernel) (by decide +kernel), uw_X11⟩
theorem fl_X11_33 : Fl RX11 33 9 6 := ⟨RX11, TX11, 11, rfl, by decide, wt 474 (by decide +kernel) (by decide +kernel), uw_X11⟩
theorem fl_X11_39 : Fl RX11 39 9 7 := ⟨RX11, TX11, 11, rfl, by decide, wt 475 (by decide +kernel) (by decide +kernel), uw_X11⟩
theorem fl_X11_45 : Fl RX11 45 9 8 := ⟨RX11, TX11, 11, rfl, by decide, wt 476 (by decide +kernel) (by decide +kernel), uw_X11⟩
theorem fl_X11_61 : Fl RX11 61 4 1 := ⟨RX6, TX6, 2, rfl, by decide, wt 46 (by decide +kernel) (by decide +kernel), uw_X6⟩
theorem fl_X11_22 : Fl RX11 22 9 2 := ⟨RX11, TX11, 11, rfl, by decide, wt 470 (by decide +kernel) (by decide +kernel), uw_X11⟩
theorem fl_X11_18 : Fl RX11 18 9 1 := ⟨RX11, TX11, 11, rfl, by decide, wt 469 (by decide +kernel) (by decide +kernel), uw_X11⟩
theorem fl_X11_75 : Fl RX11 75 9 4 := ⟨RX11, TX11, 11, rfl, by decide, wt 472 (by decide +kernel) (by decide +kernel), uw_X11⟩
theorem fl_X11_71 : Fl RX11 71 9 3 := ⟨RX11, TX11, 11, rfl, by decide, wt 471 (by decide +kernel) (by decide +kernel), uw_X11⟩
theorem fl_X11_149 : Fl RX11 149 0 0 := ⟨RX0, TX0, 14, rfl, by decide, wt 327 (by decide +kernel) (by decide +kernel), uw_X0⟩
theorem fl_X11_160 : Fl RX11 160 1 0 := ⟨RX1, TX1, 18, rfl, by decide, wt 264 (by decide +kernel) (by decide +kernel), uw_X1⟩
theorem fl_X11_49 : Fl RX11 49 9 9 := ⟨RX11, TX11, 11, rfl, by decide, wt 477 (by decide +kernel) (by decide +kernel), uw_X11⟩
theorem fl_X11_54 : Fl RX11 54 9 10 := ⟨RX11, TX11, 11, rfl, by decide, wt 478 (by decide +kernel) (by decide +kernel), uw_X11⟩
theorem fp_X12_7 : Fp RX12 7 10 0 (.int) false := ⟨RX12, TX12, 34, tyX12, rfl, by decide, wt 1194 (by decide +kernel) (by decide +kernel), uw_X12, tyX12_ok, nmX12, rfl, (fun h => by cases h), by decide +kernel⟩
theorem fp_X12_13 : Fp RX12 13 10 1 (.array .int) true := ⟨RX12, TX12, 34, tyX12, rfl, by decide, wt 1195 (by decide +kernel) (by decide +kernel), uw_X12, tyX12_ok, nmX12, rfl, (fun _ => rfl), by decide +kernel⟩
theorem fp_X12_17 : Fp RX12 17 10 2 (.array .int) true := ⟨RX12, TX12, 34, tyX12, rfl, by decide, wt 1196 (by decide +kernel) (by decide +kernel), uw_X12, tyX12_ok, nmX12, rfl, (fun _ => rfl), by decide +kernel⟩
theorem fp_X12_20 : Fp RX12 20 10 3 (.array .int) true := ⟨RX12, TX12, 34, tyX12, rfl, by decide, wt 1197 (by decide +kernel) (by decide +kernel), uw_X12, tyX12_ok, nmX12, rfl, (fun _ => rfl), by decide +kernel⟩
theorem fp_X12_23 : Fp RX12 23 10 4 (.array .int) true := ⟨RX12, TX12, 34, tyX12, rfl, by decide, wt 1198 (by decide +kernel) (by decide +kernel), uw_X12, tyX12_ok, nmX12, rfl, (fun _ => rfl), by decide +kernel⟩
theorem fp_X12_26 : Fp RX12 26 10 5 (.int) false := ⟨RX12, TX12, 34, tyX12, rfl, by decide, wt 1199 (by decide +kernel) (by decide +kernel), uw_X12, tyX12_ok, nmX12, rfl, (fun h => by cases h), by decide +kernel⟩
theorem fp_X12_29 : Fp RX12 29 10 6 (.array .int) true := ⟨RX12, TX12, 34, tyX12, rfl, by decide, wt 1200 (by decide +kernel) (by decide +kernel), uw_X12, tyX12_ok, nmX12, rfl, (fun _ => rfl), by decide +kernel⟩
theorem fp_X12_32 : Fp RX12 32 10 7 (.int) false := ⟨RX12, TX12, 34, tyX12, rfl, by decide, wt 1201 (by decide +kernel) (by decide +kernel), uw_X12, tyX12_ok, nmX12, rfl, (fun h => by cases h), by decide +kernel⟩
theorem fp_X12_35 : Fp RX12 35 10 8 (.array .int) true := ⟨RX12, TX12, 34, tyX12, rfl, by decide, wt 1202 (by decide +kernel) (by decide +kernel), uw_X12, tyX12_ok, nmX12, rfl, (fun _ => rfl), by decide +kernel⟩
theorem fp_X12_38 : Fp RX12 38 10 9 (.int) false := ⟨RX12, TX12, 34, tyX12, rfl, by decide, wt 1203 (by decide +kernel) (by decide +kernel), uw_X12, tyX12_ok, nmX12, rfl, (fun h => by cases h), by decide +kernel⟩
theorem fp_X12_41 : Fp RX12 41 10 10 (.array .int) true := ⟨RX12, TX12, 34, tyX12, rfl, by decide, wt 1204 (by decide +kernel) (by decide +kernel), uw_X12, tyX12_ok, nmX12, rfl, (fun _ => rfl), by decide +kernel⟩
theorem fp_X12_44 : Fp RX12 44 10 11 (.array .long) true := ⟨RX12, TX12, 34, tyX12, rfl, by decide, wt 1205 (by decide +kernel) (by decide +kernel), uw_X12, tyX12_ok, nmX12, rfl, (fun _ => rfl), by decide +kernel⟩
theorem fp_X12_48 : Fp RX12 48 10 12 (.array .int) true := ⟨RX12, TX12, 34, tyX12, rfl, by decide, wt 1206 (by decide +kernel) (by decide +kernel), uw_X12, tyX12_ok, nmX12, rfl, (fun _ => rfl), by decide +kernel⟩
theorem fp_X12_51 : Fp RX12 51 10 13 (.int) false := ⟨RX12, TX12, 34, tyX12, rfl, by decide, wt 1207 (by decide +kernel) (by decide +kernel), uw_X12, tyX12_ok, nmX12, rfl, (fun h => by cases h), by decide +kernel⟩
theorem fp_X12_54 : Fp RX12 54 10 14 (.int) false := ⟨RX12, TX12, 34, tyX12, rfl, by decide, wt 1208 (by decide +kernel) (by decide +kernel), uw_X12, tyX12_ok, nmX12, rfl, (fun h => by cases h), by decide +kernel⟩
theorem fp_X12_57 : Fp RX12 57 10 15 (.array .int) true := ⟨RX12, TX12, 34, tyX12, rfl, by decide, wt 1209 (by decide +kernel) (by decide +kernel), uw_X12, tyX12_ok, nmX12, rfl, (fun _ => rfl), by decide +kernel⟩
theorem fp_X12_60 : Fp RX12 60 10 16 (.array .int) true := ⟨RX12, TX12, 34, tyX12, rfl, by decide, wt 1210 (by decide +kernel) (by decide +kernel), uw_X12, tyX12_ok, nmX12, rfl, (fun _ => rfl), by decide +kernel⟩
theorem fp_X12_63 : Fp RX12 63 10 17 (.int) false := ⟨RX12, TX12, 34, tyX12, rfl, by decide, wt 1211 (by decide +kernel) (by decide +kernel), uw_X12, tyX12_ok, nmX12, rfl, (fun h => by cases h), by decide +kernel⟩
theorem fp_X12_66 : Fp RX12 66 10 18 (.array .int) true := ⟨RX12, TX12, 34, tyX12, rfl, by decide, wt 1212 (by decide +kernel) (by decide +kernel), uw_X12, tyX12_ok, nmX12, rfl, (fun _ => rfl), by decide +kernel⟩
theorem fp_X12_69 : Fp RX12 69 10 19 (.array .long) true := ⟨RX12, TX12, 34, tyX12, rfl, by decide, wt 1213 (by decide +kernel) (by decide +kernel), uw_X12, tyX12_ok, nmX12, rfl, (fun _ => rfl), by decide +kernel⟩
theorem fp_X12_72 : Fp RX12 72 10 20 (.array .long) true := ⟨RX12, TX12, 34, tyX12, rfl, by decide, wt 1214 (by decide +kernel) (by decide +kernel), uw_X12, tyX12_ok, nmX12, rfl, (fun _ => rfl), by decide +kernel⟩
theorem fp_X12_75 : Fp RX12 75 10 21 (.array .long) true := ⟨RX12, TX12, 34, tyX12, rfl, by decide, wt 1215 (by decide +kernel) (by decide +kernel), uw_X12, tyX12_ok, nmX12, rfl, (fun _ => rfl), by decide +kernel⟩
theorem fp_X12_78 : Fp RX12 78 10 22 (.array .long) true := ⟨RX12, TX12, 34, tyX12, rfl, by decide, wt 1216 (by decide +kernel) (by decide +kernel), uw_X12, tyX12_ok, nmX12, rfl, (fun _ => rfl), by decide +kernel⟩
theorem fp_X12_81 : Fp RX12 81 10 23 (.array .long) true := ⟨RX12, TX12, 34, tyX12, rfl, by decide, wt 1217 (by decide +kernel) (by decide +kernel), uw_X12, tyX12_ok, nmX12, rfl, (fun _ => rfl), by decide +kernel⟩
theorem fp_X12_84 : Fp RX12 84 10 24 (.array .long) true := ⟨RX12, TX12, 34, tyX12, rfl, by decide, wt 1218 (by decide +kernel) (by decide +kernel), uw_X12, tyX12_ok, nmX12, rfl, (fun _ => rfl), by decide +kernel⟩
theorem fp_X12_87 : Fp RX12 87 10 25 (.array .long) true := ⟨RX12, TX12, 34, tyX12, rfl, by decide, wt 1219 (by decide +kernel) (by decide +kernel), uw_X12, tyX12_ok, nmX12, rfl, (fun _ => rfl), by decide +kernel⟩
theorem fp_X12_90 : Fp RX12 90 10 26 (.array .int) true := ⟨RX12, TX12, 34, tyX12, rfl, by decide, wt 1220 (by decide +kernel) (by decide +kernel), uw_X12, tyX12_ok, nmX12, rfl, (fun _ => rfl), by decide +kernel⟩
theorem fp_X12_93 : Fp RX12 93 10 27 (.array .int) true := ⟨RX12, TX12, 34, tyX12, rfl, by decide, wt 1221 (by decide +kernel) (by decide +kernel), uw_X12, tyX12_ok, nmX12, rfl, (fun _ => rfl), by decide +kernel⟩
theorem fp_X12_96 : Fp RX12 96 10 28 (.array .int) true := ⟨RX12, TX12, 34, tyX12, rfl, by decide, wt 1222 (by decide +kernel) (by decide +kernel), uw_X12, tyX12_ok, nmX12, rfl, (fun _ => rfl), by decide +kernel⟩
theorem fp_X12_99 : Fp RX12 99 10 29 (.array .int) true := ⟨RX12, TX12, 34, tyX12, rfl, by decide, wt 1223 (by decide +kernel) (by decide +kernel), uw_X12, tyX12_ok, nmX12, rfl, (fun _ => rfl), by decide +kernel⟩
theorem fp_X12_102 : Fp RX12 102 10 30 (.array .int) true := ⟨RX12, TX12, 34, tyX12, rfl, by decide, wt 1224 (by decide +kernel) (by decide +kernel), uw_X12, tyX12_ok, nmX12, rfl, (fun _ => rfl), by decide +kernel⟩
theorem fp_X12_105 : Fp RX12 105 10 31 (.array .int) true := ⟨RX12, TX12, 34, tyX12, rfl, by decide, wt 1225 (by decide +kernel) (by decide +kernel), uw_X12, tyX12_ok, nmX12, rfl, (fun _ => rfl), by decide +kernel⟩
theorem fp_X12_108 : Fp RX12 108 10 32 (.array .int) true := ⟨RX12, TX12, 34, tyX12, rfl, by decide, wt 1226 (by decide +kernel) (by decide +kernel), uw_X12, tyX12_ok, nmX12, rfl, (fun _ => rfl), by decide +kernel⟩
theorem fp_X12_111 : Fp RX12 111 10 33 (.array .int) true := ⟨RX12, TX12, 34, tyX12, rfl, by decide, wt 1227 (by decide +kernel) (by decide +kernel), uw_X12, tyX12_ok, nmX12, rfl, (fun _ => rfl), by decide +kernel⟩
theorem fl_X12_41 : Fl RX12 41 10 10 := ⟨RX12, TX12, 34, rfl, by decide, wt 1204 (by decide +kernel) (by decide +kernel), uw_X12⟩
theorem fl_X12_54 : Fl RX12 54 10 14 := ⟨RX12, TX12, 34, rfl, by decide, wt 1208 (by decide +kernel) (by decide +kernel), uw_X12⟩
theorem fl_X12_44 : Fl RX12 44 10 11 := ⟨RX12, TX12, 34, rfl, by decide, wt 1205 (by decide +kernel) (by decide +kernel), uw_X12⟩
theorem fl_X12_51 : Fl RX12 51 10 13 := ⟨RX12, TX12, 34, rfl, by decide, wt 1207 (by decide +kernel) (by decide +kernel), uw_X12⟩
theorem fl_X12_48 : Fl RX12 48 10 12 := ⟨RX12, TX12, 34, rfl, by decide, wt 1206 (by decide +kernel) (by decide +kernel), uw_X12⟩
theorem fl_X12_111 : Fl RX12 111 10 33 := ⟨RX12, TX12, 34, rfl, by decide, wt 1227 (by decide +kernel) (by decide +kernel), uw_X12⟩
theorem fl_X12_108 : Fl RX12 108 10 32 := ⟨RX12, TX12, 34, rfl, by decide, wt 1226 (by decide +kernel) (by decide +kernel), uw_X12⟩
theorem fl_X12_102 : Fl RX12 102 10 30 := ⟨RX12, TX12, 34, rfl, by decide, wt 1224 (by decide +kernel) (by decide +kernel), uw_X12⟩
theorem fl_X12_90 : Fl RX12 90 10 26 := ⟨RX12, TX12, 34, rfl, by decide, wt 1220 (by decide +kernel) (by decide +kernel), uw_X12⟩
theorem fl_X12_99 : Fl RX12 99 10 29 := ⟨RX12, TX12, 34, rfl, by decide, wt 1223 (by decide +kernel) (by decide +kernel), uw_X12⟩
theorem fl_X12_75 : Fl RX12 75 10 21 := ⟨RX12, TX12, 34, rfl, by decide, wt 1215 (by decide +kernel) (by decide +kernel), uw_X12⟩
theorem fl_X12_72 : Fl RX12 72 10 20 := ⟨RX12, TX12, 34, rfl, by decide, wt 1214 (by decide +kernel) (by decide +kernel), uw_X12⟩
theorem fl_X12_63 : Fl RX12 63 10 17 := ⟨RX12, TX12, 34, rfl, by decide, wt 1211 (by decide +kernel) (by decide +kernel), uw_X12⟩
theorem fl_X12_60 : Fl RX12 60 10 16 := ⟨RX12, TX12, 34, rfl, by decide, wt 1210 (by decide +kernel) (by decide +kernel), uw_X12⟩
theorem fl_X12_69 : Fl RX12 69 10 19 := ⟨RX12, TX12, 34, rfl, by decide, wt 1213 (by decide +kernel) (by decide +kernel), uw_X12⟩
theorem fl_X12_66 : Fl RX12 66 10 18 := ⟨RX12, TX12, 34, rfl, by decide, wt 1212 (by decide +kernel) (by decide +kernel), uw_X12⟩
theorem fl_X12_78 : Fl RX12 78 10 22 := ⟨RX12, TX12, 34, rfl, by decide, wt 1216 (by decide +kernel) (by decide +kernel), uw_X12⟩
theorem fl_X12_81 : Fl RX12 81 10 23 := ⟨RX12, TX12, 34, rfl, by decide, wt 1217 (by decide +kernel) (by decide +kernel), uw_X12⟩
theorem fl_X12_87 : Fl RX12 87 10 25 := ⟨RX12, TX12, 34, rfl, by decide, wt 1219 (by decide +kernel) (by decide +kernel), uw_X12⟩
theorem fl_X12_84 : Fl RX12 84 10 24 := ⟨RX12, TX12, 34, rfl, by decide, wt 1218 (by decide +kernel) (by decide +kernel), uw_X12⟩
theorem fl_X12_38 : Fl RX12 38 10 9 := ⟨RX12, TX12, 34, rfl, by decide, wt 1203 (by decide +kernel) (by decide +kernel), uw_X12⟩
theorem fl_X12_35 : Fl RX12 35 10 8 := ⟨RX12, TX12, 34, rfl, by decide, wt 1202 (by decide +kernel) (by decide +kernel), uw_X12⟩
theorem fl_X12_105 : Fl RX12 105 10 31 := ⟨RX12, TX12, 34, rfl, by decide, wt 1225 (by decide +kernel) (by decide +kernel), uw_X12⟩
theorem fl_X12_29 : Fl RX12 29 10 6 := ⟨RX12, TX12, 34, rfl, by decide, wt 1200 (by decide +kernel) (by decide +kernel), uw_X12⟩
theorem fl_X12_32 : Fl RX12 32 10 7 := ⟨RX12, TX12, 34, rfl, by decide, wt 1201 (by decide +kernel) (by decide +kernel), uw_X12⟩
theorem fl_X12_13 : Fl RX12 13 10 1 := ⟨RX12, TX12, 34, rfl, by decide, wt 1195 (by decide +kernel) (by decide +kernel), uw_X12⟩
theorem fl_X12_93 : Fl RX12 93 10 27 := ⟨RX12, TX12, 34, rfl, by decide, wt 1221 (by decide +kernel) (by decide +kernel), uw_X12⟩
theorem fl_X12_96 : Fl RX12 96 10 28 := ⟨RX12, TX12, 34, rfl, by decide, wt 1222 (by decide +kernel) (by decide +kernel), uw_X12⟩
theorem fl_X12_23 : Fl RX12 23 10 4 := ⟨RX12, TX12, 34, rfl, by decide, wt 1198 (by decide +kernel) (by decide +kernel), uw_X12⟩
theorem fl_X12_17 : Fl RX12 17 10 2 := ⟨RX12, TX12, 34, rfl, by decide, wt 1196 (by decide +kernel) (by decide +kernel), uw_X12⟩
theorem fl_X12_20 : Fl RX12 20 10 3 := ⟨RX12, TX12, 34, rfl, by decide, wt 1197 (by decide +kernel) (by decide +kernel), uw_X12⟩
theorem fl_X12_7 : Fl RX12 7 10 0 := ⟨RX12, TX12, 34, rfl, by decide, wt 1194 (by decide +kernel) (by decide +kernel), uw_X12⟩
theorem fl_X12_26 : Fl RX12 26 10 5 := ⟨RX12, TX12, 34, rfl, by decide, wt 1199 (by decide +kernel) (by decide +kernel), uw_X12⟩
theorem fl_X12_57 : Fl RX12 57 10 15 := ⟨RX12, TX12, 34, rfl, by decide, wt 1209 (by decide +kernel) (by decide +kernel), uw_X12⟩
theorem mk_X0_init : Mk yX0_init cX0_init 3 none 2 := ⟨wt 324 (by decide +kernel) (by decide +kernel), wt 15 (by decide +kernel) (by decide +kernel), ⟨by decide +kernel, by decide +kernel, by decide +kernel⟩, by decide⟩
theorem mk_J7_fill_d0a16 : Mk yJ7_fill_d0a16 cJ7_fill_d0a16 5 none 2 := ⟨wt 239 (by decide +kernel) (by decide +kernel), wt 13 (by decide +kernel) (by decide +kernel), ⟨by decide +kernel, by decide +kernel, by decide +kernel⟩, by decide⟩
theorem mk_X0_startFromBase : Mk yX0_startFromBase cX0_startFromBase 1 none 0 := ⟨wt 757 (by decide +kernel) (by decide +kernel), wt 15 (by decide +kernel) (by decide +kernel), ⟨by decide +kernel, by decide +kernel, by decide +kernel⟩, by decide⟩
theorem mk_X4_fromBytes : Mk yX4_fromBytes cX4_fromBytes 11 none 4 := ⟨wt 236 (by decide +kernel) (by decide +kernel), wt 8 (by decide +kernel) (by decide +kernel), ⟨by decide +kernel, by decide +kernel, by decide +kernel⟩, by decide⟩
theorem mk_X3_read : Mk yX3_read cX3_read 3 none 2 := ⟨wt 768 (by decide +kernel) (by decide +kernel), wt 6 (by decide +kernel) (by decide +kernel), ⟨by decide +kernel, by decide +kernel, by decide +kernel⟩, by decide⟩
theorem mk_X0_startFrom : Mk yX0_startFrom cX0_startFrom 2 none 1 := ⟨wt 764 (by decide +kernel) (by decide +kernel), wt 15 (by decide +kernel) (by decide +kernel), ⟨by decide +kernel, by decide +kernel, by decide +kernel⟩, by decide⟩
theorem mk_X0_loadScalar : Mk yX0_loadScalar cX0_loadScalar 2 none 1 := ⟨wt 777 (by decide +kernel) (by decide +kernel), wt 15 (by decide +kernel) (by decide +kernel), ⟨by decide +kernel, by decide +kernel, by decide +kernel⟩, by decide⟩
theorem mk_X3_copy : Mk yX3_copy cX3_copy 3 none 2 := ⟨wt 256 (by decide +kernel) (by decide +kernel), wt 6 (by decide +kernel) (by decide +kernel), ⟨by decide +kernel, by decide +kernel, by decide +kernel⟩, by decide⟩
theorem mk_X3_carry : Mk yX3_carry cX3_carry 9 none 2 := ⟨wt 249 (by decide +kernel) (by decide +kernel), wt 6 (by decide +kernel) (by decide +kernel), ⟨by decide +kernel, by decide +kernel, by decide +kernel⟩, by decide⟩
theorem mk_X3_plus : Mk yX3_plus cX3_plus 5 none 3 := ⟨wt 787 (by decide +kernel) (by decide +kernel), wt 6 (by decide +kernel) (by decide +kernel), ⟨by decide +kernel, by decide +kernel, by decide +kernel⟩, by decide⟩
theorem mk_X3_minus : Mk yX3_minus cX3_minus 5 none 3 := ⟨wt 791 (by decide +kernel) (by decide +kernel), wt 6 (by decide +kernel) (by decide +kernel), ⟨by decide +kernel, by decide +kernel, by decide +kernel⟩, by decide⟩
theorem mk_X3_fold : Mk yX3_fold cX3_fold 4 none 0 := ⟨wt 800 (by decide +kernel) (by decide +kernel), wt 6 (by decide +kernel) (by decide +kernel), ⟨by decide +kernel, by decide +kernel, by decide +kernel⟩, by decide⟩
theorem mk_X3_multiply : Mk yX3_multiply cX3_multiply 10 none 3 := ⟨wt 795 (by decide +kernel) (by decide +kernel), wt 6 (by decide +kernel) (by decide +kernel), ⟨by decide +kernel, by decide +kernel, by decide +kernel⟩, by decide⟩
theorem mk_X3_square : Mk yX3_square cX3_square 11 none 2 := ⟨wt 805 (by decide +kernel) (by decide +kernel), wt 6 (by decide +kernel) (by decide +kernel), ⟨by decide +kernel, by decide +kernel, by decide +kernel⟩, by decide⟩
theorem mk_X3_multiplySmall : Mk yX3_multiplySmall cX3_multiplySmall 5 none 3 := ⟨wt 812 (by decide +kernel) (by decide +kernel), wt 6 (by decide +kernel) (by decide +kernel), ⟨by decide +kernel, by decide +kernel, by decide +kernel⟩, by decide⟩
theorem mk_X0_step : Mk yX0_step cX0_step 5 none 4 := ⟨wt 783 (by decide +kernel) (by decide +kernel), wt 15 (by decide +kernel) (by decide +kernel), ⟨by decide +kernel, by decide +kernel, by decide +kernel⟩, by decide⟩
theorem mk_X3_rootPower : Mk yX3_rootPower cX3_rootPower 7 none 2 := ⟨wt 820 (by decide +kernel) (by decide +kernel), wt 6 (by decide +kernel) (by decide +kernel), ⟨by decide +kernel, by decide +kernel, by decide +kernel⟩, by decide⟩
theorem mk_X3_invert : Mk yX3_invert cX3_invert 3 none 2 := ⟨wt 816 (by decide +kernel) (by decide +kernel), wt 6 (by decide +kernel) (by decide +kernel), ⟨by decide +kernel, by decide +kernel, by decide +kernel⟩, by decide⟩
theorem mk_X3_freeze : Mk yX3_freeze cX3_freeze 7 none 1 := ⟨wt 831 (by decide +kernel) (by decide +kernel), wt 6 (by decide +kernel) (by decide +kernel), ⟨by decide +kernel, by decide +kernel, by decide +kernel⟩, by decide⟩
theorem mk_X4_toBytes : Mk yX4_toBytes cX4_toBytes 10 none 5 := ⟨wt 390 (by decide +kernel) (by decide +kernel), wt 8 (by decide +kernel) (by decide +kernel), ⟨by decide +kernel, by decide +kernel, by decide +kernel⟩, by decide⟩
theorem mk_X3_write : Mk yX3_write cX3_write 3 none 2 := ⟨wt 827 (by decide +kernel) (by decide +kernel), wt 6 (by decide +kernel) (by decide +kernel), ⟨by decide +kernel, by decide +kernel, by decide +kernel⟩, by decide⟩
theorem mk_X3_isFrozenZero : Mk yX3_isFrozenZero cX3_isFrozenZero 4 (some .boolean) 0 := ⟨wt 840 (by decide +kernel) (by decide +kernel), wt 6 (by decide +kernel) (by decide +kernel), ⟨by decide +kernel, by decide +kernel, by decide +kernel⟩, by decide⟩
theorem mk_X3_isZero : Mk yX3_isZero cX3_isZero 2 (some .boolean) 1 := ⟨wt 836 (by decide +kernel) (by decide +kernel), wt 6 (by decide +kernel) (by decide +kernel), ⟨by decide +kernel, by decide +kernel, by decide +kernel⟩, by decide⟩
theorem mk_X0_climb : Mk yX0_climb cX0_climb 4 (some .boolean) 2 := ⟨wt 773 (by decide +kernel) (by decide +kernel), wt 15 (by decide +kernel) (by decide +kernel), ⟨by decide +kernel, by decide +kernel, by decide +kernel⟩, by decide⟩
theorem mk_X5_init : Mk yX5_init cX5_init 1 none 0 := ⟨wt 68 (by decide +kernel) (by decide +kernel), wt 3 (by decide +kernel) (by decide +kernel), ⟨by decide +kernel, by decide +kernel, by decide +kernel⟩, by decide⟩
theorem mk_J0_coder_7d493 : Mk yJ0_coder_7d493 cJ0_coder_7d493 1 (some .byte) 0 := ⟨wt 190 (by decide +kernel) (by decide +kernel), wt 9 (by decide +kernel) (by decide +kernel), ⟨by decide +kernel, by decide +kernel, by decide +kernel⟩, by decide⟩
theorem mk_J0_length_8abf5 : Mk yJ0_length_8abf5 cJ0_length_8abf5 1 (some .int) 0 := ⟨wt 186 (by decide +kernel) (by decide +kernel), wt 9 (by decide +kernel) (by decide +kernel), ⟨by decide +kernel, by decide +kernel, by decide +kernel⟩, by decide⟩
theorem mk_J0_isLatin1_aae02 : Mk yJ0_isLatin1_aae02 cJ0_isLatin1_aae02 1 (some .boolean) 0 := ⟨wt 200 (by decide +kernel) (by decide +kernel), wt 9 (by decide +kernel) (by decide +kernel), ⟨by decide +kernel, by decide +kernel, by decide +kernel⟩, by decide⟩
theorem mk_J3_checkIndex_8e157 : Mk yJ3_checkIndex_8e157 cJ3_checkIndex_8e157 3 (some .int) 3 := ⟨wt 211 (by decide +kernel) (by decide +kernel), wt 11 (by decide +kernel) (by decide +kernel), ⟨by decide +kernel, by decide +kernel, by decide +kernel⟩, by decide⟩
theorem mk_J0_checkIndex_df160 : Mk yJ0_checkIndex_df160 cJ0_checkIndex_df160 2 none 2 := ⟨wt 206 (by decide +kernel) (by decide +kernel), wt 9 (by decide +kernel) (by decide +kernel), ⟨by decide +kernel, by decide +kernel, by decide +kernel⟩, by decide⟩
theorem mk_J1_charAt_3b067 : Mk yJ1_charAt_3b067 cJ1_charAt_3b067 2 (some .char) 2 := ⟨wt 203 (by decide +kernel) (by decide +kernel), wt 10 (by decide +kernel) (by decide +kernel), ⟨by decide +kernel, by decide +kernel, by decide +kernel⟩, by decide⟩
theorem mk_J2_length_9d52b : Mk yJ2_length_9d52b cJ2_length_9d52b 1 (some .int) 1 := ⟨wt 220 (by decide +kernel) (by decide +kernel), wt 12 (by decide +kernel) (by decide +kernel), ⟨by decide +kernel, by decide +kernel, by decide +kernel⟩, by decide⟩
theorem mk_J2_checkIndex_2214a : Mk yJ2_checkIndex_2214a cJ2_checkIndex_2214a 2 none 2 := ⟨wt 217 (by decide +kernel) (by decide +kernel), wt 12 (by decide +kernel) (by decide +kernel), ⟨by decide +kernel, by decide +kernel, by decide +kernel⟩, by decide⟩
theorem mk_J2_getChar_3b067 : Mk yJ2_getChar_3b067 cJ2_getChar_3b067 2 (some .char) 2 := ⟨wt 224 (by decide +kernel) (by decide +kernel), wt 12 (by decide +kernel) (by decide +kernel), ⟨by decide +kernel, by decide +kernel, by decide +kernel⟩, by decide⟩
theorem mk_J2_charAt_3b067 : Mk yJ2_charAt_3b067 cJ2_charAt_3b067 2 (some .char) 2 := ⟨wt 214 (by decide +kernel) (by decide +kernel), wt 12 (by decide +kernel) (by decide +kernel), ⟨by decide +kernel, by decide +kernel, by decide +kernel⟩, by decide⟩
theorem mk_J0_charAt_5068e : Mk yJ0_charAt_5068e cJ0_charAt_5068e 2 (some .char) 1 := ⟨wt 196 (by decide +kernel) (by decide +kernel), wt 9 (by decide +kernel) (by decide +kernel), ⟨by decide +kernel, by decide +kernel, by decide +kernel⟩, by decide⟩
theorem mk_X4_digit : Mk yX4_digit cX4_digit 1 (some .int) 1 := ⟨wt 233 (by decide +kernel) (by decide +kernel), wt 8 (by decide +kernel) (by decide +kernel), ⟨by decide +kernel, by decide +kernel, by decide +kernel⟩, by decide⟩
theorem mk_X4_fromHex : Mk yX4_fromHex cX4_fromHex 6 (some (.array .long)) 2 := ⟨wt 182 (by decide +kernel) (by decide +kernel), wt 8 (by decide +kernel) (by decide +kernel), ⟨by decide +kernel, by decide +kernel, by decide +kernel⟩, by decide⟩
theorem mk_X3_constant : Mk yX3_constant cX3_constant 2 (some (.array .long)) 1 := ⟨wt 179 (by decide +kernel) (by decide +kernel), wt 6 (by decide +kernel) (by decide +kernel), ⟨by decide +kernel, by decide +kernel, by decide +kernel⟩, by decide⟩
theorem mk_X3_negate : Mk yX3_negate cX3_negate 4 none 2 := ⟨wt 245 (by decide +kernel) (by decide +kernel), wt 6 (by decide +kernel) (by decide +kernel), ⟨by decide +kernel, by decide +kernel, by decide +kernel⟩, by decide⟩
theorem mk_X1_init : Mk yX1_init cX1_init 6 none 2 := ⟨wt 171 (by decide +kernel) (by decide +kernel), wt 7 (by decide +kernel) (by decide +kernel), ⟨by decide +kernel, by decide +kernel, by decide +kernel⟩, by decide⟩
theorem mk_X1_sum : Mk yX1_sum cX1_sum 4 none 3 := ⟨wt 885 (by decide +kernel) (by decide +kernel), wt 7 (by decide +kernel) (by decide +kernel), ⟨by decide +kernel, by decide +kernel, by decide +kernel⟩, by decide⟩
theorem mk_X1_twice : Mk yX1_twice cX1_twice 4 none 2 := ⟨wt 873 (by decide +kernel) (by decide +kernel), wt 7 (by decide +kernel) (by decide +kernel), ⟨by decide +kernel, by decide +kernel, by decide +kernel⟩, by decide⟩
theorem mk_X1_negate : Mk yX1_negate cX1_negate 3 none 2 := ⟨wt 996 (by decide +kernel) (by decide +kernel), wt 7 (by decide +kernel) (by decide +kernel), ⟨by decide +kernel, by decide +kernel, by decide +kernel⟩, by decide⟩
theorem mk_X1_fillTable : Mk yX1_fillTable cX1_fillTable 4 none 2 := ⟨wt 881 (by decide +kernel) (by decide +kernel), wt 7 (by decide +kernel) (by decide +kernel), ⟨by decide +kernel, by decide +kernel, by decide +kernel⟩, by decide⟩
theorem mk_X1_copy : Mk yX1_copy cX1_copy 3 none 2 := ⟨wt 893 (by decide +kernel) (by decide +kernel), wt 7 (by decide +kernel) (by decide +kernel), ⟨by decide +kernel, by decide +kernel, by decide +kernel⟩, by decide⟩
theorem mk_X1_walk : Mk yX1_walk cX1_walk 7 none 3 := ⟨wt 889 (by decide +kernel) (by decide +kernel), wt 7 (by decide +kernel) (by decide +kernel), ⟨by decide +kernel, by decide +kernel, by decide +kernel⟩, by decide⟩
theorem mk_X1_multiply : Mk yX1_multiply cX1_multiply 6 none 3 := ⟨wt 869 (by decide +kernel) (by decide +kernel), wt 7 (by decide +kernel) (by decide +kernel), ⟨by decide +kernel, by decide +kernel, by decide +kernel⟩, by decide⟩
theorem mk_X1_multiplyTwo : Mk yX1_multiplyTwo cX1_multiplyTwo 9 none 5 := ⟨wt 1000 (by decide +kernel) (by decide +kernel), wt 7 (by decide +kernel) (by decide +kernel), ⟨by decide +kernel, by decide +kernel, by decide +kernel⟩, by decide⟩
theorem mk_X3_areEqual : Mk yX3_areEqual cX3_areEqual 3 (some .boolean) 2 := ⟨wt 985 (by decide +kernel) (by decide +kernel), wt 6 (by decide +kernel) (by decide +kernel), ⟨by decide +kernel, by decide +kernel, by decide +kernel⟩, by decide⟩
theorem mk_X1_isNeutral : Mk yX1_isNeutral cX1_isNeutral 2 (some .boolean) 1 := ⟨wt 1006 (by decide +kernel) (by decide +kernel), wt 7 (by decide +kernel) (by decide +kernel), ⟨by decide +kernel, by decide +kernel, by decide +kernel⟩, by decide⟩
theorem mk_X1_areEqual : Mk yX1_areEqual cX1_areEqual 3 (some .boolean) 2 := ⟨wt 1055 (by decide +kernel) (by decide +kernel), wt 7 (by decide +kernel) (by decide +kernel), ⟨by decide +kernel, by decide +kernel, by decide +kernel⟩, by decide⟩
theorem mk_X1_smallOrder : Mk yX1_smallOrder cX1_smallOrder 3 (some .int) 1 := ⟨wt 1068 (by decide +kernel) (by decide +kernel), wt 7 (by decide +kernel) (by decide +kernel), ⟨by decide +kernel, by decide +kernel, by decide +kernel⟩, by decide⟩
theorem mk_X3_isOdd : Mk yX3_isOdd cX3_isOdd 2 (some .boolean) 1 := ⟨wt 902 (by decide +kernel) (by decide +kernel), wt 6 (by decide +kernel) (by decide +kernel), ⟨by decide +kernel, by decide +kernel, by decide +kernel⟩, by decide⟩
theorem mk_X1_writeCode : Mk yX1_writeCode cX1_writeCode 4 none 3 := ⟨wt 906 (by decide +kernel) (by decide +kernel), wt 7 (by decide +kernel) (by decide +kernel), ⟨by decide +kernel, by decide +kernel, by decide +kernel⟩, by decide⟩
theorem mk_X1_encode : Mk yX1_encode cX1_encode 3 none 2 := ⟨wt 897 (by decide +kernel) (by decide +kernel), wt 7 (by decide +kernel) (by decide +kernel), ⟨by decide +kernel, by decide +kernel, by decide +kernel⟩, by decide⟩
theorem mk_X1_findX : Mk yX1_findX cX1_findX 1 (some .boolean) 0 := ⟨wt 980 (by decide +kernel) (by decide +kernel), wt 7 (by decide +kernel) (by decide +kernel), ⟨by decide +kernel, by decide +kernel, by decide +kernel⟩, by decide⟩
theorem mk_X1_decode : Mk yX1_decode cX1_decode 5 (some .boolean) 2 := ⟨wt 975 (by decide +kernel) (by decide +kernel), wt 7 (by decide +kernel) (by decide +kernel), ⟨by decide +kernel, by decide +kernel, by decide +kernel⟩, by decide⟩
theorem mk_X3_init : Mk yX3_init cX3_init 3 none 1 := ⟨wt 114 (by decide +kernel) (by decide +kernel), wt 6 (by decide +kernel) (by decide +kernel), ⟨by decide +kernel, by decide +kernel, by decide +kernel⟩, by decide⟩
theorem mk_X6_init : Mk yX6_init cX6_init 2 none 1 := ⟨wt 39 (by decide +kernel) (by decide +kernel), wt 2 (by decide +kernel) (by decide +kernel), ⟨by decide +kernel, by decide +kernel, by decide +kernel⟩, by decide⟩
theorem mk_X6_append : Mk yX6_append cX6_append 2 none 1 := ⟨wt 863 (by decide +kernel) (by decide +kernel), wt 2 (by decide +kernel) (by decide +kernel), ⟨by decide +kernel, by decide +kernel, by decide +kernel⟩, by decide⟩
theorem mk_X6_appendPart : Mk yX6_appendPart cX6_appendPart 5 none 3 := ⟨wt 859 (by decide +kernel) (by decide +kernel), wt 2 (by decide +kernel) (by decide +kernel), ⟨by decide +kernel, by decide +kernel, by decide +kernel⟩, by decide⟩
theorem mk_X6_appendText : Mk yX6_appendText cX6_appendText 3 none 1 := ⟨wt 924 (by decide +kernel) (by decide +kernel), wt 2 (by decide +kernel) (by decide +kernel), ⟨by decide +kernel, by decide +kernel, by decide +kernel⟩, by decide⟩
theorem mk_X7_init : Mk yX7_init cX7_init 4 none 1 := ⟨wt 383 (by decide +kernel) (by decide +kernel), wt 17 (by decide +kernel) (by decide +kernel), ⟨by decide +kernel, by decide +kernel, by decide +kernel⟩, by decide⟩
theorem mk_X7_isBelowOrder : Mk yX7_isBelowOrder cX7_isBelowOrder 4 (some .boolean) 2 := ⟨wt 991 (by decide +kernel) (by decide +kernel), wt 17 (by decide +kernel) (by decide +kernel), ⟨by decide +kernel, by decide +kernel, by decide +kernel⟩, by decide⟩
theorem mk_X7_increase : Mk yX7_increase cX7_increase 8 none 2 := ⟨wt 948 (by decide +kernel) (by decide +kernel), wt 17 (by decide +kernel) (by decide +kernel), ⟨by decide +kernel, by decide +kernel, by decide +kernel⟩, by decide⟩
theorem mk_X7_multiply : Mk yX7_multiply cX7_multiply 6 none 4 := ⟨wt 943 (by decide +kernel) (by decide +kernel), wt 17 (by decide +kernel) (by decide +kernel), ⟨by decide +kernel, by decide +kernel, by decide +kernel⟩, by decide⟩
theorem mk_X7_reduce : Mk yX7_reduce cX7_reduce 4 none 3 := ⟨wt 939 (by decide +kernel) (by decide +kernel), wt 17 (by decide +kernel) (by decide +kernel), ⟨by decide +kernel, by decide +kernel, by decide +kernel⟩, by decide⟩
theorem mk_X7_write : Mk yX7_write cX7_write 4 none 3 := ⟨wt 954 (by decide +kernel) (by decide +kernel), wt 17 (by decide +kernel) (by decide +kernel), ⟨by decide +kernel, by decide +kernel, by decide +kernel⟩, by decide⟩
theorem mk_X8_init : Mk yX8_init cX8_init 1 none 0 := ⟨wt 88 (by decide +kernel) (by decide +kernel), wt 4 (by decide +kernel) (by decide +kernel), ⟨by decide +kernel, by decide +kernel, by decide +kernel⟩, by decide⟩
theorem mk_X8_paddedByte : Mk yX8_paddedByte cX8_paddedByte 4 (some .int) 3 := ⟨wt 682 (by decide +kernel) (by decide +kernel), wt 4 (by decide +kernel) (by decide +kernel), ⟨by decide +kernel, by decide +kernel, by decide +kernel⟩, by decide⟩
theorem mk_X8_turn : Mk yX8_turn cX8_turn 3 (some .long) 2 := ⟨wt 688 (by decide +kernel) (by decide +kernel), wt 4 (by decide +kernel) (by decide +kernel), ⟨by decide +kernel, by decide +kernel, by decide +kernel⟩, by decide⟩
theorem mk_X8_smallSigma0 : Mk yX8_smallSigma0 cX8_smallSigma0 2 (some .long) 1 := ⟨wt 685 (by decide +kernel) (by decide +kernel), wt 4 (by decide +kernel) (by decide +kernel), ⟨by decide +kernel, by decide +kernel, by decide +kernel⟩, by decide⟩
theorem mk_X8_smallSigma1 : Mk yX8_smallSigma1 cX8_smallSigma1 2 (some .long) 1 := ⟨wt 691 (by decide +kernel) (by decide +kernel), wt 4 (by decide +kernel) (by decide +kernel), ⟨by decide +kernel, by decide +kernel, by decide +kernel⟩, by decide⟩
theorem mk_X8_loadBlock : Mk yX8_loadBlock cX8_loadBlock 8 none 3 := ⟨wt 679 (by decide +kernel) (by decide +kernel), wt 4 (by decide +kernel) (by decide +kernel), ⟨by decide +kernel, by decide +kernel, by decide +kernel⟩, by decide⟩
theorem mk_X8_bigSigma1 : Mk yX8_bigSigma1 cX8_bigSigma1 2 (some .long) 1 := ⟨wt 698 (by decide +kernel) (by decide +kernel), wt 4 (by decide +kernel) (by decide +kernel), ⟨by decide +kernel, by decide +kernel, by decide +kernel⟩, by decide⟩
theorem mk_X8_bigSigma0 : Mk yX8_bigSigma0 cX8_bigSigma0 2 (some .long) 1 := ⟨wt 704 (by decide +kernel) (by decide +kernel), wt 4 (by decide +kernel) (by decide +kernel), ⟨by decide +kernel, by decide +kernel, by decide +kernel⟩, by decide⟩
theorem mk_X8_compress : Mk yX8_compress cX8_compress 22 none 0 := ⟨wt 695 (by decide +kernel) (by decide +kernel), wt 4 (by decide +kernel) (by decide +kernel), ⟨by decide +kernel, by decide +kernel, by decide +kernel⟩, by decide⟩
theorem mk_X8_digest : Mk yX8_digest cX8_digest 6 none 3 := ⟨wt 672 (by decide +kernel) (by decide +kernel), wt 4 (by decide +kernel) (by decide +kernel), ⟨by decide +kernel, by decide +kernel, by decide +kernel⟩, by decide⟩
theorem mk_X9_init : Mk yX9_init cX9_init 1 none 0 := ⟨wt 101 (by decide +kernel) (by decide +kernel), wt 5 (by decide +kernel) (by decide +kernel), ⟨by decide +kernel, by decide +kernel, by decide +kernel⟩, by decide⟩
theorem mk_X9_mix : Mk yX9_mix cX9_mix 3 none 2 := ⟨wt 715 (by decide +kernel) (by decide +kernel), wt 5 (by decide +kernel) (by decide +kernel), ⟨by decide +kernel, by decide +kernel, by decide +kernel⟩, by decide⟩
theorem mk_X9_turn : Mk yX9_turn cX9_turn 3 (some .long) 2 := ⟨wt 728 (by decide +kernel) (by decide +kernel), wt 5 (by decide +kernel) (by decide +kernel), ⟨by decide +kernel, by decide +kernel, by decide +kernel⟩, by decide⟩
theorem mk_X9_mixColumns : Mk yX9_mixColumns cX9_mixColumns 5 none 0 := ⟨wt 725 (by decide +kernel) (by decide +kernel), wt 5 (by decide +kernel) (by decide +kernel), ⟨by decide +kernel, by decide +kernel, by decide +kernel⟩, by decide⟩
theorem mk_X9_moveLanes : Mk yX9_moveLanes cX9_moveLanes 7 none 0 := ⟨wt 732 (by decide +kernel) (by decide +kernel), wt 5 (by decide +kernel) (by decide +kernel), ⟨by decide +kernel, by decide +kernel, by decide +kernel⟩, by decide⟩
theorem mk_X9_mixRows : Mk yX9_mixRows cX9_mixRows 3 none 0 := ⟨wt 740 (by decide +kernel) (by decide +kernel), wt 5 (by decide +kernel) (by decide +kernel), ⟨by decide +kernel, by decide +kernel, by decide +kernel⟩, by decide⟩
theorem mk_X9_permute : Mk yX9_permute cX9_permute 2 none 0 := ⟨wt 719 (by decide +kernel) (by decide +kernel), wt 5 (by decide +kernel) (by decide +kernel), ⟨by decide +kernel, by decide +kernel, by decide +kernel⟩, by decide⟩
theorem mk_X9_digest : Mk yX9_digest cX9_digest 6 none 3 := ⟨wt 710 (by decide +kernel) (by decide +kernel), wt 5 (by decide +kernel) (by decide +kernel), ⟨by decide +kernel, by decide +kernel, by decide +kernel⟩, by decide⟩
theorem mk_X10_init : Mk yX10_init cX10_init 4 none 3 := ⟨wt 373 (by decide +kernel) (by decide +kernel), wt 16 (by decide +kernel) (by decide +kernel), ⟨by decide +kernel, by decide +kernel, by decide +kernel⟩, by decide⟩
theorem mk_X10_choose : Mk yX10_choose cX10_choose 4 none 3 := ⟨wt 918 (by decide +kernel) (by decide +kernel), wt 16 (by decide +kernel) (by decide +kernel), ⟨by decide +kernel, by decide +kernel, by decide +kernel⟩, by decide⟩
theorem mk_X10_expand : Mk yX10_expand cX10_expand 2 none 1 := ⟨wt 855 (by decide +kernel) (by decide +kernel), wt 16 (by decide +kernel) (by decide +kernel), ⟨by decide +kernel, by decide +kernel, by decide +kernel⟩, by decide⟩
theorem mk_X10_publicKey : Mk yX10_publicKey cX10_publicKey 3 none 2 := ⟨wt 851 (by decide +kernel) (by decide +kernel), wt 16 (by decide +kernel) (by decide +kernel), ⟨by decide +kernel, by decide +kernel, by decide +kernel⟩, by decide⟩
theorem mk_X10_hashNonce : Mk yX10_hashNonce cX10_hashNonce 1 none 0 := ⟨wt 935 (by decide +kernel) (by decide +kernel), wt 16 (by decide +kernel) (by decide +kernel), ⟨by decide +kernel, by decide +kernel, by decide +kernel⟩, by decide⟩
theorem mk_X10_hashChallenge : Mk yX10_hashChallenge cX10_hashChallenge 3 none 2 := ⟨wt 958 (by decide +kernel) (by decide +kernel), wt 16 (by decide +kernel) (by decide +kernel), ⟨by decide +kernel, by decide +kernel, by decide +kernel⟩, by decide⟩
theorem mk_X10_makeSignature : Mk yX10_makeSignature cX10_makeSignature 3 none 2 := ⟨wt 931 (by decide +kernel) (by decide +kernel), wt 16 (by decide +kernel) (by decide +kernel), ⟨by decide +kernel, by decide +kernel, by decide +kernel⟩, by decide⟩
theorem mk_X10_isVerified : Mk yX10_isVerified cX10_isVerified 5 (some .boolean) 2 := ⟨wt 971 (by decide +kernel) (by decide +kernel), wt 16 (by decide +kernel) (by decide +kernel), ⟨by decide +kernel, by decide +kernel, by decide +kernel⟩, by decide⟩
theorem mk_X11_init : Mk yX11_init cX11_init 7 none 0 := ⟨wt 30 (by decide +kernel) (by decide +kernel), wt 1 (by decide +kernel) (by decide +kernel), ⟨by decide +kernel, by decide +kernel, by decide +kernel⟩, by decide⟩
theorem mk_X11_requireByteCount : Mk yX11_requireByteCount cX11_requireByteCount 1 none 1 := ⟨wt 521 (by decide +kernel) (by decide +kernel), wt 1 (by decide +kernel) (by decide +kernel), ⟨by decide +kernel, by decide +kernel, by decide +kernel⟩, by decide⟩
theorem mk_X11_requireFixedRegister : Mk yX11_requireFixedRegister cX11_requireFixedRegister 1 none 1 := ⟨wt 591 (by decide +kernel) (by decide +kernel), wt 1 (by decide +kernel) (by decide +kernel), ⟨by decide +kernel, by decide +kernel, by decide +kernel⟩, by decide⟩
theorem mk_X11_spread : Mk yX11_spread cX11_spread 6 none 4 := ⟨wt 611 (by decide +kernel) (by decide +kernel), wt 1 (by decide +kernel) (by decide +kernel), ⟨by decide +kernel, by decide +kernel, by decide +kernel⟩, by decide⟩
theorem mk_X11_put : Mk yX11_put cX11_put 7 none 4 := ⟨wt 518 (by decide +kernel) (by decide +kernel), wt 1 (by decide +kernel) (by decide +kernel), ⟨by decide +kernel, by decide +kernel, by decide +kernel⟩, by decide⟩
theorem mk_X11_feed : Mk yX11_feed cX11_feed 6 (some .int) 3 := ⟨wt 619 (by decide +kernel) (by decide +kernel), wt 1 (by decide +kernel) (by decide +kernel), ⟨by decide +kernel, by decide +kernel, by decide +kernel⟩, by decide⟩
theorem mk_X11_clear : Mk yX11_clear cX11_clear 3 none 1 := ⟨wt 505 (by decide +kernel) (by decide +kernel), wt 1 (by decide +kernel) (by decide +kernel), ⟨by decide +kernel, by decide +kernel, by decide +kernel⟩, by decide⟩
theorem mk_X11_move : Mk yX11_move cX11_move 5 (some .int) 1 := ⟨wt 642 (by decide +kernel) (by decide +kernel), wt 1 (by decide +kernel) (by decide +kernel), ⟨by decide +kernel, by decide +kernel, by decide +kernel⟩, by decide⟩
theorem mk_X11_look : Mk yX11_look cX11_look 4 (some .int) 2 := ⟨wt 653 (by decide +kernel) (by decide +kernel), wt 1 (by decide +kernel) (by decide +kernel), ⟨by decide +kernel, by decide +kernel, by decide +kernel⟩, by decide⟩
theorem mk_X11_size : Mk yX11_size cX11_size 1 (some .int) 0 := ⟨wt 509 (by decide +kernel) (by decide +kernel), wt 1 (by decide +kernel) (by decide +kernel), ⟨by decide +kernel, by decide +kernel, by decide +kernel⟩, by decide⟩
theorem mk_X11_hash : Mk yX11_hash cX11_hash 5 none 2 := ⟨wt 661 (by decide +kernel) (by decide +kernel), wt 1 (by decide +kernel) (by decide +kernel), ⟨by decide +kernel, by decide +kernel, by decide +kernel⟩, by decide⟩
theorem mk_X11_requireCurve : Mk yX11_requireCurve cX11_requireCurve 1 none 1 := ⟨wt 752 (by decide +kernel) (by decide +kernel), wt 1 (by decide +kernel) (by decide +kernel), ⟨by decide +kernel, by decide +kernel, by decide +kernel⟩, by decide⟩
theorem mk_X11_agree : Mk yX11_agree cX11_agree 5 (some .boolean) 2 := ⟨wt 749 (by decide +kernel) (by decide +kernel), wt 1 (by decide +kernel) (by decide +kernel), ⟨by decide +kernel, by decide +kernel, by decide +kernel⟩, by decide⟩
theorem mk_X11_derive : Mk yX11_derive cX11_derive 3 none 1 := ⟨wt 847 (by decide +kernel) (by decide +kernel), wt 1 (by decide +kernel) (by decide +kernel), ⟨by decide +kernel, by decide +kernel, by decide +kernel⟩, by decide⟩
theorem mk_X11_sign : Mk yX11_sign cX11_sign 4 none 2 := ⟨wt 914 (by decide +kernel) (by decide +kernel), wt 1 (by decide +kernel) (by decide +kernel), ⟨by decide +kernel, by decide +kernel, by decide +kernel⟩, by decide⟩
theorem mk_X11_verify : Mk yX11_verify cX11_verify 3 (some .boolean) 2 := ⟨wt 967 (by decide +kernel) (by decide +kernel), wt 1 (by decide +kernel) (by decide +kernel), ⟨by decide +kernel, by decide +kernel, by decide +kernel⟩, by decide⟩
theorem mk_X11_requirePlace : Mk yX11_requirePlace cX11_requirePlace 1 none 1 := ⟨wt 1016 (by decide +kernel) (by decide +kernel), wt 1 (by decide +kernel) (by decide +kernel), ⟨by decide +kernel, by decide +kernel, by decide +kernel⟩, by decide⟩
theorem mk_X11_point : Mk yX11_point cX11_point 3 (some .boolean) 2 := ⟨wt 1013 (by decide +kernel) (by decide +kernel), wt 1 (by decide +kernel) (by decide +kernel), ⟨by decide +kernel, by decide +kernel, by decide +kernel⟩, by decide⟩
theorem mk_X11_add : Mk yX11_add cX11_add 7 none 4 := ⟨wt 1025 (by decide +kernel) (by decide +kernel), wt 1 (by decide +kernel) (by decide +kernel), ⟨by decide +kernel, by decide +kernel, by decide +kernel⟩, by decide⟩
theorem mk_X11_times : Mk yX11_times cX11_times 3 none 2 := ⟨wt 1035 (by decide +kernel) (by decide +kernel), wt 1 (by decide +kernel) (by decide +kernel), ⟨by decide +kernel, by decide +kernel, by decide +kernel⟩, by decide⟩
theorem mk_X11_code : Mk yX11_code cX11_code 4 none 1 := ⟨wt 1043 (by decide +kernel) (by decide +kernel), wt 1 (by decide +kernel) (by decide +kernel), ⟨by decide +kernel, by decide +kernel, by decide +kernel⟩, by decide⟩
theorem mk_X11_same : Mk yX11_same cX11_same 3 (some .boolean) 2 := ⟨wt 1051 (by decide +kernel) (by decide +kernel), wt 1 (by decide +kernel) (by decide +kernel), ⟨by decide +kernel, by decide +kernel, by decide +kernel⟩, by decide⟩
theorem mk_X11_order : Mk yX11_order cX11_order 4 (some .int) 2 := ⟨wt 1062 (by decide +kernel) (by decide +kernel), wt 1 (by decide +kernel) (by decide +kernel), ⟨by decide +kernel, by decide +kernel, by decide +kernel⟩, by decide⟩
theorem mk_X12_nextPrime : Mk yX12_nextPrime cX12_nextPrime 4 (some .int) 1 := ⟨wt 1082 (by decide +kernel) (by decide +kernel), wt 18 (by decide +kernel) (by decide +kernel), ⟨by decide +kernel, by decide +kernel, by decide +kernel⟩, by decide⟩
theorem mk_X12_zero28 : Mk yX12_zero28 cX12_zero28 3 none 1 := ⟨wt 1090 (by decide +kernel) (by decide +kernel), wt 18 (by decide +kernel) (by decide +kernel), ⟨by decide +kernel, by decide +kernel, by decide +kernel⟩, by decide⟩
theorem mk_X12_times28 : Mk yX12_times28 cX12_times28 8 none 3 := ⟨wt 1094 (by decide +kernel) (by decide +kernel), wt 18 (by decide +kernel) (by decide +kernel), ⟨by decide +kernel, by decide +kernel, by decide +kernel⟩, by decide⟩
theorem mk_X12_atLeast : Mk yX12_atLeast cX12_atLeast 4 (some .boolean) 2 := ⟨wt 1099 (by decide +kernel) (by decide +kernel), wt 18 (by decide +kernel) (by decide +kernel), ⟨by decide +kernel, by decide +kernel, by decide +kernel⟩, by decide⟩
theorem mk_X12_rootBits : Mk yX12_rootBits cX12_rootBits 6 (some .long) 2 := ⟨wt 1086 (by decide +kernel) (by decide +kernel), wt 18 (by decide +kernel) (by decide +kernel), ⟨by decide +kernel, by decide +kernel, by decide +kernel⟩, by decide⟩
theorem mk_X12_rootConstants : Mk yX12_rootConstants cX12_rootConstants 3 none 0 := ⟨wt 1079 (by decide +kernel) (by decide +kernel), wt 18 (by decide +kernel) (by decide +kernel), ⟨by decide +kernel, by decide +kernel, by decide +kernel⟩, by decide⟩
theorem mk_X12_pieceLong : Mk yX12_pieceLong cX12_pieceLong 6 none 3 := ⟨wt 1107 (by decide +kernel) (by decide +kernel), wt 18 (by decide +kernel) (by decide +kernel), ⟨by decide +kernel, by decide +kernel, by decide +kernel⟩, by decide⟩
theorem mk_X12_order448 : Mk yX12_order448 cX12_order448 4 none 0 := ⟨wt 1112 (by decide +kernel) (by decide +kernel), wt 18 (by decide +kernel) (by decide +kernel), ⟨by decide +kernel, by decide +kernel, by decide +kernel⟩, by decide⟩
theorem mk_X12_choose : Mk yX12_choose cX12_choose 2 none 1 := ⟨wt 1121 (by decide +kernel) (by decide +kernel), wt 18 (by decide +kernel) (by decide +kernel), ⟨by decide +kernel, by decide +kernel, by decide +kernel⟩, by decide⟩
theorem mk_X12_small : Mk yX12_small cX12_small 3 none 2 := ⟨wt 1126 (by decide +kernel) (by decide +kernel), wt 18 (by decide +kernel) (by decide +kernel), ⟨by decide +kernel, by decide +kernel, by decide +kernel⟩, by decide⟩
theorem mk_X12_copy : Mk yX12_copy cX12_copy 4 none 2 := ⟨wt 1139 (by decide +kernel) (by decide +kernel), wt 18 (by decide +kernel) (by decide +kernel), ⟨by decide +kernel, by decide +kernel, by decide +kernel⟩, by decide⟩
theorem mk_X12_takeOff : Mk yX12_takeOff cX12_takeOff 6 none 2 := ⟨wt 1152 (by decide +kernel) (by decide +kernel), wt 18 (by decide +kernel) (by decide +kernel), ⟨by decide +kernel, by decide +kernel, by decide +kernel⟩, by decide⟩
theorem mk_X12_fold : Mk yX12_fold cX12_fold 7 none 1 := ⟨wt 1147 (by decide +kernel) (by decide +kernel), wt 18 (by decide +kernel) (by decide +kernel), ⟨by decide +kernel, by decide +kernel, by decide +kernel⟩, by decide⟩
theorem mk_X12_mul : Mk yX12_mul cX12_mul 8 none 3 := ⟨wt 1143 (by decide +kernel) (by decide +kernel), wt 18 (by decide +kernel) (by decide +kernel), ⟨by decide +kernel, by decide +kernel, by decide +kernel⟩, by decide⟩
theorem mk_X12_power : Mk yX12_power cX12_power 9 none 4 := ⟨wt 1135 (by decide +kernel) (by decide +kernel), wt 18 (by decide +kernel) (by decide +kernel), ⟨by decide +kernel, by decide +kernel, by decide +kernel⟩, by decide⟩
theorem mk_X12_inverse : Mk yX12_inverse cX12_inverse 3 none 2 := ⟨wt 1131 (by decide +kernel) (by decide +kernel), wt 18 (by decide +kernel) (by decide +kernel), ⟨by decide +kernel, by decide +kernel, by decide +kernel⟩, by decide⟩
theorem mk_X12_zero : Mk yX12_zero cX12_zero 2 none 1 := ⟨wt 1156 (by decide +kernel) (by decide +kernel), wt 18 (by decide +kernel) (by decide +kernel), ⟨by decide +kernel, by decide +kernel, by decide +kernel⟩, by decide⟩
theorem mk_X12_minus : Mk yX12_minus cX12_minus 6 none 3 := ⟨wt 1160 (by decide +kernel) (by decide +kernel), wt 18 (by decide +kernel) (by decide +kernel), ⟨by decide +kernel, by decide +kernel, by decide +kernel⟩, by decide⟩
theorem mk_X12_plus : Mk yX12_plus cX12_plus 5 none 3 := ⟨wt 1169 (by decide +kernel) (by decide +kernel), wt 18 (by decide +kernel) (by decide +kernel), ⟨by decide +kernel, by decide +kernel, by decide +kernel⟩, by decide⟩
theorem mk_X12_equal : Mk yX12_equal cX12_equal 4 (some .boolean) 2 := ⟨wt 1173 (by decide +kernel) (by decide +kernel), wt 18 (by decide +kernel) (by decide +kernel), ⟨by decide +kernel, by decide +kernel, by decide +kernel⟩, by decide⟩
theorem mk_X12_rootOf : Mk yX12_rootOf cX12_rootOf 3 (some .boolean) 2 := ⟨wt 1165 (by decide +kernel) (by decide +kernel), wt 18 (by decide +kernel) (by decide +kernel), ⟨by decide +kernel, by decide +kernel, by decide +kernel⟩, by decide⟩
theorem mk_X12_baseOf : Mk yX12_baseOf cX12_baseOf 3 none 2 := ⟨wt 1177 (by decide +kernel) (by decide +kernel), wt 18 (by decide +kernel) (by decide +kernel), ⟨by decide +kernel, by decide +kernel, by decide +kernel⟩, by decide⟩
theorem mk_X12_base448 : Mk yX12_base448 cX12_base448 1 none 0 := ⟨wt 1182 (by decide +kernel) (by decide +kernel), wt 18 (by decide +kernel) (by decide +kernel), ⟨by decide +kernel, by decide +kernel, by decide +kernel⟩, by decide⟩
theorem mk_X12_neutral : Mk yX12_neutral cX12_neutral 2 none 1 := ⟨wt 1193 (by decide +kernel) (by decide +kernel), wt 18 (by decide +kernel) (by decide +kernel), ⟨by decide +kernel, by decide +kernel, by decide +kernel⟩, by decide⟩
theorem mk_X12_init : Mk yX12_init cX12_init 2 none 0 := ⟨wt 1074 (by decide +kernel) (by decide +kernel), wt 18 (by decide +kernel) (by decide +kernel), ⟨by decide +kernel, by decide +kernel, by decide +kernel⟩, by decide⟩
theorem mk_X12_isZero : Mk yX12_isZero cX12_isZero 3 (some .boolean) 1 := ⟨wt 1467 (by decide +kernel) (by decide +kernel), wt 18 (by decide +kernel) (by decide +kernel), ⟨by decide +kernel, by decide +kernel, by decide +kernel⟩, by decide⟩
theorem mk_X12_copyPoint : Mk yX12_copyPoint cX12_copyPoint 4 none 2 := ⟨wt 1406 (by decide +kernel) (by decide +kernel), wt 18 (by decide +kernel) (by decide +kernel), ⟨by decide +kernel, by decide +kernel, by decide +kernel⟩, by decide⟩
theorem mk_X12_sum : Mk yX12_sum cX12_sum 4 none 3 := ⟨wt 1410 (by decide +kernel) (by decide +kernel), wt 18 (by decide +kernel) (by decide +kernel), ⟨by decide +kernel, by decide +kernel, by decide +kernel⟩, by decide⟩
theorem mk_X12_negate : Mk yX12_negate cX12_negate 2 none 1 := ⟨wt 1486 (by decide +kernel) (by decide +kernel), wt 18 (by decide +kernel) (by decide +kernel), ⟨by decide +kernel, by decide +kernel, by decide +kernel⟩, by decide⟩
theorem mk_X12_many : Mk yX12_many cX12_many 6 none 4 := ⟨wt 1402 (by decide +kernel) (by decide +kernel), wt 18 (by decide +kernel) (by decide +kernel), ⟨by decide +kernel, by decide +kernel, by decide +kernel⟩, by decide⟩
theorem mk_X12_isNeutral : Mk yX12_isNeutral cX12_isNeutral 2 (some .boolean) 1 := ⟨wt 1506 (by decide +kernel) (by decide +kernel), wt 18 (by decide +kernel) (by decide +kernel), ⟨by decide +kernel, by decide +kernel, by decide +kernel⟩, by decide⟩
theorem mk_X12_alike : Mk yX12_alike cX12_alike 3 (some .boolean) 2 := ⟨wt 1471 (by decide +kernel) (by decide +kernel), wt 18 (by decide +kernel) (by decide +kernel), ⟨by decide +kernel, by decide +kernel, by decide +kernel⟩, by decide⟩
theorem mk_X12_keyBytes : Mk yX12_keyBytes cX12_keyBytes 1 (some .int) 0 := ⟨wt 1394 (by decide +kernel) (by decide +kernel), wt 18 (by decide +kernel) (by decide +kernel), ⟨by decide +kernel, by decide +kernel, by decide +kernel⟩, by decide⟩
theorem mk_X12_encode : Mk yX12_encode cX12_encode 3 none 1 := ⟨wt 1414 (by decide +kernel) (by decide +kernel), wt 18 (by decide +kernel) (by decide +kernel), ⟨by decide +kernel, by decide +kernel, by decide +kernel⟩, by decide⟩
theorem mk_X12_decode : Mk yX12_decode cX12_decode 8 (some .boolean) 3 := ⟨wt 1463 (by decide +kernel) (by decide +kernel), wt 18 (by decide +kernel) (by decide +kernel), ⟨by decide +kernel, by decide +kernel, by decide +kernel⟩, by decide⟩
theorem mk_X12_modulo : Mk yX12_modulo cX12_modulo 9 none 3 := ⟨wt 1447 (by decide +kernel) (by decide +kernel), wt 18 (by decide +kernel) (by decide +kernel), ⟨by decide +kernel, by decide +kernel, by decide +kernel⟩, by decide⟩
theorem mk_X12_combine : Mk yX12_combine cX12_combine 5 none 0 := ⟨wt 1451 (by decide +kernel) (by decide +kernel), wt 18 (by decide +kernel) (by decide +kernel), ⟨by decide +kernel, by decide +kernel, by decide +kernel⟩, by decide⟩
theorem mk_X12_turned : Mk yX12_turned cX12_turned 3 (some .long) 2 := ⟨wt 1362 (by decide +kernel) (by decide +kernel), wt 18 (by decide +kernel) (by decide +kernel), ⟨by decide +kernel, by decide +kernel, by decide +kernel⟩, by decide⟩
theorem mk_X12_shaBlock : Mk yX12_shaBlock cX12_shaBlock 23 none 1 := ⟨wt 1359 (by decide +kernel) (by decide +kernel), wt 18 (by decide +kernel) (by decide +kernel), ⟨by decide +kernel, by decide +kernel, by decide +kernel⟩, by decide⟩
theorem mk_X12_sha512 : Mk yX12_sha512 cX12_sha512 3 none 0 := ⟨wt 1355 (by decide +kernel) (by decide +kernel), wt 18 (by decide +kernel) (by decide +kernel), ⟨by decide +kernel, by decide +kernel, by decide +kernel⟩, by decide⟩
theorem mk_X12_left : Mk yX12_left cX12_left 3 (some .long) 2 := ⟨wt 1350 (by decide +kernel) (by decide +kernel), wt 18 (by decide +kernel) (by decide +kernel), ⟨by decide +kernel, by decide +kernel, by decide +kernel⟩, by decide⟩
theorem mk_X12_permute : Mk yX12_permute cX12_permute 7 none 0 := ⟨wt 1347 (by decide +kernel) (by decide +kernel), wt 18 (by decide +kernel) (by decide +kernel), ⟨by decide +kernel, by decide +kernel, by decide +kernel⟩, by decide⟩
theorem mk_X12_shake : Mk yX12_shake cX12_shake 4 none 1 := ⟨wt 1343 (by decide +kernel) (by decide +kernel), wt 18 (by decide +kernel) (by decide +kernel), ⟨by decide +kernel, by decide +kernel, by decide +kernel⟩, by decide⟩
theorem mk_X12_inBytes : Mk yX12_inBytes cX12_inBytes 5 none 3 := ⟨wt 1339 (by decide +kernel) (by decide +kernel), wt 18 (by decide +kernel) (by decide +kernel), ⟨by decide +kernel, by decide +kernel, by decide +kernel⟩, by decide⟩
theorem mk_X12_inText : Mk yX12_inText cX12_inText 4 none 1 := ⟨wt 1435 (by decide +kernel) (by decide +kernel), wt 18 (by decide +kernel) (by decide +kernel), ⟨by decide +kernel, by decide +kernel, by decide +kernel⟩, by decide⟩
theorem mk_X12_domain : Mk yX12_domain cX12_domain 2 none 1 := ⟨wt 1430 (by decide +kernel) (by decide +kernel), wt 18 (by decide +kernel) (by decide +kernel), ⟨by decide +kernel, by decide +kernel, by decide +kernel⟩, by decide⟩
theorem mk_X12_theMessage : Mk yX12_theMessage cX12_theMessage 2 none 1 := ⟨wt 1443 (by decide +kernel) (by decide +kernel), wt 18 (by decide +kernel) (by decide +kernel), ⟨by decide +kernel, by decide +kernel, by decide +kernel⟩, by decide⟩
theorem mk_X12_hashIn : Mk yX12_hashIn cX12_hashIn 1 none 0 := ⟨wt 1398 (by decide +kernel) (by decide +kernel), wt 18 (by decide +kernel) (by decide +kernel), ⟨by decide +kernel, by decide +kernel, by decide +kernel⟩, by decide⟩
theorem mk_X12_digestMessage : Mk yX12_digestMessage cX12_digestMessage 2 none 0 := ⟨wt 1426 (by decide +kernel) (by decide +kernel), wt 18 (by decide +kernel) (by decide +kernel), ⟨by decide +kernel, by decide +kernel, by decide +kernel⟩, by decide⟩
theorem mk_X12_expand : Mk yX12_expand cX12_expand 3 none 0 := ⟨wt 1390 (by decide +kernel) (by decide +kernel), wt 18 (by decide +kernel) (by decide +kernel), ⟨by decide +kernel, by decide +kernel, by decide +kernel⟩, by decide⟩
theorem mk_X12_signNow : Mk yX12_signNow cX12_signNow 4 none 1 := ⟨wt 1422 (by decide +kernel) (by decide +kernel), wt 18 (by decide +kernel) (by decide +kernel), ⟨by decide +kernel, by decide +kernel, by decide +kernel⟩, by decide⟩
theorem mk_X12_verified : Mk yX12_verified cX12_verified 4 (some .boolean) 1 := ⟨wt 1459 (by decide +kernel) (by decide +kernel), wt 18 (by decide +kernel) (by decide +kernel), ⟨by decide +kernel, by decide +kernel, by decide +kernel⟩, by decide⟩
theorem mk_X12_swap : Mk yX12_swap cX12_swap 2 none 0 := ⟨wt 1378 (by decide +kernel) (by decide +kernel), wt 18 (by decide +kernel) (by decide +kernel), ⟨by decide +kernel, by decide +kernel, by decide +kernel⟩, by decide⟩
theorem mk_X12_rung : Mk yX12_rung cX12_rung 1 none 0 := ⟨wt 1382 (by decide +kernel) (by decide +kernel), wt 18 (by decide +kernel) (by decide +kernel), ⟨by decide +kernel, by decide +kernel, by decide +kernel⟩, by decide⟩
theorem mk_X12_ladder : Mk yX12_ladder cX12_ladder 5 none 1 := ⟨wt 1374 (by decide +kernel) (by decide +kernel), wt 18 (by decide +kernel) (by decide +kernel), ⟨by decide +kernel, by decide +kernel, by decide +kernel⟩, by decide⟩
theorem mk_X12_thrown : Mk yX12_thrown cX12_thrown 1 (some .int) 0 := ⟨wt 1300 (by decide +kernel) (by decide +kernel), wt 18 (by decide +kernel) (by decide +kernel), ⟨by decide +kernel, by decide +kernel, by decide +kernel⟩, by decide⟩
theorem mk_X12_sizeOf : Mk yX12_sizeOf cX12_sizeOf 1 (some .int) 1 := ⟨wt 1307 (by decide +kernel) (by decide +kernel), wt 18 (by decide +kernel) (by decide +kernel), ⟨by decide +kernel, by decide +kernel, by decide +kernel⟩, by decide⟩
theorem mk_X12_set : Mk yX12_set cX12_set 4 none 3 := ⟨wt 1311 (by decide +kernel) (by decide +kernel), wt 18 (by decide +kernel) (by decide +kernel), ⟨by decide +kernel, by decide +kernel, by decide +kernel⟩, by decide⟩
theorem mk_X12_put : Mk yX12_put cX12_put 7 none 4 := ⟨wt 1304 (by decide +kernel) (by decide +kernel), wt 18 (by decide +kernel) (by decide +kernel), ⟨by decide +kernel, by decide +kernel, by decide +kernel⟩, by decide⟩
theorem mk_X12_feed : Mk yX12_feed cX12_feed 8 (some .int) 3 := ⟨wt 1315 (by decide +kernel) (by decide +kernel), wt 18 (by decide +kernel) (by decide +kernel), ⟨by decide +kernel, by decide +kernel, by decide +kernel⟩, by decide⟩
theorem mk_X12_clear : Mk yX12_clear cX12_clear 2 none 1 := ⟨wt 1319 (by decide +kernel) (by decide +kernel), wt 18 (by decide +kernel) (by decide +kernel), ⟨by decide +kernel, by decide +kernel, by decide +kernel⟩, by decide⟩
theorem mk_X12_move : Mk yX12_move cX12_move 4 (some .int) 1 := ⟨wt 1323 (by decide +kernel) (by decide +kernel), wt 18 (by decide +kernel) (by decide +kernel), ⟨by decide +kernel, by decide +kernel, by decide +kernel⟩, by decide⟩
theorem mk_X12_look : Mk yX12_look cX12_look 4 (some .int) 2 := ⟨wt 1327 (by decide +kernel) (by decide +kernel), wt 18 (by decide +kernel) (by decide +kernel), ⟨by decide +kernel, by decide +kernel, by decide +kernel⟩, by decide⟩
theorem mk_X12_size : Mk yX12_size cX12_size 1 (some .int) 0 := ⟨wt 1331 (by decide +kernel) (by decide +kernel), wt 18 (by decide +kernel) (by decide +kernel), ⟨by decide +kernel, by decide +kernel, by decide +kernel⟩, by decide⟩
theorem mk_X12_hash : Mk yX12_hash cX12_hash 4 none 2 := ⟨wt 1335 (by decide +kernel) (by decide +kernel), wt 18 (by decide +kernel) (by decide +kernel), ⟨by decide +kernel, by decide +kernel, by decide +kernel⟩, by decide⟩
theorem mk_X12_noCurve : Mk yX12_noCurve cX12_noCurve 2 (some .boolean) 1 := ⟨wt 1370 (by decide +kernel) (by decide +kernel), wt 18 (by decide +kernel) (by decide +kernel), ⟨by decide +kernel, by decide +kernel, by decide +kernel⟩, by decide⟩
theorem mk_X12_agree : Mk yX12_agree cX12_agree 4 (some .boolean) 2 := ⟨wt 1366 (by decide +kernel) (by decide +kernel), wt 18 (by decide +kernel) (by decide +kernel), ⟨by decide +kernel, by decide +kernel, by decide +kernel⟩, by decide⟩
theorem mk_X12_derive : Mk yX12_derive cX12_derive 3 none 1 := ⟨wt 1386 (by decide +kernel) (by decide +kernel), wt 18 (by decide +kernel) (by decide +kernel), ⟨by decide +kernel, by decide +kernel, by decide +kernel⟩, by decide⟩
theorem mk_X12_sign : Mk yX12_sign cX12_sign 3 none 2 := ⟨wt 1418 (by decide +kernel) (by decide +kernel), wt 18 (by decide +kernel) (by decide +kernel), ⟨by decide +kernel, by decide +kernel, by decide +kernel⟩, by decide⟩
theorem mk_X12_verify : Mk yX12_verify cX12_verify 3 (some .boolean) 2 := ⟨wt 1455 (by decide +kernel) (by decide +kernel), wt 18 (by decide +kernel) (by decide +kernel), ⟨by decide +kernel, by decide +kernel, by decide +kernel⟩, by decide⟩
theorem mk_X12_isPlace : Mk yX12_isPlace cX12_isPlace 1 (some .boolean) 1 := ⟨wt 1478 (by decide +kernel) (by decide +kernel), wt 18 (by decide +kernel) (by decide +kernel), ⟨by decide +kernel, by decide +kernel, by decide +kernel⟩, by decide⟩
theorem mk_X12_point : Mk yX12_point cX12_point 3 (some .boolean) 2 := ⟨wt 1475 (by decide +kernel) (by decide +kernel), wt 18 (by decide +kernel) (by decide +kernel), ⟨by decide +kernel, by decide +kernel, by decide +kernel⟩, by decide⟩
theorem mk_X12_add : Mk yX12_add cX12_add 5 none 4 := ⟨wt 1482 (by decide +kernel) (by decide +kernel), wt 18 (by decide +kernel) (by decide +kernel), ⟨by decide +kernel, by decide +kernel, by decide +kernel⟩, by decide⟩
theorem mk_X12_times : Mk yX12_times cX12_times 3 none 2 := ⟨wt 1490 (by decide +kernel) (by decide +kernel), wt 18 (by decide +kernel) (by decide +kernel), ⟨by decide +kernel, by decide +kernel, by decide +kernel⟩, by decide⟩
theorem mk_X12_code : Mk yX12_code cX12_code 3 none 1 := ⟨wt 1494 (by decide +kernel) (by decide +kernel), wt 18 (by decide +kernel) (by decide +kernel), ⟨by decide +kernel, by decide +kernel, by decide +kernel⟩, by decide⟩
theorem mk_X12_same : Mk yX12_same cX12_same 3 (some .boolean) 2 := ⟨wt 1498 (by decide +kernel) (by decide +kernel), wt 18 (by decide +kernel) (by decide +kernel), ⟨by decide +kernel, by decide +kernel, by decide +kernel⟩, by decide⟩
theorem mk_X12_order : Mk yX12_order cX12_order 4 (some .int) 2 := ⟨wt 1502 (by decide +kernel) (by decide +kernel), wt 18 (by decide +kernel) (by decide +kernel), ⟨by decide +kernel, by decide +kernel, by decide +kernel⟩, by decide⟩
theorem mk_J9_min_7cf53 : Mk yJ9_min_7cf53 cJ9_min_7cf53 2 (some .int) 2 := ⟨wt 645 (by decide +kernel) (by decide +kernel), wt 25 (by decide +kernel) (by decide +kernel), ⟨by decide +kernel, by decide +kernel, by decide +kernel⟩, by decide⟩
theorem ls_X0_60 : Ls RX0 60 yJ7_fill_d0a16 := ⟨wt 758 (by decide +kernel) (by decide +kernel), wt 238 (by decide +kernel) (by decide +kernel)⟩
theorem lv_X0_70 : Lv RX0 70 yX3_read := ⟨wt 765 (by decide +kernel) (by decide +kernel), wt 766 (by decide +kernel) (by decide +kernel), wt 767 (by decide +kernel) (by decide +kernel)⟩
theorem lv_X0_76 : Lv RX0 76 yX0_loadScalar := ⟨wt 774 (by decide +kernel) (by decide +kernel), wt 776 (by decide +kernel) (by decide +kernel), wq 9 (by decide +kernel) (by decide +kernel)⟩
theorem lv_X0_83 : Lv RX0 83 yX3_copy := ⟨wt 779 (by decide +kernel) (by decide +kernel), wt 254 (by decide +kernel) (by decide +kernel), wt 255 (by decide +kernel) (by decide +kernel)⟩
theorem lv_X0_87 : Lv RX0 87 yX0_step := ⟨wt 780 (by decide +kernel) (by decide +kernel), wt 782 (by decide +kernel) (by decide +kernel), wq 10 (by decide +kernel) (by decide +kernel)⟩
theorem lv_X0_91 : Lv RX0 91 yX3_invert := ⟨wt 813 (by decide +kernel) (by decide +kernel), wt 814 (by decide +kernel) (by decide +kernel), wt 815 (by decide +kernel) (by decide +kernel)⟩
theorem lv_X0_94 : Lv RX0 94 yX3_multiply := ⟨wt 792 (by decide +kernel) (by decide +kernel), wt 793 (by decide +kernel) (by decide +kernel), wt 794 (by decide +kernel) (by decide +kernel)⟩
theorem lv_X0_98 : Lv RX0 98 yX3_write := ⟨wt 824 (by decide +kernel) (by decide +kernel), wt 825 (by decide +kernel) (by decide +kernel), wt 826 (by decide +kernel) (by decide +kernel)⟩
theorem lv_X0_102 : Lv RX0 102 yX3_isZero := ⟨wt 833 (by decide +kernel) (by decide +kernel), wt 834 (by decide +kernel) (by decide +kernel), wt 835 (by decide +kernel) (by decide +kernel)⟩
theorem lv_X0_112 : Lv RX0 112 yX3_plus := ⟨wt 784 (by decide +kernel) (by decide +kernel), wt 785 (by decide +kernel) (by decide +kernel), wt 786 (by decide +kernel) (by decide +kernel)⟩
theorem lv_X0_115 : Lv RX0 115 yX3_minus := ⟨wt 788 (by decide +kernel) (by decide +kernel), wt 789 (by decide +kernel) (by decide +kernel), wt 790 (by decide +kernel) (by decide +kernel)⟩
theorem lv_X0_118 : Lv RX0 118 yX3_square := ⟨wt 802 (by decide +kernel) (by decide +kernel), wt 803 (by decide +kernel) (by decide +kernel), wt 804 (by decide +kernel) (by decide +kernel)⟩
theorem lv_X0_123 : Lv RX0 123 yX3_multiplySmall := ⟨wt 809 (by decide +kernel) (by decide +kernel), wt 810 (by decide +kernel) (by decide +kernel), wt 811 (by decide +kernel) (by decide +kernel)⟩
theorem li_X1_17 : Li RX1 17 yX5_init := ⟨wt 174 (by decide +kernel) (by decide +kernel), wt 67 (by decide +kernel) (by decide +kernel), rfl⟩
theorem lv_X1_70 : Lv RX1 70 yX3_constant := ⟨wt 176 (by decide +kernel) (by decide +kernel), wt 177 (by decide +kernel) (by decide +kernel), wt 178 (by decide +kernel) (by decide +kernel)⟩
theorem lv_X1_83 : Lv RX1 83 yX3_negate := ⟨wt 242 (by decide +kernel) (by decide +kernel), wt 243 (by decide +kernel) (by decide +kernel), wt 244 (by decide +kernel) (by decide +kernel)⟩
theorem lv_X1_97 : Lv RX1 97 yX3_copy := ⟨wt 253 (by decide +kernel) (by decide +kernel), wt 254 (by decide +kernel) (by decide +kernel), wt 255 (by decide +kernel) (by decide +kernel)⟩
theorem lv_X1_113 : Lv RX1 113 yX3_multiply := ⟨wt 877 (by decide +kernel) (by decide +kernel), wt 793 (by decide +kernel) (by decide +kernel), wt 794 (by decide +kernel) (by decide +kernel)⟩
theorem lv_X1_117 : Lv RX1 117 yX3_square := ⟨wt 875 (by decide +kernel) (by decide +kernel), wt 803 (by decide +kernel) (by decide +kernel), wt 804 (by decide +kernel) (by decide +kernel)⟩
theorem lv_X1_120 : Lv RX1 120 yX3_minus := ⟨wt 876 (by decide +kernel) (by decide +kernel), wt 789 (by decide +kernel) (by decide +kernel), wt 790 (by decide +kernel) (by decide +kernel)⟩
theorem lv_X1_123 : Lv RX1 123 yX3_plus := ⟨wt 874 (by decide +kernel) (by decide +kernel), wt 785 (by decide +kernel) (by decide +kernel), wt 786 (by decide +kernel) (by decide +kernel)⟩
theorem lv_X1_126 : Lv RX1 126 yX1_twice := ⟨wt 870 (by decide +kernel) (by decide +kernel), wt 871 (by decide +kernel) (by decide +kernel), wt 872 (by decide +kernel) (by decide +kernel)⟩
theorem lv_X1_130 : Lv RX1 130 yX1_fillTable := ⟨wt 878 (by decide +kernel) (by decide +kernel), wt 880 (by decide +kernel) (by decide +kernel), wq 15 (by decide +kernel) (by decide +kernel)⟩
theorem lv_X1_133 : Lv RX1 133 yX1_walk := ⟨wt 886 (by decide +kernel) (by decide +kernel), wt 888 (by decide +kernel) (by decide +kernel), wq 16 (by decide +kernel) (by decide +kernel)⟩
theorem lv_X1_137 : Lv RX1 137 yX3_isZero := ⟨wt 987 (by decide +kernel) (by decide +kernel), wt 834 (by decide +kernel) (by decide +kernel), wt 835 (by decide +kernel) (by decide +kernel)⟩
theorem lv_X1_141 : Lv RX1 141 yX3_areEqual := ⟨wt 982 (by decide +kernel) (by decide +kernel), wt 983 (by decide +kernel) (by decide +kernel), wt 984 (by decide +kernel) (by decide +kernel)⟩
theorem lv_X1_145 : Lv RX1 145 yX1_copy := ⟨wt 890 (by decide +kernel) (by decide +kernel), wt 892 (by decide +kernel) (by decide +kernel), wq 17 (by decide +kernel) (by decide +kernel)⟩
theorem lv_X1_147 : Lv RX1 147 yX1_isNeutral := ⟨wt 1069 (by decide +kernel) (by decide +kernel), wt 1004 (by decide +kernel) (by decide +kernel), wt 1005 (by decide +kernel) (by decide +kernel)⟩
theorem lv_X1_151 : Lv RX1 151 yX3_invert := ⟨wt 898 (by decide +kernel) (by decide +kernel), wt 814 (by decide +kernel) (by decide +kernel), wt 815 (by decide +kernel) (by decide +kernel)⟩
theorem lv_X1_154 : Lv RX1 154 yX3_isOdd := ⟨wt 899 (by decide +kernel) (by decide +kernel), wt 900 (by decide +kernel) (by decide +kernel), wt 901 (by decide +kernel) (by decide +kernel)⟩
theorem lv_X1_157 : Lv RX1 157 yX1_writeCode := ⟨wt 903 (by decide +kernel) (by decide +kernel), wt 905 (by decide +kernel) (by decide +kernel), wq 18 (by decide +kernel) (by decide +kernel)⟩
theorem lv_X1_161 : Lv RX1 161 yX3_read := ⟨wt 976 (by decide +kernel) (by decide +kernel), wt 766 (by decide +kernel) (by decide +kernel), wt 767 (by decide +kernel) (by decide +kernel)⟩
theorem lv_X1_165 : Lv RX1 165 yX1_findX := ⟨wt 977 (by decide +kernel) (by decide +kernel), wt 979 (by decide +kernel) (by decide +kernel), wq 21 (by decide +kernel) (by decide +kernel)⟩
theorem lv_X1_172 : Lv RX1 172 yX3_rootPower := ⟨wt 981 (by decide +kernel) (by decide +kernel), wt 818 (by decide +kernel) (by decide +kernel), wt 819 (by decide +kernel) (by decide +kernel)⟩
theorem lv_X1_175 : Lv RX1 175 yX3_write := ⟨wt 907 (by decide +kernel) (by decide +kernel), wt 825 (by decide +kernel) (by decide +kernel), wt 826 (by decide +kernel) (by decide +kernel)⟩
theorem lv_X1_179 : Lv RX1 179 yX1_sum := ⟨wt 882 (by decide +kernel) (by decide +kernel), wt 883 (by decide +kernel) (by decide +kernel), wt 884 (by decide +kernel) (by decide +kernel)⟩
theorem ls_X3_65 : Ls RX3 65 yX4_fromHex := ⟨wt 180 (by decide +kernel) (by decide +kernel), wt 181 (by decide +kernel) (by decide +kernel)⟩
theorem ls_X3_69 : Ls RX3 69 yX4_fromBytes := ⟨wt 769 (by decide +kernel) (by decide +kernel), wt 235 (by decide +kernel) (by decide +kernel)⟩
theorem lv_X3_73 : Lv RX3 73 yX3_freeze := ⟨wt 828 (by decide +kernel) (by decide +kernel), wt 830 (by decide +kernel) (by decide +kernel), wq 12 (by decide +kernel) (by decide +kernel)⟩
theorem ls_X3_77 : Ls RX3 77 yX4_toBytes := ⟨wt 832 (by decide +kernel) (by decide +kernel), wt 389 (by decide +kernel) (by decide +kernel)⟩
theorem lv_X3_87 : Lv RX3 87 yX3_carry := ⟨wt 246 (by decide +kernel) (by decide +kernel), wt 248 (by decide +kernel) (by decide +kernel), wq 0 (by decide +kernel) (by decide +kernel)⟩
theorem ls_X3_91 : Ls RX3 91 yJ7_fill_d0a16 := ⟨wt 796 (by decide +kernel) (by decide +kernel), wt 238 (by decide +kernel) (by decide +kernel)⟩
theorem lv_X3_97 : Lv RX3 97 yX3_fold := ⟨wt 797 (by decide +kernel) (by decide +kernel), wt 799 (by decide +kernel) (by decide +kernel), wq 11 (by decide +kernel) (by decide +kernel)⟩
theorem lv_X3_102 : Lv RX3 102 yX3_rootPower := ⟨wt 817 (by decide +kernel) (by decide +kernel), wt 818 (by decide +kernel) (by decide +kernel), wt 819 (by decide +kernel) (by decide +kernel)⟩
theorem lv_X3_105 : Lv RX3 105 yX3_square := ⟨wt 822 (by decide +kernel) (by decide +kernel), wt 803 (by decide +kernel) (by decide +kernel), wt 804 (by decide +kernel) (by decide +kernel)⟩
theorem lv_X3_108 : Lv RX3 108 yX3_multiply := ⟨wt 823 (by decide +kernel) (by decide +kernel), wt 793 (by decide +kernel) (by decide +kernel), wt 794 (by decide +kernel) (by decide +kernel)⟩
theorem lv_X3_112 : Lv RX3 112 yX3_copy := ⟨wt 821 (by decide +kernel) (by decide +kernel), wt 254 (by decide +kernel) (by decide +kernel), wt 255 (by decide +kernel) (by decide +kernel)⟩
theorem lv_X3_115 : Lv RX3 115 yX3_isFrozenZero := ⟨wt 837 (by decide +kernel) (by decide +kernel), wt 839 (by decide +kernel) (by decide +kernel), wq 13 (by decide +kernel) (by decide +kernel)⟩
theorem lv_X3_119 : Lv RX3 119 yX3_minus := ⟨wt 986 (by decide +kernel) (by decide +kernel), wt 789 (by decide +kernel) (by decide +kernel), wt 790 (by decide +kernel) (by decide +kernel)⟩
theorem lv_X4_7 : Lv RX4 7 yJ0_length_8abf5 := ⟨wt 183 (by decide +kernel) (by decide +kernel), wt 184 (by decide +kernel) (by decide +kernel), wt 185 (by decide +kernel) (by decide +kernel)⟩
theorem lv_X4_13 : Lv RX4 13 yJ0_charAt_5068e := ⟨wt 193 (by decide +kernel) (by decide +kernel), wt 194 (by decide +kernel) (by decide +kernel), wt 195 (by decide +kernel) (by decide +kernel)⟩
theorem ls_X4_17 : Ls RX4 17 yX4_digit := ⟨wt 231 (by decide +kernel) (by decide +kernel), wt 232 (by decide +kernel) (by decide +kernel)⟩
theorem ls_X4_23 : Ls RX4 23 yX4_fromBytes := ⟨wt 234 (by decide +kernel) (by decide +kernel), wt 235 (by decide +kernel) (by decide +kernel)⟩
theorem ls_X4_27 : Ls RX4 27 yJ7_fill_d0a16 := ⟨wt 237 (by decide +kernel) (by decide +kernel), wt 238 (by decide +kernel) (by decide +kernel)⟩
theorem lv_X6_17 : Lv RX6 17 yX6_append := ⟨wt 860 (by decide +kernel) (by decide +kernel), wt 861 (by decide +kernel) (by decide +kernel), wt 862 (by decide +kernel) (by decide +kernel)⟩
theorem lv_X6_21 : Lv RX6 21 yJ0_length_8abf5 := ⟨wt 925 (by decide +kernel) (by decide +kernel), wt 184 (by decide +kernel) (by decide +kernel), wt 185 (by decide +kernel) (by decide +kernel)⟩
theorem lv_X6_27 : Lv RX6 27 yJ0_charAt_5068e := ⟨wt 926 (by decide +kernel) (by decide +kernel), wt 194 (by decide +kernel) (by decide +kernel), wt 195 (by decide +kernel) (by decide +kernel)⟩
theorem ls_X7_31 : Ls RX7 31 yX4_fromHex := ⟨wt 387 (by decide +kernel) (by decide +kernel), wt 181 (by decide +kernel) (by decide +kernel)⟩
theorem ls_X7_35 : Ls RX7 35 yX4_toBytes := ⟨wt 388 (by decide +kernel) (by decide +kernel), wt 389 (by decide +kernel) (by decide +kernel)⟩
theorem lv_X7_46 : Lv RX7 46 yX7_multiply := ⟨wt 940 (by decide +kernel) (by decide +kernel), wt 941 (by decide +kernel) (by decide +kernel), wt 942 (by decide +kernel) (by decide +kernel)⟩
theorem ls_X7_50 : Ls RX7 50 yJ7_fill_d0a16 := ⟨wt 944 (by decide +kernel) (by decide +kernel), wt 238 (by decide +kernel) (by decide +kernel)⟩
theorem lv_X7_56 : Lv RX7 56 yX7_increase := ⟨wt 945 (by decide +kernel) (by decide +kernel), wt 946 (by decide +kernel) (by decide +kernel), wt 947 (by decide +kernel) (by decide +kernel)⟩
theorem lv_X8_31 : Lv RX8 31 yX8_loadBlock := ⟨wt 676 (by decide +kernel) (by decide +kernel), wt 678 (by decide +kernel) (by decide +kernel), wq 2 (by decide +kernel) (by decide +kernel)⟩
theorem lv_X8_35 : Lv RX8 35 yX8_compress := ⟨wt 692 (by decide +kernel) (by decide +kernel), wt 694 (by decide +kernel) (by decide +kernel), wq 3 (by decide +kernel) (by decide +kernel)⟩
theorem ls_X8_38 : Ls RX8 38 yX8_paddedByte := ⟨wt 680 (by decide +kernel) (by decide +kernel), wt 681 (by decide +kernel) (by decide +kernel)⟩
theorem ls_X8_42 : Ls RX8 42 yX8_smallSigma0 := ⟨wt 683 (by decide +kernel) (by decide +kernel), wt 684 (by decide +kernel) (by decide +kernel)⟩
theorem ls_X8_46 : Ls RX8 46 yX8_smallSigma1 := ⟨wt 689 (by decide +kernel) (by decide +kernel), wt 690 (by decide +kernel) (by decide +kernel)⟩
theorem ls_X8_53 : Ls RX8 53 yX8_bigSigma1 := ⟨wt 696 (by decide +kernel) (by decide +kernel), wt 697 (by decide +kernel) (by decide +kernel)⟩
theorem ls_X8_61 : Ls RX8 61 yX8_bigSigma0 := ⟨wt 702 (by decide +kernel) (by decide +kernel), wt 703 (by decide +kernel) (by decide +kernel)⟩
theorem ls_X8_64 : Ls RX8 64 yX8_turn := ⟨wt 686 (by decide +kernel) (by decide +kernel), wt 687 (by decide +kernel) (by decide +kernel)⟩
theorem ls_X9_16 : Ls RX9 16 yJ7_fill_d0a16 := ⟨wt 711 (by decide +kernel) (by decide +kernel), wt 238 (by decide +kernel) (by decide +kernel)⟩
theorem lv_X9_32 : Lv RX9 32 yX9_mix := ⟨wt 712 (by decide +kernel) (by decide +kernel), wt 714 (by decide +kernel) (by decide +kernel), wq 4 (by decide +kernel) (by decide +kernel)⟩
theorem lv_X9_36 : Lv RX9 36 yX9_permute := ⟨wt 716 (by decide +kernel) (by decide +kernel), wt 718 (by decide +kernel) (by decide +kernel), wq 5 (by decide +kernel) (by decide +kernel)⟩
theorem lv_X9_42 : Lv RX9 42 yX9_mixColumns := ⟨wt 722 (by decide +kernel) (by decide +kernel), wt 724 (by decide +kernel) (by decide +kernel), wq 6 (by decide +kernel) (by decide +kernel)⟩
theorem lv_X9_45 : Lv RX9 45 yX9_moveLanes := ⟨wt 729 (by decide +kernel) (by decide +kernel), wt 731 (by decide +kernel) (by decide +kernel), wq 7 (by decide +kernel) (by decide +kernel)⟩
theorem lv_X9_48 : Lv RX9 48 yX9_mixRows := ⟨wt 737 (by decide +kernel) (by decide +kernel), wt 739 (by decide +kernel) (by decide +kernel), wq 8 (by decide +kernel) (by decide +kernel)⟩
theorem ls_X9_51 : Ls RX9 51 yX9_turn := ⟨wt 726 (by decide +kernel) (by decide +kernel), wt 727 (by decide +kernel) (by decide +kernel)⟩
theorem li_X10_13 : Li RX10 13 yX6_init := ⟨wt 376 (by decide +kernel) (by decide +kernel), wt 38 (by decide +kernel) (by decide +kernel), rfl⟩
theorem li_X10_56 : Li RX10 56 yX5_init := ⟨wt 378 (by decide +kernel) (by decide +kernel), wt 67 (by decide +kernel) (by decide +kernel), rfl⟩
theorem li_X10_88 : Li RX10 88 yX7_init := ⟨wt 381 (by decide +kernel) (by decide +kernel), wt 382 (by decide +kernel) (by decide +kernel), rfl⟩
theorem lv_X10_102 : Lv RX10 102 yX6_appendText := ⟨wt 921 (by decide +kernel) (by decide +kernel), wt 922 (by decide +kernel) (by decide +kernel), wt 923 (by decide +kernel) (by decide +kernel)⟩
theorem lv_X10_106 : Lv RX10 106 yX6_append := ⟨wt 927 (by decide +kernel) (by decide +kernel), wt 861 (by decide +kernel) (by decide +kernel), wt 862 (by decide +kernel) (by decide +kernel)⟩
theorem lv_X10_112 : Lv RX10 112 yX6_appendPart := ⟨wt 856 (by decide +kernel) (by decide +kernel), wt 857 (by decide +kernel) (by decide +kernel), wt 858 (by decide +kernel) (by decide +kernel)⟩
theorem lv_X10_122 : Lv RX10 122 yX10_expand := ⟨wt 852 (by decide +kernel) (by decide +kernel), wt 854 (by decide +kernel) (by decide +kernel), wq 14 (by decide +kernel) (by decide +kernel)⟩
theorem lv_X10_129 : Lv RX10 129 yX1_multiply := ⟨wt 866 (by decide +kernel) (by decide +kernel), wt 867 (by decide +kernel) (by decide +kernel), wt 868 (by decide +kernel) (by decide +kernel)⟩
theorem lv_X10_133 : Lv RX10 133 yX1_encode := ⟨wt 894 (by decide +kernel) (by decide +kernel), wt 895 (by decide +kernel) (by decide +kernel), wt 896 (by decide +kernel) (by decide +kernel)⟩
theorem lv_X10_137 : Lv RX10 137 yX10_hashNonce := ⟨wt 932 (by decide +kernel) (by decide +kernel), wt 934 (by decide +kernel) (by decide +kernel), wq 19 (by decide +kernel) (by decide +kernel)⟩
theorem lv_X10_140 : Lv RX10 140 yX7_reduce := ⟨wt 936 (by decide +kernel) (by decide +kernel), wt 937 (by decide +kernel) (by decide +kernel), wt 938 (by decide +kernel) (by decide +kernel)⟩
theorem lv_X10_144 : Lv RX10 144 yX7_write := ⟨wt 951 (by decide +kernel) (by decide +kernel), wt 952 (by decide +kernel) (by decide +kernel), wt 953 (by decide +kernel) (by decide +kernel)⟩
theorem lv_X10_148 : Lv RX10 148 yX10_hashChallenge := ⟨wt 955 (by decide +kernel) (by decide +kernel), wt 957 (by decide +kernel) (by decide +kernel), wq 20 (by decide +kernel) (by decide +kernel)⟩
theorem lv_X10_152 : Lv RX10 152 yX7_multiply := ⟨wt 959 (by decide +kernel) (by decide +kernel), wt 941 (by decide +kernel) (by decide +kernel), wt 942 (by decide +kernel) (by decide +kernel)⟩
theorem lv_X10_155 : Lv RX10 155 yX7_increase := ⟨wt 960 (by decide +kernel) (by decide +kernel), wt 946 (by decide +kernel) (by decide +kernel), wt 947 (by decide +kernel) (by decide +kernel)⟩
theorem lv_X10_159 : Lv RX10 159 yX1_decode := ⟨wt 972 (by decide +kernel) (by decide +kernel), wt 973 (by decide +kernel) (by decide +kernel), wt 974 (by decide +kernel) (by decide +kernel)⟩
theorem lv_X10_163 : Lv RX10 163 yX7_isBelowOrder := ⟨wt 988 (by decide +kernel) (by decide +kernel), wt 989 (by decide +kernel) (by decide +kernel), wt 990 (by decide +kernel) (by decide +kernel)⟩
theorem lv_X10_173 : Lv RX10 173 yX1_negate := ⟨wt 993 (by decide +kernel) (by decide +kernel), wt 994 (by decide +kernel) (by decide +kernel), wt 995 (by decide +kernel) (by decide +kernel)⟩
theorem lv_X10_177 : Lv RX10 177 yX1_multiplyTwo := ⟨wt 997 (by decide +kernel) (by decide +kernel), wt 998 (by decide +kernel) (by decide +kernel), wt 999 (by decide +kernel) (by decide +kernel)⟩
theorem lv_X10_181 : Lv RX10 181 yX1_sum := ⟨wt 1001 (by decide +kernel) (by decide +kernel), wt 883 (by decide +kernel) (by decide +kernel), wt 884 (by decide +kernel) (by decide +kernel)⟩
theorem lv_X10_185 : Lv RX10 185 yX1_twice := ⟨wt 1002 (by decide +kernel) (by decide +kernel), wt 871 (by decide +kernel) (by decide +kernel), wt 872 (by decide +kernel) (by decide +kernel)⟩
theorem lv_X10_188 : Lv RX10 188 yX1_isNeutral := ⟨wt 1003 (by decide +kernel) (by decide +kernel), wt 1004 (by decide +kernel) (by decide +kernel), wt 1005 (by decide +kernel) (by decide +kernel)⟩
theorem li_X11_15 : Li RX11 15 yX6_init := ⟨wt 37 (by decide +kernel) (by decide +kernel), wt 38 (by decide +kernel) (by decide +kernel), rfl⟩
theorem li_X11_53 : Li RX11 53 yX5_init := ⟨wt 66 (by decide +kernel) (by decide +kernel), wt 67 (by decide +kernel) (by decide +kernel), rfl⟩
theorem li_X11_80 : Li RX11 80 yX3_init := ⟨wt 112 (by decide +kernel) (by decide +kernel), wt 113 (by decide +kernel) (by decide +kernel), rfl⟩
theorem li_X11_83 : Li RX11 83 yX1_init := ⟨wt 169 (by decide +kernel) (by decide +kernel), wt 170 (by decide +kernel) (by decide +kernel), rfl⟩
theorem li_X11_86 : Li RX11 86 yX0_init := ⟨wt 322 (by decide +kernel) (by decide +kernel), wt 323 (by decide +kernel) (by decide +kernel), rfl⟩
theorem li_X11_87 : Li RX11 87 yX10_init := ⟨wt 371 (by decide +kernel) (by decide +kernel), wt 372 (by decide +kernel) (by decide +kernel), rfl⟩
theorem ls_X11_90 : Ls RX11 90 yX11_requireByteCount := ⟨wt 519 (by decide +kernel) (by decide +kernel), wt 520 (by decide +kernel) (by decide +kernel)⟩
theorem ls_X11_93 : Ls RX11 93 yX11_requireFixedRegister := ⟨wt 589 (by decide +kernel) (by decide +kernel), wt 590 (by decide +kernel) (by decide +kernel)⟩
theorem ls_X11_103 : Ls RX11 103 yX11_spread := ⟨wt 609 (by decide +kernel) (by decide +kernel), wt 610 (by decide +kernel) (by decide +kernel)⟩
theorem ls_X11_139 : Ls RX11 139 yX11_requireCurve := ⟨wt 750 (by decide +kernel) (by decide +kernel), wt 751 (by decide +kernel) (by decide +kernel)⟩
theorem lv_X11_142 : Lv RX11 142 yX0_startFromBase := ⟨wt 754 (by decide +kernel) (by decide +kernel), wt 755 (by decide +kernel) (by decide +kernel), wt 756 (by decide +kernel) (by decide +kernel)⟩
theorem lv_X11_145 : Lv RX11 145 yX0_startFrom := ⟨wt 761 (by decide +kernel) (by decide +kernel), wt 762 (by decide +kernel) (by decide +kernel), wt 763 (by decide +kernel) (by decide +kernel)⟩
theorem lv_X11_152 : Lv RX11 152 yX0_climb := ⟨wt 770 (by decide +kernel) (by decide +kernel), wt 771 (by decide +kernel) (by decide +kernel), wt 772 (by decide +kernel) (by decide +kernel)⟩
theorem lv_X11_156 : Lv RX11 156 yX10_publicKey := ⟨wt 848 (by decide +kernel) (by decide +kernel), wt 849 (by decide +kernel) (by decide +kernel), wt 850 (by decide +kernel) (by decide +kernel)⟩
theorem lv_X11_163 : Lv RX11 163 yX10_choose := ⟨wt 915 (by decide +kernel) (by decide +kernel), wt 916 (by decide +kernel) (by decide +kernel), wt 917 (by decide +kernel) (by decide +kernel)⟩
theorem lv_X11_167 : Lv RX11 167 yX10_makeSignature := ⟨wt 928 (by decide +kernel) (by decide +kernel), wt 929 (by decide +kernel) (by decide +kernel), wt 930 (by decide +kernel) (by decide +kernel)⟩
theorem lv_X11_170 : Lv RX11 170 yX10_isVerified := ⟨wt 968 (by decide +kernel) (by decide +kernel), wt 969 (by decide +kernel) (by decide +kernel), wt 970 (by decide +kernel) (by decide +kernel)⟩
theorem ls_X11_173 : Ls RX11 173 yX11_requirePlace := ⟨wt 1014 (by decide +kernel) (by decide +kernel), wt 1015 (by decide +kernel) (by decide +kernel)⟩
theorem lv_X11_176 : Lv RX11 176 yX1_decode := ⟨wt 1018 (by decide +kernel) (by decide +kernel), wt 973 (by decide +kernel) (by decide +kernel), wt 974 (by decide +kernel) (by decide +kernel)⟩
theorem lv_X11_182 : Lv RX11 182 yX1_negate := ⟨wt 1027 (by decide +kernel) (by decide +kernel), wt 994 (by decide +kernel) (by decide +kernel), wt 995 (by decide +kernel) (by decide +kernel)⟩
theorem lv_X11_186 : Lv RX11 186 yX1_sum := ⟨wt 1028 (by decide +kernel) (by decide +kernel), wt 883 (by decide +kernel) (by decide +kernel), wt 884 (by decide +kernel) (by decide +kernel)⟩
theorem lv_X11_190 : Lv RX11 190 yX1_multiply := ⟨wt 1036 (by decide +kernel) (by decide +kernel), wt 867 (by decide +kernel) (by decide +kernel), wt 868 (by decide +kernel) (by decide +kernel)⟩
theorem lv_X11_194 : Lv RX11 194 yX1_encode := ⟨wt 1044 (by decide +kernel) (by decide +kernel), wt 895 (by decide +kernel) (by decide +kernel), wt 896 (by decide +kernel) (by decide +kernel)⟩
theorem lv_X11_198 : Lv RX11 198 yX1_areEqual := ⟨wt 1052 (by decide +kernel) (by decide +kernel), wt 1053 (by decide +kernel) (by decide +kernel), wt 1054 (by decide +kernel) (by decide +kernel)⟩
theorem lv_X11_204 : Lv RX11 204 yX1_isNeutral := ⟨wt 1064 (by decide +kernel) (by decide +kernel), wt 1004 (by decide +kernel) (by decide +kernel), wt 1005 (by decide +kernel) (by decide +kernel)⟩
theorem lv_X11_208 : Lv RX11 208 yX1_smallOrder := ⟨wt 1065 (by decide +kernel) (by decide +kernel), wt 1066 (by decide +kernel) (by decide +kernel), wt 1067 (by decide +kernel) (by decide +kernel)⟩
theorem lv_X12_114 : Lv RX12 114 yX12_rootConstants := ⟨wt 1076 (by decide +kernel) (by decide +kernel), wt 1078 (by decide +kernel) (by decide +kernel), wq 22 (by decide +kernel) (by decide +kernel)⟩
theorem lv_X12_122 : Lv RX12 122 yX12_pieceLong := ⟨wt 1104 (by decide +kernel) (by decide +kernel), wt 1106 (by decide +kernel) (by decide +kernel), wq 27 (by decide +kernel) (by decide +kernel)⟩
theorem lv_X12_128 : Lv RX12 128 yX12_order448 := ⟨wt 1109 (by decide +kernel) (by decide +kernel), wt 1111 (by decide +kernel) (by decide +kernel), wq 28 (by decide +kernel) (by decide +kernel)⟩
theorem lv_X12_131 : Lv RX12 131 yX12_choose := ⟨wt 1118 (by decide +kernel) (by decide +kernel), wt 1120 (by decide +kernel) (by decide +kernel), wq 29 (by decide +kernel) (by decide +kernel)⟩
theorem lv_X12_136 : Lv RX12 136 yX12_small := ⟨wt 1123 (by decide +kernel) (by decide +kernel), wt 1125 (by decide +kernel) (by decide +kernel), wq 30 (by decide +kernel) (by decide +kernel)⟩
theorem lv_X12_141 : Lv RX12 141 yX12_inverse := ⟨wt 1128 (by decide +kernel) (by decide +kernel), wt 1130 (by decide +kernel) (by decide +kernel), wq 31 (by decide +kernel) (by decide +kernel)⟩
theorem lv_X12_144 : Lv RX12 144 yX12_mul := ⟨wt 1140 (by decide +kernel) (by decide +kernel), wt 1142 (by decide +kernel) (by decide +kernel), wq 34 (by decide +kernel) (by decide +kernel)⟩
theorem lv_X12_148 : Lv RX12 148 yX12_zero := ⟨wt 1153 (by decide +kernel) (by decide +kernel), wt 1155 (by decide +kernel) (by decide +kernel), wq 37 (by decide +kernel) (by decide +kernel)⟩
theorem lv_X12_151 : Lv RX12 151 yX12_minus := ⟨wt 1157 (by decide +kernel) (by decide +kernel), wt 1159 (by decide +kernel) (by decide +kernel), wq 38 (by decide +kernel) (by decide +kernel)⟩
theorem lv_X12_154 : Lv RX12 154 yX12_rootOf := ⟨wt 1162 (by decide +kernel) (by decide +kernel), wt 1164 (by decide +kernel) (by decide +kernel), wq 39 (by decide +kernel) (by decide +kernel)⟩
theorem lv_X12_158 : Lv RX12 158 yX12_baseOf := ⟨wt 1174 (by decide +kernel) (by decide +kernel), wt 1176 (by decide +kernel) (by decide +kernel), wq 42 (by decide +kernel) (by decide +kernel)⟩
theorem lv_X12_162 : Lv RX12 162 yX12_base448 := ⟨wt 1179 (by decide +kernel) (by decide +kernel), wt 1181 (by decide +kernel) (by decide +kernel), wq 43 (by decide +kernel) (by decide +kernel)⟩
theorem lv_X12_165 : Lv RX12 165 yX12_neutral := ⟨wt 1190 (by decide +kernel) (by decide +kernel), wt 1192 (by decide +kernel) (by decide +kernel), wq 44 (by decide +kernel) (by decide +kernel)⟩
theorem lv_X12_168 : Lv RX12 168 yX12_zero28 := ⟨wt 1087 (by decide +kernel) (by decide +kernel), wt 1089 (by decide +kernel) (by decide +kernel), wq 24 (by decide +kernel) (by decide +kernel)⟩
theorem lv_X12_183 : Lv RX12 183 yX12_atLeast := ⟨wt 1096 (by decide +kernel) (by decide +kernel), wt 1098 (by decide +kernel) (by decide +kernel), wq 26 (by decide +kernel) (by decide +kernel)⟩
theorem lv_X12_186 : Lv RX12 186 yX12_takeOff := ⟨wt 1149 (by decide +kernel) (by decide +kernel), wt 1151 (by decide +kernel) (by decide +kernel), wq 36 (by decide +kernel) (by decide +kernel)⟩
theorem lv_X12_189 : Lv RX12 189 yX12_fold := ⟨wt 1144 (by decide +kernel) (by decide +kernel), wt 1146 (by decide +kernel) (by decide +kernel), wq 35 (by decide +kernel) (by decide +kernel)⟩
theorem lv_X12_194 : Lv RX12 194 yX12_copy := ⟨wt 1136 (by decide +kernel) (by decide +kernel), wt 1138 (by decide +kernel) (by decide +kernel), wq 33 (by decide +kernel) (by decide +kernel)⟩
theorem lv_X12_197 : Lv RX12 197 yX12_power := ⟨wt 1132 (by decide +kernel) (by decide +kernel), wt 1134 (by decide +kernel) (by decide +kernel), wq 32 (by decide +kernel) (by decide +kernel)⟩
theorem lv_X12_201 : Lv RX12 201 yX12_plus := ⟨wt 1166 (by decide +kernel) (by decide +kernel), wt 1168 (by decide +kernel) (by decide +kernel), wq 40 (by decide +kernel) (by decide +kernel)⟩
theorem lv_X12_204 : Lv RX12 204 yX12_equal := ⟨wt 1170 (by decide +kernel) (by decide +kernel), wt 1172 (by decide +kernel) (by decide +kernel), wq 41 (by decide +kernel) (by decide +kernel)⟩
theorem lv_X12_221 : Lv RX12 221 yX12_copyPoint := ⟨wt 1403 (by decide +kernel) (by decide +kernel), wt 1405 (by decide +kernel) (by decide +kernel), wq 59 (by decide +kernel) (by decide +kernel)⟩
theorem lv_X12_224 : Lv RX12 224 yX12_sum := ⟨wt 1407 (by decide +kernel) (by decide +kernel), wt 1409 (by decide +kernel) (by decide +kernel), wq 60 (by decide +kernel) (by decide +kernel)⟩
theorem lv_X12_227 : Lv RX12 227 yX12_isZero := ⟨wt 1464 (by decide +kernel) (by decide +kernel), wt 1466 (by decide +kernel) (by decide +kernel), wq 71 (by decide +kernel) (by decide +kernel)⟩
theorem lv_X12_231 : Lv RX12 231 yX12_keyBytes := ⟨wt 1391 (by decide +kernel) (by decide +kernel), wt 1393 (by decide +kernel) (by decide +kernel), wq 56 (by decide +kernel) (by decide +kernel)⟩
theorem lv_X12_235 : Lv RX12 235 yX12_modulo := ⟨wt 1444 (by decide +kernel) (by decide +kernel), wt 1446 (by decide +kernel) (by decide +kernel), wq 67 (by decide +kernel) (by decide +kernel)⟩
theorem ls_X12_239 : Ls RX12 239 yX12_nextPrime := ⟨wt 1080 (by decide +kernel) (by decide +kernel), wt 1081 (by decide +kernel) (by decide +kernel)⟩
theorem lv_X12_243 : Lv RX12 243 yX12_rootBits := ⟨wt 1083 (by decide +kernel) (by decide +kernel), wt 1085 (by decide +kernel) (by decide +kernel), wq 23 (by decide +kernel) (by decide +kernel)⟩
theorem lv_X12_247 : Lv RX12 247 yX12_times28 := ⟨wt 1091 (by decide +kernel) (by decide +kernel), wt 1093 (by decide +kernel) (by decide +kernel), wq 25 (by decide +kernel) (by decide +kernel)⟩
theorem lv_X12_250 : Lv RX12 250 yX12_shaBlock := ⟨wt 1356 (by decide +kernel) (by decide +kernel), wt 1358 (by decide +kernel) (by decide +kernel), wq 50 (by decide +kernel) (by decide +kernel)⟩
theorem ls_X12_253 : Ls RX12 253 yX12_turned := ⟨wt 1360 (by decide +kernel) (by decide +kernel), wt 1361 (by decide +kernel) (by decide +kernel)⟩
theorem lv_X12_259 : Lv RX12 259 yX12_permute := ⟨wt 1344 (by decide +kernel) (by decide +kernel), wt 1346 (by decide +kernel) (by decide +kernel), wq 48 (by decide +kernel) (by decide +kernel)⟩
theorem ls_X12_262 : Ls RX12 262 yX12_left := ⟨wt 1348 (by decide +kernel) (by decide +kernel), wt 1349 (by decide +kernel) (by decide +kernel)⟩
theorem lv_X12_267 : Lv RX12 267 yX12_inText := ⟨wt 1432 (by decide +kernel) (by decide +kernel), wt 1434 (by decide +kernel) (by decide +kernel), wq 65 (by decide +kernel) (by decide +kernel)⟩
theorem lv_X12_279 : Lv RX12 279 yX12_inBytes := ⟨wt 1336 (by decide +kernel) (by decide +kernel), wt 1338 (by decide +kernel) (by decide +kernel), wq 46 (by decide +kernel) (by decide +kernel)⟩
theorem lv_X12_283 : Lv RX12 283 yX12_sha512 := ⟨wt 1352 (by decide +kernel) (by decide +kernel), wt 1354 (by decide +kernel) (by decide +kernel), wq 49 (by decide +kernel) (by decide +kernel)⟩
theorem lv_X12_286 : Lv RX12 286 yX12_shake := ⟨wt 1340 (by decide +kernel) (by decide +kernel), wt 1342 (by decide +kernel) (by decide +kernel), wq 47 (by decide +kernel) (by decide +kernel)⟩
theorem lv_X12_289 : Lv RX12 289 yX12_hashIn := ⟨wt 1395 (by decide +kernel) (by decide +kernel), wt 1397 (by decide +kernel) (by decide +kernel), wq 57 (by decide +kernel) (by decide +kernel)⟩
theorem lv_X12_292 : Lv RX12 292 yX12_many := ⟨wt 1399 (by decide +kernel) (by decide +kernel), wt 1401 (by decide +kernel) (by decide +kernel), wq 58 (by decide +kernel) (by decide +kernel)⟩
theorem lv_X12_296 : Lv RX12 296 yX12_encode := ⟨wt 1411 (by decide +kernel) (by decide +kernel), wt 1413 (by decide +kernel) (by decide +kernel), wq 61 (by decide +kernel) (by decide +kernel)⟩
theorem lv_X12_299 : Lv RX12 299 yX12_digestMessage := ⟨wt 1423 (by decide +kernel) (by decide +kernel), wt 1425 (by decide +kernel) (by decide +kernel), wq 63 (by decide +kernel) (by decide +kernel)⟩
theorem lv_X12_302 : Lv RX12 302 yX12_expand := ⟨wt 1387 (by decide +kernel) (by decide +kernel), wt 1389 (by decide +kernel) (by decide +kernel), wq 55 (by decide +kernel) (by decide +kernel)⟩
theorem lv_X12_305 : Lv RX12 305 yX12_domain := ⟨wt 1427 (by decide +kernel) (by decide +kernel), wt 1429 (by decide +kernel) (by decide +kernel), wq 64 (by decide +kernel) (by decide +kernel)⟩
theorem lv_X12_309 : Lv RX12 309 yX12_theMessage := ⟨wt 1440 (by decide +kernel) (by decide +kernel), wt 1442 (by decide +kernel) (by decide +kernel), wq 66 (by decide +kernel) (by decide +kernel)⟩
theorem lv_X12_312 : Lv RX12 312 yX12_combine := ⟨wt 1448 (by decide +kernel) (by decide +kernel), wt 1450 (by decide +kernel) (by decide +kernel), wq 68 (by decide +kernel) (by decide +kernel)⟩
theorem lv_X12_315 : Lv RX12 315 yX12_decode := ⟨wt 1460 (by decide +kernel) (by decide +kernel), wt 1462 (by decide +kernel) (by decide +kernel), wq 70 (by decide +kernel) (by decide +kernel)⟩
theorem lv_X12_319 : Lv RX12 319 yX12_alike := ⟨wt 1468 (by decide +kernel) (by decide +kernel), wt 1470 (by decide +kernel) (by decide +kernel), wq 72 (by decide +kernel) (by decide +kernel)⟩
theorem lv_X12_322 : Lv RX12 322 yX12_swap := ⟨wt 1375 (by decide +kernel) (by decide +kernel), wt 1377 (by decide +kernel) (by decide +kernel), wq 53 (by decide +kernel) (by decide +kernel)⟩
theorem lv_X12_325 : Lv RX12 325 yX12_rung := ⟨wt 1379 (by decide +kernel) (by decide +kernel), wt 1381 (by decide +kernel) (by decide +kernel), wq 54 (by decide +kernel) (by decide +kernel)⟩
theorem ls_X12_328 : Ls RX12 328 yX12_sizeOf := ⟨wt 1305 (by decide +kernel) (by decide +kernel), wt 1306 (by decide +kernel) (by decide +kernel)⟩
theorem lv_X12_331 : Lv RX12 331 yX12_set := ⟨wt 1308 (by decide +kernel) (by decide +kernel), wt 1310 (by decide +kernel) (by decide +kernel), wq 45 (by decide +kernel) (by decide +kernel)⟩
theorem lv_X12_334 : Lv RX12 334 yX12_noCurve := ⟨wt 1367 (by decide +kernel) (by decide +kernel), wt 1369 (by decide +kernel) (by decide +kernel), wq 51 (by decide +kernel) (by decide +kernel)⟩
theorem lv_X12_337 : Lv RX12 337 yX12_ladder := ⟨wt 1371 (by decide +kernel) (by decide +kernel), wt 1373 (by decide +kernel) (by decide +kernel), wq 52 (by decide +kernel) (by decide +kernel)⟩
theorem lv_X12_340 : Lv RX12 340 yX12_signNow := ⟨wt 1419 (by decide +kernel) (by decide +kernel), wt 1421 (by decide +kernel) (by decide +kernel), wq 62 (by decide +kernel) (by decide +kernel)⟩
theorem lv_X12_343 : Lv RX12 343 yX12_verified := ⟨wt 1456 (by decide +kernel) (by decide +kernel), wt 1458 (by decide +kernel) (by decide +kernel), wq 69 (by decide +kernel) (by decide +kernel)⟩
theorem ls_X12_347 : Ls RX12 347 yX12_isPlace := ⟨wt 1476 (by decide +kernel) (by decide +kernel), wt 1477 (by decide +kernel) (by decide +kernel)⟩
theorem lv_X12_350 : Lv RX12 350 yX12_negate := ⟨wt 1483 (by decide +kernel) (by decide +kernel), wt 1485 (by decide +kernel) (by decide +kernel), wq 73 (by decide +kernel) (by decide +kernel)⟩
theorem lv_X12_353 : Lv RX12 353 yX12_isNeutral := ⟨wt 1503 (by decide +kernel) (by decide +kernel), wt 1505 (by decide +kernel) (by decide +kernel), wq 74 (by decide +kernel) (by decide +kernel)⟩
theorem lv_J0_335 : Lv RJ0 335 yJ0_coder_7d493 := ⟨wt 187 (by decide +kernel) (by decide +kernel), wt 188 (by decide +kernel) (by decide +kernel), wt 189 (by decide +kernel) (by decide +kernel)⟩
theorem lv_J0_492 : Lv RJ0 492 yJ0_isLatin1_aae02 := ⟨wt 197 (by decide +kernel) (by decide +kernel), wt 198 (by decide +kernel) (by decide +kernel), wt 199 (by decide +kernel) (by decide +kernel)⟩
theorem ls_J0_495 : Ls RJ0 495 yJ1_charAt_3b067 := ⟨wt 201 (by decide +kernel) (by decide +kernel), wt 202 (by decide +kernel) (by decide +kernel)⟩
theorem ls_J0_498 : Ls RJ0 498 yJ2_charAt_3b067 := ⟨wt 212 (by decide +kernel) (by decide +kernel), wt 213 (by decide +kernel) (by decide +kernel)⟩
theorem ls_J0_1059 : Ls RJ0 1059 yJ3_checkIndex_8e157 := ⟨wt 209 (by decide +kernel) (by decide +kernel), wt 210 (by decide +kernel) (by decide +kernel)⟩
theorem ls_J1_9 : Ls RJ1 9 yJ0_checkIndex_df160 := ⟨wt 204 (by decide +kernel) (by decide +kernel), wt 205 (by decide +kernel) (by decide +kernel)⟩
theorem ls_J2_48 : Ls RJ2 48 yJ2_length_9d52b := ⟨wt 218 (by decide +kernel) (by decide +kernel), wt 219 (by decide +kernel) (by decide +kernel)⟩
theorem ls_J2_67 : Ls RJ2 67 yJ2_checkIndex_2214a := ⟨wt 215 (by decide +kernel) (by decide +kernel), wt 216 (by decide +kernel) (by decide +kernel)⟩
theorem ls_J2_71 : Ls RJ2 71 yJ2_getChar_3b067 := ⟨wt 222 (by decide +kernel) (by decide +kernel), wt 223 (by decide +kernel) (by decide +kernel)⟩
theorem ls_J2_414 : Ls RJ2 414 yJ0_checkIndex_df160 := ⟨wt 221 (by decide +kernel) (by decide +kernel), wt 205 (by decide +kernel) (by decide +kernel)⟩
theorem lv_L_7 : Lv RL 7 yX11_put := ⟨wt 515 (by decide +kernel) (by decide +kernel), wt 516 (by decide +kernel) (by decide +kernel), wt 517 (by decide +kernel) (by decide +kernel)⟩
theorem lv_L_17 : Lv RL 17 yX11_feed := ⟨wt 616 (by decide +kernel) (by decide +kernel), wt 617 (by decide +kernel) (by decide +kernel), wt 618 (by decide +kernel) (by decide +kernel)⟩
theorem lv_L_23 : Lv RL 23 yX11_move := ⟨wt 639 (by decide +kernel) (by decide +kernel), wt 640 (by decide +kernel) (by decide +kernel), wt 641 (by decide +kernel) (by decide +kernel)⟩
theorem lv_L_27 : Lv RL 27 yX11_look := ⟨wt 650 (by decide +kernel) (by decide +kernel), wt 651 (by decide +kernel) (by decide +kernel), wt 652 (by decide +kernel) (by decide +kernel)⟩
theorem lv_L_31 : Lv RL 31 yX11_hash := ⟨wt 658 (by decide +kernel) (by decide +kernel), wt 659 (by decide +kernel) (by decide +kernel), wt 660 (by decide +kernel) (by decide +kernel)⟩
theorem lv_L_35 : Lv RL 35 yX11_agree := ⟨wt 746 (by decide +kernel) (by decide +kernel), wt 747 (by decide +kernel) (by decide +kernel), wt 748 (by decide +kernel) (by decide +kernel)⟩
theorem lv_L_39 : Lv RL 39 yX11_derive := ⟨wt 844 (by decide +kernel) (by decide +kernel), wt 845 (by decide +kernel) (by decide +kernel), wt 846 (by decide +kernel) (by decide +kernel)⟩
theorem lv_L_43 : Lv RL 43 yX11_sign := ⟨wt 911 (by decide +kernel) (by decide +kernel), wt 912 (by decide +kernel) (by decide +kernel), wt 913 (by decide +kernel) (by decide +kernel)⟩
theorem lv_L_47 : Lv RL 47 yX11_verify := ⟨wt 964 (by decide +kernel) (by decide +kernel), wt 965 (by decide +kernel) (by decide +kernel), wt 966 (by decide +kernel) (by decide +kernel)⟩
theorem lv_L_50 : Lv RL 50 yX11_point := ⟨wt 1010 (by decide +kernel) (by decide +kernel), wt 1011 (by decide +kernel) (by decide +kernel), wt 1012 (by decide +kernel) (by decide +kernel)⟩
theorem lv_L_54 : Lv RL 54 yX11_add := ⟨wt 1022 (by decide +kernel) (by decide +kernel), wt 1023 (by decide +kernel) (by decide +kernel), wt 1024 (by decide +kernel) (by decide +kernel)⟩
theorem lv_L_58 : Lv RL 58 yX11_times := ⟨wt 1032 (by decide +kernel) (by decide +kernel), wt 1033 (by decide +kernel) (by decide +kernel), wt 1034 (by decide +kernel) (by decide +kernel)⟩
theorem lv_L_62 : Lv RL 62 yX11_code := ⟨wt 1040 (by decide +kernel) (by decide +kernel), wt 1041 (by decide +kernel) (by decide +kernel), wt 1042 (by decide +kernel) (by decide +kernel)⟩
theorem lv_L_65 : Lv RL 65 yX11_same := ⟨wt 1048 (by decide +kernel) (by decide +kernel), wt 1049 (by decide +kernel) (by decide +kernel), wt 1050 (by decide +kernel) (by decide +kernel)⟩
theorem lv_L_68 : Lv RL 68 yX11_order := ⟨wt 1059 (by decide +kernel) (by decide +kernel), wt 1060 (by decide +kernel) (by decide +kernel), wt 1061 (by decide +kernel) (by decide +kernel)⟩
theorem li_L_71 : Li RL 71 yX11_init := ⟨wt 28 (by decide +kernel) (by decide +kernel), wt 29 (by decide +kernel) (by decide +kernel), rfl⟩
theorem li_L_74 : Li RL 74 yX12_init := ⟨wt 1072 (by decide +kernel) (by decide +kernel), wt 1073 (by decide +kernel) (by decide +kernel), rfl⟩
theorem ls_L_77 : Ls RL 77 yL_put := ⟨wt 510 (by decide +kernel) (by decide +kernel), wt 511 (by decide +kernel) (by decide +kernel)⟩
theorem lv_L_82 : Lv RL 82 yX12_put := ⟨wt 1301 (by decide +kernel) (by decide +kernel), wt 1302 (by decide +kernel) (by decide +kernel), wt 1303 (by decide +kernel) (by decide +kernel)⟩
theorem lv_L_83 : Lv RL 83 yX12_thrown := ⟨wt 1297 (by decide +kernel) (by decide +kernel), wt 1298 (by decide +kernel) (by decide +kernel), wt 1299 (by decide +kernel) (by decide +kernel)⟩
theorem ls_L_87 : Ls RL 87 yL_feed := ⟨wt 612 (by decide +kernel) (by decide +kernel), wt 613 (by decide +kernel) (by decide +kernel)⟩
theorem lv_L_90 : Lv RL 90 yX12_feed := ⟨wt 1312 (by decide +kernel) (by decide +kernel), wt 1313 (by decide +kernel) (by decide +kernel), wt 1314 (by decide +kernel) (by decide +kernel)⟩
theorem lv_L_91 : Lv RL 91 yX11_clear := ⟨wt 502 (by decide +kernel) (by decide +kernel), wt 503 (by decide +kernel) (by decide +kernel), wt 504 (by decide +kernel) (by decide +kernel)⟩
theorem lv_L_95 : Lv RL 95 yX12_clear := ⟨wt 1316 (by decide +kernel) (by decide +kernel), wt 1317 (by decide +kernel) (by decide +kernel), wt 1318 (by decide +kernel) (by decide +kernel)⟩
theorem ls_L_96 : Ls RL 96 yL_move := ⟨wt 636 (by decide +kernel) (by decide +kernel), wt 637 (by decide +kernel) (by decide +kernel)⟩
theorem lv_L_99 : Lv RL 99 yX12_move := ⟨wt 1320 (by decide +kernel) (by decide +kernel), wt 1321 (by decide +kernel) (by decide +kernel), wt 1322 (by decide +kernel) (by decide +kernel)⟩
theorem ls_L_100 : Ls RL 100 yL_look := ⟨wt 647 (by decide +kernel) (by decide +kernel), wt 648 (by decide +kernel) (by decide +kernel)⟩
theorem lv_L_103 : Lv RL 103 yX12_look := ⟨wt 1324 (by decide +kernel) (by decide +kernel), wt 1325 (by decide +kernel) (by decide +kernel), wt 1326 (by decide +kernel) (by decide +kernel)⟩
theorem lv_L_104 : Lv RL 104 yX11_size := ⟨wt 506 (by decide +kernel) (by decide +kernel), wt 507 (by decide +kernel) (by decide +kernel), wt 508 (by decide +kernel) (by decide +kernel)⟩
theorem lv_L_107 : Lv RL 107 yX12_size := ⟨wt 1328 (by decide +kernel) (by decide +kernel), wt 1329 (by decide +kernel) (by decide +kernel), wt 1330 (by decide +kernel) (by decide +kernel)⟩
theorem ls_L_108 : Ls RL 108 yL_hash := ⟨wt 655 (by decide +kernel) (by decide +kernel), wt 656 (by decide +kernel) (by decide +kernel)⟩
theorem lv_L_111 : Lv RL 111 yX12_hash := ⟨wt 1332 (by decide +kernel) (by decide +kernel), wt 1333 (by decide +kernel) (by decide +kernel), wt 1334 (by decide +kernel) (by decide +kernel)⟩
theorem ls_L_112 : Ls RL 112 yL_agree := ⟨wt 743 (by decide +kernel) (by decide +kernel), wt 744 (by decide +kernel) (by decide +kernel)⟩
theorem lv_L_115 : Lv RL 115 yX12_agree := ⟨wt 1363 (by decide +kernel) (by decide +kernel), wt 1364 (by decide +kernel) (by decide +kernel), wt 1365 (by decide +kernel) (by decide +kernel)⟩
theorem ls_L_116 : Ls RL 116 yL_derive := ⟨wt 841 (by decide +kernel) (by decide +kernel), wt 842 (by decide +kernel) (by decide +kernel)⟩
theorem lv_L_119 : Lv RL 119 yX12_derive := ⟨wt 1383 (by decide +kernel) (by decide +kernel), wt 1384 (by decide +kernel) (by decide +kernel), wt 1385 (by decide +kernel) (by decide +kernel)⟩
theorem ls_L_120 : Ls RL 120 yL_sign := ⟨wt 908 (by decide +kernel) (by decide +kernel), wt 909 (by decide +kernel) (by decide +kernel)⟩
theorem lv_L_123 : Lv RL 123 yX12_sign := ⟨wt 1415 (by decide +kernel) (by decide +kernel), wt 1416 (by decide +kernel) (by decide +kernel), wt 1417 (by decide +kernel) (by decide +kernel)⟩
theorem ls_L_124 : Ls RL 124 yL_verify := ⟨wt 961 (by decide +kernel) (by decide +kernel), wt 962 (by decide +kernel) (by decide +kernel)⟩
theorem lv_L_126 : Lv RL 126 yX12_verify := ⟨wt 1452 (by decide +kernel) (by decide +kernel), wt 1453 (by decide +kernel) (by decide +kernel), wt 1454 (by decide +kernel) (by decide +kernel)⟩
theorem ls_L_127 : Ls RL 127 yL_point := ⟨wt 1007 (by decide +kernel) (by decide +kernel), wt 1008 (by decide +kernel) (by decide +kernel)⟩
theorem lv_L_129 : Lv RL 129 yX12_point := ⟨wt 1472 (by decide +kernel) (by decide +kernel), wt 1473 (by decide +kernel) (by decide +kernel), wt 1474 (by decide +kernel) (by decide +kernel)⟩
theorem ls_L_130 : Ls RL 130 yL_add := ⟨wt 1019 (by decide +kernel) (by decide +kernel), wt 1020 (by decide +kernel) (by decide +kernel)⟩
theorem lv_L_133 : Lv RL 133 yX12_add := ⟨wt 1479 (by decide +kernel) (by decide +kernel), wt 1480 (by decide +kernel) (by decide +kernel), wt 1481 (by decide +kernel) (by decide +kernel)⟩
theorem ls_L_134 : Ls RL 134 yL_times := ⟨wt 1029 (by decide +kernel) (by decide +kernel), wt 1030 (by decide +kernel) (by decide +kernel)⟩
theorem lv_L_137 : Lv RL 137 yX12_times := ⟨wt 1487 (by decide +kernel) (by decide +kernel), wt 1488 (by decide +kernel) (by decide +kernel), wt 1489 (by decide +kernel) (by decide +kernel)⟩
theorem ls_L_138 : Ls RL 138 yL_code := ⟨wt 1037 (by decide +kernel) (by decide +kernel), wt 1038 (by decide +kernel) (by decide +kernel)⟩
theorem lv_L_140 : Lv RL 140 yX12_code := ⟨wt 1491 (by decide +kernel) (by decide +kernel), wt 1492 (by decide +kernel) (by decide +kernel), wt 1493 (by decide +kernel) (by decide +kernel)⟩
theorem ls_L_141 : Ls RL 141 yL_same := ⟨wt 1045 (by decide +kernel) (by decide +kernel), wt 1046 (by decide +kernel) (by decide +kernel)⟩
theorem lv_L_143 : Lv RL 143 yX12_same := ⟨wt 1495 (by decide +kernel) (by decide +kernel), wt 1496 (by decide +kernel) (by decide +kernel), wt 1497 (by decide +kernel) (by decide +kernel)⟩
theorem ls_L_144 : Ls RL 144 yL_order := ⟨wt 1056 (by decide +kernel) (by decide +kernel), wt 1057 (by decide +kernel) (by decide +kernel)⟩
theorem lv_L_146 : Lv RL 146 yX12_order := ⟨wt 1499 (by decide +kernel) (by decide +kernel), wt 1500 (by decide +kernel) (by decide +kernel), wt 1501 (by decide +kernel) (by decide +kernel)⟩
