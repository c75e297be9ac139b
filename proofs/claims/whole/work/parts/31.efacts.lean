theorem dv_of {i N : Nat} {ty : Nat → FieldType} (h : (List.range N).all (fun k => decide (k < (FT.getD i []).length ∧ defaultValue (ty k) = dv ((FT.getD i []).getD k 0))) = true) : ∀ k, k < N → ∃ t, (FT.getD i [])[k]? = some t ∧ defaultValue (ty k) = dv t := by
  intro k hk
  have h1 := of_decide_eq_true (List.all_eq_true.mp h k (List.mem_range.mpr hk))
  refine ⟨(FT.getD i []).getD k 0, ?_, h1.2⟩
  rw [List.getD_eq_getElem?_getD (l := FT.getD i []), List.getElem?_eq_getElem h1.1]
  rfl
theorem dvX0 : ∀ k, k < 4 → ∃ t, (FT.getD 0 [])[k]? = some t ∧ defaultValue (tyX0 k) = dv t := dv_of (by decide +kernel)
theorem dvX1 : ∀ k, k < 2 → ∃ t, (FT.getD 1 [])[k]? = some t ∧ defaultValue (tyX1 k) = dv t := dv_of (by decide +kernel)
theorem dvX2 : ∀ k, k < 9 → ∃ t, (FT.getD 2 [])[k]? = some t ∧ defaultValue (tyX2 k) = dv t := dv_of (by decide +kernel)
theorem dvX3 : ∀ k, k < 10 → ∃ t, (FT.getD 3 [])[k]? = some t ∧ defaultValue (tyX3 k) = dv t := dv_of (by decide +kernel)
theorem dvX4 : ∀ k, k < 5 → ∃ t, (FT.getD 4 [])[k]? = some t ∧ defaultValue (tyX4 k) = dv t := dv_of (by decide +kernel)
theorem dvX5 : ∀ k, k < 12 → ∃ t, (FT.getD 5 [])[k]? = some t ∧ defaultValue (tyX5 k) = dv t := dv_of (by decide +kernel)
theorem dvX6 : ∀ k, k < 19 → ∃ t, (FT.getD 6 [])[k]? = some t ∧ defaultValue (tyX6 k) = dv t := dv_of (by decide +kernel)
theorem dvX7 : ∀ k, k < 2 → ∃ t, (FT.getD 7 [])[k]? = some t ∧ defaultValue (tyX7 k) = dv t := dv_of (by decide +kernel)
theorem dvX8 : ∀ k, k < 3 → ∃ t, (FT.getD 8 [])[k]? = some t ∧ defaultValue (tyX8 k) = dv t := dv_of (by decide +kernel)
theorem dvX9 : ∀ k, k < 14 → ∃ t, (FT.getD 9 [])[k]? = some t ∧ defaultValue (tyX9 k) = dv t := dv_of (by decide +kernel)
theorem dvX10 : ∀ k, k < 13 → ∃ t, (FT.getD 10 [])[k]? = some t ∧ defaultValue (tyX10 k) = dv t := dv_of (by decide +kernel)
theorem dvX11 : ∀ k, k < 15 → ∃ t, (FT.getD 11 [])[k]? = some t ∧ defaultValue (tyX11 k) = dv t := dv_of (by decide +kernel)
theorem dvX12 : ∀ k, k < 52 → ∃ t, (FT.getD 12 [])[k]? = some t ∧ defaultValue (tyX12 k) = dv t := dv_of (by decide +kernel)
theorem wd_1324 : Cond.methodLink RX12 14 Lib.objectInit ∈ lw_g := gw (wt_6 (List.mem_of_getElem? (i := 16) rfl)) rfl
theorem wd_274 : Cond.arrayClass .boolean ∈ lw_g := gw (wt_1 (List.mem_of_getElem? (i := 166) rfl)) rfl
theorem wd_858 : Cond.arrayClass .byte ∈ lw_g := gw (wt_4 (List.mem_of_getElem? (i := 30) rfl)) rfl
theorem wd_389 : Cond.arrayClass .long ∈ lw_g := gw (wt_2 (List.mem_of_getElem? (i := 41) rfl)) rfl
theorem wd_134 : Cond.methodLink RX11 1 Lib.objectInit ∈ lw_g := gw (wt_1 (List.mem_of_getElem? (i := 26) rfl)) rfl
theorem wd_137 : Cond.classLink RX11 7 RX6 ∈ lw_g := gw (wt_1 (List.mem_of_getElem? (i := 29) rfl)) rfl
theorem wd_138 : Cond.instantiable RX6 19 ∈ lw_g := gw (wt_1 (List.mem_of_getElem? (i := 30) rfl)) rfl
theorem on_X11_7 : fN RX11 7 6 19 := ⟨_, TX6, tyX6, rfl, inX6, tyX6_ok, wd_137, wd_138, wd_110, dvX6⟩
theorem wd_141 : Cond.code yX6_init cX6_init 2 (none) ∈ lw_g := gw (wt_1 (List.mem_of_getElem? (i := 33) rfl)) rfl
theorem wd_139 : Cond.methodLink RX11 9 yX6_init ∈ lw_g := gw (wt_1 (List.mem_of_getElem? (i := 31) rfl)) rfl
theorem wd_140 : Cond.instanceMethod yX6_init ∈ lw_g := gw (wt_1 (List.mem_of_getElem? (i := 32) rfl)) rfl
theorem l_X11_9 : cI RX11 9 yX6_init cX6_init 2 0 := ⟨wd_139, wd_140, wd_110, wd_141, rfl, by decide +kernel⟩
theorem wd_257 : Cond.classLink RX11 24 RX7 ∈ lw_g := gw (wt_1 (List.mem_of_getElem? (i := 149) rfl)) rfl
theorem wd_258 : Cond.instantiable RX7 2 ∈ lw_g := gw (wt_1 (List.mem_of_getElem? (i := 150) rfl)) rfl
theorem on_X11_24 : fN RX11 24 7 2 := ⟨_, TX7, tyX7, rfl, inX7, tyX7_ok, wd_257, wd_258, wd_112, dvX7⟩
theorem wd_260 : Cond.instanceMethod yX7_init ∈ lw_g := gw (wt_1 (List.mem_of_getElem? (i := 152) rfl)) rfl
theorem wd_261 : Cond.code yX7_init cX7_init 1 (none) ∈ lw_g := gw (wt_1 (List.mem_of_getElem? (i := 153) rfl)) rfl
theorem l_X11_26 : cJ RX11 26 "SlackRace" yX7_init cX7_init 1 0 := ⟨List.mem_of_getElem? (i := 2) (by decide +kernel), wd_260, wd_112, wd_261, rfl, by decide +kernel⟩
theorem wd_275 : Cond.classLink RX11 31 RX3 ∈ lw_g := gw (wt_1 (List.mem_of_getElem? (i := 167) rfl)) rfl
theorem wd_276 : Cond.instantiable RX3 10 ∈ lw_g := gw (wt_1 (List.mem_of_getElem? (i := 168) rfl)) rfl
theorem on_X11_31 : fN RX11 31 3 10 := ⟨_, TX3, tyX3, rfl, inX3, tyX3_ok, wd_275, wd_276, wd_113, dvX3⟩
theorem wd_279 : Cond.code yX3_init cX3_init 2 (none) ∈ lw_g := gw (wt_1 (List.mem_of_getElem? (i := 171) rfl)) rfl
theorem wd_277 : Cond.methodLink RX11 33 yX3_init ∈ lw_g := gw (wt_1 (List.mem_of_getElem? (i := 169) rfl)) rfl
theorem wd_278 : Cond.instanceMethod yX3_init ∈ lw_g := gw (wt_1 (List.mem_of_getElem? (i := 170) rfl)) rfl
theorem l_X11_33 : cI RX11 33 yX3_init cX3_init 2 1 := ⟨wd_277, wd_278, wd_113, wd_279, rfl, by decide +kernel⟩
theorem wd_313 : Cond.classLink RX11 40 RX9 ∈ lw_g := gw (wt_1 (List.mem_of_getElem? (i := 205) rfl)) rfl
theorem wd_314 : Cond.instantiable RX9 14 ∈ lw_g := gw (wt_1 (List.mem_of_getElem? (i := 206) rfl)) rfl
theorem on_X11_40 : fN RX11 40 9 14 := ⟨_, TX9, tyX9, rfl, inX9, tyX9_ok, wd_313, wd_314, wd_114, dvX9⟩
theorem wd_317 : Cond.code yX9_init cX9_init 2 (none) ∈ lw_g := gw (wt_1 (List.mem_of_getElem? (i := 209) rfl)) rfl
theorem wd_315 : Cond.methodLink RX11 42 yX9_init ∈ lw_g := gw (wt_1 (List.mem_of_getElem? (i := 207) rfl)) rfl
theorem wd_316 : Cond.instanceMethod yX9_init ∈ lw_g := gw (wt_1 (List.mem_of_getElem? (i := 208) rfl)) rfl
theorem l_X11_42 : cI RX11 42 yX9_init cX9_init 2 1 := ⟨wd_315, wd_316, wd_114, wd_317, rfl, by decide +kernel⟩
theorem wd_390 : Cond.classLink RX11 49 RX10 ∈ lw_g := gw (wt_2 (List.mem_of_getElem? (i := 42) rfl)) rfl
theorem wd_391 : Cond.instantiable RX10 13 ∈ lw_g := gw (wt_2 (List.mem_of_getElem? (i := 43) rfl)) rfl
theorem on_X11_49 : fN RX11 49 10 13 := ⟨_, TX10, tyX10, rfl, inX10, tyX10_ok, wd_390, wd_391, wd_116, dvX10⟩
theorem wd_394 : Cond.code yX10_init cX10_init 3 (none) ∈ lw_g := gw (wt_2 (List.mem_of_getElem? (i := 46) rfl)) rfl
theorem wd_392 : Cond.methodLink RX11 51 yX10_init ∈ lw_g := gw (wt_2 (List.mem_of_getElem? (i := 44) rfl)) rfl
theorem wd_393 : Cond.instanceMethod yX10_init ∈ lw_g := gw (wt_2 (List.mem_of_getElem? (i := 45) rfl)) rfl
theorem l_X11_51 : cI RX11 51 yX10_init cX10_init 3 2 := ⟨wd_392, wd_393, wd_116, wd_394, rfl, by decide +kernel⟩
theorem wd_437 : Cond.classLink RX11 58 RX2 ∈ lw_g := gw (wt_2 (List.mem_of_getElem? (i := 89) rfl)) rfl
theorem wd_438 : Cond.instantiable RX2 9 ∈ lw_g := gw (wt_2 (List.mem_of_getElem? (i := 90) rfl)) rfl
theorem on_X11_58 : fN RX11 58 2 9 := ⟨_, TX2, tyX2, rfl, inX2, tyX2_ok, wd_437, wd_438, wd_117, dvX2⟩
theorem wd_441 : Cond.code yX2_init cX2_init 3 (none) ∈ lw_g := gw (wt_2 (List.mem_of_getElem? (i := 93) rfl)) rfl
theorem wd_439 : Cond.methodLink RX11 60 yX2_init ∈ lw_g := gw (wt_2 (List.mem_of_getElem? (i := 91) rfl)) rfl
theorem wd_440 : Cond.instanceMethod yX2_init ∈ lw_g := gw (wt_2 (List.mem_of_getElem? (i := 92) rfl)) rfl
theorem l_X11_60 : cI RX11 60 yX2_init cX2_init 3 2 := ⟨wd_439, wd_440, wd_117, wd_441, rfl, by decide +kernel⟩
theorem wd_475 : Cond.classLink RX11 65 RX5 ∈ lw_g := gw (wt_2 (List.mem_of_getElem? (i := 127) rfl)) rfl
theorem wd_476 : Cond.instantiable RX5 12 ∈ lw_g := gw (wt_2 (List.mem_of_getElem? (i := 128) rfl)) rfl
theorem on_X11_65 : fN RX11 65 5 12 := ⟨_, TX5, tyX5, rfl, inX5, tyX5_ok, wd_475, wd_476, wd_118, dvX5⟩
theorem wd_479 : Cond.code yX5_init cX5_init 3 (none) ∈ lw_g := gw (wt_2 (List.mem_of_getElem? (i := 131) rfl)) rfl
theorem wd_477 : Cond.methodLink RX11 67 yX5_init ∈ lw_g := gw (wt_2 (List.mem_of_getElem? (i := 129) rfl)) rfl
theorem wd_478 : Cond.instanceMethod yX5_init ∈ lw_g := gw (wt_2 (List.mem_of_getElem? (i := 130) rfl)) rfl
theorem l_X11_67 : cI RX11 67 yX5_init cX5_init 3 2 := ⟨wd_477, wd_478, wd_118, wd_479, rfl, by decide +kernel⟩
theorem wd_525 : Cond.classLink RX11 72 RX4 ∈ lw_g := gw (wt_2 (List.mem_of_getElem? (i := 177) rfl)) rfl
theorem wd_526 : Cond.instantiable RX4 5 ∈ lw_g := gw (wt_2 (List.mem_of_getElem? (i := 178) rfl)) rfl
theorem on_X11_72 : fN RX11 72 4 5 := ⟨_, TX4, tyX4, rfl, inX4, tyX4_ok, wd_525, wd_526, wd_119, dvX4⟩
theorem wd_529 : Cond.code yX4_init cX4_init 2 (none) ∈ lw_g := gw (wt_2 (List.mem_of_getElem? (i := 181) rfl)) rfl
theorem wd_527 : Cond.methodLink RX11 74 yX4_init ∈ lw_g := gw (wt_2 (List.mem_of_getElem? (i := 179) rfl)) rfl
theorem wd_528 : Cond.instanceMethod yX4_init ∈ lw_g := gw (wt_2 (List.mem_of_getElem? (i := 180) rfl)) rfl
theorem l_X11_74 : cI RX11 74 yX4_init cX4_init 2 1 := ⟨wd_527, wd_528, wd_119, wd_529, rfl, by decide +kernel⟩
theorem wd_548 : Cond.classLink RX11 81 RX0 ∈ lw_g := gw (wt_2 (List.mem_of_getElem? (i := 200) rfl)) rfl
theorem wd_549 : Cond.instantiable RX0 4 ∈ lw_g := gw (wt_2 (List.mem_of_getElem? (i := 201) rfl)) rfl
theorem on_X11_81 : fN RX11 81 0 4 := ⟨_, TX0, tyX0, rfl, inX0, tyX0_ok, wd_548, wd_549, wd_120, dvX0⟩
theorem wd_552 : Cond.code yX0_init cX0_init 3 (none) ∈ lw_g := gw (wt_2 (List.mem_of_getElem? (i := 204) rfl)) rfl
theorem wd_550 : Cond.methodLink RX11 83 yX0_init ∈ lw_g := gw (wt_2 (List.mem_of_getElem? (i := 202) rfl)) rfl
theorem wd_551 : Cond.instanceMethod yX0_init ∈ lw_g := gw (wt_2 (List.mem_of_getElem? (i := 203) rfl)) rfl
theorem l_X11_83 : cI RX11 83 yX0_init cX0_init 3 2 := ⟨wd_550, wd_551, wd_120, wd_552, rfl, by decide +kernel⟩
theorem wd_553 : Cond.methodLink RX0 3 Lib.objectInit ∈ lw_g := gw (wt_2 (List.mem_of_getElem? (i := 205) rfl)) rfl
theorem wd_530 : Cond.methodLink RX4 3 Lib.objectInit ∈ lw_g := gw (wt_2 (List.mem_of_getElem? (i := 182) rfl)) rfl
theorem wd_480 : Cond.methodLink RX5 3 Lib.objectInit ∈ lw_g := gw (wt_2 (List.mem_of_getElem? (i := 132) rfl)) rfl
theorem wd_442 : Cond.methodLink RX2 3 Lib.objectInit ∈ lw_g := gw (wt_2 (List.mem_of_getElem? (i := 94) rfl)) rfl
theorem wd_395 : Cond.methodLink RX10 5 Lib.objectInit ∈ lw_g := gw (wt_2 (List.mem_of_getElem? (i := 47) rfl)) rfl
theorem wd_318 : Cond.methodLink RX9 3 Lib.objectInit ∈ lw_g := gw (wt_1 (List.mem_of_getElem? (i := 210) rfl)) rfl
theorem wd_319 : Cond.classLink RX9 9 RX8 ∈ lw_g := gw (wt_1 (List.mem_of_getElem? (i := 211) rfl)) rfl
theorem wd_320 : Cond.instantiable RX8 3 ∈ lw_g := gw (wt_1 (List.mem_of_getElem? (i := 212) rfl)) rfl
theorem on_X9_9 : fN RX9 9 8 3 := ⟨_, TX8, tyX8, rfl, inX8, tyX8_ok, wd_319, wd_320, wd_115, dvX8⟩
theorem wd_322 : Cond.instanceMethod yX8_init ∈ lw_g := gw (wt_1 (List.mem_of_getElem? (i := 214) rfl)) rfl
theorem wd_323 : Cond.code yX8_init cX8_init 1 (none) ∈ lw_g := gw (wt_1 (List.mem_of_getElem? (i := 215) rfl)) rfl
theorem l_X9_11 : cJ RX9 11 "SlackRace" yX8_init cX8_init 1 0 := ⟨List.mem_of_getElem? (i := 3) (by decide +kernel), wd_322, wd_115, wd_323, rfl, by decide +kernel⟩
theorem wd_324 : Cond.methodLink RX8 1 Lib.objectInit ∈ lw_g := gw (wt_1 (List.mem_of_getElem? (i := 216) rfl)) rfl
theorem wd_280 : Cond.methodLink RX3 3 Lib.objectInit ∈ lw_g := gw (wt_1 (List.mem_of_getElem? (i := 172) rfl)) rfl
theorem wd_262 : Cond.methodLink RX7 3 Lib.objectInit ∈ lw_g := gw (wt_1 (List.mem_of_getElem? (i := 154) rfl)) rfl
theorem wd_142 : Cond.methodLink RX6 3 Lib.objectInit ∈ lw_g := gw (wt_1 (List.mem_of_getElem? (i := 34) rfl)) rfl
theorem wd_145 : Cond.methodLink RX6 21 ⟨"[I", "clone", "()Ljava/lang/Object;"⟩ ∈ lw_g := gw (wt_1 (List.mem_of_getElem? (i := 37) rfl)) rfl
theorem wd_151 : Cond.classLink RX6 22 "[I" ∈ lw_g := gw (wt_1 (List.mem_of_getElem? (i := 43) rfl)) rfl
theorem wd_152 : Cond.classLink RX6 32 RX1 ∈ lw_g := gw (wt_1 (List.mem_of_getElem? (i := 44) rfl)) rfl
theorem wd_156 : Cond.methodLink RX6 84 yJ7_fill_53178 ∈ lw_g := gw (wt_1 (List.mem_of_getElem? (i := 48) rfl)) rfl
theorem l_X6_84 : cS RX6 84 yJ7_fill_53178 cJ7_fill_53178 4 (none) 2 := ⟨wd_156, wd_157, wd_111, wd_158, by decide +kernel⟩
theorem wd_129 : Cond.classLink RL 7 RX11 ∈ lw_g := gw (wt_1 (List.mem_of_getElem? (i := 21) rfl)) rfl
theorem wd_130 : Cond.instantiable RX11 15 ∈ lw_g := gw (wt_1 (List.mem_of_getElem? (i := 22) rfl)) rfl
theorem on_L_7 : fN RL 7 11 15 := ⟨_, TX11, tyX11, rfl, inX11, tyX11_ok, wd_129, wd_130, wd_109, dvX11⟩
theorem wd_133 : Cond.code yX11_init cX11_init 1 (none) ∈ lw_g := gw (wt_1 (List.mem_of_getElem? (i := 25) rfl)) rfl
theorem wd_131 : Cond.methodLink RL 9 yX11_init ∈ lw_g := gw (wt_1 (List.mem_of_getElem? (i := 23) rfl)) rfl
theorem wd_132 : Cond.instanceMethod yX11_init ∈ lw_g := gw (wt_1 (List.mem_of_getElem? (i := 24) rfl)) rfl
theorem l_L_9 : cI RL 9 yX11_init cX11_init 1 0 := ⟨wd_131, wd_132, wd_109, wd_133, rfl, by decide +kernel⟩
theorem wd_1319 : Cond.classLink RL 10 RX12 ∈ lw_g := gw (wt_6 (List.mem_of_getElem? (i := 11) rfl)) rfl
theorem wd_1320 : Cond.instantiable RX12 52 ∈ lw_g := gw (wt_6 (List.mem_of_getElem? (i := 12) rfl)) rfl
theorem on_L_10 : fN RL 10 12 52 := ⟨_, TX12, tyX12, rfl, inX12, tyX12_ok, wd_1319, wd_1320, wd_121, dvX12⟩
theorem wd_1323 : Cond.code yX12_init cX12_init 2 (none) ∈ lw_g := gw (wt_6 (List.mem_of_getElem? (i := 15) rfl)) rfl
theorem wd_1321 : Cond.methodLink RL 12 yX12_init ∈ lw_g := gw (wt_6 (List.mem_of_getElem? (i := 13) rfl)) rfl
theorem wd_1322 : Cond.instanceMethod yX12_init ∈ lw_g := gw (wt_6 (List.mem_of_getElem? (i := 14) rfl)) rfl
theorem l_L_12 : cI RL 12 yX12_init cX12_init 2 0 := ⟨wd_1321, wd_1322, wd_121, wd_1323, rfl, by decide +kernel⟩
