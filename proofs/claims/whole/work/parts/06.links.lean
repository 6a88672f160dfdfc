theorem tb_in {w : Cond} (i : Nat) (h : tables_1[i]? = some w) : w ∈ lw_tbl := List.mem_append_right _ (List.mem_of_getElem? h)
theorem gw1 {w : Cond} (i : Nat) (h : tables_1[i]? = some w) (hg : goodWord w = true) : w ∈ gw := gw_in (tb_in i h) hg
theorem gwp {w : Cond} (i : Nat) (h : (k2_sels lw_privs)[i]? = some w) (hg : goodWord w = true) : w ∈ gw := gw_in (List.mem_append_left _ (List.mem_of_getElem? h)) hg
theorem gw_of {ws : List Cond} (ps : List Nat) (hp : ws = ps.filterMap (fun i => tables_1[i]?)) (h : ws.all goodWord = true) : ∀ w ∈ ws, w ∈ gw := by
  intro w hw
  have h1 := List.all_eq_true.mp h w hw
  rw [hp] at hw
  obtain ⟨i, -, hi⟩ := List.mem_filterMap.mp hw
  exact gw1 i hi h1
set_option maxRecDepth 20000 in
theorem inG0 : ∀ w ∈ u_ws RX0 TX0 7, w ∈ gw := gw_of [84, 86, 88, 90, 92, 94, 96] (by decide +kernel) (by decide +kernel)
set_option maxRecDepth 20000 in
theorem inG1 : ∀ w ∈ u_ws RX1 TX1 15, w ∈ gw := gw_of [291, 293, 295, 297, 299, 301, 303, 305, 307, 309, 311, 313, 315, 317, 319] (by decide +kernel) (by decide +kernel)
set_option maxRecDepth 20000 in
theorem inG2 : ∀ w ∈ u_ws RX2 TX2 3, w ∈ gw := gw_of [56, 58, 60] (by decide +kernel) (by decide +kernel)
set_option maxRecDepth 20000 in
theorem inG3 : ∀ w ∈ u_ws RX3 TX3 3, w ∈ gw := gw_of [218, 220, 222] (by decide +kernel) (by decide +kernel)
set_option maxRecDepth 20000 in
theorem inG4 : ∀ w ∈ u_ws RX4 TX4 11, w ∈ gw := gw_of [375, 377, 379, 381, 383, 385, 387, 389, 391, 393, 395] (by decide +kernel) (by decide +kernel)
set_option maxRecDepth 20000 in
theorem inG5 : ∀ w ∈ u_ws RX5 TX5 17, w ∈ gw := gw_of [168, 170, 172, 174, 176, 178, 180, 182, 184, 186, 188, 190, 192, 194, 196, 198, 200] (by decide +kernel) (by decide +kernel)
set_option maxRecDepth 20000 in
theorem inG6 : ∀ w ∈ u_ws RX6 TX6 3, w ∈ gw := gw_of [114, 116, 118] (by decide +kernel) (by decide +kernel)
set_option maxRecDepth 20000 in
theorem inG7 : ∀ w ∈ u_ws RX7 TX7 4, w ∈ gw := gw_of [413, 415, 417, 419] (by decide +kernel) (by decide +kernel)
set_option maxRecDepth 20000 in
theorem inG8 : ∀ w ∈ u_ws RX8 TX8 5, w ∈ gw := gw_of [240, 242, 244, 246, 248] (by decide +kernel) (by decide +kernel)
set_option maxRecDepth 20000 in
theorem inG9 : ∀ w ∈ u_ws RX9 TX9 6, w ∈ gw := gw_of [342, 344, 346, 348, 350, 352] (by decide +kernel) (by decide +kernel)
set_option maxRecDepth 20000 in
theorem inG10 : ∀ w ∈ u_ws RX10 TX10 4, w ∈ gw := gw_of [261, 263, 265, 267] (by decide +kernel) (by decide +kernel)
set_option maxRecDepth 20000 in
theorem inG11 : ∀ w ∈ u_ws RX11 TX11 12, w ∈ gw := gw_of [512, 514, 516, 518, 520, 522, 524, 526, 528, 530, 532, 534] (by decide +kernel) (by decide +kernel)
set_option maxRecDepth 20000 in
theorem inG12 : ∀ w ∈ u_ws RX12 TX12 53, w ∈ gw := gw_of [1185, 1187, 1189, 1191, 1193, 1195, 1197, 1199, 1201, 1203, 1205, 1207, 1209, 1211, 1213, 1215, 1217, 1219, 1221, 1223, 1225, 1227, 1229, 1231, 1233, 1235, 1237, 1239, 1241, 1243, 1245, 1247, 1249, 1251, 1253, 1255, 1257, 1259, 1261, 1263, 1265, 1267, 1269, 1271, 1273, 1275, 1277, 1279, 1281, 1283, 1285, 1287, 1289] (by decide +kernel) (by decide +kernel)
theorem flX11_12 : FL RX11 12 11 0 := ⟨RX11, TX11, 12, tyX11, rfl, by decide, inG11, tyX11_ok, nmX11, Or.inl (gw1 500 (by decide +kernel) rfl)⟩
theorem flX11_21 : FL RX11 21 11 1 := ⟨RX11, TX11, 12, tyX11, rfl, by decide, inG11, tyX11_ok, nmX11, Or.inl (gw1 501 (by decide +kernel) rfl)⟩
theorem flX11_28 : FL RX11 28 11 2 := ⟨RX11, TX11, 12, tyX11, rfl, by decide, inG11, tyX11_ok, nmX11, Or.inl (gw1 502 (by decide +kernel) rfl)⟩
theorem flX11_35 : FL RX11 35 11 3 := ⟨RX11, TX11, 12, tyX11, rfl, by decide, inG11, tyX11_ok, nmX11, Or.inl (gw1 503 (by decide +kernel) rfl)⟩
theorem flX11_42 : FL RX11 42 11 4 := ⟨RX11, TX11, 12, tyX11, rfl, by decide, inG11, tyX11_ok, nmX11, Or.inl (gw1 504 (by decide +kernel) rfl)⟩
theorem flX11_49 : FL RX11 49 11 5 := ⟨RX11, TX11, 12, tyX11, rfl, by decide, inG11, tyX11_ok, nmX11, Or.inl (gw1 505 (by decide +kernel) rfl)⟩
theorem flX11_58 : FL RX11 58 11 6 := ⟨RX11, TX11, 12, tyX11, rfl, by decide, inG11, tyX11_ok, nmX11, Or.inl (gw1 506 (by decide +kernel) rfl)⟩
theorem flX11_62 : FL RX11 62 11 7 := ⟨RX11, TX11, 12, tyX11, rfl, by decide, inG11, tyX11_ok, nmX11, Or.inl (gw1 507 (by decide +kernel) rfl)⟩
theorem flX11_68 : FL RX11 68 11 8 := ⟨RX11, TX11, 12, tyX11, rfl, by decide, inG11, tyX11_ok, nmX11, Or.inl (gw1 508 (by decide +kernel) rfl)⟩
theorem flX11_75 : FL RX11 75 11 9 := ⟨RX11, TX11, 12, tyX11, rfl, by decide, inG11, tyX11_ok, nmX11, Or.inl (gw1 509 (by decide +kernel) rfl)⟩
theorem flX11_81 : FL RX11 81 11 10 := ⟨RX11, TX11, 12, tyX11, rfl, by decide, inG11, tyX11_ok, nmX11, Or.inl (gw1 510 (by decide +kernel) rfl)⟩
theorem flX11_94 : FL RX11 94 0 2 := ⟨RX0, TX0, 7, tyX0, rfl, by decide, inG0, tyX0_ok, nmX0, Or.inr ⟨"PegCourt", tb_in 74 (by decide +kernel)⟩⟩
theorem fpX11_94 : FP RX11 94 0 2 false := ⟨flX11_94, fun _ _ _ h => by cases h; exact ⟨rfl, rfl⟩⟩
theorem flX11_110 : FL RX11 110 9 5 := ⟨RX9, TX9, 6, tyX9, rfl, by decide, inG9, tyX9_ok, nmX9, Or.inr ⟨"PegCourt", tb_in 340 (by decide +kernel)⟩⟩
theorem fpX11_110 : FP RX11 110 9 5 false := ⟨flX11_110, fun _ _ _ h => by cases h; exact ⟨rfl, rfl⟩⟩
theorem flX11_116 : FL RX11 116 11 11 := ⟨RX11, TX11, 12, tyX11, rfl, by decide, inG11, tyX11_ok, nmX11, Or.inl (gw1 511 (by decide +kernel) rfl)⟩
theorem fpX11_116 : FP RX11 116 11 11 false := ⟨flX11_116, fun _ _ _ h => by cases h; exact ⟨rfl, rfl⟩⟩
theorem flX11_119 : FL RX11 119 5 14 := ⟨RX5, TX5, 17, tyX5, rfl, by decide, inG5, tyX5_ok, nmX5, Or.inr ⟨"PegCourt", tb_in 163 (by decide +kernel)⟩⟩
theorem fpX11_119 : FP RX11 119 5 14 false := ⟨flX11_119, fun _ _ _ h => by cases h; exact ⟨rfl, rfl⟩⟩
theorem flX11_125 : FL RX11 125 5 12 := ⟨RX5, TX5, 17, tyX5, rfl, by decide, inG5, tyX5_ok, nmX5, Or.inr ⟨"PegCourt", tb_in 154 (by decide +kernel)⟩⟩
theorem fpX11_125 : FP RX11 125 5 12 false := ⟨flX11_125, fun _ _ _ h => by cases h; exact ⟨rfl, rfl⟩⟩
theorem flX11_132 : FL RX11 132 5 4 := ⟨RX5, TX5, 17, tyX5, rfl, by decide, inG5, tyX5_ok, nmX5, Or.inr ⟨"PegCourt", tb_in 133 (by decide +kernel)⟩⟩
theorem flX11_136 : FL RX11 136 5 11 := ⟨RX5, TX5, 17, tyX5, rfl, by decide, inG5, tyX5_ok, nmX5, Or.inr ⟨"PegCourt", tb_in 152 (by decide +kernel)⟩⟩
theorem fpX11_136 : FP RX11 136 5 11 false := ⟨flX11_136, fun _ _ _ h => by cases h; exact ⟨rfl, rfl⟩⟩
theorem flX11_142 : FL RX11 142 5 10 := ⟨RX5, TX5, 17, tyX5, rfl, by decide, inG5, tyX5_ok, nmX5, Or.inr ⟨"PegCourt", tb_in 150 (by decide +kernel)⟩⟩
theorem fpX11_142 : FP RX11 142 5 10 false := ⟨flX11_142, fun _ _ _ h => by cases h; exact ⟨rfl, rfl⟩⟩
theorem flX11_158 : FL RX11 158 2 0 := ⟨RX2, TX2, 3, tyX2, rfl, by decide, inG2, tyX2_ok, nmX2, Or.inr ⟨"PegCourt", tb_in 45 (by decide +kernel)⟩⟩
theorem flX11_162 : FL RX11 162 0 0 := ⟨RX0, TX0, 7, tyX0, rfl, by decide, inG0, tyX0_ok, nmX0, Or.inr ⟨"PegCourt", tb_in 67 (by decide +kernel)⟩⟩
theorem fpX11_162 : FP RX11 162 0 0 false := ⟨flX11_162, fun _ _ _ h => by cases h; exact ⟨rfl, rfl⟩⟩
theorem flX11_165 : FL RX11 165 0 1 := ⟨RX0, TX0, 7, tyX0, rfl, by decide, inG0, tyX0_ok, nmX0, Or.inr ⟨"PegCourt", tb_in 71 (by decide +kernel)⟩⟩
theorem fpX11_165 : FP RX11 165 0 1 false := ⟨flX11_165, fun _ _ _ h => by cases h; exact ⟨rfl, rfl⟩⟩
theorem flX11_182 : FL RX11 182 5 13 := ⟨RX5, TX5, 17, tyX5, rfl, by decide, inG5, tyX5_ok, nmX5, Or.inr ⟨"PegCourt", tb_in 161 (by decide +kernel)⟩⟩
theorem fpX11_182 : FP RX11 182 5 13 false := ⟨flX11_182, fun _ _ _ h => by cases h; exact ⟨rfl, rfl⟩⟩
theorem flX11_185 : FL RX11 185 2 1 := ⟨RX2, TX2, 3, tyX2, rfl, by decide, inG2, tyX2_ok, nmX2, Or.inr ⟨"PegCourt", tb_in 50 (by decide +kernel)⟩⟩
theorem fpX11_185 : FP RX11 185 2 1 false := ⟨flX11_185, fun _ _ _ h => by cases h; exact ⟨rfl, rfl⟩⟩
theorem flX11_188 : FL RX11 188 2 2 := ⟨RX2, TX2, 3, tyX2, rfl, by decide, inG2, tyX2_ok, nmX2, Or.inr ⟨"PegCourt", tb_in 54 (by decide +kernel)⟩⟩
theorem fpX11_188 : FP RX11 188 2 2 false := ⟨flX11_188, fun _ _ _ h => by cases h; exact ⟨rfl, rfl⟩⟩
theorem flX11_195 : FL RX11 195 3 1 := ⟨RX3, TX3, 3, tyX3, rfl, by decide, inG3, tyX3_ok, nmX3, Or.inr ⟨"PegCourt", tb_in 215 (by decide +kernel)⟩⟩
theorem fpX11_195 : FP RX11 195 3 1 false := ⟨flX11_195, fun _ _ _ h => by cases h; exact ⟨rfl, rfl⟩⟩
theorem flX11_215 : FL RX11 215 5 15 := ⟨RX5, TX5, 17, tyX5, rfl, by decide, inG5, tyX5_ok, nmX5, Or.inr ⟨"PegCourt", tb_in 165 (by decide +kernel)⟩⟩
theorem fpX11_215 : FP RX11 215 5 15 false := ⟨flX11_215, fun _ _ _ h => by cases h; exact ⟨rfl, rfl⟩⟩
theorem flX11_226 : FL RX11 226 5 3 := ⟨RX5, TX5, 17, tyX5, rfl, by decide, inG5, tyX5_ok, nmX5, Or.inr ⟨"PegCourt", tb_in 131 (by decide +kernel)⟩⟩
theorem flX11_232 : FL RX11 232 5 2 := ⟨RX5, TX5, 17, tyX5, rfl, by decide, inG5, tyX5_ok, nmX5, Or.inr ⟨"PegCourt", tb_in 129 (by decide +kernel)⟩⟩
theorem flX11_233 : FL RX11 233 5 7 := ⟨RX5, TX5, 17, tyX5, rfl, by decide, inG5, tyX5_ok, nmX5, Or.inr ⟨"PegCourt", tb_in 144 (by decide +kernel)⟩⟩
theorem flX11_236 : FL RX11 236 5 6 := ⟨RX5, TX5, 17, tyX5, rfl, by decide, inG5, tyX5_ok, nmX5, Or.inr ⟨"PegCourt", tb_in 138 (by decide +kernel)⟩⟩
theorem flX11_242 : FL RX11 242 3 0 := ⟨RX3, TX3, 3, tyX3, rfl, by decide, inG3, tyX3_ok, nmX3, Or.inr ⟨"PegCourt", tb_in 212 (by decide +kernel)⟩⟩
theorem flX11_250 : FL RX11 250 8 0 := ⟨RX8, TX8, 5, tyX8, rfl, by decide, inG8, tyX8_ok, nmX8, Or.inr ⟨"PegCourt", tb_in 232 (by decide +kernel)⟩⟩
theorem fpX11_250 : FP RX11 250 8 0 false := ⟨flX11_250, fun _ _ _ h => by cases h; exact ⟨rfl, rfl⟩⟩
theorem flX11_253 : FL RX11 253 8 1 := ⟨RX8, TX8, 5, tyX8, rfl, by decide, inG8, tyX8_ok, nmX8, Or.inr ⟨"PegCourt", tb_in 234 (by decide +kernel)⟩⟩
theorem fpX11_253 : FP RX11 253 8 1 false := ⟨flX11_253, fun _ _ _ h => by cases h; exact ⟨rfl, rfl⟩⟩
theorem flX11_256 : FL RX11 256 8 2 := ⟨RX8, TX8, 5, tyX8, rfl, by decide, inG8, tyX8_ok, nmX8, Or.inr ⟨"PegCourt", tb_in 236 (by decide +kernel)⟩⟩
theorem fpX11_256 : FP RX11 256 8 2 false := ⟨flX11_256, fun _ _ _ h => by cases h; exact ⟨rfl, rfl⟩⟩
theorem flX11_259 : FL RX11 259 8 3 := ⟨RX8, TX8, 5, tyX8, rfl, by decide, inG8, tyX8_ok, nmX8, Or.inr ⟨"PegCourt", tb_in 238 (by decide +kernel)⟩⟩
theorem fpX11_259 : FP RX11 259 8 3 false := ⟨flX11_259, fun _ _ _ h => by cases h; exact ⟨rfl, rfl⟩⟩
theorem flX11_299 : FL RX11 299 9 0 := ⟨RX9, TX9, 6, tyX9, rfl, by decide, inG9, tyX9_ok, nmX9, Or.inr ⟨"PegCourt", tb_in 330 (by decide +kernel)⟩⟩
theorem flX11_302 : FL RX11 302 9 1 := ⟨RX9, TX9, 6, tyX9, rfl, by decide, inG9, tyX9_ok, nmX9, Or.inr ⟨"PegCourt", tb_in 332 (by decide +kernel)⟩⟩
theorem flX11_305 : FL RX11 305 9 2 := ⟨RX9, TX9, 6, tyX9, rfl, by decide, inG9, tyX9_ok, nmX9, Or.inr ⟨"PegCourt", tb_in 334 (by decide +kernel)⟩⟩
theorem flX11_306 : FL RX11 306 9 3 := ⟨RX9, TX9, 6, tyX9, rfl, by decide, inG9, tyX9_ok, nmX9, Or.inr ⟨"PegCourt", tb_in 336 (by decide +kernel)⟩⟩
theorem flX11_307 : FL RX11 307 9 4 := ⟨RX9, TX9, 6, tyX9, rfl, by decide, inG9, tyX9_ok, nmX9, Or.inr ⟨"PegCourt", tb_in 338 (by decide +kernel)⟩⟩
theorem flX11_310 : FL RX11 310 4 8 := ⟨RX4, TX4, 11, tyX4, rfl, by decide, inG4, tyX4_ok, nmX4, Or.inr ⟨"PegCourt", tb_in 370 (by decide +kernel)⟩⟩
theorem fpX11_310 : FP RX11 310 4 8 false := ⟨flX11_310, fun _ _ _ h => by cases h; exact ⟨rfl, rfl⟩⟩
theorem flX11_322 : FL RX11 322 4 9 := ⟨RX4, TX4, 11, tyX4, rfl, by decide, inG4, tyX4_ok, nmX4, Or.inr ⟨"PegCourt", tb_in 372 (by decide +kernel)⟩⟩
theorem fpX11_322 : FP RX11 322 4 9 false := ⟨flX11_322, fun _ _ _ h => by cases h; exact ⟨rfl, rfl⟩⟩
theorem flX11_328 : FL RX11 328 4 10 := ⟨RX4, TX4, 11, tyX4, rfl, by decide, inG4, tyX4_ok, nmX4, Or.inr ⟨"PegCourt", tb_in 374 (by decide +kernel)⟩⟩
theorem fpX11_328 : FP RX11 328 4 10 false := ⟨flX11_328, fun _ _ _ h => by cases h; exact ⟨rfl, rfl⟩⟩
theorem flX11_341 : FL RX11 341 7 1 := ⟨RX7, TX7, 4, tyX7, rfl, by decide, inG7, tyX7_ok, nmX7, Or.inr ⟨"PegCourt", tb_in 408 (by decide +kernel)⟩⟩
theorem fpX11_341 : FP RX11 341 7 1 false := ⟨flX11_341, fun _ _ _ h => by cases h; exact ⟨rfl, rfl⟩⟩
theorem flX11_351 : FL RX11 351 7 0 := ⟨RX7, TX7, 4, tyX7, rfl, by decide, inG7, tyX7_ok, nmX7, Or.inr ⟨"PegCourt", tb_in 406 (by decide +kernel)⟩⟩
theorem flX11_383 : FL RX11 383 7 3 := ⟨RX7, TX7, 4, tyX7, rfl, by decide, inG7, tyX7_ok, nmX7, Or.inr ⟨"PegCourt", tb_in 412 (by decide +kernel)⟩⟩
theorem fpX11_383 : FP RX11 383 7 3 false := ⟨flX11_383, fun _ _ _ h => by cases h; exact ⟨rfl, rfl⟩⟩
theorem flX11_392 : FL RX11 392 7 2 := ⟨RX7, TX7, 4, tyX7, rfl, by decide, inG7, tyX7_ok, nmX7, Or.inr ⟨"PegCourt", tb_in 410 (by decide +kernel)⟩⟩
theorem fpX11_392 : FP RX11 392 7 2 false := ⟨flX11_392, fun _ _ _ h => by cases h; exact ⟨rfl, rfl⟩⟩
theorem flX11_401 : FL RX11 401 5 8 := ⟨RX5, TX5, 17, tyX5, rfl, by decide, inG5, tyX5_ok, nmX5, Or.inr ⟨"PegCourt", tb_in 146 (by decide +kernel)⟩⟩
theorem fpX11_401 : FP RX11 401 5 8 false := ⟨flX11_401, fun _ _ _ h => by cases h; exact ⟨rfl, rfl⟩⟩
theorem flX0_9 : FL RX0 9 0 3 := ⟨RX0, TX0, 7, tyX0, rfl, by decide, inG0, tyX0_ok, nmX0, Or.inl (gw1 78 (by decide +kernel) rfl)⟩
theorem flX0_15 : FL RX0 15 0 4 := ⟨RX0, TX0, 7, tyX0, rfl, by decide, inG0, tyX0_ok, nmX0, Or.inl (gw1 80 (by decide +kernel) rfl)⟩
theorem flX0_18 : FL RX0 18 0 5 := ⟨RX0, TX0, 7, tyX0, rfl, by decide, inG0, tyX0_ok, nmX0, Or.inl (gw1 82 (by decide +kernel) rfl)⟩
theorem flX0_24 : FL RX0 24 0 6 := ⟨RX0, TX0, 7, tyX0, rfl, by decide, inG0, tyX0_ok, nmX0, Or.inl (gw1 83 (by decide +kernel) rfl)⟩
theorem flX0_28 : FL RX0 28 0 0 := ⟨RX0, TX0, 7, tyX0, rfl, by decide, inG0, tyX0_ok, nmX0, Or.inl (gw1 66 (by decide +kernel) rfl)⟩
theorem fpX0_28 : FP RX0 28 0 0 false := ⟨flX0_28, fun _ _ _ h => by cases h; exact ⟨rfl, rfl⟩⟩
theorem flX0_32 : FL RX0 32 0 1 := ⟨RX0, TX0, 7, tyX0, rfl, by decide, inG0, tyX0_ok, nmX0, Or.inl (gw1 70 (by decide +kernel) rfl)⟩
theorem fpX0_32 : FP RX0 32 0 1 false := ⟨flX0_32, fun _ _ _ h => by cases h; exact ⟨rfl, rfl⟩⟩
theorem flX0_39 : FL RX0 39 0 2 := ⟨RX0, TX0, 7, tyX0, rfl, by decide, inG0, tyX0_ok, nmX0, Or.inl (gw1 76 (by decide +kernel) rfl)⟩
theorem fpX0_39 : FP RX0 39 0 2 false := ⟨flX0_39, fun _ _ _ h => by cases h; exact ⟨rfl, rfl⟩⟩
theorem flX0_50 : FL RX0 50 2 1 := ⟨RX2, TX2, 3, tyX2, rfl, by decide, inG2, tyX2_ok, nmX2, Or.inr ⟨"PegCourt", tb_in 48 (by decide +kernel)⟩⟩
theorem fpX0_50 : FP RX0 50 2 1 false := ⟨flX0_50, fun _ _ _ h => by cases h; exact ⟨rfl, rfl⟩⟩
theorem flX0_52 : FL RX0 52 2 2 := ⟨RX2, TX2, 3, tyX2, rfl, by decide, inG2, tyX2_ok, nmX2, Or.inr ⟨"PegCourt", tb_in 52 (by decide +kernel)⟩⟩
theorem fpX0_52 : FP RX0 52 2 2 false := ⟨flX0_52, fun _ _ _ h => by cases h; exact ⟨rfl, rfl⟩⟩
theorem flX0_70 : FL RX0 70 2 0 := ⟨RX2, TX2, 3, tyX2, rfl, by decide, inG2, tyX2_ok, nmX2, Or.inr ⟨"PegCourt", tb_in 47 (by decide +kernel)⟩⟩
theorem flX1_11 : FL RX1 11 1 2 := ⟨RX1, TX1, 15, tyX1, rfl, by decide, inG1, tyX1_ok, nmX1, Or.inl (gw1 278 (by decide +kernel) rfl)⟩
theorem flX1_15 : FL RX1 15 1 13 := ⟨RX1, TX1, 15, tyX1, rfl, by decide, inG1, tyX1_ok, nmX1, Or.inl (gw1 289 (by decide +kernel) rfl)⟩
theorem flX1_18 : FL RX1 18 1 14 := ⟨RX1, TX1, 15, tyX1, rfl, by decide, inG1, tyX1_ok, nmX1, Or.inl (gw1 290 (by decide +kernel) rfl)⟩
theorem flX1_21 : FL RX1 21 1 0 := ⟨RX1, TX1, 15, tyX1, rfl, by decide, inG1, tyX1_ok, nmX1, Or.inl (gw1 276 (by decide +kernel) rfl)⟩
theorem flX1_25 : FL RX1 25 1 1 := ⟨RX1, TX1, 15, tyX1, rfl, by decide, inG1, tyX1_ok, nmX1, Or.inl (gw1 277 (by decide +kernel) rfl)⟩
theorem flX1_29 : FL RX1 29 1 7 := ⟨RX1, TX1, 15, tyX1, rfl, by decide, inG1, tyX1_ok, nmX1, Or.inl (gw1 283 (by decide +kernel) rfl)⟩
theorem flX1_32 : FL RX1 32 1 8 := ⟨RX1, TX1, 15, tyX1, rfl, by decide, inG1, tyX1_ok, nmX1, Or.inl (gw1 284 (by decide +kernel) rfl)⟩
theorem flX1_35 : FL RX1 35 1 9 := ⟨RX1, TX1, 15, tyX1, rfl, by decide, inG1, tyX1_ok, nmX1, Or.inl (gw1 285 (by decide +kernel) rfl)⟩
theorem flX1_38 : FL RX1 38 1 10 := ⟨RX1, TX1, 15, tyX1, rfl, by decide, inG1, tyX1_ok, nmX1, Or.inl (gw1 286 (by decide +kernel) rfl)⟩
theorem flX1_41 : FL RX1 41 1 11 := ⟨RX1, TX1, 15, tyX1, rfl, by decide, inG1, tyX1_ok, nmX1, Or.inl (gw1 287 (by decide +kernel) rfl)⟩
theorem flX1_45 : FL RX1 45 1 12 := ⟨RX1, TX1, 15, tyX1, rfl, by decide, inG1, tyX1_ok, nmX1, Or.inl (gw1 288 (by decide +kernel) rfl)⟩
theorem flX1_52 : FL RX1 52 0 0 := ⟨RX0, TX0, 7, tyX0, rfl, by decide, inG0, tyX0_ok, nmX0, Or.inr ⟨"PegCourt", tb_in 65 (by decide +kernel)⟩⟩
theorem fpX1_52 : FP RX1 52 0 0 false := ⟨flX1_52, fun _ _ _ h => by cases h; exact ⟨rfl, rfl⟩⟩
theorem flX1_58 : FL RX1 58 1 4 := ⟨RX1, TX1, 15, tyX1, rfl, by decide, inG1, tyX1_ok, nmX1, Or.inl (gw1 280 (by decide +kernel) rfl)⟩
theorem fpX1_58 : FP RX1 58 1 4 false := ⟨flX1_58, fun _ _ _ h => by cases h; exact ⟨rfl, rfl⟩⟩
theorem flX1_59 : FL RX1 59 0 1 := ⟨RX0, TX0, 7, tyX0, rfl, by decide, inG0, tyX0_ok, nmX0, Or.inr ⟨"PegCourt", tb_in 68 (by decide +kernel)⟩⟩
theorem fpX1_59 : FP RX1 59 0 1 false := ⟨flX1_59, fun _ _ _ h => by cases h; exact ⟨rfl, rfl⟩⟩
theorem flX1_62 : FL RX1 62 1 5 := ⟨RX1, TX1, 15, tyX1, rfl, by decide, inG1, tyX1_ok, nmX1, Or.inl (gw1 281 (by decide +kernel) rfl)⟩
theorem fpX1_62 : FP RX1 62 1 5 false := ⟨flX1_62, fun _ _ _ h => by cases h; exact ⟨rfl, rfl⟩⟩
theorem flX1_63 : FL RX1 63 5 13 := ⟨RX5, TX5, 17, tyX5, rfl, by decide, inG5, tyX5_ok, nmX5, Or.inr ⟨"PegCourt", tb_in 157 (by decide +kernel)⟩⟩
theorem fpX1_63 : FP RX1 63 5 13 false := ⟨flX1_63, fun _ _ _ h => by cases h; exact ⟨rfl, rfl⟩⟩
theorem flX1_74 : FL RX1 74 1 3 := ⟨RX1, TX1, 15, tyX1, rfl, by decide, inG1, tyX1_ok, nmX1, Or.inl (gw1 279 (by decide +kernel) rfl)⟩
theorem fpX1_74 : FP RX1 74 1 3 false := ⟨flX1_74, fun _ _ _ h => by cases h; exact ⟨rfl, rfl⟩⟩
theorem flX1_77 : FL RX1 77 5 7 := ⟨RX5, TX5, 17, tyX5, rfl, by decide, inG5, tyX5_ok, nmX5, Or.inr ⟨"PegCourt", tb_in 141 (by decide +kernel)⟩⟩
theorem flX1_92 : FL RX1 92 1 6 := ⟨RX1, TX1, 15, tyX1, rfl, by decide, inG1, tyX1_ok, nmX1, Or.inl (gw1 282 (by decide +kernel) rfl)⟩
theorem fpX1_92 : FP RX1 92 1 6 false := ⟨flX1_92, fun _ _ _ h => by cases h; exact ⟨rfl, rfl⟩⟩
theorem flX1_95 : FL RX1 95 0 2 := ⟨RX0, TX0, 7, tyX0, rfl, by decide, inG0, tyX0_ok, nmX0, Or.inr ⟨"PegCourt", tb_in 75 (by decide +kernel)⟩⟩
theorem fpX1_95 : FP RX1 95 0 2 false := ⟨flX1_95, fun _ _ _ h => by cases h; exact ⟨rfl, rfl⟩⟩
theorem flX1_157 : FL RX1 157 9 5 := ⟨RX9, TX9, 6, tyX9, rfl, by decide, inG9, tyX9_ok, nmX9, Or.inr ⟨"PegCourt", tb_in 341 (by decide +kernel)⟩⟩
theorem fpX1_157 : FP RX1 157 9 5 false := ⟨flX1_157, fun _ _ _ h => by cases h; exact ⟨rfl, rfl⟩⟩
theorem flX2_9 : FL RX2 9 2 0 := ⟨RX2, TX2, 3, tyX2, rfl, by decide, inG2, tyX2_ok, nmX2, Or.inl (gw1 43 (by decide +kernel) rfl)⟩
theorem flX2_21 : FL RX2 21 2 1 := ⟨RX2, TX2, 3, tyX2, rfl, by decide, inG2, tyX2_ok, nmX2, Or.inl (gw1 49 (by decide +kernel) rfl)⟩
theorem fpX2_21 : FP RX2 21 2 1 false := ⟨flX2_21, fun _ _ _ h => by cases h; exact ⟨rfl, rfl⟩⟩
theorem flX2_25 : FL RX2 25 2 2 := ⟨RX2, TX2, 3, tyX2, rfl, by decide, inG2, tyX2_ok, nmX2, Or.inl (gw1 53 (by decide +kernel) rfl)⟩
theorem fpX2_25 : FP RX2 25 2 2 false := ⟨flX2_25, fun _ _ _ h => by cases h; exact ⟨rfl, rfl⟩⟩
theorem flX3_9 : FL RX3 9 3 0 := ⟨RX3, TX3, 3, tyX3, rfl, by decide, inG3, tyX3_ok, nmX3, Or.inl (gw1 211 (by decide +kernel) rfl)⟩
theorem flX3_21 : FL RX3 21 3 1 := ⟨RX3, TX3, 3, tyX3, rfl, by decide, inG3, tyX3_ok, nmX3, Or.inl (gw1 213 (by decide +kernel) rfl)⟩
theorem fpX3_21 : FP RX3 21 3 1 false := ⟨flX3_21, fun _ _ _ h => by cases h; exact ⟨rfl, rfl⟩⟩
theorem flX3_25 : FL RX3 25 3 2 := ⟨RX3, TX3, 3, tyX3, rfl, by decide, inG3, tyX3_ok, nmX3, Or.inl (gw1 216 (by decide +kernel) rfl)⟩
theorem fpX3_25 : FP RX3 25 3 2 false := ⟨flX3_25, fun _ _ _ h => by cases h; exact ⟨rfl, rfl⟩⟩
theorem flX3_28 : FL RX3 28 5 13 := ⟨RX5, TX5, 17, tyX5, rfl, by decide, inG5, tyX5_ok, nmX5, Or.inr ⟨"PegCourt", tb_in 156 (by decide +kernel)⟩⟩
theorem fpX3_28 : FP RX3 28 5 13 false := ⟨flX3_28, fun _ _ _ h => by cases h; exact ⟨rfl, rfl⟩⟩
theorem flX3_33 : FL RX3 33 5 0 := ⟨RX5, TX5, 17, tyX5, rfl, by decide, inG5, tyX5_ok, nmX5, Or.inr ⟨"PegCourt", tb_in 123 (by decide +kernel)⟩⟩
theorem flX3_37 : FL RX3 37 5 7 := ⟨RX5, TX5, 17, tyX5, rfl, by decide, inG5, tyX5_ok, nmX5, Or.inr ⟨"PegCourt", tb_in 140 (by decide +kernel)⟩⟩
theorem flX4_9 : FL RX4 9 4 0 := ⟨RX4, TX4, 11, tyX4, rfl, by decide, inG4, tyX4_ok, nmX4, Or.inl (gw1 361 (by decide +kernel) rfl)⟩
theorem flX4_15 : FL RX4 15 4 1 := ⟨RX4, TX4, 11, tyX4, rfl, by decide, inG4, tyX4_ok, nmX4, Or.inl (gw1 362 (by decide +kernel) rfl)⟩
theorem flX4_18 : FL RX4 18 4 2 := ⟨RX4, TX4, 11, tyX4, rfl, by decide, inG4, tyX4_ok, nmX4, Or.inl (gw1 363 (by decide +kernel) rfl)⟩
theorem flX4_21 : FL RX4 21 4 3 := ⟨RX4, TX4, 11, tyX4, rfl, by decide, inG4, tyX4_ok, nmX4, Or.inl (gw1 364 (by decide +kernel) rfl)⟩
theorem flX4_24 : FL RX4 24 4 4 := ⟨RX4, TX4, 11, tyX4, rfl, by decide, inG4, tyX4_ok, nmX4, Or.inl (gw1 365 (by decide +kernel) rfl)⟩
theorem flX4_28 : FL RX4 28 4 5 := ⟨RX4, TX4, 11, tyX4, rfl, by decide, inG4, tyX4_ok, nmX4, Or.inl (gw1 366 (by decide +kernel) rfl)⟩
theorem flX4_32 : FL RX4 32 4 6 := ⟨RX4, TX4, 11, tyX4, rfl, by decide, inG4, tyX4_ok, nmX4, Or.inl (gw1 367 (by decide +kernel) rfl)⟩
theorem flX4_35 : FL RX4 35 4 7 := ⟨RX4, TX4, 11, tyX4, rfl, by decide, inG4, tyX4_ok, nmX4, Or.inl (gw1 368 (by decide +kernel) rfl)⟩
theorem flX4_38 : FL RX4 38 4 8 := ⟨RX4, TX4, 11, tyX4, rfl, by decide, inG4, tyX4_ok, nmX4, Or.inl (gw1 369 (by decide +kernel) rfl)⟩
theorem fpX4_38 : FP RX4 38 4 8 false := ⟨flX4_38, fun _ _ _ h => by cases h; exact ⟨rfl, rfl⟩⟩
theorem flX4_42 : FL RX4 42 4 9 := ⟨RX4, TX4, 11, tyX4, rfl, by decide, inG4, tyX4_ok, nmX4, Or.inl (gw1 371 (by decide +kernel) rfl)⟩
theorem fpX4_42 : FP RX4 42 4 9 false := ⟨flX4_42, fun _ _ _ h => by cases h; exact ⟨rfl, rfl⟩⟩
theorem flX4_55 : FL RX4 55 4 10 := ⟨RX4, TX4, 11, tyX4, rfl, by decide, inG4, tyX4_ok, nmX4, Or.inl (gw1 373 (by decide +kernel) rfl)⟩
theorem fpX4_55 : FP RX4 55 4 10 false := ⟨flX4_55, fun _ _ _ h => by cases h; exact ⟨rfl, rfl⟩⟩
theorem flX4_64 : FL RX4 64 5 13 := ⟨RX5, TX5, 17, tyX5, rfl, by decide, inG5, tyX5_ok, nmX5, Or.inr ⟨"PegCourt", tb_in 159 (by decide +kernel)⟩⟩
theorem fpX4_64 : FP RX4 64 5 13 false := ⟨flX4_64, fun _ _ _ h => by cases h; exact ⟨rfl, rfl⟩⟩
theorem flX4_69 : FL RX4 69 5 0 := ⟨RX5, TX5, 17, tyX5, rfl, by decide, inG5, tyX5_ok, nmX5, Or.inr ⟨"PegCourt", tb_in 126 (by decide +kernel)⟩⟩
theorem flX4_73 : FL RX4 73 5 7 := ⟨RX5, TX5, 17, tyX5, rfl, by decide, inG5, tyX5_ok, nmX5, Or.inr ⟨"PegCourt", tb_in 143 (by decide +kernel)⟩⟩
theorem flX5_12 : FL RX5 12 5 1 := ⟨RX5, TX5, 17, tyX5, rfl, by decide, inG5, tyX5_ok, nmX5, Or.inl (gw1 127 (by decide +kernel) rfl)⟩
theorem flX5_18 : FL RX5 18 5 2 := ⟨RX5, TX5, 17, tyX5, rfl, by decide, inG5, tyX5_ok, nmX5, Or.inl (gw1 128 (by decide +kernel) rfl)⟩
theorem flX5_22 : FL RX5 22 5 3 := ⟨RX5, TX5, 17, tyX5, rfl, by decide, inG5, tyX5_ok, nmX5, Or.inl (gw1 130 (by decide +kernel) rfl)⟩
theorem flX5_25 : FL RX5 25 5 4 := ⟨RX5, TX5, 17, tyX5, rfl, by decide, inG5, tyX5_ok, nmX5, Or.inl (gw1 132 (by decide +kernel) rfl)⟩
theorem flX5_29 : FL RX5 29 5 5 := ⟨RX5, TX5, 17, tyX5, rfl, by decide, inG5, tyX5_ok, nmX5, Or.inl (gw1 134 (by decide +kernel) rfl)⟩
theorem flX5_32 : FL RX5 32 5 6 := ⟨RX5, TX5, 17, tyX5, rfl, by decide, inG5, tyX5_ok, nmX5, Or.inl (gw1 136 (by decide +kernel) rfl)⟩
theorem flX5_35 : FL RX5 35 5 7 := ⟨RX5, TX5, 17, tyX5, rfl, by decide, inG5, tyX5_ok, nmX5, Or.inl (gw1 139 (by decide +kernel) rfl)⟩
theorem flX5_38 : FL RX5 38 5 0 := ⟨RX5, TX5, 17, tyX5, rfl, by decide, inG5, tyX5_ok, nmX5, Or.inl (gw1 122 (by decide +kernel) rfl)⟩
theorem flX5_42 : FL RX5 42 0 2 := ⟨RX0, TX0, 7, tyX0, rfl, by decide, inG0, tyX0_ok, nmX0, Or.inr ⟨"PegCourt", tb_in 72 (by decide +kernel)⟩⟩
theorem fpX5_42 : FP RX5 42 0 2 false := ⟨flX5_42, fun _ _ _ h => by cases h; exact ⟨rfl, rfl⟩⟩
theorem flX5_48 : FL RX5 48 5 11 := ⟨RX5, TX5, 17, tyX5, rfl, by decide, inG5, tyX5_ok, nmX5, Or.inl (gw1 151 (by decide +kernel) rfl)⟩
theorem fpX5_48 : FP RX5 48 5 11 false := ⟨flX5_48, fun _ _ _ h => by cases h; exact ⟨rfl, rfl⟩⟩
theorem flX5_51 : FL RX5 51 5 10 := ⟨RX5, TX5, 17, tyX5, rfl, by decide, inG5, tyX5_ok, nmX5, Or.inl (gw1 148 (by decide +kernel) rfl)⟩
theorem fpX5_51 : FP RX5 51 5 10 false := ⟨flX5_51, fun _ _ _ h => by cases h; exact ⟨rfl, rfl⟩⟩
theorem flX5_54 : FL RX5 54 5 14 := ⟨RX5, TX5, 17, tyX5, rfl, by decide, inG5, tyX5_ok, nmX5, Or.inl (gw1 162 (by decide +kernel) rfl)⟩
theorem fpX5_54 : FP RX5 54 5 14 false := ⟨flX5_54, fun _ _ _ h => by cases h; exact ⟨rfl, rfl⟩⟩
theorem flX5_57 : FL RX5 57 5 15 := ⟨RX5, TX5, 17, tyX5, rfl, by decide, inG5, tyX5_ok, nmX5, Or.inl (gw1 164 (by decide +kernel) rfl)⟩
theorem fpX5_57 : FP RX5 57 5 15 false := ⟨flX5_57, fun _ _ _ h => by cases h; exact ⟨rfl, rfl⟩⟩
theorem flX5_64 : FL RX5 64 5 8 := ⟨RX5, TX5, 17, tyX5, rfl, by decide, inG5, tyX5_ok, nmX5, Or.inl (gw1 145 (by decide +kernel) rfl)⟩
theorem fpX5_64 : FP RX5 64 5 8 false := ⟨flX5_64, fun _ _ _ h => by cases h; exact ⟨rfl, rfl⟩⟩
theorem flX5_67 : FL RX5 67 5 9 := ⟨RX5, TX5, 17, tyX5, rfl, by decide, inG5, tyX5_ok, nmX5, Or.inl (gw1 147 (by decide +kernel) rfl)⟩
theorem fpX5_67 : FP RX5 67 5 9 false := ⟨flX5_67, fun _ _ _ h => by cases h; exact ⟨rfl, rfl⟩⟩
theorem flX5_70 : FL RX5 70 5 12 := ⟨RX5, TX5, 17, tyX5, rfl, by decide, inG5, tyX5_ok, nmX5, Or.inl (gw1 153 (by decide +kernel) rfl)⟩
theorem fpX5_70 : FP RX5 70 5 12 false := ⟨flX5_70, fun _ _ _ h => by cases h; exact ⟨rfl, rfl⟩⟩
theorem flX5_95 : FL RX5 95 5 13 := ⟨RX5, TX5, 17, tyX5, rfl, by decide, inG5, tyX5_ok, nmX5, Or.inl (gw1 160 (by decide +kernel) rfl)⟩
theorem fpX5_95 : FP RX5 95 5 13 false := ⟨flX5_95, fun _ _ _ h => by cases h; exact ⟨rfl, rfl⟩⟩
theorem flX5_101 : FL RX5 101 5 16 := ⟨RX5, TX5, 17, tyX5, rfl, by decide, inG5, tyX5_ok, nmX5, Or.inl (gw1 167 (by decide +kernel) rfl)⟩
theorem fpX5_101 : FP RX5 101 5 16 false := ⟨flX5_101, fun _ _ _ h => by cases h; exact ⟨rfl, rfl⟩⟩
theorem flX5_119 : FL RX5 119 2 0 := ⟨RX2, TX2, 3, tyX2, rfl, by decide, inG2, tyX2_ok, nmX2, Or.inr ⟨"PegCourt", tb_in 46 (by decide +kernel)⟩⟩
theorem flX5_128 : FL RX5 128 2 1 := ⟨RX2, TX2, 3, tyX2, rfl, by decide, inG2, tyX2_ok, nmX2, Or.inr ⟨"PegCourt", tb_in 51 (by decide +kernel)⟩⟩
theorem fpX5_128 : FP RX5 128 2 1 false := ⟨flX5_128, fun _ _ _ h => by cases h; exact ⟨rfl, rfl⟩⟩
theorem flX5_131 : FL RX5 131 2 2 := ⟨RX2, TX2, 3, tyX2, rfl, by decide, inG2, tyX2_ok, nmX2, Or.inr ⟨"PegCourt", tb_in 55 (by decide +kernel)⟩⟩
theorem fpX5_131 : FP RX5 131 2 2 false := ⟨flX5_131, fun _ _ _ h => by cases h; exact ⟨rfl, rfl⟩⟩
theorem flX6_9 : FL RX6 9 6 0 := ⟨RX6, TX6, 3, tyX6, rfl, by decide, inG6, tyX6_ok, nmX6, Or.inl (gw1 111 (by decide +kernel) rfl)⟩
theorem flX6_15 : FL RX6 15 6 1 := ⟨RX6, TX6, 3, tyX6, rfl, by decide, inG6, tyX6_ok, nmX6, Or.inl (gw1 112 (by decide +kernel) rfl)⟩
theorem flX6_29 : FL RX6 29 5 10 := ⟨RX5, TX5, 17, tyX5, rfl, by decide, inG5, tyX5_ok, nmX5, Or.inr ⟨"PegCourt", tb_in 149 (by decide +kernel)⟩⟩
theorem fpX6_29 : FP RX6 29 5 10 false := ⟨flX6_29, fun _ _ _ h => by cases h; exact ⟨rfl, rfl⟩⟩
theorem flX6_39 : FL RX6 39 6 2 := ⟨RX6, TX6, 3, tyX6, rfl, by decide, inG6, tyX6_ok, nmX6, Or.inl (gw1 113 (by decide +kernel) rfl)⟩
theorem fpX6_39 : FP RX6 39 6 2 false := ⟨flX6_39, fun _ _ _ h => by cases h; exact ⟨rfl, rfl⟩⟩
theorem flX6_42 : FL RX6 42 5 0 := ⟨RX5, TX5, 17, tyX5, rfl, by decide, inG5, tyX5_ok, nmX5, Or.inr ⟨"PegCourt", tb_in 125 (by decide +kernel)⟩⟩
theorem flX6_46 : FL RX6 46 0 2 := ⟨RX0, TX0, 7, tyX0, rfl, by decide, inG0, tyX0_ok, nmX0, Or.inr ⟨"PegCourt", tb_in 77 (by decide +kernel)⟩⟩
theorem fpX6_46 : FP RX6 46 0 2 false := ⟨flX6_46, fun _ _ _ h => by cases h; exact ⟨rfl, rfl⟩⟩
theorem flX6_51 : FL RX6 51 5 6 := ⟨RX5, TX5, 17, tyX5, rfl, by decide, inG5, tyX5_ok, nmX5, Or.inr ⟨"PegCourt", tb_in 137 (by decide +kernel)⟩⟩
theorem flX6_54 : FL RX6 54 5 5 := ⟨RX5, TX5, 17, tyX5, rfl, by decide, inG5, tyX5_ok, nmX5, Or.inr ⟨"PegCourt", tb_in 135 (by decide +kernel)⟩⟩
theorem flX7_9 : FL RX7 9 7 0 := ⟨RX7, TX7, 4, tyX7, rfl, by decide, inG7, tyX7_ok, nmX7, Or.inl (gw1 405 (by decide +kernel) rfl)⟩
theorem flX7_15 : FL RX7 15 7 1 := ⟨RX7, TX7, 4, tyX7, rfl, by decide, inG7, tyX7_ok, nmX7, Or.inl (gw1 407 (by decide +kernel) rfl)⟩
theorem fpX7_15 : FP RX7 15 7 1 false := ⟨flX7_15, fun _ _ _ h => by cases h; exact ⟨rfl, rfl⟩⟩
theorem flX7_19 : FL RX7 19 7 2 := ⟨RX7, TX7, 4, tyX7, rfl, by decide, inG7, tyX7_ok, nmX7, Or.inl (gw1 409 (by decide +kernel) rfl)⟩
theorem fpX7_19 : FP RX7 19 7 2 false := ⟨flX7_19, fun _ _ _ h => by cases h; exact ⟨rfl, rfl⟩⟩
theorem flX7_28 : FL RX7 28 7 3 := ⟨RX7, TX7, 4, tyX7, rfl, by decide, inG7, tyX7_ok, nmX7, Or.inl (gw1 411 (by decide +kernel) rfl)⟩
theorem fpX7_28 : FP RX7 28 7 3 false := ⟨flX7_28, fun _ _ _ h => by cases h; exact ⟨rfl, rfl⟩⟩
theorem flX7_31 : FL RX7 31 2 0 := ⟨RX2, TX2, 3, tyX2, rfl, by decide, inG2, tyX2_ok, nmX2, Or.inr ⟨"PegCourt", tb_in 44 (by decide +kernel)⟩⟩
theorem flX8_7 : FL RX8 7 8 4 := ⟨RX8, TX8, 5, tyX8, rfl, by decide, inG8, tyX8_ok, nmX8, Or.inl (gw1 239 (by decide +kernel) rfl)⟩
theorem fpX8_7 : FP RX8 7 8 4 false := ⟨flX8_7, fun _ _ _ h => by cases h; exact ⟨rfl, rfl⟩⟩
theorem flX8_13 : FL RX8 13 5 16 := ⟨RX5, TX5, 17, tyX5, rfl, by decide, inG5, tyX5_ok, nmX5, Or.inr ⟨"PegCourt", tb_in 166 (by decide +kernel)⟩⟩
theorem fpX8_13 : FP RX8 13 5 16 false := ⟨flX8_13, fun _ _ _ h => by cases h; exact ⟨rfl, rfl⟩⟩
theorem flX8_18 : FL RX8 18 5 13 := ⟨RX5, TX5, 17, tyX5, rfl, by decide, inG5, tyX5_ok, nmX5, Or.inr ⟨"PegCourt", tb_in 155 (by decide +kernel)⟩⟩
theorem fpX8_18 : FP RX8 18 5 13 false := ⟨flX8_18, fun _ _ _ h => by cases h; exact ⟨rfl, rfl⟩⟩
theorem flX8_21 : FL RX8 21 8 0 := ⟨RX8, TX8, 5, tyX8, rfl, by decide, inG8, tyX8_ok, nmX8, Or.inl (gw1 231 (by decide +kernel) rfl)⟩
theorem fpX8_21 : FP RX8 21 8 0 false := ⟨flX8_21, fun _ _ _ h => by cases h; exact ⟨rfl, rfl⟩⟩
theorem flX8_24 : FL RX8 24 8 1 := ⟨RX8, TX8, 5, tyX8, rfl, by decide, inG8, tyX8_ok, nmX8, Or.inl (gw1 233 (by decide +kernel) rfl)⟩
theorem fpX8_24 : FP RX8 24 8 1 false := ⟨flX8_24, fun _ _ _ h => by cases h; exact ⟨rfl, rfl⟩⟩
theorem flX8_27 : FL RX8 27 5 0 := ⟨RX5, TX5, 17, tyX5, rfl, by decide, inG5, tyX5_ok, nmX5, Or.inr ⟨"PegCourt", tb_in 124 (by decide +kernel)⟩⟩
theorem flX8_31 : FL RX8 31 0 2 := ⟨RX0, TX0, 7, tyX0, rfl, by decide, inG0, tyX0_ok, nmX0, Or.inr ⟨"PegCourt", tb_in 73 (by decide +kernel)⟩⟩
theorem fpX8_31 : FP RX8 31 0 2 false := ⟨flX8_31, fun _ _ _ h => by cases h; exact ⟨rfl, rfl⟩⟩
theorem flX8_36 : FL RX8 36 0 3 := ⟨RX0, TX0, 7, tyX0, rfl, by decide, inG0, tyX0_ok, nmX0, Or.inr ⟨"PegCourt", tb_in 79 (by decide +kernel)⟩⟩
theorem flX8_40 : FL RX8 40 0 4 := ⟨RX0, TX0, 7, tyX0, rfl, by decide, inG0, tyX0_ok, nmX0, Or.inr ⟨"PegCourt", tb_in 81 (by decide +kernel)⟩⟩
theorem flX8_49 : FL RX8 49 3 2 := ⟨RX3, TX3, 3, tyX3, rfl, by decide, inG3, tyX3_ok, nmX3, Or.inr ⟨"PegCourt", tb_in 217 (by decide +kernel)⟩⟩
theorem fpX8_49 : FP RX8 49 3 2 false := ⟨flX8_49, fun _ _ _ h => by cases h; exact ⟨rfl, rfl⟩⟩
theorem flX8_52 : FL RX8 52 8 2 := ⟨RX8, TX8, 5, tyX8, rfl, by decide, inG8, tyX8_ok, nmX8, Or.inl (gw1 235 (by decide +kernel) rfl)⟩
theorem fpX8_52 : FP RX8 52 8 2 false := ⟨flX8_52, fun _ _ _ h => by cases h; exact ⟨rfl, rfl⟩⟩
theorem flX8_55 : FL RX8 55 3 1 := ⟨RX3, TX3, 3, tyX3, rfl, by decide, inG3, tyX3_ok, nmX3, Or.inr ⟨"PegCourt", tb_in 214 (by decide +kernel)⟩⟩
theorem fpX8_55 : FP RX8 55 3 1 false := ⟨flX8_55, fun _ _ _ h => by cases h; exact ⟨rfl, rfl⟩⟩
theorem flX8_58 : FL RX8 58 8 3 := ⟨RX8, TX8, 5, tyX8, rfl, by decide, inG8, tyX8_ok, nmX8, Or.inl (gw1 237 (by decide +kernel) rfl)⟩
theorem fpX8_58 : FP RX8 58 8 3 false := ⟨flX8_58, fun _ _ _ h => by cases h; exact ⟨rfl, rfl⟩⟩
theorem flX9_9 : FL RX9 9 9 0 := ⟨RX9, TX9, 6, tyX9, rfl, by decide, inG9, tyX9_ok, nmX9, Or.inl (gw1 329 (by decide +kernel) rfl)⟩
theorem flX9_15 : FL RX9 15 9 1 := ⟨RX9, TX9, 6, tyX9, rfl, by decide, inG9, tyX9_ok, nmX9, Or.inl (gw1 331 (by decide +kernel) rfl)⟩
theorem flX9_18 : FL RX9 18 9 2 := ⟨RX9, TX9, 6, tyX9, rfl, by decide, inG9, tyX9_ok, nmX9, Or.inl (gw1 333 (by decide +kernel) rfl)⟩
theorem flX9_21 : FL RX9 21 9 3 := ⟨RX9, TX9, 6, tyX9, rfl, by decide, inG9, tyX9_ok, nmX9, Or.inl (gw1 335 (by decide +kernel) rfl)⟩
theorem flX9_24 : FL RX9 24 9 4 := ⟨RX9, TX9, 6, tyX9, rfl, by decide, inG9, tyX9_ok, nmX9, Or.inl (gw1 337 (by decide +kernel) rfl)⟩
theorem flX9_27 : FL RX9 27 9 5 := ⟨RX9, TX9, 6, tyX9, rfl, by decide, inG9, tyX9_ok, nmX9, Or.inl (gw1 339 (by decide +kernel) rfl)⟩
theorem fpX9_27 : FP RX9 27 9 5 false := ⟨flX9_27, fun _ _ _ h => by cases h; exact ⟨rfl, rfl⟩⟩
theorem flX10_9 : FL RX10 9 10 1 := ⟨RX10, TX10, 4, tyX10, rfl, by decide, inG10, tyX10_ok, nmX10, Or.inl (gw1 258 (by decide +kernel) rfl)⟩
theorem flX10_15 : FL RX10 15 10 2 := ⟨RX10, TX10, 4, tyX10, rfl, by decide, inG10, tyX10_ok, nmX10, Or.inl (gw1 259 (by decide +kernel) rfl)⟩
theorem flX10_18 : FL RX10 18 10 3 := ⟨RX10, TX10, 4, tyX10, rfl, by decide, inG10, tyX10_ok, nmX10, Or.inl (gw1 260 (by decide +kernel) rfl)⟩
theorem flX10_21 : FL RX10 21 10 0 := ⟨RX10, TX10, 4, tyX10, rfl, by decide, inG10, tyX10_ok, nmX10, Or.inl (gw1 257 (by decide +kernel) rfl)⟩
theorem flX10_28 : FL RX10 28 0 0 := ⟨RX0, TX0, 7, tyX0, rfl, by decide, inG0, tyX0_ok, nmX0, Or.inr ⟨"PegCourt", tb_in 64 (by decide +kernel)⟩⟩
theorem fpX10_28 : FP RX10 28 0 0 false := ⟨flX10_28, fun _ _ _ h => by cases h; exact ⟨rfl, rfl⟩⟩
theorem flX10_38 : FL RX10 38 0 1 := ⟨RX0, TX0, 7, tyX0, rfl, by decide, inG0, tyX0_ok, nmX0, Or.inr ⟨"PegCourt", tb_in 69 (by decide +kernel)⟩⟩
theorem fpX10_38 : FP RX10 38 0 1 false := ⟨flX10_38, fun _ _ _ h => by cases h; exact ⟨rfl, rfl⟩⟩
theorem flX10_57 : FL RX10 57 5 13 := ⟨RX5, TX5, 17, tyX5, rfl, by decide, inG5, tyX5_ok, nmX5, Or.inr ⟨"PegCourt", tb_in 158 (by decide +kernel)⟩⟩
theorem fpX10_57 : FP RX10 57 5 13 false := ⟨flX10_57, fun _ _ _ h => by cases h; exact ⟨rfl, rfl⟩⟩
theorem flX10_62 : FL RX10 62 5 7 := ⟨RX5, TX5, 17, tyX5, rfl, by decide, inG5, tyX5_ok, nmX5, Or.inr ⟨"PegCourt", tb_in 142 (by decide +kernel)⟩⟩
theorem flX12_7 : FL RX12 7 12 0 := ⟨RX12, TX12, 53, tyX12, rfl, by decide, inG12, tyX12_ok, nmX12, Or.inl (gw1 1132 (by decide +kernel) rfl)⟩
theorem fpX12_7 : FP RX12 7 12 0 false := ⟨flX12_7, fun _ _ _ h => by cases h; exact ⟨rfl, rfl⟩⟩
theorem flX12_13 : FL RX12 13 12 1 := ⟨RX12, TX12, 53, tyX12, rfl, by decide, inG12, tyX12_ok, nmX12, Or.inl (gw1 1133 (by decide +kernel) rfl)⟩
theorem fpX12_13 : FP RX12 13 12 1 false := ⟨flX12_13, fun _ _ _ h => by cases h; exact ⟨rfl, rfl⟩⟩
theorem flX12_16 : FL RX12 16 12 2 := ⟨RX12, TX12, 53, tyX12, rfl, by decide, inG12, tyX12_ok, nmX12, Or.inl (gw1 1134 (by decide +kernel) rfl)⟩
theorem fpX12_16 : FP RX12 16 12 2 false := ⟨flX12_16, fun _ _ _ h => by cases h; exact ⟨rfl, rfl⟩⟩
theorem flX12_19 : FL RX12 19 12 6 := ⟨RX12, TX12, 53, tyX12, rfl, by decide, inG12, tyX12_ok, nmX12, Or.inl (gw1 1138 (by decide +kernel) rfl)⟩
theorem flX12_23 : FL RX12 23 12 8 := ⟨RX12, TX12, 53, tyX12, rfl, by decide, inG12, tyX12_ok, nmX12, Or.inl (gw1 1140 (by decide +kernel) rfl)⟩
theorem flX12_27 : FL RX12 27 12 10 := ⟨RX12, TX12, 53, tyX12, rfl, by decide, inG12, tyX12_ok, nmX12, Or.inl (gw1 1142 (by decide +kernel) rfl)⟩
theorem flX12_30 : FL RX12 30 12 11 := ⟨RX12, TX12, 53, tyX12, rfl, by decide, inG12, tyX12_ok, nmX12, Or.inl (gw1 1143 (by decide +kernel) rfl)⟩
theorem flX12_33 : FL RX12 33 12 12 := ⟨RX12, TX12, 53, tyX12, rfl, by decide, inG12, tyX12_ok, nmX12, Or.inl (gw1 1144 (by decide +kernel) rfl)⟩
theorem flX12_36 : FL RX12 36 12 13 := ⟨RX12, TX12, 53, tyX12, rfl, by decide, inG12, tyX12_ok, nmX12, Or.inl (gw1 1145 (by decide +kernel) rfl)⟩
theorem fpX12_36 : FP RX12 36 12 13 false := ⟨flX12_36, fun _ _ _ h => by cases h; exact ⟨rfl, rfl⟩⟩
theorem flX12_39 : FL RX12 39 12 16 := ⟨RX12, TX12, 53, tyX12, rfl, by decide, inG12, tyX12_ok, nmX12, Or.inl (gw1 1148 (by decide +kernel) rfl)⟩
theorem flX12_42 : FL RX12 42 12 17 := ⟨RX12, TX12, 53, tyX12, rfl, by decide, inG12, tyX12_ok, nmX12, Or.inl (gw1 1149 (by decide +kernel) rfl)⟩
theorem flX12_45 : FL RX12 45 12 19 := ⟨RX12, TX12, 53, tyX12, rfl, by decide, inG12, tyX12_ok, nmX12, Or.inl (gw1 1151 (by decide +kernel) rfl)⟩
theorem flX12_48 : FL RX12 48 12 20 := ⟨RX12, TX12, 53, tyX12, rfl, by decide, inG12, tyX12_ok, nmX12, Or.inl (gw1 1152 (by decide +kernel) rfl)⟩
theorem flX12_51 : FL RX12 51 12 21 := ⟨RX12, TX12, 53, tyX12, rfl, by decide, inG12, tyX12_ok, nmX12, Or.inl (gw1 1153 (by decide +kernel) rfl)⟩
theorem flX12_54 : FL RX12 54 12 22 := ⟨RX12, TX12, 53, tyX12, rfl, by decide, inG12, tyX12_ok, nmX12, Or.inl (gw1 1154 (by decide +kernel) rfl)⟩
theorem flX12_57 : FL RX12 57 12 23 := ⟨RX12, TX12, 53, tyX12, rfl, by decide, inG12, tyX12_ok, nmX12, Or.inl (gw1 1155 (by decide +kernel) rfl)⟩
theorem flX12_60 : FL RX12 60 12 24 := ⟨RX12, TX12, 53, tyX12, rfl, by decide, inG12, tyX12_ok, nmX12, Or.inl (gw1 1156 (by decide +kernel) rfl)⟩
theorem flX12_63 : FL RX12 63 12 25 := ⟨RX12, TX12, 53, tyX12, rfl, by decide, inG12, tyX12_ok, nmX12, Or.inl (gw1 1157 (by decide +kernel) rfl)⟩
theorem flX12_66 : FL RX12 66 12 26 := ⟨RX12, TX12, 53, tyX12, rfl, by decide, inG12, tyX12_ok, nmX12, Or.inl (gw1 1158 (by decide +kernel) rfl)⟩
theorem flX12_69 : FL RX12 69 12 27 := ⟨RX12, TX12, 53, tyX12, rfl, by decide, inG12, tyX12_ok, nmX12, Or.inl (gw1 1159 (by decide +kernel) rfl)⟩
theorem flX12_72 : FL RX12 72 12 28 := ⟨RX12, TX12, 53, tyX12, rfl, by decide, inG12, tyX12_ok, nmX12, Or.inl (gw1 1160 (by decide +kernel) rfl)⟩
theorem flX12_76 : FL RX12 76 12 29 := ⟨RX12, TX12, 53, tyX12, rfl, by decide, inG12, tyX12_ok, nmX12, Or.inl (gw1 1161 (by decide +kernel) rfl)⟩
theorem flX12_79 : FL RX12 79 12 30 := ⟨RX12, TX12, 53, tyX12, rfl, by decide, inG12, tyX12_ok, nmX12, Or.inl (gw1 1162 (by decide +kernel) rfl)⟩
theorem flX12_82 : FL RX12 82 12 31 := ⟨RX12, TX12, 53, tyX12, rfl, by decide, inG12, tyX12_ok, nmX12, Or.inl (gw1 1163 (by decide +kernel) rfl)⟩
theorem flX12_85 : FL RX12 85 12 34 := ⟨RX12, TX12, 53, tyX12, rfl, by decide, inG12, tyX12_ok, nmX12, Or.inl (gw1 1166 (by decide +kernel) rfl)⟩
theorem flX12_88 : FL RX12 88 12 35 := ⟨RX12, TX12, 53, tyX12, rfl, by decide, inG12, tyX12_ok, nmX12, Or.inl (gw1 1167 (by decide +kernel) rfl)⟩
theorem flX12_91 : FL RX12 91 12 36 := ⟨RX12, TX12, 53, tyX12, rfl, by decide, inG12, tyX12_ok, nmX12, Or.inl (gw1 1168 (by decide +kernel) rfl)⟩
theorem flX12_94 : FL RX12 94 12 37 := ⟨RX12, TX12, 53, tyX12, rfl, by decide, inG12, tyX12_ok, nmX12, Or.inl (gw1 1169 (by decide +kernel) rfl)⟩
theorem flX12_97 : FL RX12 97 12 38 := ⟨RX12, TX12, 53, tyX12, rfl, by decide, inG12, tyX12_ok, nmX12, Or.inl (gw1 1170 (by decide +kernel) rfl)⟩
theorem flX12_100 : FL RX12 100 12 39 := ⟨RX12, TX12, 53, tyX12, rfl, by decide, inG12, tyX12_ok, nmX12, Or.inl (gw1 1171 (by decide +kernel) rfl)⟩
theorem flX12_103 : FL RX12 103 12 40 := ⟨RX12, TX12, 53, tyX12, rfl, by decide, inG12, tyX12_ok, nmX12, Or.inl (gw1 1172 (by decide +kernel) rfl)⟩
theorem flX12_106 : FL RX12 106 12 41 := ⟨RX12, TX12, 53, tyX12, rfl, by decide, inG12, tyX12_ok, nmX12, Or.inl (gw1 1173 (by decide +kernel) rfl)⟩
theorem flX12_109 : FL RX12 109 12 42 := ⟨RX12, TX12, 53, tyX12, rfl, by decide, inG12, tyX12_ok, nmX12, Or.inl (gw1 1174 (by decide +kernel) rfl)⟩
theorem flX12_112 : FL RX12 112 12 44 := ⟨RX12, TX12, 53, tyX12, rfl, by decide, inG12, tyX12_ok, nmX12, Or.inl (gw1 1176 (by decide +kernel) rfl)⟩
theorem flX12_115 : FL RX12 115 12 45 := ⟨RX12, TX12, 53, tyX12, rfl, by decide, inG12, tyX12_ok, nmX12, Or.inl (gw1 1177 (by decide +kernel) rfl)⟩
theorem flX12_118 : FL RX12 118 12 46 := ⟨RX12, TX12, 53, tyX12, rfl, by decide, inG12, tyX12_ok, nmX12, Or.inl (gw1 1178 (by decide +kernel) rfl)⟩
theorem flX12_121 : FL RX12 121 12 47 := ⟨RX12, TX12, 53, tyX12, rfl, by decide, inG12, tyX12_ok, nmX12, Or.inl (gw1 1179 (by decide +kernel) rfl)⟩
theorem flX12_124 : FL RX12 124 12 48 := ⟨RX12, TX12, 53, tyX12, rfl, by decide, inG12, tyX12_ok, nmX12, Or.inl (gw1 1180 (by decide +kernel) rfl)⟩
theorem flX12_127 : FL RX12 127 12 49 := ⟨RX12, TX12, 53, tyX12, rfl, by decide, inG12, tyX12_ok, nmX12, Or.inl (gw1 1181 (by decide +kernel) rfl)⟩
theorem flX12_130 : FL RX12 130 12 50 := ⟨RX12, TX12, 53, tyX12, rfl, by decide, inG12, tyX12_ok, nmX12, Or.inl (gw1 1182 (by decide +kernel) rfl)⟩
theorem flX12_133 : FL RX12 133 12 51 := ⟨RX12, TX12, 53, tyX12, rfl, by decide, inG12, tyX12_ok, nmX12, Or.inl (gw1 1183 (by decide +kernel) rfl)⟩
theorem flX12_136 : FL RX12 136 12 52 := ⟨RX12, TX12, 53, tyX12, rfl, by decide, inG12, tyX12_ok, nmX12, Or.inl (gw1 1184 (by decide +kernel) rfl)⟩
theorem flX12_139 : FL RX12 139 12 15 := ⟨RX12, TX12, 53, tyX12, rfl, by decide, inG12, tyX12_ok, nmX12, Or.inl (gw1 1147 (by decide +kernel) rfl)⟩
theorem fpX12_139 : FP RX12 139 12 15 false := ⟨flX12_139, fun _ _ _ h => by cases h; exact ⟨rfl, rfl⟩⟩
theorem flX12_150 : FL RX12 150 12 3 := ⟨RX12, TX12, 53, tyX12, rfl, by decide, inG12, tyX12_ok, nmX12, Or.inl (gw1 1135 (by decide +kernel) rfl)⟩
theorem fpX12_150 : FP RX12 150 12 3 false := ⟨flX12_150, fun _ _ _ h => by cases h; exact ⟨rfl, rfl⟩⟩
theorem flX12_153 : FL RX12 153 12 4 := ⟨RX12, TX12, 53, tyX12, rfl, by decide, inG12, tyX12_ok, nmX12, Or.inl (gw1 1136 (by decide +kernel) rfl)⟩
theorem fpX12_153 : FP RX12 153 12 4 false := ⟨flX12_153, fun _ _ _ h => by cases h; exact ⟨rfl, rfl⟩⟩
theorem flX12_164 : FL RX12 164 12 18 := ⟨RX12, TX12, 53, tyX12, rfl, by decide, inG12, tyX12_ok, nmX12, Or.inl (gw1 1150 (by decide +kernel) rfl)⟩
theorem fpX12_164 : FP RX12 164 12 18 false := ⟨flX12_164, fun _ _ _ h => by cases h; exact ⟨rfl, rfl⟩⟩
theorem flX12_171 : FL RX12 171 12 9 := ⟨RX12, TX12, 53, tyX12, rfl, by decide, inG12, tyX12_ok, nmX12, Or.inl (gw1 1141 (by decide +kernel) rfl)⟩
theorem fpX12_171 : FP RX12 171 12 9 false := ⟨flX12_171, fun _ _ _ h => by cases h; exact ⟨rfl, rfl⟩⟩
theorem flX12_180 : FL RX12 180 12 5 := ⟨RX12, TX12, 53, tyX12, rfl, by decide, inG12, tyX12_ok, nmX12, Or.inl (gw1 1137 (by decide +kernel) rfl)⟩
theorem fpX12_180 : FP RX12 180 12 5 false := ⟨flX12_180, fun _ _ _ h => by cases h; exact ⟨rfl, rfl⟩⟩
theorem flX12_183 : FL RX12 183 12 7 := ⟨RX12, TX12, 53, tyX12, rfl, by decide, inG12, tyX12_ok, nmX12, Or.inl (gw1 1139 (by decide +kernel) rfl)⟩
theorem fpX12_183 : FP RX12 183 12 7 false := ⟨flX12_183, fun _ _ _ h => by cases h; exact ⟨rfl, rfl⟩⟩
theorem flX12_186 : FL RX12 186 12 33 := ⟨RX12, TX12, 53, tyX12, rfl, by decide, inG12, tyX12_ok, nmX12, Or.inl (gw1 1165 (by decide +kernel) rfl)⟩
theorem fpX12_186 : FP RX12 186 12 33 false := ⟨flX12_186, fun _ _ _ h => by cases h; exact ⟨rfl, rfl⟩⟩
theorem flX12_189 : FL RX12 189 12 43 := ⟨RX12, TX12, 53, tyX12, rfl, by decide, inG12, tyX12_ok, nmX12, Or.inl (gw1 1175 (by decide +kernel) rfl)⟩
theorem fpX12_189 : FP RX12 189 12 43 false := ⟨flX12_189, fun _ _ _ h => by cases h; exact ⟨rfl, rfl⟩⟩
theorem flX12_192 : FL RX12 192 12 14 := ⟨RX12, TX12, 53, tyX12, rfl, by decide, inG12, tyX12_ok, nmX12, Or.inl (gw1 1146 (by decide +kernel) rfl)⟩
theorem fpX12_192 : FP RX12 192 12 14 false := ⟨flX12_192, fun _ _ _ h => by cases h; exact ⟨rfl, rfl⟩⟩
theorem flX12_238 : FL RX12 238 12 32 := ⟨RX12, TX12, 53, tyX12, rfl, by decide, inG12, tyX12_ok, nmX12, Or.inl (gw1 1164 (by decide +kernel) rfl)⟩
theorem fpX12_238 : FP RX12 238 12 32 false := ⟨flX12_238, fun _ _ _ h => by cases h; exact ⟨rfl, rfl⟩⟩
abbrev mX11_startAnew : Md := (yX11_startAnew, cX11_startAnew, 3, none)
theorem cwX11_startAnew : Cond.code yX11_startAnew cX11_startAnew 3 none ∈ gw := gw1 425 (by decide +kernel) rfl
abbrev mX0_write : Md := (yX0_write, cX0_write, 4, none)
theorem cwX0_write : Cond.code yX0_write cX0_write 4 none ∈ gw := gw1 429 (by decide +kernel) rfl
abbrev mX0_codesOf : Md := (yX0_codesOf, cX0_codesOf, 4, (some .int))
theorem cwX0_codesOf : Cond.code yX0_codesOf cX0_codesOf 4 (some .int) ∈ gw := gw1 432 (by decide +kernel) rfl
abbrev mX2_fillWith : Md := (yX2_fillWith, cX2_fillWith, 2, none)
theorem cwX2_fillWith : Cond.code yX2_fillWith cX2_fillWith 2 none ∈ gw := gw1 436 (by decide +kernel) rfl
abbrev mJ7_fill_53178 : Md := (yJ7_fill_53178, cJ7_fill_53178, 4, none)
theorem cwJ7_fill_53178 : Cond.code yJ7_fill_53178 cJ7_fill_53178 4 none ∈ gw := gw1 439 (by decide +kernel) rfl
abbrev mX2_measure : Md := (yX2_measure, cX2_measure, 9, none)
theorem cwX2_measure : Cond.code yX2_measure cX2_measure 9 none ∈ gw := gw1 443 (by decide +kernel) rfl
abbrev mX2_packed : Md := (yX2_packed, cX2_packed, 4, (some .int))
theorem cwX2_packed : Cond.code yX2_packed cX2_packed 4 (some .int) ∈ gw := gw1 447 (by decide +kernel) rfl
abbrev mX2_stepOn : Md := (yX2_stepOn, cX2_stepOn, 4, none)
theorem cwX2_stepOn : Cond.code yX2_stepOn cX2_stepOn 4 none ∈ gw := gw1 451 (by decide +kernel) rfl
abbrev mX5_startAnew : Md := (yX5_startAnew, cX5_startAnew, 2, none)
theorem cwX5_startAnew : Cond.code yX5_startAnew cX5_startAnew 2 none ∈ gw := gw1 455 (by decide +kernel) rfl
abbrev mX5_setLaw : Md := (yX5_setLaw, cX5_setLaw, 4, none)
theorem cwX5_setLaw : Cond.code yX5_setLaw cX5_setLaw 4 none ∈ gw := gw1 459 (by decide +kernel) rfl
abbrev mX5_isLawful : Md := (yX5_isLawful, cX5_isLawful, 2, (some .boolean))
theorem cwX5_isLawful : Cond.code yX5_isLawful cX5_isLawful 2 (some .boolean) ∈ gw := gw1 463 (by decide +kernel) rfl
abbrev mX0_hasColourTwice : Md := (yX0_hasColourTwice, cX0_hasColourTwice, 5, (some .boolean))
theorem cwX0_hasColourTwice : Cond.code yX0_hasColourTwice cX0_hasColourTwice 5 (some .boolean) ∈ gw := gw1 467 (by decide +kernel) rfl
abbrev mX0_colourAt : Md := (yX0_colourAt, cX0_colourAt, 3, (some .int))
theorem cwX0_colourAt : Cond.code yX0_colourAt cX0_colourAt 3 (some .int) ∈ gw := gw1 471 (by decide +kernel) rfl
abbrev mX0_sumOfColours : Md := (yX0_sumOfColours, cX0_sumOfColours, 4, (some .int))
theorem cwX0_sumOfColours : Cond.code yX0_sumOfColours cX0_sumOfColours 4 (some .int) ∈ gw := gw1 475 (by decide +kernel) rfl
abbrev mX5_findLeft : Md := (yX5_findLeft, cX5_findLeft, 2, none)
theorem cwX5_findLeft : Cond.code yX5_findLeft cX5_findLeft 2 none ∈ gw := gw1 479 (by decide +kernel) rfl
abbrev mX5_isLeft : Md := (yX5_isLeft, cX5_isLeft, 2, (some .boolean))
theorem cwX5_isLeft : Cond.code yX5_isLeft cX5_isLeft 2 (some .boolean) ∈ gw := gw1 483 (by decide +kernel) rfl
abbrev mX0_has : Md := (yX0_has, cX0_has, 2, (some .boolean))
theorem cwX0_has : Cond.code yX0_has cX0_has 2 (some .boolean) ∈ gw := gw1 487 (by decide +kernel) rfl
abbrev mJ6_bitCount_0f7a4 : Md := (yJ6_bitCount_0f7a4, cJ6_bitCount_0f7a4, 1, (some .int))
theorem cwJ6_bitCount_0f7a4 : Cond.code yJ6_bitCount_0f7a4 cJ6_bitCount_0f7a4 1 (some .int) ∈ gw := gw1 490 (by decide +kernel) rfl
abbrev mX4_empty : Md := (yX4_empty, cX4_empty, 1, none)
theorem cwX4_empty : Cond.code yX4_empty cX4_empty 1 none ∈ gw := gw1 499 (by decide +kernel) rfl
abbrev mX11_begin : Md := (yX11_begin, cX11_begin, 3, (some .int))
theorem cwX11_begin : Cond.code yX11_begin cX11_begin 3 (some .int) ∈ gw := gw1 540 (by decide +kernel) rfl
abbrev mX11_law : Md := (yX11_law, cX11_law, 3, (some .int))
theorem cwX11_law : Cond.code yX11_law cX11_law 3 (some .int) ∈ gw := gw1 545 (by decide +kernel) rfl
abbrev mX11_enlist : Md := (yX11_enlist, cX11_enlist, 2, (some .int))
theorem cwX11_enlist : Cond.code yX11_enlist cX11_enlist 2 (some .int) ∈ gw := gw1 550 (by decide +kernel) rfl
abbrev mX5_addToList : Md := (yX5_addToList, cX5_addToList, 2, none)
theorem cwX5_addToList : Cond.code yX5_addToList cX5_addToList 2 none ∈ gw := gw1 555 (by decide +kernel) rfl
abbrev mX11_lies : Md := (yX11_lies, cX11_lies, 3, (some .int))
theorem cwX11_lies : Cond.code yX11_lies cX11_lies 3 (some .int) ∈ gw := gw1 559 (by decide +kernel) rfl
abbrev mX5_setLies : Md := (yX5_setLies, cX5_setLies, 2, none)
theorem cwX5_setLies : Cond.code yX5_setLies cX5_setLies 2 none ∈ gw := gw1 563 (by decide +kernel) rfl
abbrev mX11_peg : Md := (yX11_peg, cX11_peg, 4, (some .int))
theorem cwX11_peg : Cond.code yX11_peg cX11_peg 4 (some .int) ∈ gw := gw1 567 (by decide +kernel) rfl
abbrev mX0_hasPlace : Md := (yX0_hasPlace, cX0_hasPlace, 2, (some .boolean))
theorem cwX0_hasPlace : Cond.code yX0_hasPlace cX0_hasPlace 2 (some .boolean) ∈ gw := gw1 571 (by decide +kernel) rfl
abbrev mX11_refused : Md := (yX11_refused, cX11_refused, 2, (some .int))
theorem cwX11_refused : Cond.code yX11_refused cX11_refused 2 (some .int) ∈ gw := gw1 575 (by decide +kernel) rfl
abbrev mX0_isPeg : Md := (yX0_isPeg, cX0_isPeg, 2, (some .boolean))
theorem cwX0_isPeg : Cond.code yX0_isPeg cX0_isPeg 2 (some .boolean) ∈ gw := gw1 579 (by decide +kernel) rfl
abbrev mX11_show : Md := (yX11_show, cX11_show, 3, (some .int))
theorem cwX11_show : Cond.code yX11_show cX11_show 3 (some .int) ∈ gw := gw1 583 (by decide +kernel) rfl
abbrev mX11_sortOfHand : Md := (yX11_sortOfHand, cX11_sortOfHand, 2, (some .int))
theorem cwX11_sortOfHand : Cond.code yX11_sortOfHand cX11_sortOfHand 2 (some .int) ∈ gw := gw1 588 (by decide +kernel) rfl
abbrev mX0_numberOf : Md := (yX0_numberOf, cX0_numberOf, 4, (some .int))
theorem cwX0_numberOf : Cond.code yX0_numberOf cX0_numberOf 4 (some .int) ∈ gw := gw1 592 (by decide +kernel) rfl
abbrev mX3_divide : Md := (yX3_divide, cX3_divide, 6, none)
theorem cwX3_divide : Cond.code yX3_divide cX3_divide 6 none ∈ gw := gw1 597 (by decide +kernel) rfl
abbrev mX0_answerTo : Md := (yX0_answerTo, cX0_answerTo, 4, (some .int))
theorem cwX0_answerTo : Cond.code yX0_answerTo cX0_answerTo 4 (some .int) ∈ gw := gw1 602 (by decide +kernel) rfl
abbrev mX11_hand : Md := (yX11_hand, cX11_hand, 2, (some .int))
theorem cwX11_hand : Cond.code yX11_hand cX11_hand 2 (some .int) ∈ gw := gw1 607 (by decide +kernel) rfl
abbrev mX11_sort : Md := (yX11_sort, cX11_sort, 1, (some .int))
theorem cwX11_sort : Cond.code yX11_sort cX11_sort 1 (some .int) ∈ gw := gw1 611 (by decide +kernel) rfl
abbrev mX11_answer : Md := (yX11_answer, cX11_answer, 3, (some .int))
theorem cwX11_answer : Cond.code yX11_answer cX11_answer 3 (some .int) ∈ gw := gw1 615 (by decide +kernel) rfl
abbrev mX0_answerOfCodes : Md := (yX0_answerOfCodes, cX0_answerOfCodes, 3, (some .int))
theorem cwX0_answerOfCodes : Cond.code yX0_answerOfCodes cX0_answerOfCodes 3 (some .int) ∈ gw := gw1 619 (by decide +kernel) rfl
abbrev mX11_reply : Md := (yX11_reply, cX11_reply, 2, (some .int))
theorem cwX11_reply : Cond.code yX11_reply cX11_reply 2 (some .int) ∈ gw := gw1 624 (by decide +kernel) rfl
abbrev mX11_tell : Md := (yX11_tell, cX11_tell, 2, (some .int))
theorem cwX11_tell : Cond.code yX11_tell cX11_tell 2 (some .int) ∈ gw := gw1 629 (by decide +kernel) rfl
abbrev mX0_canBeTold : Md := (yX0_canBeTold, cX0_canBeTold, 2, (some .boolean))
theorem cwX0_canBeTold : Cond.code yX0_canBeTold cX0_canBeTold 2 (some .boolean) ∈ gw := gw1 633 (by decide +kernel) rfl
abbrev mX5_accepts : Md := (yX5_accepts, cX5_accepts, 3, (some .boolean))
theorem cwX5_accepts : Cond.code yX5_accepts cX5_accepts 3 (some .boolean) ∈ gw := gw1 637 (by decide +kernel) rfl
abbrev mX5_markFalse : Md := (yX5_markFalse, cX5_markFalse, 5, none)
theorem cwX5_markFalse : Cond.code yX5_markFalse cX5_markFalse 5 none ∈ gw := gw1 641 (by decide +kernel) rfl
abbrev mX5_anyLeft : Md := (yX5_anyLeft, cX5_anyLeft, 2, (some .boolean))
theorem cwX5_anyLeft : Cond.code yX5_anyLeft cX5_anyLeft 2 (some .boolean) ∈ gw := gw1 646 (by decide +kernel) rfl
abbrev mX6_leastQuarrel : Md := (yX6_leastQuarrel, cX6_leastQuarrel, 6, (some .int))
theorem cwX6_leastQuarrel : Cond.code yX6_leastQuarrel cX6_leastQuarrel 6 (some .int) ∈ gw := gw1 650 (by decide +kernel) rfl
abbrev mX6_gather : Md := (yX6_gather, cX6_gather, 6, none)
theorem cwX6_gather : Cond.code yX6_gather cX6_gather 6 none ∈ gw := gw1 654 (by decide +kernel) rfl
abbrev mX6_isQuarrel : Md := (yX6_isQuarrel, cX6_isQuarrel, 4, (some .boolean))
theorem cwX6_isQuarrel : Cond.code yX6_isQuarrel cX6_isQuarrel 4 (some .boolean) ∈ gw := gw1 659 (by decide +kernel) rfl
abbrev mX6_bringForward : Md := (yX6_bringForward, cX6_bringForward, 3, none)
theorem cwX6_bringForward : Cond.code yX6_bringForward cX6_bringForward 3 none ∈ gw := gw1 663 (by decide +kernel) rfl
abbrev mX5_unmark : Md := (yX5_unmark, cX5_unmark, 3, none)
theorem cwX5_unmark : Cond.code yX5_unmark cX5_unmark 3 none ∈ gw := gw1 667 (by decide +kernel) rfl
abbrev mX11_undo : Md := (yX11_undo, cX11_undo, 1, (some .int))
theorem cwX11_undo : Cond.code yX11_undo cX11_undo 1 (some .int) ∈ gw := gw1 674 (by decide +kernel) rfl
abbrev mX5_takeBack : Md := (yX5_takeBack, cX5_takeBack, 1, none)
theorem cwX5_takeBack : Cond.code yX5_takeBack cX5_takeBack 1 none ∈ gw := gw1 678 (by decide +kernel) rfl
abbrev mX11_quarrel : Md := (yX11_quarrel, cX11_quarrel, 2, (some .int))
theorem cwX11_quarrel : Cond.code yX11_quarrel cX11_quarrel 2 (some .int) ∈ gw := gw1 682 (by decide +kernel) rfl
abbrev mX11_memberOf : Md := (yX11_memberOf, cX11_memberOf, 4, (some .int))
theorem cwX11_memberOf : Cond.code yX11_memberOf cX11_memberOf 4 (some .int) ∈ gw := gw1 686 (by decide +kernel) rfl
abbrev mX11_turn : Md := (yX11_turn, cX11_turn, 3, (some .int))
theorem cwX11_turn : Cond.code yX11_turn cX11_turn 3 (some .int) ∈ gw := gw1 690 (by decide +kernel) rfl
abbrev mX5_leftWithFalse : Md := (yX5_leftWithFalse, cX5_leftWithFalse, 4, (some .int))
theorem cwX5_leftWithFalse : Cond.code yX5_leftWithFalse cX5_leftWithFalse 4 (some .int) ∈ gw := gw1 694 (by decide +kernel) rfl
abbrev mX11_left : Md := (yX11_left, cX11_left, 2, (some .int))
theorem cwX11_left : Cond.code yX11_left cX11_left 2 (some .int) ∈ gw := gw1 698 (by decide +kernel) rfl
abbrev mX11_falses : Md := (yX11_falses, cX11_falses, 2, (some .int))
theorem cwX11_falses : Cond.code yX11_falses cX11_falses 2 (some .int) ∈ gw := gw1 702 (by decide +kernel) rfl
abbrev mX11_part : Md := (yX11_part, cX11_part, 4, (some .int))
theorem cwX11_part : Cond.code yX11_part cX11_part 4 (some .int) ∈ gw := gw1 706 (by decide +kernel) rfl
abbrev mX3_answerOfPart : Md := (yX3_answerOfPart, cX3_answerOfPart, 4, (some .int))
theorem cwX3_answerOfPart : Cond.code yX3_answerOfPart cX3_answerOfPart 4 (some .int) ∈ gw := gw1 710 (by decide +kernel) rfl
abbrev mX11_among : Md := (yX11_among, cX11_among, 2, (some .int))
theorem cwX11_among : Cond.code yX11_among cX11_among 2 (some .int) ∈ gw := gw1 714 (by decide +kernel) rfl
abbrev mX8_look : Md := (yX8_look, cX8_look, 4, none)
theorem cwX8_look : Cond.code yX8_look cX8_look 4 none ∈ gw := gw1 719 (by decide +kernel) rfl
abbrev mX11_like : Md := (yX11_like, cX11_like, 3, (some .int))
theorem cwX11_like : Cond.code yX11_like cX11_like 3 (some .int) ∈ gw := gw1 724 (by decide +kernel) rfl
abbrev mX10_leads : Md := (yX10_leads, cX10_leads, 8, (some .boolean))
theorem cwX10_leads : Cond.code yX10_leads cX10_leads 8 (some .boolean) ∈ gw := gw1 728 (by decide +kernel) rfl
abbrev mX10_weighPlaces : Md := (yX10_weighPlaces, cX10_weighPlaces, 3, none)
theorem cwX10_weighPlaces : Cond.code yX10_weighPlaces cX10_weighPlaces 3 none ∈ gw := gw1 732 (by decide +kernel) rfl
abbrev mX10_startOrders : Md := (yX10_startOrders, cX10_startOrders, 4, (some .int))
theorem cwX10_startOrders : Cond.code yX10_startOrders cX10_startOrders 4 (some .int) ∈ gw := gw1 735 (by decide +kernel) rfl
abbrev mX10_imageOf : Md := (yX10_imageOf, cX10_imageOf, 4, (some .int))
theorem cwX10_imageOf : Cond.code yX10_imageOf cX10_imageOf 4 (some .int) ∈ gw := gw1 739 (by decide +kernel) rfl
abbrev mX10_keepsLeft : Md := (yX10_keepsLeft, cX10_keepsLeft, 3, (some .boolean))
theorem cwX10_keepsLeft : Cond.code yX10_keepsLeft cX10_keepsLeft 3 (some .boolean) ∈ gw := gw1 744 (by decide +kernel) rfl
abbrev mX10_stepOrder : Md := (yX10_stepOrder, cX10_stepOrder, 6, none)
theorem cwX10_stepOrder : Cond.code yX10_stepOrder cX10_stepOrder 6 none ∈ gw := gw1 748 (by decide +kernel) rfl
abbrev mX10_exchange : Md := (yX10_exchange, cX10_exchange, 4, none)
theorem cwX10_exchange : Cond.code yX10_exchange cX10_exchange 4 none ∈ gw := gw1 751 (by decide +kernel) rfl
abbrev mX11_least : Md := (yX11_least, cX11_least, 3, (some .int))
theorem cwX11_least : Cond.code yX11_least cX11_least 3 (some .int) ∈ gw := gw1 755 (by decide +kernel) rfl
abbrev mX11_isPool : Md := (yX11_isPool, cX11_isPool, 1, (some .boolean))
theorem cwX11_isPool : Cond.code yX11_isPool cX11_isPool 1 (some .boolean) ∈ gw := gw1 758 (by decide +kernel) rfl
abbrev mX11_whyNoTrees : Md := (yX11_whyNoTrees, cX11_whyNoTrees, 1, (some .int))
theorem cwX11_whyNoTrees : Cond.code yX11_whyNoTrees cX11_whyNoTrees 1 (some .int) ∈ gw := gw1 762 (by decide +kernel) rfl
abbrev mX11_forestOf : Md := (yX11_forestOf, cX11_forestOf, 3, (some (.object "PegCourt$Forest")))
theorem cwX11_forestOf : Cond.code yX11_forestOf cX11_forestOf 3 (some (.object "PegCourt$Forest")) ∈ gw := gw1 766 (by decide +kernel) rfl
abbrev mX1_standFor : Md := (yX1_standFor, cX1_standFor, 4, none)
theorem cwX1_standFor : Cond.code yX1_standFor cX1_standFor 4 none ∈ gw := gw1 770 (by decide +kernel) rfl
abbrev mX1_standsFor : Md := (yX1_standsFor, cX1_standsFor, 3, (some .boolean))
theorem cwX1_standsFor : Cond.code yX1_standsFor cX1_standsFor 3 (some .boolean) ∈ gw := gw1 774 (by decide +kernel) rfl
abbrev mJ9_min_7cf53 : Md := (yJ9_min_7cf53, cJ9_min_7cf53, 2, (some .int))
theorem cwJ9_min_7cf53 : Cond.code yJ9_min_7cf53 cJ9_min_7cf53 2 (some .int) ∈ gw := gw1 777 (by decide +kernel) rfl
abbrev mX1_enter : Md := (yX1_enter, cX1_enter, 5, none)
theorem cwX1_enter : Cond.code yX1_enter cX1_enter 5 none ∈ gw := gw1 783 (by decide +kernel) rfl
abbrev mX1_classify : Md := (yX1_classify, cX1_classify, 9, (some .long))
theorem cwX1_classify : Cond.code yX1_classify cX1_classify 9 (some .long) ∈ gw := gw1 787 (by decide +kernel) rfl
abbrev mX0_fullAnswer : Md := (yX0_fullAnswer, cX0_fullAnswer, 1, (some .int))
theorem cwX0_fullAnswer : Cond.code yX0_fullAnswer cX0_fullAnswer 1 (some .int) ∈ gw := gw1 791 (by decide +kernel) rfl
abbrev mX1_slotOf : Md := (yX1_slotOf, cX1_slotOf, 6, (some .int))
theorem cwX1_slotOf : Cond.code yX1_slotOf cX1_slotOf 6 (some .int) ∈ gw := gw1 796 (by decide +kernel) rfl
abbrev mX1_bitOf : Md := (yX1_bitOf, cX1_bitOf, 3, (some .int))
theorem cwX1_bitOf : Cond.code yX1_bitOf cX1_bitOf 3 (some .int) ∈ gw := gw1 801 (by decide +kernel) rfl
abbrev mX1_leastDepth : Md := (yX1_leastDepth, cX1_leastDepth, 2, (some .int))
theorem cwX1_leastDepth : Cond.code yX1_leastDepth cX1_leastDepth 2 (some .int) ∈ gw := gw1 805 (by decide +kernel) rfl
abbrev mX1_allMembers : Md := (yX1_allMembers, cX1_allMembers, 1, (some .int))
theorem cwX1_allMembers : Cond.code yX1_allMembers cX1_allMembers 1 (some .int) ∈ gw := gw1 809 (by decide +kernel) rfl
abbrev mX1_leastSum : Md := (yX1_leastSum, cX1_leastSum, 5, (some .int))
theorem cwX1_leastSum : Cond.code yX1_leastSum cX1_leastSum 5 (some .int) ∈ gw := gw1 813 (by decide +kernel) rfl
abbrev mX1_shortOf : Md := (yX1_shortOf, cX1_shortOf, 4, (some .int))
theorem cwX1_shortOf : Cond.code yX1_shortOf cX1_shortOf 4 (some .int) ∈ gw := gw1 818 (by decide +kernel) rfl
abbrev mX1_findShort : Md := (yX1_findShort, cX1_findShort, 9, (some .int))
theorem cwX1_findShort : Cond.code yX1_findShort cX1_findShort 9 (some .int) ∈ gw := gw1 822 (by decide +kernel) rfl
abbrev mX1_sumBehind : Md := (yX1_sumBehind, cX1_sumBehind, 12, (some .int))
theorem cwX1_sumBehind : Cond.code yX1_sumBehind cX1_sumBehind 12 (some .int) ∈ gw := gw1 827 (by decide +kernel) rfl
abbrev mX1_classesIn : Md := (yX1_classesIn, cX1_classesIn, 6, (some .int))
theorem cwX1_classesIn : Cond.code yX1_classesIn cX1_classesIn 6 (some .int) ∈ gw := gw1 831 (by decide +kernel) rfl
abbrev mX11_sum : Md := (yX11_sum, cX11_sum, 5, (some .int))
theorem cwX11_sum : Cond.code yX11_sum cX11_sum 5 (some .int) ∈ gw := gw1 835 (by decide +kernel) rfl
abbrev mX11_isDepth : Md := (yX11_isDepth, cX11_isDepth, 1, (some .boolean))
theorem cwX11_isDepth : Cond.code yX11_isDepth cX11_isDepth 1 (some .boolean) ∈ gw := gw1 838 (by decide +kernel) rfl
abbrev mX1_leastSumWithin : Md := (yX1_leastSumWithin, cX1_leastSumWithin, 2, (some .int))
theorem cwX1_leastSumWithin : Cond.code yX1_leastSumWithin cX1_leastSumWithin 2 (some .int) ∈ gw := gw1 842 (by decide +kernel) rfl
abbrev mX1_bounded : Md := (yX1_bounded, cX1_bounded, 2, (some .int))
theorem cwX1_bounded : Cond.code yX1_bounded cX1_bounded 2 (some .int) ∈ gw := gw1 846 (by decide +kernel) rfl
abbrev mX11_best : Md := (yX11_best, cX11_best, 6, (some .int))
theorem cwX11_best : Cond.code yX11_best cX11_best 6 (some .int) ∈ gw := gw1 850 (by decide +kernel) rfl
abbrev mX1_firstOfLeastDepth : Md := (yX1_firstOfLeastDepth, cX1_firstOfLeastDepth, 3, (some .int))
theorem cwX1_firstOfLeastDepth : Cond.code yX1_firstOfLeastDepth cX1_firstOfLeastDepth 3 (some .int) ∈ gw := gw1 854 (by decide +kernel) rfl
abbrev mX1_firstOfLeastSum : Md := (yX1_firstOfLeastSum, cX1_firstOfLeastSum, 2, (some .int))
theorem cwX1_firstOfLeastSum : Cond.code yX1_firstOfLeastSum cX1_firstOfLeastSum 2 (some .int) ∈ gw := gw1 859 (by decide +kernel) rfl
abbrev mX1_shortGuess : Md := (yX1_shortGuess, cX1_shortGuess, 5, (some .int))
theorem cwX1_shortGuess : Cond.code yX1_shortGuess cX1_shortGuess 5 (some .int) ∈ gw := gw1 863 (by decide +kernel) rfl
abbrev mX11_tree : Md := (yX11_tree, cX11_tree, 5, (some .int))
theorem cwX11_tree : Cond.code yX11_tree cX11_tree 5 (some .int) ∈ gw := gw1 867 (by decide +kernel) rfl
abbrev mX1_plant : Md := (yX1_plant, cX1_plant, 3, none)
theorem cwX1_plant : Cond.code yX1_plant cX1_plant 3 none ∈ gw := gw1 871 (by decide +kernel) rfl
abbrev mX1_grow : Md := (yX1_grow, cX1_grow, 10, none)
theorem cwX1_grow : Cond.code yX1_grow cX1_grow 10 none ∈ gw := gw1 875 (by decide +kernel) rfl
abbrev mX9_add : Md := (yX9_add, cX9_add, 5, none)
theorem cwX9_add : Cond.code yX9_add cX9_add 5 none ∈ gw := gw1 879 (by decide +kernel) rfl
abbrev mX1_nextAnswer : Md := (yX1_nextAnswer, cX1_nextAnswer, 7, (some .int))
theorem cwX1_nextAnswer : Cond.code yX1_nextAnswer cX1_nextAnswer 7 (some .int) ∈ gw := gw1 883 (by decide +kernel) rfl
abbrev mX1_withAnswer : Md := (yX1_withAnswer, cX1_withAnswer, 6, (some .int))
theorem cwX1_withAnswer : Cond.code yX1_withAnswer cX1_withAnswer 6 (some .int) ∈ gw := gw1 887 (by decide +kernel) rfl
abbrev mX11_node : Md := (yX11_node, cX11_node, 3, (some .int))
theorem cwX11_node : Cond.code yX11_node cX11_node 3 (some .int) ∈ gw := gw1 891 (by decide +kernel) rfl
abbrev mX11_plan : Md := (yX11_plan, cX11_plan, 4, (some .int))
theorem cwX11_plan : Cond.code yX11_plan cX11_plan 4 (some .int) ∈ gw := gw1 895 (by decide +kernel) rfl
abbrev mX4_has : Md := (yX4_has, cX4_has, 2, (some .boolean))
theorem cwX4_has : Cond.code yX4_has cX4_has 2 (some .boolean) ∈ gw := gw1 899 (by decide +kernel) rfl
abbrev mX4_add : Md := (yX4_add, cX4_add, 6, none)
theorem cwX4_add : Cond.code yX4_add cX4_add 6 none ∈ gw := gw1 903 (by decide +kernel) rfl
abbrev mJ9_max_7cf53 : Md := (yJ9_max_7cf53, cJ9_max_7cf53, 2, (some .int))
theorem cwJ9_max_7cf53 : Cond.code yJ9_max_7cf53 cJ9_max_7cf53 2 (some .int) ∈ gw := gw1 907 (by decide +kernel) rfl
abbrev mX11_drop : Md := (yX11_drop, cX11_drop, 2, (some .int))
theorem cwX11_drop : Cond.code yX11_drop cX11_drop 2 (some .int) ∈ gw := gw1 911 (by decide +kernel) rfl
abbrev mX11_judge : Md := (yX11_judge, cX11_judge, 2, (some .int))
theorem cwX11_judge : Cond.code yX11_judge cX11_judge 2 (some .int) ∈ gw := gw1 915 (by decide +kernel) rfl
abbrev mX4_follow : Md := (yX4_follow, cX4_follow, 3, none)
theorem cwX4_follow : Cond.code yX4_follow cX4_follow 3 none ∈ gw := gw1 919 (by decide +kernel) rfl
abbrev mJ7_fill_d0a16 : Md := (yJ7_fill_d0a16, cJ7_fill_d0a16, 5, none)
theorem cwJ7_fill_d0a16 : Cond.code yJ7_fill_d0a16 cJ7_fill_d0a16 5 none ∈ gw := gw1 922 (by decide +kernel) rfl
abbrev mX4_followCode : Md := (yX4_followCode, cX4_followCode, 7, none)
theorem cwX4_followCode : Cond.code yX4_followCode cX4_followCode 7 none ∈ gw := gw1 926 (by decide +kernel) rfl
abbrev mX4_firstNotWhole : Md := (yX4_firstNotWhole, cX4_firstNotWhole, 2, (some .int))
theorem cwX4_firstNotWhole : Cond.code yX4_firstNotWhole cX4_firstNotWhole 2 (some .int) ∈ gw := gw1 932 (by decide +kernel) rfl
abbrev mX11_total : Md := (yX11_total, cX11_total, 1, (some .int))
theorem cwX11_total : Cond.code yX11_total cX11_total 1 (some .int) ∈ gw := gw1 936 (by decide +kernel) rfl
abbrev mX11_rack : Md := (yX11_rack, cX11_rack, 4, (some .int))
theorem cwX11_rack : Cond.code yX11_rack cX11_rack 4 (some .int) ∈ gw := gw1 941 (by decide +kernel) rfl
abbrev mX11_isShelf : Md := (yX11_isShelf, cX11_isShelf, 1, (some .boolean))
theorem cwX11_isShelf : Cond.code yX11_isShelf cX11_isShelf 1 (some .boolean) ∈ gw := gw1 944 (by decide +kernel) rfl
abbrev mX7_holdRow : Md := (yX7_holdRow, cX7_holdRow, 3, none)
theorem cwX7_holdRow : Cond.code yX7_holdRow cX7_holdRow 3 none ∈ gw := gw1 948 (by decide +kernel) rfl
abbrev mX11_keep : Md := (yX11_keep, cX11_keep, 3, (some .int))
theorem cwX11_keep : Cond.code yX11_keep cX11_keep 3 (some .int) ∈ gw := gw1 953 (by decide +kernel) rfl
abbrev mX7_holdGuess : Md := (yX7_holdGuess, cX7_holdGuess, 4, none)
theorem cwX7_holdGuess : Cond.code yX7_holdGuess cX7_holdGuess 4 none ∈ gw := gw1 957 (by decide +kernel) rfl
abbrev mX11_clear : Md := (yX11_clear, cX11_clear, 3, (some .int))
theorem cwX11_clear : Cond.code yX11_clear cX11_clear 3 (some .int) ∈ gw := gw1 962 (by decide +kernel) rfl
abbrev mX11_put : Md := (yX11_put, cX11_put, 7, (some .int))
theorem cwX11_put : Cond.code yX11_put cX11_put 7 (some .int) ∈ gw := gw1 966 (by decide +kernel) rfl
abbrev mX7_whyNoRow : Md := (yX7_whyNoRow, cX7_whyNoRow, 1, (some .int))
theorem cwX7_whyNoRow : Cond.code yX7_whyNoRow cX7_whyNoRow 1 (some .int) ∈ gw := gw1 970 (by decide +kernel) rfl
abbrev mX7_hasCells : Md := (yX7_hasCells, cX7_hasCells, 3, (some .boolean))
theorem cwX7_hasCells : Cond.code yX7_hasCells cX7_hasCells 3 (some .boolean) ∈ gw := gw1 974 (by decide +kernel) rfl
abbrev mX7_narrowed : Md := (yX7_narrowed, cX7_narrowed, 2, (some .int))
theorem cwX7_narrowed : Cond.code yX7_narrowed cX7_narrowed 2 (some .int) ∈ gw := gw1 978 (by decide +kernel) rfl
abbrev mX11_copy : Md := (yX11_copy, cX11_copy, 8, (some .int))
theorem cwX11_copy : Cond.code yX11_copy cX11_copy 8 (some .int) ∈ gw := gw1 982 (by decide +kernel) rfl
abbrev mX11_take : Md := (yX11_take, cX11_take, 6, (some .int))
theorem cwX11_take : Cond.code yX11_take cX11_take 6 (some .int) ∈ gw := gw1 987 (by decide +kernel) rfl
abbrev mX7_pegAt : Md := (yX7_pegAt, cX7_pegAt, 2, (some .int))
theorem cwX7_pegAt : Cond.code yX7_pegAt cX7_pegAt 2 (some .int) ∈ gw := gw1 991 (by decide +kernel) rfl
abbrev mX11_kept : Md := (yX11_kept, cX11_kept, 5, (some .int))
theorem cwX11_kept : Cond.code yX11_kept cX11_kept 5 (some .int) ∈ gw := gw1 996 (by decide +kernel) rfl
abbrev mX7_whyNoGuess : Md := (yX7_whyNoGuess, cX7_whyNoGuess, 1, (some .int))
theorem cwX7_whyNoGuess : Cond.code yX7_whyNoGuess cX7_whyNoGuess 1 (some .int) ∈ gw := gw1 1000 (by decide +kernel) rfl
abbrev mX7_weight : Md := (yX7_weight, cX7_weight, 3, (some .int))
theorem cwX7_weight : Cond.code yX7_weight cX7_weight 3 (some .int) ∈ gw := gw1 1004 (by decide +kernel) rfl
abbrev mX7_pegsSet : Md := (yX7_pegsSet, cX7_pegsSet, 3, (some .int))
theorem cwX7_pegsSet : Cond.code yX7_pegsSet cX7_pegsSet 3 (some .int) ∈ gw := gw1 1008 (by decide +kernel) rfl
abbrev mX7_rank : Md := (yX7_rank, cX7_rank, 1, (some .int))
theorem cwX7_rank : Cond.code yX7_rank cX7_rank 1 (some .int) ∈ gw := gw1 1012 (by decide +kernel) rfl
abbrev mX7_failIfAnyPeg : Md := (yX7_failIfAnyPeg, cX7_failIfAnyPeg, 1, none)
theorem cwX7_failIfAnyPeg : Cond.code yX7_failIfAnyPeg cX7_failIfAnyPeg 1 none ∈ gw := gw1 1021 (by decide +kernel) rfl
abbrev mX11_count : Md := (yX11_count, cX11_count, 2, (some .int))
theorem cwX11_count : Cond.code yX11_count cX11_count 2 (some .int) ∈ gw := gw1 1092 (by decide +kernel) rfl
abbrev mX11_partsOfHand : Md := (yX11_partsOfHand, cX11_partsOfHand, 1, (some .int))
theorem cwX11_partsOfHand : Cond.code yX11_partsOfHand cX11_partsOfHand 1 (some .int) ∈ gw := gw1 1096 (by decide +kernel) rfl
abbrev mX11_at : Md := (yX11_at, cX11_at, 4, (some .int))
theorem cwX11_at : Cond.code yX11_at cX11_at 4 (some .int) ∈ gw := gw1 1105 (by decide +kernel) rfl
abbrev mX12_thrown : Md := (yX12_thrown, cX12_thrown, 1, (some .int))
theorem cwX12_thrown : Cond.code yX12_thrown cX12_thrown 1 (some .int) ∈ gw := gw1 1295 (by decide +kernel) rfl
abbrev mX12_begin : Md := (yX12_begin, cX12_begin, 5, (some .int))
theorem cwX12_begin : Cond.code yX12_begin cX12_begin 5 (some .int) ∈ gw := gw1 1299 (by decide +kernel) rfl
abbrev mX12_in : Md := (yX12_in, cX12_in, 3, (some .boolean))
theorem cwX12_in : Cond.code yX12_in cX12_in 3 (some .boolean) ∈ gw := gw1 1302 (by decide +kernel) rfl
abbrev mX12_law : Md := (yX12_law, cX12_law, 3, (some .int))
theorem cwX12_law : Cond.code yX12_law cX12_law 3 (some .int) ∈ gw := gw1 1306 (by decide +kernel) rfl
abbrev mX12_allowed : Md := (yX12_allowed, cX12_allowed, 3, (some .int))
theorem cwX12_allowed : Cond.code yX12_allowed cX12_allowed 3 (some .int) ∈ gw := gw1 1310 (by decide +kernel) rfl
abbrev mX12_isAllowed : Md := (yX12_isAllowed, cX12_isAllowed, 7, (some .boolean))
theorem cwX12_isAllowed : Cond.code yX12_isAllowed cX12_isAllowed 7 (some .boolean) ∈ gw := gw1 1314 (by decide +kernel) rfl
abbrev mX12_peg0 : Md := (yX12_peg0, cX12_peg0, 5, (some .int))
theorem cwX12_peg0 : Cond.code yX12_peg0 cX12_peg0 5 (some .int) ∈ gw := gw1 1318 (by decide +kernel) rfl
abbrev mX12_enlist : Md := (yX12_enlist, cX12_enlist, 2, (some .int))
theorem cwX12_enlist : Cond.code yX12_enlist cX12_enlist 2 (some .int) ∈ gw := gw1 1322 (by decide +kernel) rfl
abbrev mX12_isCode : Md := (yX12_isCode, cX12_isCode, 2, (some .boolean))
theorem cwX12_isCode : Cond.code yX12_isCode cX12_isCode 2 (some .boolean) ∈ gw := gw1 1326 (by decide +kernel) rfl
abbrev mX12_lies : Md := (yX12_lies, cX12_lies, 3, (some .int))
theorem cwX12_lies : Cond.code yX12_lies cX12_lies 3 (some .int) ∈ gw := gw1 1330 (by decide +kernel) rfl
abbrev mX12_peg : Md := (yX12_peg, cX12_peg, 4, (some .int))
theorem cwX12_peg : Cond.code yX12_peg cX12_peg 4 (some .int) ∈ gw := gw1 1334 (by decide +kernel) rfl
abbrev mX12_found : Md := (yX12_found, cX12_found, 2, (some .int))
theorem cwX12_found : Cond.code yX12_found cX12_found 2 (some .int) ∈ gw := gw1 1338 (by decide +kernel) rfl
abbrev mX12_show : Md := (yX12_show, cX12_show, 3, (some .int))
theorem cwX12_show : Cond.code yX12_show cX12_show 3 (some .int) ∈ gw := gw1 1342 (by decide +kernel) rfl
abbrev mX12_sortOf : Md := (yX12_sortOf, cX12_sortOf, 5, (some .int))
theorem cwX12_sortOf : Cond.code yX12_sortOf cX12_sortOf 5 (some .int) ∈ gw := gw1 1346 (by decide +kernel) rfl
abbrev mX12_look : Md := (yX12_look, cX12_look, 2, none)
theorem cwX12_look : Cond.code yX12_look cX12_look 2 none ∈ gw := gw1 1350 (by decide +kernel) rfl
abbrev mX12_falseOf : Md := (yX12_falseOf, cX12_falseOf, 5, (some .int))
theorem cwX12_falseOf : Cond.code yX12_falseOf cX12_falseOf 5 (some .int) ∈ gw := gw1 1354 (by decide +kernel) rfl
abbrev mX12_guessTurn : Md := (yX12_guessTurn, cX12_guessTurn, 3, none)
theorem cwX12_guessTurn : Cond.code yX12_guessTurn cX12_guessTurn 3 none ∈ gw := gw1 1358 (by decide +kernel) rfl
abbrev mX12_answers : Md := (yX12_answers, cX12_answers, 8, (some .int))
theorem cwX12_answers : Cond.code yX12_answers cX12_answers 8 (some .int) ∈ gw := gw1 1362 (by decide +kernel) rfl
abbrev mX12_ones : Md := (yX12_ones, cX12_ones, 3, (some .int))
theorem cwX12_ones : Cond.code yX12_ones cX12_ones 3 (some .int) ∈ gw := gw1 1365 (by decide +kernel) rfl
abbrev mX12_guessHand : Md := (yX12_guessHand, cX12_guessHand, 2, none)
theorem cwX12_guessHand : Cond.code yX12_guessHand cX12_guessHand 2 none ∈ gw := gw1 1369 (by decide +kernel) rfl
abbrev mX12_hand : Md := (yX12_hand, cX12_hand, 2, (some .int))
theorem cwX12_hand : Cond.code yX12_hand cX12_hand 2 (some .int) ∈ gw := gw1 1373 (by decide +kernel) rfl
abbrev mX12_sort : Md := (yX12_sort, cX12_sort, 1, (some .int))
theorem cwX12_sort : Cond.code yX12_sort cX12_sort 1 (some .int) ∈ gw := gw1 1377 (by decide +kernel) rfl
abbrev mX12_answer : Md := (yX12_answer, cX12_answer, 3, (some .int))
theorem cwX12_answer : Cond.code yX12_answer cX12_answer 3 (some .int) ∈ gw := gw1 1381 (by decide +kernel) rfl
abbrev mX12_guessCode : Md := (yX12_guessCode, cX12_guessCode, 3, none)
theorem cwX12_guessCode : Cond.code yX12_guessCode cX12_guessCode 3 none ∈ gw := gw1 1385 (by decide +kernel) rfl
abbrev mX12_reply : Md := (yX12_reply, cX12_reply, 2, (some .int))
theorem cwX12_reply : Cond.code yX12_reply cX12_reply 2 (some .int) ∈ gw := gw1 1389 (by decide +kernel) rfl
abbrev mX12_tell : Md := (yX12_tell, cX12_tell, 3, (some .int))
theorem cwX12_tell : Cond.code yX12_tell cX12_tell 3 (some .int) ∈ gw := gw1 1393 (by decide +kernel) rfl
abbrev mX12_mayAnswer : Md := (yX12_mayAnswer, cX12_mayAnswer, 2, (some .boolean))
theorem cwX12_mayAnswer : Cond.code yX12_mayAnswer cX12_mayAnswer 2 (some .boolean) ∈ gw := gw1 1397 (by decide +kernel) rfl
abbrev mX12_quarrels : Md := (yX12_quarrels, cX12_quarrels, 6, none)
theorem cwX12_quarrels : Cond.code yX12_quarrels cX12_quarrels 6 none ∈ gw := gw1 1401 (by decide +kernel) rfl
abbrev mX12_undo : Md := (yX12_undo, cX12_undo, 1, (some .int))
theorem cwX12_undo : Cond.code yX12_undo cX12_undo 1 (some .int) ∈ gw := gw1 1405 (by decide +kernel) rfl
abbrev mX12_quarrel : Md := (yX12_quarrel, cX12_quarrel, 2, (some .int))
theorem cwX12_quarrel : Cond.code yX12_quarrel cX12_quarrel 2 (some .int) ∈ gw := gw1 1409 (by decide +kernel) rfl
abbrev mX12_turn : Md := (yX12_turn, cX12_turn, 5, (some .int))
theorem cwX12_turn : Cond.code yX12_turn cX12_turn 5 (some .int) ∈ gw := gw1 1413 (by decide +kernel) rfl
abbrev mX12_left : Md := (yX12_left, cX12_left, 2, (some .int))
theorem cwX12_left : Cond.code yX12_left cX12_left 2 (some .int) ∈ gw := gw1 1417 (by decide +kernel) rfl
abbrev mX12_falses : Md := (yX12_falses, cX12_falses, 2, (some .int))
theorem cwX12_falses : Cond.code yX12_falses cX12_falses 2 (some .int) ∈ gw := gw1 1421 (by decide +kernel) rfl
abbrev mX12_part : Md := (yX12_part, cX12_part, 5, (some .int))
theorem cwX12_part : Cond.code yX12_part cX12_part 5 (some .int) ∈ gw := gw1 1425 (by decide +kernel) rfl
abbrev mX12_partsOf : Md := (yX12_partsOf, cX12_partsOf, 3, (some .int))
theorem cwX12_partsOf : Cond.code yX12_partsOf cX12_partsOf 3 (some .int) ∈ gw := gw1 1429 (by decide +kernel) rfl
abbrev mX12_among : Md := (yX12_among, cX12_among, 10, (some .int))
theorem cwX12_among : Cond.code yX12_among cX12_among 10 (some .int) ∈ gw := gw1 1433 (by decide +kernel) rfl
abbrev mX12_like : Md := (yX12_like, cX12_like, 9, (some .int))
theorem cwX12_like : Cond.code yX12_like cX12_like 9 (some .int) ∈ gw := gw1 1439 (by decide +kernel) rfl
abbrev mX12_isLeft : Md := (yX12_isLeft, cX12_isLeft, 2, (some .boolean))
theorem cwX12_isLeft : Cond.code yX12_isLeft cX12_isLeft 2 (some .boolean) ∈ gw := gw1 1443 (by decide +kernel) rfl
abbrev mX12_order : Md := (yX12_order, cX12_order, 11, none)
theorem cwX12_order : Cond.code yX12_order cX12_order 11 none ∈ gw := gw1 1446 (by decide +kernel) rfl
abbrev mX12_turned : Md := (yX12_turned, cX12_turned, 4, (some .int))
theorem cwX12_turned : Cond.code yX12_turned cX12_turned 4 (some .int) ∈ gw := gw1 1450 (by decide +kernel) rfl
abbrev mX12_least : Md := (yX12_least, cX12_least, 3, (some .int))
theorem cwX12_least : Cond.code yX12_least cX12_least 3 (some .int) ∈ gw := gw1 1454 (by decide +kernel) rfl
abbrev mX12_refusedTree : Md := (yX12_refusedTree, cX12_refusedTree, 2, (some .int))
theorem cwX12_refusedTree : Cond.code yX12_refusedTree cX12_refusedTree 2 (some .int) ∈ gw := gw1 1458 (by decide +kernel) rfl
abbrev mX12_trees : Md := (yX12_trees, cX12_trees, 10, none)
theorem cwX12_trees : Cond.code yX12_trees cX12_trees 10 none ∈ gw := gw1 1462 (by decide +kernel) rfl
abbrev mX12_isIn : Md := (yX12_isIn, cX12_isIn, 4, (some .boolean))
theorem cwX12_isIn : Cond.code yX12_isIn cX12_isIn 4 (some .boolean) ∈ gw := gw1 1466 (by decide +kernel) rfl
abbrev mX12_split : Md := (yX12_split, cX12_split, 7, (some .int))
theorem cwX12_split : Cond.code yX12_split cX12_split 7 (some .int) ∈ gw := gw1 1470 (by decide +kernel) rfl
abbrev mX12_sum : Md := (yX12_sum, cX12_sum, 5, (some .int))
theorem cwX12_sum : Cond.code yX12_sum cX12_sum 5 (some .int) ∈ gw := gw1 1474 (by decide +kernel) rfl
abbrev mX12_asked : Md := (yX12_asked, cX12_asked, 3, (some .int))
theorem cwX12_asked : Cond.code yX12_asked cX12_asked 3 (some .int) ∈ gw := gw1 1478 (by decide +kernel) rfl
abbrev mX12_row : Md := (yX12_row, cX12_row, 1, (some .int))
theorem cwX12_row : Cond.code yX12_row cX12_row 1 (some .int) ∈ gw := gw1 1481 (by decide +kernel) rfl
abbrev mX12_best : Md := (yX12_best, cX12_best, 6, (some .int))
theorem cwX12_best : Cond.code yX12_best cX12_best 6 (some .int) ∈ gw := gw1 1485 (by decide +kernel) rfl
abbrev mX12_tree : Md := (yX12_tree, cX12_tree, 13, (some .int))
theorem cwX12_tree : Cond.code yX12_tree cX12_tree 13 (some .int) ∈ gw := gw1 1489 (by decide +kernel) rfl
abbrev mX12_node : Md := (yX12_node, cX12_node, 3, (some .int))
theorem cwX12_node : Cond.code yX12_node cX12_node 3 (some .int) ∈ gw := gw1 1493 (by decide +kernel) rfl
abbrev mX12_plan : Md := (yX12_plan, cX12_plan, 5, (some .int))
theorem cwX12_plan : Cond.code yX12_plan cX12_plan 5 (some .int) ∈ gw := gw1 1497 (by decide +kernel) rfl
abbrev mX12_drop : Md := (yX12_drop, cX12_drop, 2, (some .int))
theorem cwX12_drop : Cond.code yX12_drop cX12_drop 2 (some .int) ∈ gw := gw1 1501 (by decide +kernel) rfl
abbrev mX12_judge : Md := (yX12_judge, cX12_judge, 1, (some .int))
theorem cwX12_judge : Cond.code yX12_judge cX12_judge 1 (some .int) ∈ gw := gw1 1505 (by decide +kernel) rfl
abbrev mX12_judged : Md := (yX12_judged, cX12_judged, 5, (some .int))
theorem cwX12_judged : Cond.code yX12_judged cX12_judged 5 (some .int) ∈ gw := gw1 1509 (by decide +kernel) rfl
abbrev mX12_isWhole : Md := (yX12_isWhole, cX12_isWhole, 5, (some .boolean))
theorem cwX12_isWhole : Cond.code yX12_isWhole cX12_isWhole 5 (some .boolean) ∈ gw := gw1 1513 (by decide +kernel) rfl
abbrev mX12_isMeant : Md := (yX12_isMeant, cX12_isMeant, 4, (some .boolean))
theorem cwX12_isMeant : Cond.code yX12_isMeant cX12_isMeant 4 (some .boolean) ∈ gw := gw1 1517 (by decide +kernel) rfl
abbrev mX12_total : Md := (yX12_total, cX12_total, 7, (some .int))
theorem cwX12_total : Cond.code yX12_total cX12_total 7 (some .int) ∈ gw := gw1 1521 (by decide +kernel) rfl
abbrev mX12_rack : Md := (yX12_rack, cX12_rack, 5, (some .int))
theorem cwX12_rack : Cond.code yX12_rack cX12_rack 5 (some .int) ∈ gw := gw1 1525 (by decide +kernel) rfl
abbrev mX12_isShelf : Md := (yX12_isShelf, cX12_isShelf, 1, (some .boolean))
theorem cwX12_isShelf : Cond.code yX12_isShelf cX12_isShelf 1 (some .boolean) ∈ gw := gw1 1528 (by decide +kernel) rfl
abbrev mX12_keep : Md := (yX12_keep, cX12_keep, 3, (some .int))
theorem cwX12_keep : Cond.code yX12_keep cX12_keep 3 (some .int) ∈ gw := gw1 1532 (by decide +kernel) rfl
abbrev mX12_clear : Md := (yX12_clear, cX12_clear, 3, (some .int))
theorem cwX12_clear : Cond.code yX12_clear cX12_clear 3 (some .int) ∈ gw := gw1 1536 (by decide +kernel) rfl
abbrev mX12_put : Md := (yX12_put, cX12_put, 5, (some .int))
theorem cwX12_put : Cond.code yX12_put cX12_put 5 (some .int) ∈ gw := gw1 1540 (by decide +kernel) rfl
abbrev mX12_narrow : Md := (yX12_narrow, cX12_narrow, 2, (some .int))
theorem cwX12_narrow : Cond.code yX12_narrow cX12_narrow 2 (some .int) ∈ gw := gw1 1543 (by decide +kernel) rfl
abbrev mX12_at : Md := (yX12_at, cX12_at, 3, (some .int))
theorem cwX12_at : Cond.code yX12_at cX12_at 3 (some .int) ∈ gw := gw1 1548 (by decide +kernel) rfl
abbrev mX12_copy : Md := (yX12_copy, cX12_copy, 7, (some .int))
theorem cwX12_copy : Cond.code yX12_copy cX12_copy 7 (some .int) ∈ gw := gw1 1552 (by decide +kernel) rfl
abbrev mX12_take : Md := (yX12_take, cX12_take, 6, (some .int))
theorem cwX12_take : Cond.code yX12_take cX12_take 6 (some .int) ∈ gw := gw1 1556 (by decide +kernel) rfl
abbrev mX12_kept : Md := (yX12_kept, cX12_kept, 4, (some .int))
theorem cwX12_kept : Cond.code yX12_kept cX12_kept 4 (some .int) ∈ gw := gw1 1560 (by decide +kernel) rfl
abbrev mX12_weight : Md := (yX12_weight, cX12_weight, 3, (some .int))
theorem cwX12_weight : Cond.code yX12_weight cX12_weight 3 (some .int) ∈ gw := gw1 1564 (by decide +kernel) rfl
abbrev mX12_pegs : Md := (yX12_pegs, cX12_pegs, 4, (some .int))
theorem cwX12_pegs : Cond.code yX12_pegs cX12_pegs 4 (some .int) ∈ gw := gw1 1568 (by decide +kernel) rfl
abbrev mX12_toss : Md := (yX12_toss, cX12_toss, 2, (some .int))
theorem cwX12_toss : Cond.code yX12_toss cX12_toss 2 (some .int) ∈ gw := gw1 1572 (by decide +kernel) rfl
abbrev mX12_count : Md := (yX12_count, cX12_count, 2, (some .int))
theorem cwX12_count : Cond.code yX12_count cX12_count 2 (some .int) ∈ gw := gw1 1576 (by decide +kernel) rfl
theorem mvX11_86 : MLv RX11 86 11 mX11_startAnew 2 := ⟨⟨TX11, 12, rfl⟩, cwX11_startAnew, gw1 1 (by decide +kernel) rfl, gw1 424 (by decide +kernel) rfl, gwp 0 (by decide +kernel) rfl, by decide, ⟨by decide, by decide, by decide +kernel⟩, Or.inl (gw1 422 (by decide +kernel) rfl)⟩
theorem msX11_90 : MLs RX11 90 mX0_codesOf 2 := ⟨cwX0_codesOf, gw1 2 (by decide +kernel) rfl, gw1 431 (by decide +kernel) rfl, by decide, ⟨by decide, by decide, by decide +kernel⟩, Or.inr ⟨"PegCourt", tb_in 541 (by decide +kernel)⟩⟩
theorem mvX11_98 : MLv RX11 98 0 mX0_write 2 := ⟨⟨TX0, 7, rfl⟩, cwX0_write, gw1 2 (by decide +kernel) rfl, gw1 428 (by decide +kernel) rfl, gwp 1 (by decide +kernel) rfl, by decide, ⟨by decide, by decide, by decide +kernel⟩, Or.inr ⟨"PegCourt", tb_in 426 (by decide +kernel)⟩⟩
theorem mvX11_101 : MLv RX11 101 5 mX5_startAnew 0 := ⟨⟨TX5, 17, rfl⟩, cwX5_startAnew, gw1 4 (by decide +kernel) rfl, gw1 454 (by decide +kernel) rfl, gwp 6 (by decide +kernel) rfl, by decide, ⟨by decide, by decide, by decide +kernel⟩, Or.inr ⟨"PegCourt", tb_in 452 (by decide +kernel)⟩⟩
theorem mvX11_103 : MLv RX11 103 2 mX2_fillWith 1 := ⟨⟨TX2, 3, rfl⟩, cwX2_fillWith, gw1 3 (by decide +kernel) rfl, gw1 435 (by decide +kernel) rfl, gwp 2 (by decide +kernel) rfl, by decide, ⟨by decide, by decide, by decide +kernel⟩, Or.inr ⟨"PegCourt", tb_in 494 (by decide +kernel)⟩⟩
theorem mvX11_107 : MLv RX11 107 2 mX2_measure 2 := ⟨⟨TX2, 3, rfl⟩, cwX2_measure, gw1 3 (by decide +kernel) rfl, gw1 442 (by decide +kernel) rfl, gwp 3 (by decide +kernel) rfl, by decide, ⟨by decide, by decide, by decide +kernel⟩, Or.inr ⟨"PegCourt", tb_in 495 (by decide +kernel)⟩⟩
theorem mvX11_113 : MLv RX11 113 4 mX4_empty 0 := ⟨⟨TX4, 11, rfl⟩, cwX4_empty, gw1 11 (by decide +kernel) rfl, gw1 498 (by decide +kernel) rfl, gwp 15 (by decide +kernel) rfl, by decide, ⟨by decide, by decide, by decide +kernel⟩, Or.inr ⟨"PegCourt", tb_in 496 (by decide +kernel)⟩⟩
theorem mvX11_122 : MLv RX11 122 5 mX5_setLaw 2 := ⟨⟨TX5, 17, rfl⟩, cwX5_setLaw, gw1 4 (by decide +kernel) rfl, gw1 458 (by decide +kernel) rfl, gwp 7 (by decide +kernel) rfl, by decide, ⟨by decide, by decide, by decide +kernel⟩, Or.inr ⟨"PegCourt", tb_in 546 (by decide +kernel)⟩⟩
theorem mvX11_128 : MLv RX11 128 0 mX0_has 1 := ⟨⟨TX0, 7, rfl⟩, cwX0_has, gw1 2 (by decide +kernel) rfl, gw1 486 (by decide +kernel) rfl, gwp 14 (by decide +kernel) rfl, by decide, ⟨by decide, by decide, by decide +kernel⟩, Or.inr ⟨"PegCourt", tb_in 551 (by decide +kernel)⟩⟩
theorem mvX11_139 : MLv RX11 139 5 mX5_addToList 1 := ⟨⟨TX5, 17, rfl⟩, cwX5_addToList, gw1 4 (by decide +kernel) rfl, gw1 554 (by decide +kernel) rfl, gwp 16 (by decide +kernel) rfl, by decide, ⟨by decide, by decide, by decide +kernel⟩, Or.inr ⟨"PegCourt", tb_in 552 (by decide +kernel)⟩⟩
theorem mvX11_145 : MLv RX11 145 5 mX5_setLies 1 := ⟨⟨TX5, 17, rfl⟩, cwX5_setLies, gw1 4 (by decide +kernel) rfl, gw1 562 (by decide +kernel) rfl, gwp 17 (by decide +kernel) rfl, by decide, ⟨by decide, by decide, by decide +kernel⟩, Or.inr ⟨"PegCourt", tb_in 560 (by decide +kernel)⟩⟩
theorem mvX11_148 : MLv RX11 148 0 mX0_hasPlace 1 := ⟨⟨TX0, 7, rfl⟩, cwX0_hasPlace, gw1 2 (by decide +kernel) rfl, gw1 570 (by decide +kernel) rfl, gwp 18 (by decide +kernel) rfl, by decide, ⟨by decide, by decide, by decide +kernel⟩, Or.inr ⟨"PegCourt", tb_in 568 (by decide +kernel)⟩⟩
theorem mvX11_151 : MLv RX11 151 11 mX11_refused 1 := ⟨⟨TX11, 12, rfl⟩, cwX11_refused, gw1 1 (by decide +kernel) rfl, gw1 574 (by decide +kernel) rfl, gwp 19 (by decide +kernel) rfl, by decide, ⟨by decide, by decide, by decide +kernel⟩, Or.inl (gw1 572 (by decide +kernel) rfl)⟩
theorem mvX11_155 : MLv RX11 155 0 mX0_isPeg 1 := ⟨⟨TX0, 7, rfl⟩, cwX0_isPeg, gw1 2 (by decide +kernel) rfl, gw1 578 (by decide +kernel) rfl, gwp 20 (by decide +kernel) rfl, by decide, ⟨by decide, by decide, by decide +kernel⟩, Or.inr ⟨"PegCourt", tb_in 576 (by decide +kernel)⟩⟩
theorem mvX11_168 : MLv RX11 168 0 mX0_colourAt 2 := ⟨⟨TX0, 7, rfl⟩, cwX0_colourAt, gw1 2 (by decide +kernel) rfl, gw1 470 (by decide +kernel) rfl, gwp 10 (by decide +kernel) rfl, by decide, ⟨by decide, by decide, by decide +kernel⟩, Or.inr ⟨"PegCourt", tb_in 584 (by decide +kernel)⟩⟩
theorem mvX11_171 : MLv RX11 171 11 mX11_sortOfHand 0 := ⟨⟨TX11, 12, rfl⟩, cwX11_sortOfHand, gw1 1 (by decide +kernel) rfl, gw1 587 (by decide +kernel) rfl, gwp 21 (by decide +kernel) rfl, by decide, ⟨by decide, by decide, by decide +kernel⟩, Or.inl (gw1 585 (by decide +kernel) rfl)⟩
theorem mvX11_175 : MLv RX11 175 0 mX0_numberOf 1 := ⟨⟨TX0, 7, rfl⟩, cwX0_numberOf, gw1 2 (by decide +kernel) rfl, gw1 591 (by decide +kernel) rfl, gwp 22 (by decide +kernel) rfl, by decide, ⟨by decide, by decide, by decide +kernel⟩, Or.inr ⟨"PegCourt", tb_in 589 (by decide +kernel)⟩⟩
theorem mvX11_179 : MLv RX11 179 5 mX5_isLeft 1 := ⟨⟨TX5, 17, rfl⟩, cwX5_isLeft, gw1 4 (by decide +kernel) rfl, gw1 482 (by decide +kernel) rfl, gwp 13 (by decide +kernel) rfl, by decide, ⟨by decide, by decide, by decide +kernel⟩, Or.inr ⟨"PegCourt", tb_in 593 (by decide +kernel)⟩⟩
theorem mvX11_191 : MLv RX11 191 3 mX3_divide 3 := ⟨⟨TX3, 3, rfl⟩, cwX3_divide, gw1 6 (by decide +kernel) rfl, gw1 596 (by decide +kernel) rfl, gwp 23 (by decide +kernel) rfl, by decide, ⟨by decide, by decide, by decide +kernel⟩, Or.inr ⟨"PegCourt", tb_in 594 (by decide +kernel)⟩⟩
theorem mvX11_198 : MLv RX11 198 0 mX0_answerOfCodes 2 := ⟨⟨TX0, 7, rfl⟩, cwX0_answerOfCodes, gw1 2 (by decide +kernel) rfl, gw1 618 (by decide +kernel) rfl, gwp 25 (by decide +kernel) rfl, by decide, ⟨by decide, by decide, by decide +kernel⟩, Or.inr ⟨"PegCourt", tb_in 616 (by decide +kernel)⟩⟩
theorem mvX11_201 : MLv RX11 201 0 mX0_answerTo 3 := ⟨⟨TX0, 7, rfl⟩, cwX0_answerTo, gw1 2 (by decide +kernel) rfl, gw1 601 (by decide +kernel) rfl, gwp 24 (by decide +kernel) rfl, by decide, ⟨by decide, by decide, by decide +kernel⟩, Or.inr ⟨"PegCourt", tb_in 625 (by decide +kernel)⟩⟩
theorem mvX11_205 : MLv RX11 205 0 mX0_canBeTold 1 := ⟨⟨TX0, 7, rfl⟩, cwX0_canBeTold, gw1 2 (by decide +kernel) rfl, gw1 632 (by decide +kernel) rfl, gwp 26 (by decide +kernel) rfl, by decide, ⟨by decide, by decide, by decide +kernel⟩, Or.inr ⟨"PegCourt", tb_in 630 (by decide +kernel)⟩⟩
theorem mvX11_208 : MLv RX11 208 5 mX5_accepts 2 := ⟨⟨TX5, 17, rfl⟩, cwX5_accepts, gw1 4 (by decide +kernel) rfl, gw1 636 (by decide +kernel) rfl, gwp 27 (by decide +kernel) rfl, by decide, ⟨by decide, by decide, by decide +kernel⟩, Or.inr ⟨"PegCourt", tb_in 634 (by decide +kernel)⟩⟩
theorem mvX11_212 : MLv RX11 212 5 mX5_takeBack 0 := ⟨⟨TX5, 17, rfl⟩, cwX5_takeBack, gw1 4 (by decide +kernel) rfl, gw1 677 (by decide +kernel) rfl, gwp 35 (by decide +kernel) rfl, by decide, ⟨by decide, by decide, by decide +kernel⟩, Or.inr ⟨"PegCourt", tb_in 675 (by decide +kernel)⟩⟩
theorem msX11_218 : MLs RX11 218 mJ6_bitCount_0f7a4 1 := ⟨cwJ6_bitCount_0f7a4, gw1 14 (by decide +kernel) rfl, gw1 489 (by decide +kernel) rfl, by decide, ⟨by decide, by decide, by decide +kernel⟩, Or.inl (gw1 683 (by decide +kernel) rfl)⟩
theorem msX11_223 : MLs RX11 223 mX11_memberOf 2 := ⟨cwX11_memberOf, gw1 1 (by decide +kernel) rfl, gw1 685 (by decide +kernel) rfl, by decide, ⟨by decide, by decide, by decide +kernel⟩, Or.inl (gw1 684 (by decide +kernel) rfl)⟩
theorem mvX11_229 : MLv RX11 229 5 mX5_leftWithFalse 1 := ⟨⟨TX5, 17, rfl⟩, cwX5_leftWithFalse, gw1 4 (by decide +kernel) rfl, gw1 693 (by decide +kernel) rfl, gwp 36 (by decide +kernel) rfl, by decide, ⟨by decide, by decide, by decide +kernel⟩, Or.inr ⟨"PegCourt", tb_in 691 (by decide +kernel)⟩⟩
theorem mvX11_239 : MLv RX11 239 3 mX3_answerOfPart 1 := ⟨⟨TX3, 3, rfl⟩, cwX3_answerOfPart, gw1 6 (by decide +kernel) rfl, gw1 709 (by decide +kernel) rfl, gwp 37 (by decide +kernel) rfl, by decide, ⟨by decide, by decide, by decide +kernel⟩, Or.inr ⟨"PegCourt", tb_in 707 (by decide +kernel)⟩⟩
theorem mvX11_246 : MLv RX11 246 8 mX8_look 2 := ⟨⟨TX8, 5, rfl⟩, cwX8_look, gw1 7 (by decide +kernel) rfl, gw1 718 (by decide +kernel) rfl, gwp 38 (by decide +kernel) rfl, by decide, ⟨by decide, by decide, by decide +kernel⟩, Or.inr ⟨"PegCourt", tb_in 716 (by decide +kernel)⟩⟩
theorem mvX11_262 : MLv RX11 262 10 mX10_leads 3 := ⟨⟨TX10, 4, rfl⟩, cwX10_leads, gw1 8 (by decide +kernel) rfl, gw1 727 (by decide +kernel) rfl, gwp 39 (by decide +kernel) rfl, by decide, ⟨by decide, by decide, by decide +kernel⟩, Or.inr ⟨"PegCourt", tb_in 725 (by decide +kernel)⟩⟩
theorem msX11_266 : MLs RX11 266 mX11_isPool 1 := ⟨cwX11_isPool, gw1 1 (by decide +kernel) rfl, gw1 757 (by decide +kernel) rfl, by decide, ⟨by decide, by decide, by decide +kernel⟩, Or.inl (gw1 756 (by decide +kernel) rfl)⟩
theorem mvX11_269 : MLv RX11 269 11 mX11_whyNoTrees 0 := ⟨⟨TX11, 12, rfl⟩, cwX11_whyNoTrees, gw1 1 (by decide +kernel) rfl, gw1 761 (by decide +kernel) rfl, gwp 43 (by decide +kernel) rfl, by decide, ⟨by decide, by decide, by decide +kernel⟩, Or.inl (gw1 759 (by decide +kernel) rfl)⟩
theorem mvX11_272 : MLv RX11 272 11 mX11_forestOf 1 := ⟨⟨TX11, 12, rfl⟩, cwX11_forestOf, gw1 1 (by decide +kernel) rfl, gw1 765 (by decide +kernel) rfl, gwp 44 (by decide +kernel) rfl, by decide, ⟨by decide, by decide, by decide +kernel⟩, Or.inl (gw1 763 (by decide +kernel) rfl)⟩
theorem mvX11_276 : MLv RX11 276 1 mX1_leastDepth 0 := ⟨⟨TX1, 15, rfl⟩, cwX1_leastDepth, gw1 9 (by decide +kernel) rfl, gw1 804 (by decide +kernel) rfl, gwp 52 (by decide +kernel) rfl, by decide, ⟨by decide, by decide, by decide +kernel⟩, Or.inr ⟨"PegCourt", tb_in 802 (by decide +kernel)⟩⟩
theorem msX11_279 : MLs RX11 279 mX11_isDepth 1 := ⟨cwX11_isDepth, gw1 1 (by decide +kernel) rfl, gw1 837 (by decide +kernel) rfl, by decide, ⟨by decide, by decide, by decide +kernel⟩, Or.inl (gw1 836 (by decide +kernel) rfl)⟩
theorem mvX11_282 : MLv RX11 282 1 mX1_leastSumWithin 1 := ⟨⟨TX1, 15, rfl⟩, cwX1_leastSumWithin, gw1 9 (by decide +kernel) rfl, gw1 841 (by decide +kernel) rfl, gwp 59 (by decide +kernel) rfl, by decide, ⟨by decide, by decide, by decide +kernel⟩, Or.inr ⟨"PegCourt", tb_in 839 (by decide +kernel)⟩⟩
theorem mvX11_285 : MLv RX11 285 1 mX1_firstOfLeastDepth 0 := ⟨⟨TX1, 15, rfl⟩, cwX1_firstOfLeastDepth, gw1 9 (by decide +kernel) rfl, gw1 853 (by decide +kernel) rfl, gwp 61 (by decide +kernel) rfl, by decide, ⟨by decide, by decide, by decide +kernel⟩, Or.inr ⟨"PegCourt", tb_in 851 (by decide +kernel)⟩⟩
theorem mvX11_288 : MLv RX11 288 1 mX1_firstOfLeastSum 1 := ⟨⟨TX1, 15, rfl⟩, cwX1_firstOfLeastSum, gw1 9 (by decide +kernel) rfl, gw1 858 (by decide +kernel) rfl, gwp 62 (by decide +kernel) rfl, by decide, ⟨by decide, by decide, by decide +kernel⟩, Or.inr ⟨"PegCourt", tb_in 856 (by decide +kernel)⟩⟩
theorem mvX11_291 : MLv RX11 291 1 mX1_plant 2 := ⟨⟨TX1, 15, rfl⟩, cwX1_plant, gw1 9 (by decide +kernel) rfl, gw1 870 (by decide +kernel) rfl, gwp 64 (by decide +kernel) rfl, by decide, ⟨by decide, by decide, by decide +kernel⟩, Or.inr ⟨"PegCourt", tb_in 868 (by decide +kernel)⟩⟩
theorem mvX11_295 : MLv RX11 295 1 mX1_standFor 1 := ⟨⟨TX1, 15, rfl⟩, cwX1_standFor, gw1 9 (by decide +kernel) rfl, gw1 769 (by decide +kernel) rfl, gwp 45 (by decide +kernel) rfl, by decide, ⟨by decide, by decide, by decide +kernel⟩, Or.inr ⟨"PegCourt", tb_in 767 (by decide +kernel)⟩⟩
theorem mvX11_311 : MLv RX11 311 4 mX4_has 1 := ⟨⟨TX4, 11, rfl⟩, cwX4_has, gw1 11 (by decide +kernel) rfl, gw1 898 (by decide +kernel) rfl, gwp 69 (by decide +kernel) rfl, by decide, ⟨by decide, by decide, by decide +kernel⟩, Or.inr ⟨"PegCourt", tb_in 896 (by decide +kernel)⟩⟩
theorem mvX11_312 : MLv RX11 312 4 mX4_add 3 := ⟨⟨TX4, 11, rfl⟩, cwX4_add, gw1 11 (by decide +kernel) rfl, gw1 902 (by decide +kernel) rfl, gwp 70 (by decide +kernel) rfl, by decide, ⟨by decide, by decide, by decide +kernel⟩, Or.inr ⟨"PegCourt", tb_in 900 (by decide +kernel)⟩⟩
theorem mvX11_316 : MLv RX11 316 4 mX4_follow 1 := ⟨⟨TX4, 11, rfl⟩, cwX4_follow, gw1 11 (by decide +kernel) rfl, gw1 918 (by decide +kernel) rfl, gwp 71 (by decide +kernel) rfl, by decide, ⟨by decide, by decide, by decide +kernel⟩, Or.inr ⟨"PegCourt", tb_in 916 (by decide +kernel)⟩⟩
theorem mvX11_319 : MLv RX11 319 4 mX4_firstNotWhole 0 := ⟨⟨TX4, 11, rfl⟩, cwX4_firstNotWhole, gw1 11 (by decide +kernel) rfl, gw1 931 (by decide +kernel) rfl, gwp 73 (by decide +kernel) rfl, by decide, ⟨by decide, by decide, by decide +kernel⟩, Or.inr ⟨"PegCourt", tb_in 929 (by decide +kernel)⟩⟩
theorem mvX11_325 : MLv RX11 325 11 mX11_judge 0 := ⟨⟨TX11, 12, rfl⟩, cwX11_judge, gw1 1 (by decide +kernel) rfl, gw1 913 (by decide +kernel) rfl, gw1 914 (by decide +kernel) rfl, by decide, ⟨by decide, by decide, by decide +kernel⟩, Or.inl (gw1 937 (by decide +kernel) rfl)⟩
theorem msX11_331 : MLs RX11 331 mX11_isShelf 1 := ⟨cwX11_isShelf, gw1 1 (by decide +kernel) rfl, gw1 943 (by decide +kernel) rfl, by decide, ⟨by decide, by decide, by decide +kernel⟩, Or.inl (gw1 942 (by decide +kernel) rfl)⟩
theorem mvX11_334 : MLv RX11 334 7 mX7_holdRow 2 := ⟨⟨TX7, 4, rfl⟩, cwX7_holdRow, gw1 12 (by decide +kernel) rfl, gw1 947 (by decide +kernel) rfl, gwp 74 (by decide +kernel) rfl, by decide, ⟨by decide, by decide, by decide +kernel⟩, Or.inr ⟨"PegCourt", tb_in 945 (by decide +kernel)⟩⟩
theorem mvX11_337 : MLv RX11 337 7 mX7_holdGuess 3 := ⟨⟨TX7, 4, rfl⟩, cwX7_holdGuess, gw1 12 (by decide +kernel) rfl, gw1 956 (by decide +kernel) rfl, gwp 75 (by decide +kernel) rfl, by decide, ⟨by decide, by decide, by decide +kernel⟩, Or.inr ⟨"PegCourt", tb_in 954 (by decide +kernel)⟩⟩
theorem mvX11_344 : MLv RX11 344 7 mX7_whyNoRow 0 := ⟨⟨TX7, 4, rfl⟩, cwX7_whyNoRow, gw1 12 (by decide +kernel) rfl, gw1 969 (by decide +kernel) rfl, gwp 76 (by decide +kernel) rfl, by decide, ⟨by decide, by decide, by decide +kernel⟩, Or.inr ⟨"PegCourt", tb_in 967 (by decide +kernel)⟩⟩
theorem mvX11_347 : MLv RX11 347 7 mX7_hasCells 2 := ⟨⟨TX7, 4, rfl⟩, cwX7_hasCells, gw1 12 (by decide +kernel) rfl, gw1 973 (by decide +kernel) rfl, gwp 77 (by decide +kernel) rfl, by decide, ⟨by decide, by decide, by decide +kernel⟩, Or.inr ⟨"PegCourt", tb_in 971 (by decide +kernel)⟩⟩
theorem mvX11_354 : MLv RX11 354 7 mX7_narrowed 1 := ⟨⟨TX7, 4, rfl⟩, cwX7_narrowed, gw1 12 (by decide +kernel) rfl, gw1 977 (by decide +kernel) rfl, gwp 78 (by decide +kernel) rfl, by decide, ⟨by decide, by decide, by decide +kernel⟩, Or.inr ⟨"PegCourt", tb_in 975 (by decide +kernel)⟩⟩
theorem mvX11_377 : MLv RX11 377 7 mX7_pegAt 1 := ⟨⟨TX7, 4, rfl⟩, cwX7_pegAt, gw1 12 (by decide +kernel) rfl, gw1 990 (by decide +kernel) rfl, gwp 79 (by decide +kernel) rfl, by decide, ⟨by decide, by decide, by decide +kernel⟩, Or.inr ⟨"PegCourt", tb_in 988 (by decide +kernel)⟩⟩
theorem mvX11_380 : MLv RX11 380 7 mX7_whyNoGuess 0 := ⟨⟨TX7, 4, rfl⟩, cwX7_whyNoGuess, gw1 12 (by decide +kernel) rfl, gw1 999 (by decide +kernel) rfl, gwp 80 (by decide +kernel) rfl, by decide, ⟨by decide, by decide, by decide +kernel⟩, Or.inr ⟨"PegCourt", tb_in 997 (by decide +kernel)⟩⟩
theorem mvX11_386 : MLv RX11 386 7 mX7_weight 0 := ⟨⟨TX7, 4, rfl⟩, cwX7_weight, gw1 12 (by decide +kernel) rfl, gw1 1003 (by decide +kernel) rfl, gwp 81 (by decide +kernel) rfl, by decide, ⟨by decide, by decide, by decide +kernel⟩, Or.inr ⟨"PegCourt", tb_in 1001 (by decide +kernel)⟩⟩
theorem mvX11_389 : MLv RX11 389 7 mX7_rank 0 := ⟨⟨TX7, 4, rfl⟩, cwX7_rank, gw1 12 (by decide +kernel) rfl, gw1 1011 (by decide +kernel) rfl, gwp 83 (by decide +kernel) rfl, by decide, ⟨by decide, by decide, by decide +kernel⟩, Or.inr ⟨"PegCourt", tb_in 1009 (by decide +kernel)⟩⟩
theorem mvX11_395 : MLv RX11 395 7 mX7_failIfAnyPeg 0 := ⟨⟨TX7, 4, rfl⟩, cwX7_failIfAnyPeg, gw1 12 (by decide +kernel) rfl, gw1 1020 (by decide +kernel) rfl, gwp 84 (by decide +kernel) rfl, by decide, ⟨by decide, by decide, by decide +kernel⟩, Or.inr ⟨"PegCourt", tb_in 1018 (by decide +kernel)⟩⟩
theorem mvX11_398 : MLv RX11 398 11 mX11_partsOfHand 0 := ⟨⟨TX11, 12, rfl⟩, cwX11_partsOfHand, gw1 1 (by decide +kernel) rfl, gw1 1095 (by decide +kernel) rfl, gwp 86 (by decide +kernel) rfl, by decide, ⟨by decide, by decide, by decide +kernel⟩, Or.inl (gw1 1093 (by decide +kernel) rfl)⟩
theorem msX0_35 : MLs RX0 35 mX0_codesOf 2 := ⟨cwX0_codesOf, gw1 2 (by decide +kernel) rfl, gw1 431 (by decide +kernel) rfl, by decide, ⟨by decide, by decide, by decide +kernel⟩, Or.inl (gw1 430 (by decide +kernel) rfl)⟩
theorem mvX0_42 : MLv RX0 42 2 mX2_fillWith 1 := ⟨⟨TX2, 3, rfl⟩, cwX2_fillWith, gw1 3 (by decide +kernel) rfl, gw1 435 (by decide +kernel) rfl, gwp 2 (by decide +kernel) rfl, by decide, ⟨by decide, by decide, by decide +kernel⟩, Or.inr ⟨"PegCourt", tb_in 433 (by decide +kernel)⟩⟩
theorem mvX0_46 : MLv RX0 46 2 mX2_measure 2 := ⟨⟨TX2, 3, rfl⟩, cwX2_measure, gw1 3 (by decide +kernel) rfl, gw1 442 (by decide +kernel) rfl, gwp 3 (by decide +kernel) rfl, by decide, ⟨by decide, by decide, by decide +kernel⟩, Or.inr ⟨"PegCourt", tb_in 440 (by decide +kernel)⟩⟩
theorem mvX0_54 : MLv RX0 54 2 mX2_packed 1 := ⟨⟨TX2, 3, rfl⟩, cwX2_packed, gw1 3 (by decide +kernel) rfl, gw1 446 (by decide +kernel) rfl, gwp 4 (by decide +kernel) rfl, by decide, ⟨by decide, by decide, by decide +kernel⟩, Or.inr ⟨"PegCourt", tb_in 444 (by decide +kernel)⟩⟩
theorem mvX0_58 : MLv RX0 58 2 mX2_stepOn 2 := ⟨⟨TX2, 3, rfl⟩, cwX2_stepOn, gw1 3 (by decide +kernel) rfl, gw1 450 (by decide +kernel) rfl, gwp 5 (by decide +kernel) rfl, by decide, ⟨by decide, by decide, by decide +kernel⟩, Or.inr ⟨"PegCourt", tb_in 448 (by decide +kernel)⟩⟩
theorem msX0_61 : MLs RX0 61 mJ6_bitCount_0f7a4 1 := ⟨cwJ6_bitCount_0f7a4, gw1 14 (by decide +kernel) rfl, gw1 489 (by decide +kernel) rfl, by decide, ⟨by decide, by decide, by decide +kernel⟩, Or.inl (gw1 603 (by decide +kernel) rfl)⟩
theorem mvX0_66 : MLv RX0 66 0 mX0_answerTo 3 := ⟨⟨TX0, 7, rfl⟩, cwX0_answerTo, gw1 2 (by decide +kernel) rfl, gw1 601 (by decide +kernel) rfl, gwp 24 (by decide +kernel) rfl, by decide, ⟨by decide, by decide, by decide +kernel⟩, Or.inl (gw1 620 (by decide +kernel) rfl)⟩
theorem mvX0_73 : MLv RX0 73 0 mX0_colourAt 2 := ⟨⟨TX0, 7, rfl⟩, cwX0_colourAt, gw1 2 (by decide +kernel) rfl, gw1 470 (by decide +kernel) rfl, gwp 10 (by decide +kernel) rfl, by decide, ⟨by decide, by decide, by decide +kernel⟩, Or.inl (gw1 468 (by decide +kernel) rfl)⟩
theorem mvX1_48 : MLv RX1 48 1 mX1_standsFor 1 := ⟨⟨TX1, 15, rfl⟩, cwX1_standsFor, gw1 9 (by decide +kernel) rfl, gw1 773 (by decide +kernel) rfl, gwp 46 (by decide +kernel) rfl, by decide, ⟨by decide, by decide, by decide +kernel⟩, Or.inl (gw1 771 (by decide +kernel) rfl)⟩
theorem msX1_68 : MLs RX1 68 mJ9_min_7cf53 2 := ⟨cwJ9_min_7cf53, gw1 17 (by decide +kernel) rfl, gw1 776 (by decide +kernel) rfl, by decide, ⟨by decide, by decide, by decide +kernel⟩, Or.inl (gw1 775 (by decide +kernel) rfl)⟩
theorem msX1_86 : MLs RX1 86 mJ7_fill_53178 2 := ⟨cwJ7_fill_53178, gw1 13 (by decide +kernel) rfl, gw1 438 (by decide +kernel) rfl, by decide, ⟨by decide, by decide, by decide +kernel⟩, Or.inl (gw1 779 (by decide +kernel) rfl)⟩
theorem mvX1_98 : MLv RX1 98 1 mX1_enter 1 := ⟨⟨TX1, 15, rfl⟩, cwX1_enter, gw1 9 (by decide +kernel) rfl, gw1 782 (by decide +kernel) rfl, gwp 47 (by decide +kernel) rfl, by decide, ⟨by decide, by decide, by decide +kernel⟩, Or.inl (gw1 780 (by decide +kernel) rfl)⟩
theorem mvX1_102 : MLv RX1 102 1 mX1_classify 1 := ⟨⟨TX1, 15, rfl⟩, cwX1_classify, gw1 9 (by decide +kernel) rfl, gw1 786 (by decide +kernel) rfl, gwp 48 (by decide +kernel) rfl, by decide, ⟨by decide, by decide, by decide +kernel⟩, Or.inl (gw1 784 (by decide +kernel) rfl)⟩
theorem mvX1_106 : MLv RX1 106 1 mX1_slotOf 1 := ⟨⟨TX1, 15, rfl⟩, cwX1_slotOf, gw1 9 (by decide +kernel) rfl, gw1 795 (by decide +kernel) rfl, gwp 50 (by decide +kernel) rfl, by decide, ⟨by decide, by decide, by decide +kernel⟩, Or.inl (gw1 793 (by decide +kernel) rfl)⟩
theorem mvX1_110 : MLv RX1 110 1 mX1_bitOf 1 := ⟨⟨TX1, 15, rfl⟩, cwX1_bitOf, gw1 9 (by decide +kernel) rfl, gw1 800 (by decide +kernel) rfl, gwp 51 (by decide +kernel) rfl, by decide, ⟨by decide, by decide, by decide +kernel⟩, Or.inl (gw1 798 (by decide +kernel) rfl)⟩
theorem mvX1_114 : MLv RX1 114 0 mX0_fullAnswer 0 := ⟨⟨TX0, 7, rfl⟩, cwX0_fullAnswer, gw1 2 (by decide +kernel) rfl, gw1 790 (by decide +kernel) rfl, gwp 49 (by decide +kernel) rfl, by decide, ⟨by decide, by decide, by decide +kernel⟩, Or.inr ⟨"PegCourt", tb_in 788 (by decide +kernel)⟩⟩
theorem mvX1_118 : MLv RX1 118 0 mX0_answerOfCodes 2 := ⟨⟨TX0, 7, rfl⟩, cwX0_answerOfCodes, gw1 2 (by decide +kernel) rfl, gw1 618 (by decide +kernel) rfl, gwp 25 (by decide +kernel) rfl, by decide, ⟨by decide, by decide, by decide +kernel⟩, Or.inr ⟨"PegCourt", tb_in 792 (by decide +kernel)⟩⟩
theorem mvX1_123 : MLv RX1 123 1 mX1_allMembers 0 := ⟨⟨TX1, 15, rfl⟩, cwX1_allMembers, gw1 9 (by decide +kernel) rfl, gw1 808 (by decide +kernel) rfl, gwp 53 (by decide +kernel) rfl, by decide, ⟨by decide, by decide, by decide +kernel⟩, Or.inl (gw1 806 (by decide +kernel) rfl)⟩
theorem mvX1_126 : MLv RX1 126 1 mX1_bounded 1 := ⟨⟨TX1, 15, rfl⟩, cwX1_bounded, gw1 9 (by decide +kernel) rfl, gw1 845 (by decide +kernel) rfl, gwp 60 (by decide +kernel) rfl, by decide, ⟨by decide, by decide, by decide +kernel⟩, Or.inl (gw1 843 (by decide +kernel) rfl)⟩
theorem mvX1_129 : MLv RX1 129 1 mX1_leastSum 2 := ⟨⟨TX1, 15, rfl⟩, cwX1_leastSum, gw1 9 (by decide +kernel) rfl, gw1 812 (by decide +kernel) rfl, gwp 54 (by decide +kernel) rfl, by decide, ⟨by decide, by decide, by decide +kernel⟩, Or.inl (gw1 810 (by decide +kernel) rfl)⟩
theorem mvX1_132 : MLv RX1 132 1 mX1_shortGuess 2 := ⟨⟨TX1, 15, rfl⟩, cwX1_shortGuess, gw1 9 (by decide +kernel) rfl, gw1 862 (by decide +kernel) rfl, gwp 63 (by decide +kernel) rfl, by decide, ⟨by decide, by decide, by decide +kernel⟩, Or.inl (gw1 860 (by decide +kernel) rfl)⟩
theorem mvX1_135 : MLv RX1 135 1 mX1_leastDepth 0 := ⟨⟨TX1, 15, rfl⟩, cwX1_leastDepth, gw1 9 (by decide +kernel) rfl, gw1 804 (by decide +kernel) rfl, gwp 52 (by decide +kernel) rfl, by decide, ⟨by decide, by decide, by decide +kernel⟩, Or.inl (gw1 855 (by decide +kernel) rfl)⟩
theorem mvX1_139 : MLv RX1 139 1 mX1_sumBehind 4 := ⟨⟨TX1, 15, rfl⟩, cwX1_sumBehind, gw1 9 (by decide +kernel) rfl, gw1 826 (by decide +kernel) rfl, gwp 57 (by decide +kernel) rfl, by decide, ⟨by decide, by decide, by decide +kernel⟩, Or.inl (gw1 824 (by decide +kernel) rfl)⟩
theorem msX1_143 : MLs RX1 143 mJ6_bitCount_0f7a4 1 := ⟨cwJ6_bitCount_0f7a4, gw1 14 (by decide +kernel) rfl, gw1 489 (by decide +kernel) rfl, by decide, ⟨by decide, by decide, by decide +kernel⟩, Or.inl (gw1 814 (by decide +kernel) rfl)⟩
theorem mvX1_148 : MLv RX1 148 1 mX1_shortOf 2 := ⟨⟨TX1, 15, rfl⟩, cwX1_shortOf, gw1 9 (by decide +kernel) rfl, gw1 817 (by decide +kernel) rfl, gwp 55 (by decide +kernel) rfl, by decide, ⟨by decide, by decide, by decide +kernel⟩, Or.inl (gw1 815 (by decide +kernel) rfl)⟩
theorem mvX1_151 : MLv RX1 151 1 mX1_findShort 2 := ⟨⟨TX1, 15, rfl⟩, cwX1_findShort, gw1 9 (by decide +kernel) rfl, gw1 821 (by decide +kernel) rfl, gwp 56 (by decide +kernel) rfl, by decide, ⟨by decide, by decide, by decide +kernel⟩, Or.inl (gw1 819 (by decide +kernel) rfl)⟩
theorem mvX1_154 : MLv RX1 154 1 mX1_classesIn 2 := ⟨⟨TX1, 15, rfl⟩, cwX1_classesIn, gw1 9 (by decide +kernel) rfl, gw1 830 (by decide +kernel) rfl, gwp 58 (by decide +kernel) rfl, by decide, ⟨by decide, by decide, by decide +kernel⟩, Or.inl (gw1 828 (by decide +kernel) rfl)⟩
theorem mvX1_162 : MLv RX1 162 1 mX1_grow 5 := ⟨⟨TX1, 15, rfl⟩, cwX1_grow, gw1 9 (by decide +kernel) rfl, gw1 874 (by decide +kernel) rfl, gwp 65 (by decide +kernel) rfl, by decide, ⟨by decide, by decide, by decide +kernel⟩, Or.inl (gw1 872 (by decide +kernel) rfl)⟩
theorem mvX1_166 : MLv RX1 166 9 mX9_add 4 := ⟨⟨TX9, 6, rfl⟩, cwX9_add, gw1 10 (by decide +kernel) rfl, gw1 878 (by decide +kernel) rfl, gwp 66 (by decide +kernel) rfl, by decide, ⟨by decide, by decide, by decide +kernel⟩, Or.inr ⟨"PegCourt", tb_in 876 (by decide +kernel)⟩⟩
theorem mvX1_170 : MLv RX1 170 1 mX1_nextAnswer 3 := ⟨⟨TX1, 15, rfl⟩, cwX1_nextAnswer, gw1 9 (by decide +kernel) rfl, gw1 882 (by decide +kernel) rfl, gwp 67 (by decide +kernel) rfl, by decide, ⟨by decide, by decide, by decide +kernel⟩, Or.inl (gw1 880 (by decide +kernel) rfl)⟩
theorem mvX1_174 : MLv RX1 174 1 mX1_withAnswer 3 := ⟨⟨TX1, 15, rfl⟩, cwX1_withAnswer, gw1 9 (by decide +kernel) rfl, gw1 886 (by decide +kernel) rfl, gwp 68 (by decide +kernel) rfl, by decide, ⟨by decide, by decide, by decide +kernel⟩, Or.inl (gw1 884 (by decide +kernel) rfl)⟩
theorem msX2_15 : MLs RX2 15 mJ7_fill_53178 2 := ⟨cwJ7_fill_53178, gw1 13 (by decide +kernel) rfl, gw1 438 (by decide +kernel) rfl, by decide, ⟨by decide, by decide, by decide +kernel⟩, Or.inl (gw1 437 (by decide +kernel) rfl)⟩
theorem msX3_15 : MLs RX3 15 mJ7_fill_53178 2 := ⟨cwJ7_fill_53178, gw1 13 (by decide +kernel) rfl, gw1 438 (by decide +kernel) rfl, by decide, ⟨by decide, by decide, by decide +kernel⟩, Or.inl (gw1 598 (by decide +kernel) rfl)⟩
theorem mvX3_40 : MLv RX3 40 0 mX0_answerTo 3 := ⟨⟨TX0, 7, rfl⟩, cwX0_answerTo, gw1 2 (by decide +kernel) rfl, gw1 601 (by decide +kernel) rfl, gwp 24 (by decide +kernel) rfl, by decide, ⟨by decide, by decide, by decide +kernel⟩, Or.inr ⟨"PegCourt", tb_in 599 (by decide +kernel)⟩⟩
theorem mvX4_45 : MLv RX4 45 4 mX4_has 1 := ⟨⟨TX4, 11, rfl⟩, cwX4_has, gw1 11 (by decide +kernel) rfl, gw1 898 (by decide +kernel) rfl, gwp 69 (by decide +kernel) rfl, by decide, ⟨by decide, by decide, by decide +kernel⟩, Or.inl (gw1 904 (by decide +kernel) rfl)⟩
theorem msX4_49 : MLs RX4 49 mJ9_max_7cf53 2 := ⟨cwJ9_max_7cf53, gw1 17 (by decide +kernel) rfl, gw1 906 (by decide +kernel) rfl, by decide, ⟨by decide, by decide, by decide +kernel⟩, Or.inl (gw1 905 (by decide +kernel) rfl)⟩
theorem msX4_58 : MLs RX4 58 mJ7_fill_d0a16 2 := ⟨cwJ7_fill_d0a16, gw1 13 (by decide +kernel) rfl, gw1 921 (by decide +kernel) rfl, by decide, ⟨by decide, by decide, by decide +kernel⟩, Or.inl (gw1 920 (by decide +kernel) rfl)⟩
theorem mvX4_76 : MLv RX4 76 4 mX4_followCode 2 := ⟨⟨TX4, 11, rfl⟩, cwX4_followCode, gw1 11 (by decide +kernel) rfl, gw1 925 (by decide +kernel) rfl, gwp 72 (by decide +kernel) rfl, by decide, ⟨by decide, by decide, by decide +kernel⟩, Or.inl (gw1 923 (by decide +kernel) rfl)⟩
theorem mvX4_80 : MLv RX4 80 0 mX0_answerOfCodes 2 := ⟨⟨TX0, 7, rfl⟩, cwX0_answerOfCodes, gw1 2 (by decide +kernel) rfl, gw1 618 (by decide +kernel) rfl, gwp 25 (by decide +kernel) rfl, by decide, ⟨by decide, by decide, by decide +kernel⟩, Or.inr ⟨"PegCourt", tb_in 927 (by decide +kernel)⟩⟩
theorem mvX4_85 : MLv RX4 85 0 mX0_fullAnswer 0 := ⟨⟨TX0, 7, rfl⟩, cwX0_fullAnswer, gw1 2 (by decide +kernel) rfl, gw1 790 (by decide +kernel) rfl, gwp 49 (by decide +kernel) rfl, by decide, ⟨by decide, by decide, by decide +kernel⟩, Or.inr ⟨"PegCourt", tb_in 928 (by decide +kernel)⟩⟩
theorem mvX5_60 : MLv RX5 60 5 mX5_setLaw 2 := ⟨⟨TX5, 17, rfl⟩, cwX5_setLaw, gw1 4 (by decide +kernel) rfl, gw1 458 (by decide +kernel) rfl, gwp 7 (by decide +kernel) rfl, by decide, ⟨by decide, by decide, by decide +kernel⟩, Or.inl (gw1 456 (by decide +kernel) rfl)⟩
theorem mvX5_73 : MLv RX5 73 5 mX5_isLawful 1 := ⟨⟨TX5, 17, rfl⟩, cwX5_isLawful, gw1 4 (by decide +kernel) rfl, gw1 462 (by decide +kernel) rfl, gwp 8 (by decide +kernel) rfl, by decide, ⟨by decide, by decide, by decide +kernel⟩, Or.inl (gw1 460 (by decide +kernel) rfl)⟩
theorem mvX5_77 : MLv RX5 77 5 mX5_findLeft 0 := ⟨⟨TX5, 17, rfl⟩, cwX5_findLeft, gw1 4 (by decide +kernel) rfl, gw1 478 (by decide +kernel) rfl, gwp 12 (by decide +kernel) rfl, by decide, ⟨by decide, by decide, by decide +kernel⟩, Or.inl (gw1 476 (by decide +kernel) rfl)⟩
theorem mvX5_80 : MLv RX5 80 0 mX0_hasColourTwice 1 := ⟨⟨TX0, 7, rfl⟩, cwX0_hasColourTwice, gw1 2 (by decide +kernel) rfl, gw1 466 (by decide +kernel) rfl, gwp 9 (by decide +kernel) rfl, by decide, ⟨by decide, by decide, by decide +kernel⟩, Or.inr ⟨"PegCourt", tb_in 464 (by decide +kernel)⟩⟩
theorem mvX5_83 : MLv RX5 83 0 mX0_sumOfColours 1 := ⟨⟨TX0, 7, rfl⟩, cwX0_sumOfColours, gw1 2 (by decide +kernel) rfl, gw1 474 (by decide +kernel) rfl, gwp 11 (by decide +kernel) rfl, by decide, ⟨by decide, by decide, by decide +kernel⟩, Or.inr ⟨"PegCourt", tb_in 472 (by decide +kernel)⟩⟩
theorem mvX5_87 : MLv RX5 87 0 mX0_has 1 := ⟨⟨TX0, 7, rfl⟩, cwX0_has, gw1 2 (by decide +kernel) rfl, gw1 486 (by decide +kernel) rfl, gwp 14 (by decide +kernel) rfl, by decide, ⟨by decide, by decide, by decide +kernel⟩, Or.inr ⟨"PegCourt", tb_in 484 (by decide +kernel)⟩⟩
theorem msX5_90 : MLs RX5 90 mJ6_bitCount_0f7a4 1 := ⟨cwJ6_bitCount_0f7a4, gw1 14 (by decide +kernel) rfl, gw1 489 (by decide +kernel) rfl, by decide, ⟨by decide, by decide, by decide +kernel⟩, Or.inl (gw1 488 (by decide +kernel) rfl)⟩
theorem mvX5_98 : MLv RX5 98 5 mX5_isLeft 1 := ⟨⟨TX5, 17, rfl⟩, cwX5_isLeft, gw1 4 (by decide +kernel) rfl, gw1 482 (by decide +kernel) rfl, gwp 13 (by decide +kernel) rfl, by decide, ⟨by decide, by decide, by decide +kernel⟩, Or.inl (gw1 480 (by decide +kernel) rfl)⟩
theorem mvX5_104 : MLv RX5 104 5 mX5_markFalse 2 := ⟨⟨TX5, 17, rfl⟩, cwX5_markFalse, gw1 4 (by decide +kernel) rfl, gw1 640 (by decide +kernel) rfl, gwp 28 (by decide +kernel) rfl, by decide, ⟨by decide, by decide, by decide +kernel⟩, Or.inl (gw1 638 (by decide +kernel) rfl)⟩
theorem mvX5_108 : MLv RX5 108 5 mX5_anyLeft 0 := ⟨⟨TX5, 17, rfl⟩, cwX5_anyLeft, gw1 4 (by decide +kernel) rfl, gw1 645 (by decide +kernel) rfl, gwp 29 (by decide +kernel) rfl, by decide, ⟨by decide, by decide, by decide +kernel⟩, Or.inl (gw1 643 (by decide +kernel) rfl)⟩
theorem mvX5_112 : MLv RX5 112 6 mX6_leastQuarrel 2 := ⟨⟨TX6, 3, rfl⟩, cwX6_leastQuarrel, gw1 5 (by decide +kernel) rfl, gw1 649 (by decide +kernel) rfl, gwp 30 (by decide +kernel) rfl, by decide, ⟨by decide, by decide, by decide +kernel⟩, Or.inr ⟨"PegCourt", tb_in 647 (by decide +kernel)⟩⟩
theorem mvX5_116 : MLv RX5 116 5 mX5_unmark 0 := ⟨⟨TX5, 17, rfl⟩, cwX5_unmark, gw1 4 (by decide +kernel) rfl, gw1 666 (by decide +kernel) rfl, gwp 34 (by decide +kernel) rfl, by decide, ⟨by decide, by decide, by decide +kernel⟩, Or.inl (gw1 664 (by decide +kernel) rfl)⟩
theorem mvX5_134 : MLv RX5 134 0 mX0_answerTo 3 := ⟨⟨TX0, 7, rfl⟩, cwX0_answerTo, gw1 2 (by decide +kernel) rfl, gw1 601 (by decide +kernel) rfl, gwp 24 (by decide +kernel) rfl, by decide, ⟨by decide, by decide, by decide +kernel⟩, Or.inr ⟨"PegCourt", tb_in 642 (by decide +kernel)⟩⟩
theorem mvX6_19 : MLv RX6 19 6 mX6_gather 2 := ⟨⟨TX6, 3, rfl⟩, cwX6_gather, gw1 5 (by decide +kernel) rfl, gw1 653 (by decide +kernel) rfl, gwp 31 (by decide +kernel) rfl, by decide, ⟨by decide, by decide, by decide +kernel⟩, Or.inl (gw1 651 (by decide +kernel) rfl)⟩
theorem msX6_23 : MLs RX6 23 mJ6_bitCount_0f7a4 1 := ⟨cwJ6_bitCount_0f7a4, gw1 14 (by decide +kernel) rfl, gw1 489 (by decide +kernel) rfl, by decide, ⟨by decide, by decide, by decide +kernel⟩, Or.inl (gw1 655 (by decide +kernel) rfl)⟩
theorem mvX6_35 : MLv RX6 35 6 mX6_isQuarrel 2 := ⟨⟨TX6, 3, rfl⟩, cwX6_isQuarrel, gw1 5 (by decide +kernel) rfl, gw1 658 (by decide +kernel) rfl, gwp 32 (by decide +kernel) rfl, by decide, ⟨by decide, by decide, by decide +kernel⟩, Or.inl (gw1 656 (by decide +kernel) rfl)⟩
theorem mvX6_57 : MLv RX6 57 6 mX6_bringForward 1 := ⟨⟨TX6, 3, rfl⟩, cwX6_bringForward, gw1 5 (by decide +kernel) rfl, gw1 662 (by decide +kernel) rfl, gwp 33 (by decide +kernel) rfl, by decide, ⟨by decide, by decide, by decide +kernel⟩, Or.inl (gw1 660 (by decide +kernel) rfl)⟩
theorem msX7_22 : MLs RX7 22 mJ7_fill_53178 2 := ⟨cwJ7_fill_53178, gw1 13 (by decide +kernel) rfl, gw1 438 (by decide +kernel) rfl, by decide, ⟨by decide, by decide, by decide +kernel⟩, Or.inl (gw1 949 (by decide +kernel) rfl)⟩
theorem mvX7_43 : MLv RX7 43 7 mX7_pegsSet 0 := ⟨⟨TX7, 4, rfl⟩, cwX7_pegsSet, gw1 12 (by decide +kernel) rfl, gw1 1007 (by decide +kernel) rfl, gwp 82 (by decide +kernel) rfl, by decide, ⟨by decide, by decide, by decide +kernel⟩, Or.inl (gw1 1005 (by decide +kernel) rfl)⟩
theorem mvX8_43 : MLv RX8 43 3 mX3_divide 3 := ⟨⟨TX3, 3, rfl⟩, cwX3_divide, gw1 6 (by decide +kernel) rfl, gw1 596 (by decide +kernel) rfl, gwp 23 (by decide +kernel) rfl, by decide, ⟨by decide, by decide, by decide +kernel⟩, Or.inr ⟨"PegCourt", tb_in 720 (by decide +kernel)⟩⟩
theorem mvX10_25 : MLv RX10 25 10 mX10_weighPlaces 0 := ⟨⟨TX10, 4, rfl⟩, cwX10_weighPlaces, gw1 8 (by decide +kernel) rfl, gw1 731 (by decide +kernel) rfl, gwp 40 (by decide +kernel) rfl, by decide, ⟨by decide, by decide, by decide +kernel⟩, Or.inl (gw1 729 (by decide +kernel) rfl)⟩
theorem msX10_34 : MLs RX10 34 mX10_startOrders 2 := ⟨cwX10_startOrders, gw1 8 (by decide +kernel) rfl, gw1 734 (by decide +kernel) rfl, by decide, ⟨by decide, by decide, by decide +kernel⟩, Or.inl (gw1 733 (by decide +kernel) rfl)⟩
theorem mvX10_41 : MLv RX10 41 10 mX10_imageOf 1 := ⟨⟨TX10, 4, rfl⟩, cwX10_imageOf, gw1 8 (by decide +kernel) rfl, gw1 738 (by decide +kernel) rfl, gwp 41 (by decide +kernel) rfl, by decide, ⟨by decide, by decide, by decide +kernel⟩, Or.inl (gw1 736 (by decide +kernel) rfl)⟩
theorem mvX10_45 : MLv RX10 45 10 mX10_keepsLeft 1 := ⟨⟨TX10, 4, rfl⟩, cwX10_keepsLeft, gw1 8 (by decide +kernel) rfl, gw1 743 (by decide +kernel) rfl, gwp 42 (by decide +kernel) rfl, by decide, ⟨by decide, by decide, by decide +kernel⟩, Or.inl (gw1 741 (by decide +kernel) rfl)⟩
theorem msX10_49 : MLs RX10 49 mX10_stepOrder 2 := ⟨cwX10_stepOrder, gw1 8 (by decide +kernel) rfl, gw1 747 (by decide +kernel) rfl, by decide, ⟨by decide, by decide, by decide +kernel⟩, Or.inl (gw1 746 (by decide +kernel) rfl)⟩
theorem mvX10_53 : MLv RX10 53 0 mX0_colourAt 2 := ⟨⟨TX0, 7, rfl⟩, cwX0_colourAt, gw1 2 (by decide +kernel) rfl, gw1 470 (by decide +kernel) rfl, gwp 10 (by decide +kernel) rfl, by decide, ⟨by decide, by decide, by decide +kernel⟩, Or.inr ⟨"PegCourt", tb_in 740 (by decide +kernel)⟩⟩
theorem mvX10_65 : MLv RX10 65 5 mX5_isLeft 1 := ⟨⟨TX5, 17, rfl⟩, cwX5_isLeft, gw1 4 (by decide +kernel) rfl, gw1 482 (by decide +kernel) rfl, gwp 13 (by decide +kernel) rfl, by decide, ⟨by decide, by decide, by decide +kernel⟩, Or.inr ⟨"PegCourt", tb_in 745 (by decide +kernel)⟩⟩
theorem msX10_69 : MLs RX10 69 mX10_exchange 3 := ⟨cwX10_exchange, gw1 8 (by decide +kernel) rfl, gw1 750 (by decide +kernel) rfl, by decide, ⟨by decide, by decide, by decide +kernel⟩, Or.inl (gw1 749 (by decide +kernel) rfl)⟩
theorem mvL_7 : MLv RL 7 11 mX11_at 2 := ⟨⟨TX11, 12, rfl⟩, cwX11_at, gw1 1 (by decide +kernel) rfl, gw1 1103 (by decide +kernel) rfl, gw1 1104 (by decide +kernel) rfl, by decide, ⟨by decide, by decide, by decide +kernel⟩, Or.inl (gw1 1102 (by decide +kernel) rfl)⟩
theorem mvL_21 : MLv RL 21 11 mX11_begin 2 := ⟨⟨TX11, 12, rfl⟩, cwX11_begin, gw1 1 (by decide +kernel) rfl, gw1 538 (by decide +kernel) rfl, gw1 539 (by decide +kernel) rfl, by decide, ⟨by decide, by decide, by decide +kernel⟩, Or.inl (gw1 537 (by decide +kernel) rfl)⟩
theorem mvL_24 : MLv RL 24 12 mX12_begin 2 := ⟨⟨TX12, 53, rfl⟩, cwX12_begin, gw1 15 (by decide +kernel) rfl, gw1 1297 (by decide +kernel) rfl, gw1 1298 (by decide +kernel) rfl, by decide, ⟨by decide, by decide, by decide +kernel⟩, Or.inl (gw1 1296 (by decide +kernel) rfl)⟩
theorem mvL_25 : MLv RL 25 11 mX11_law 2 := ⟨⟨TX11, 12, rfl⟩, cwX11_law, gw1 1 (by decide +kernel) rfl, gw1 543 (by decide +kernel) rfl, gw1 544 (by decide +kernel) rfl, by decide, ⟨by decide, by decide, by decide +kernel⟩, Or.inl (gw1 542 (by decide +kernel) rfl)⟩
theorem mvL_28 : MLv RL 28 12 mX12_law 2 := ⟨⟨TX12, 53, rfl⟩, cwX12_law, gw1 15 (by decide +kernel) rfl, gw1 1304 (by decide +kernel) rfl, gw1 1305 (by decide +kernel) rfl, by decide, ⟨by decide, by decide, by decide +kernel⟩, Or.inl (gw1 1303 (by decide +kernel) rfl)⟩
theorem mvL_29 : MLv RL 29 11 mX11_enlist 1 := ⟨⟨TX11, 12, rfl⟩, cwX11_enlist, gw1 1 (by decide +kernel) rfl, gw1 548 (by decide +kernel) rfl, gw1 549 (by decide +kernel) rfl, by decide, ⟨by decide, by decide, by decide +kernel⟩, Or.inl (gw1 547 (by decide +kernel) rfl)⟩
theorem mvL_33 : MLv RL 33 12 mX12_enlist 1 := ⟨⟨TX12, 53, rfl⟩, cwX12_enlist, gw1 15 (by decide +kernel) rfl, gw1 1320 (by decide +kernel) rfl, gw1 1321 (by decide +kernel) rfl, by decide, ⟨by decide, by decide, by decide +kernel⟩, Or.inl (gw1 1319 (by decide +kernel) rfl)⟩
theorem mvL_34 : MLv RL 34 11 mX11_lies 1 := ⟨⟨TX11, 12, rfl⟩, cwX11_lies, gw1 1 (by decide +kernel) rfl, gw1 557 (by decide +kernel) rfl, gw1 558 (by decide +kernel) rfl, by decide, ⟨by decide, by decide, by decide +kernel⟩, Or.inl (gw1 556 (by decide +kernel) rfl)⟩
theorem mvL_37 : MLv RL 37 12 mX12_lies 1 := ⟨⟨TX12, 53, rfl⟩, cwX12_lies, gw1 15 (by decide +kernel) rfl, gw1 1328 (by decide +kernel) rfl, gw1 1329 (by decide +kernel) rfl, by decide, ⟨by decide, by decide, by decide +kernel⟩, Or.inl (gw1 1327 (by decide +kernel) rfl)⟩
theorem mvL_38 : MLv RL 38 11 mX11_peg 2 := ⟨⟨TX11, 12, rfl⟩, cwX11_peg, gw1 1 (by decide +kernel) rfl, gw1 565 (by decide +kernel) rfl, gw1 566 (by decide +kernel) rfl, by decide, ⟨by decide, by decide, by decide +kernel⟩, Or.inl (gw1 564 (by decide +kernel) rfl)⟩
theorem mvL_41 : MLv RL 41 12 mX12_peg 2 := ⟨⟨TX12, 53, rfl⟩, cwX12_peg, gw1 15 (by decide +kernel) rfl, gw1 1332 (by decide +kernel) rfl, gw1 1333 (by decide +kernel) rfl, by decide, ⟨by decide, by decide, by decide +kernel⟩, Or.inl (gw1 1331 (by decide +kernel) rfl)⟩
theorem mvL_42 : MLv RL 42 11 mX11_show 1 := ⟨⟨TX11, 12, rfl⟩, cwX11_show, gw1 1 (by decide +kernel) rfl, gw1 581 (by decide +kernel) rfl, gw1 582 (by decide +kernel) rfl, by decide, ⟨by decide, by decide, by decide +kernel⟩, Or.inl (gw1 580 (by decide +kernel) rfl)⟩
theorem mvL_45 : MLv RL 45 12 mX12_show 1 := ⟨⟨TX12, 53, rfl⟩, cwX12_show, gw1 15 (by decide +kernel) rfl, gw1 1340 (by decide +kernel) rfl, gw1 1341 (by decide +kernel) rfl, by decide, ⟨by decide, by decide, by decide +kernel⟩, Or.inl (gw1 1339 (by decide +kernel) rfl)⟩
theorem mvL_46 : MLv RL 46 11 mX11_hand 1 := ⟨⟨TX11, 12, rfl⟩, cwX11_hand, gw1 1 (by decide +kernel) rfl, gw1 605 (by decide +kernel) rfl, gw1 606 (by decide +kernel) rfl, by decide, ⟨by decide, by decide, by decide +kernel⟩, Or.inl (gw1 604 (by decide +kernel) rfl)⟩
theorem mvL_49 : MLv RL 49 12 mX12_hand 1 := ⟨⟨TX12, 53, rfl⟩, cwX12_hand, gw1 15 (by decide +kernel) rfl, gw1 1371 (by decide +kernel) rfl, gw1 1372 (by decide +kernel) rfl, by decide, ⟨by decide, by decide, by decide +kernel⟩, Or.inl (gw1 1370 (by decide +kernel) rfl)⟩
theorem mvL_50 : MLv RL 50 11 mX11_sort 0 := ⟨⟨TX11, 12, rfl⟩, cwX11_sort, gw1 1 (by decide +kernel) rfl, gw1 609 (by decide +kernel) rfl, gw1 610 (by decide +kernel) rfl, by decide, ⟨by decide, by decide, by decide +kernel⟩, Or.inl (gw1 608 (by decide +kernel) rfl)⟩
theorem mvL_54 : MLv RL 54 12 mX12_sort 0 := ⟨⟨TX12, 53, rfl⟩, cwX12_sort, gw1 15 (by decide +kernel) rfl, gw1 1375 (by decide +kernel) rfl, gw1 1376 (by decide +kernel) rfl, by decide, ⟨by decide, by decide, by decide +kernel⟩, Or.inl (gw1 1374 (by decide +kernel) rfl)⟩
theorem mvL_55 : MLv RL 55 11 mX11_answer 2 := ⟨⟨TX11, 12, rfl⟩, cwX11_answer, gw1 1 (by decide +kernel) rfl, gw1 613 (by decide +kernel) rfl, gw1 614 (by decide +kernel) rfl, by decide, ⟨by decide, by decide, by decide +kernel⟩, Or.inl (gw1 612 (by decide +kernel) rfl)⟩
theorem mvL_58 : MLv RL 58 12 mX12_answer 2 := ⟨⟨TX12, 53, rfl⟩, cwX12_answer, gw1 15 (by decide +kernel) rfl, gw1 1379 (by decide +kernel) rfl, gw1 1380 (by decide +kernel) rfl, by decide, ⟨by decide, by decide, by decide +kernel⟩, Or.inl (gw1 1378 (by decide +kernel) rfl)⟩
theorem mvL_59 : MLv RL 59 11 mX11_reply 1 := ⟨⟨TX11, 12, rfl⟩, cwX11_reply, gw1 1 (by decide +kernel) rfl, gw1 622 (by decide +kernel) rfl, gw1 623 (by decide +kernel) rfl, by decide, ⟨by decide, by decide, by decide +kernel⟩, Or.inl (gw1 621 (by decide +kernel) rfl)⟩
theorem mvL_62 : MLv RL 62 12 mX12_reply 1 := ⟨⟨TX12, 53, rfl⟩, cwX12_reply, gw1 15 (by decide +kernel) rfl, gw1 1387 (by decide +kernel) rfl, gw1 1388 (by decide +kernel) rfl, by decide, ⟨by decide, by decide, by decide +kernel⟩, Or.inl (gw1 1386 (by decide +kernel) rfl)⟩
theorem mvL_63 : MLv RL 63 11 mX11_tell 1 := ⟨⟨TX11, 12, rfl⟩, cwX11_tell, gw1 1 (by decide +kernel) rfl, gw1 627 (by decide +kernel) rfl, gw1 628 (by decide +kernel) rfl, by decide, ⟨by decide, by decide, by decide +kernel⟩, Or.inl (gw1 626 (by decide +kernel) rfl)⟩
theorem mvL_66 : MLv RL 66 12 mX12_tell 1 := ⟨⟨TX12, 53, rfl⟩, cwX12_tell, gw1 15 (by decide +kernel) rfl, gw1 1391 (by decide +kernel) rfl, gw1 1392 (by decide +kernel) rfl, by decide, ⟨by decide, by decide, by decide +kernel⟩, Or.inl (gw1 1390 (by decide +kernel) rfl)⟩
theorem mvL_67 : MLv RL 67 11 mX11_undo 0 := ⟨⟨TX11, 12, rfl⟩, cwX11_undo, gw1 1 (by decide +kernel) rfl, gw1 672 (by decide +kernel) rfl, gw1 673 (by decide +kernel) rfl, by decide, ⟨by decide, by decide, by decide +kernel⟩, Or.inl (gw1 671 (by decide +kernel) rfl)⟩
theorem mvL_70 : MLv RL 70 12 mX12_undo 0 := ⟨⟨TX12, 53, rfl⟩, cwX12_undo, gw1 15 (by decide +kernel) rfl, gw1 1403 (by decide +kernel) rfl, gw1 1404 (by decide +kernel) rfl, by decide, ⟨by decide, by decide, by decide +kernel⟩, Or.inl (gw1 1402 (by decide +kernel) rfl)⟩
theorem mvL_71 : MLv RL 71 11 mX11_quarrel 1 := ⟨⟨TX11, 12, rfl⟩, cwX11_quarrel, gw1 1 (by decide +kernel) rfl, gw1 680 (by decide +kernel) rfl, gw1 681 (by decide +kernel) rfl, by decide, ⟨by decide, by decide, by decide +kernel⟩, Or.inl (gw1 679 (by decide +kernel) rfl)⟩
theorem mvL_74 : MLv RL 74 12 mX12_quarrel 1 := ⟨⟨TX12, 53, rfl⟩, cwX12_quarrel, gw1 15 (by decide +kernel) rfl, gw1 1407 (by decide +kernel) rfl, gw1 1408 (by decide +kernel) rfl, by decide, ⟨by decide, by decide, by decide +kernel⟩, Or.inl (gw1 1406 (by decide +kernel) rfl)⟩
theorem mvL_75 : MLv RL 75 11 mX11_turn 2 := ⟨⟨TX11, 12, rfl⟩, cwX11_turn, gw1 1 (by decide +kernel) rfl, gw1 688 (by decide +kernel) rfl, gw1 689 (by decide +kernel) rfl, by decide, ⟨by decide, by decide, by decide +kernel⟩, Or.inl (gw1 687 (by decide +kernel) rfl)⟩
theorem mvL_78 : MLv RL 78 12 mX12_turn 2 := ⟨⟨TX12, 53, rfl⟩, cwX12_turn, gw1 15 (by decide +kernel) rfl, gw1 1411 (by decide +kernel) rfl, gw1 1412 (by decide +kernel) rfl, by decide, ⟨by decide, by decide, by decide +kernel⟩, Or.inl (gw1 1410 (by decide +kernel) rfl)⟩
theorem mvL_79 : MLv RL 79 11 mX11_left 1 := ⟨⟨TX11, 12, rfl⟩, cwX11_left, gw1 1 (by decide +kernel) rfl, gw1 696 (by decide +kernel) rfl, gw1 697 (by decide +kernel) rfl, by decide, ⟨by decide, by decide, by decide +kernel⟩, Or.inl (gw1 695 (by decide +kernel) rfl)⟩
theorem mvL_82 : MLv RL 82 12 mX12_left 1 := ⟨⟨TX12, 53, rfl⟩, cwX12_left, gw1 15 (by decide +kernel) rfl, gw1 1415 (by decide +kernel) rfl, gw1 1416 (by decide +kernel) rfl, by decide, ⟨by decide, by decide, by decide +kernel⟩, Or.inl (gw1 1414 (by decide +kernel) rfl)⟩
theorem mvL_83 : MLv RL 83 11 mX11_falses 1 := ⟨⟨TX11, 12, rfl⟩, cwX11_falses, gw1 1 (by decide +kernel) rfl, gw1 700 (by decide +kernel) rfl, gw1 701 (by decide +kernel) rfl, by decide, ⟨by decide, by decide, by decide +kernel⟩, Or.inl (gw1 699 (by decide +kernel) rfl)⟩
theorem mvL_86 : MLv RL 86 12 mX12_falses 1 := ⟨⟨TX12, 53, rfl⟩, cwX12_falses, gw1 15 (by decide +kernel) rfl, gw1 1419 (by decide +kernel) rfl, gw1 1420 (by decide +kernel) rfl, by decide, ⟨by decide, by decide, by decide +kernel⟩, Or.inl (gw1 1418 (by decide +kernel) rfl)⟩
theorem mvL_87 : MLv RL 87 11 mX11_part 2 := ⟨⟨TX11, 12, rfl⟩, cwX11_part, gw1 1 (by decide +kernel) rfl, gw1 704 (by decide +kernel) rfl, gw1 705 (by decide +kernel) rfl, by decide, ⟨by decide, by decide, by decide +kernel⟩, Or.inl (gw1 703 (by decide +kernel) rfl)⟩
theorem mvL_90 : MLv RL 90 12 mX12_part 2 := ⟨⟨TX12, 53, rfl⟩, cwX12_part, gw1 15 (by decide +kernel) rfl, gw1 1423 (by decide +kernel) rfl, gw1 1424 (by decide +kernel) rfl, by decide, ⟨by decide, by decide, by decide +kernel⟩, Or.inl (gw1 1422 (by decide +kernel) rfl)⟩
theorem mvL_91 : MLv RL 91 11 mX11_among 1 := ⟨⟨TX11, 12, rfl⟩, cwX11_among, gw1 1 (by decide +kernel) rfl, gw1 712 (by decide +kernel) rfl, gw1 713 (by decide +kernel) rfl, by decide, ⟨by decide, by decide, by decide +kernel⟩, Or.inl (gw1 711 (by decide +kernel) rfl)⟩
theorem mvL_94 : MLv RL 94 12 mX12_among 1 := ⟨⟨TX12, 53, rfl⟩, cwX12_among, gw1 15 (by decide +kernel) rfl, gw1 1431 (by decide +kernel) rfl, gw1 1432 (by decide +kernel) rfl, by decide, ⟨by decide, by decide, by decide +kernel⟩, Or.inl (gw1 1430 (by decide +kernel) rfl)⟩
theorem mvL_95 : MLv RL 95 11 mX11_like 2 := ⟨⟨TX11, 12, rfl⟩, cwX11_like, gw1 1 (by decide +kernel) rfl, gw1 722 (by decide +kernel) rfl, gw1 723 (by decide +kernel) rfl, by decide, ⟨by decide, by decide, by decide +kernel⟩, Or.inl (gw1 721 (by decide +kernel) rfl)⟩
theorem mvL_98 : MLv RL 98 12 mX12_like 2 := ⟨⟨TX12, 53, rfl⟩, cwX12_like, gw1 15 (by decide +kernel) rfl, gw1 1437 (by decide +kernel) rfl, gw1 1438 (by decide +kernel) rfl, by decide, ⟨by decide, by decide, by decide +kernel⟩, Or.inl (gw1 1436 (by decide +kernel) rfl)⟩
theorem mvL_99 : MLv RL 99 11 mX11_least 1 := ⟨⟨TX11, 12, rfl⟩, cwX11_least, gw1 1 (by decide +kernel) rfl, gw1 753 (by decide +kernel) rfl, gw1 754 (by decide +kernel) rfl, by decide, ⟨by decide, by decide, by decide +kernel⟩, Or.inl (gw1 752 (by decide +kernel) rfl)⟩
theorem mvL_102 : MLv RL 102 12 mX12_least 1 := ⟨⟨TX12, 53, rfl⟩, cwX12_least, gw1 15 (by decide +kernel) rfl, gw1 1452 (by decide +kernel) rfl, gw1 1453 (by decide +kernel) rfl, by decide, ⟨by decide, by decide, by decide +kernel⟩, Or.inl (gw1 1451 (by decide +kernel) rfl)⟩
theorem mvL_103 : MLv RL 103 11 mX11_sum 2 := ⟨⟨TX11, 12, rfl⟩, cwX11_sum, gw1 1 (by decide +kernel) rfl, gw1 833 (by decide +kernel) rfl, gw1 834 (by decide +kernel) rfl, by decide, ⟨by decide, by decide, by decide +kernel⟩, Or.inl (gw1 832 (by decide +kernel) rfl)⟩
theorem mvL_106 : MLv RL 106 12 mX12_sum 2 := ⟨⟨TX12, 53, rfl⟩, cwX12_sum, gw1 15 (by decide +kernel) rfl, gw1 1472 (by decide +kernel) rfl, gw1 1473 (by decide +kernel) rfl, by decide, ⟨by decide, by decide, by decide +kernel⟩, Or.inl (gw1 1471 (by decide +kernel) rfl)⟩
theorem mvL_107 : MLv RL 107 11 mX11_best 3 := ⟨⟨TX11, 12, rfl⟩, cwX11_best, gw1 1 (by decide +kernel) rfl, gw1 848 (by decide +kernel) rfl, gw1 849 (by decide +kernel) rfl, by decide, ⟨by decide, by decide, by decide +kernel⟩, Or.inl (gw1 847 (by decide +kernel) rfl)⟩
theorem mvL_111 : MLv RL 111 12 mX12_best 3 := ⟨⟨TX12, 53, rfl⟩, cwX12_best, gw1 15 (by decide +kernel) rfl, gw1 1483 (by decide +kernel) rfl, gw1 1484 (by decide +kernel) rfl, by decide, ⟨by decide, by decide, by decide +kernel⟩, Or.inl (gw1 1482 (by decide +kernel) rfl)⟩
theorem mvL_112 : MLv RL 112 11 mX11_tree 2 := ⟨⟨TX11, 12, rfl⟩, cwX11_tree, gw1 1 (by decide +kernel) rfl, gw1 865 (by decide +kernel) rfl, gw1 866 (by decide +kernel) rfl, by decide, ⟨by decide, by decide, by decide +kernel⟩, Or.inl (gw1 864 (by decide +kernel) rfl)⟩
theorem mvL_115 : MLv RL 115 12 mX12_tree 2 := ⟨⟨TX12, 53, rfl⟩, cwX12_tree, gw1 15 (by decide +kernel) rfl, gw1 1487 (by decide +kernel) rfl, gw1 1488 (by decide +kernel) rfl, by decide, ⟨by decide, by decide, by decide +kernel⟩, Or.inl (gw1 1486 (by decide +kernel) rfl)⟩
theorem mvL_116 : MLv RL 116 11 mX11_node 2 := ⟨⟨TX11, 12, rfl⟩, cwX11_node, gw1 1 (by decide +kernel) rfl, gw1 889 (by decide +kernel) rfl, gw1 890 (by decide +kernel) rfl, by decide, ⟨by decide, by decide, by decide +kernel⟩, Or.inl (gw1 888 (by decide +kernel) rfl)⟩
theorem mvL_119 : MLv RL 119 12 mX12_node 2 := ⟨⟨TX12, 53, rfl⟩, cwX12_node, gw1 15 (by decide +kernel) rfl, gw1 1491 (by decide +kernel) rfl, gw1 1492 (by decide +kernel) rfl, by decide, ⟨by decide, by decide, by decide +kernel⟩, Or.inl (gw1 1490 (by decide +kernel) rfl)⟩
theorem mvL_120 : MLv RL 120 11 mX11_plan 3 := ⟨⟨TX11, 12, rfl⟩, cwX11_plan, gw1 1 (by decide +kernel) rfl, gw1 893 (by decide +kernel) rfl, gw1 894 (by decide +kernel) rfl, by decide, ⟨by decide, by decide, by decide +kernel⟩, Or.inl (gw1 892 (by decide +kernel) rfl)⟩
theorem mvL_123 : MLv RL 123 12 mX12_plan 3 := ⟨⟨TX12, 53, rfl⟩, cwX12_plan, gw1 15 (by decide +kernel) rfl, gw1 1495 (by decide +kernel) rfl, gw1 1496 (by decide +kernel) rfl, by decide, ⟨by decide, by decide, by decide +kernel⟩, Or.inl (gw1 1494 (by decide +kernel) rfl)⟩
theorem mvL_124 : MLv RL 124 11 mX11_drop 0 := ⟨⟨TX11, 12, rfl⟩, cwX11_drop, gw1 1 (by decide +kernel) rfl, gw1 909 (by decide +kernel) rfl, gw1 910 (by decide +kernel) rfl, by decide, ⟨by decide, by decide, by decide +kernel⟩, Or.inl (gw1 908 (by decide +kernel) rfl)⟩
theorem mvL_127 : MLv RL 127 12 mX12_drop 0 := ⟨⟨TX12, 53, rfl⟩, cwX12_drop, gw1 15 (by decide +kernel) rfl, gw1 1499 (by decide +kernel) rfl, gw1 1500 (by decide +kernel) rfl, by decide, ⟨by decide, by decide, by decide +kernel⟩, Or.inl (gw1 1498 (by decide +kernel) rfl)⟩
theorem mvL_128 : MLv RL 128 11 mX11_judge 0 := ⟨⟨TX11, 12, rfl⟩, cwX11_judge, gw1 1 (by decide +kernel) rfl, gw1 913 (by decide +kernel) rfl, gw1 914 (by decide +kernel) rfl, by decide, ⟨by decide, by decide, by decide +kernel⟩, Or.inl (gw1 912 (by decide +kernel) rfl)⟩
theorem mvL_131 : MLv RL 131 12 mX12_judge 0 := ⟨⟨TX12, 53, rfl⟩, cwX12_judge, gw1 15 (by decide +kernel) rfl, gw1 1503 (by decide +kernel) rfl, gw1 1504 (by decide +kernel) rfl, by decide, ⟨by decide, by decide, by decide +kernel⟩, Or.inl (gw1 1502 (by decide +kernel) rfl)⟩
theorem mvL_132 : MLv RL 132 11 mX11_total 0 := ⟨⟨TX11, 12, rfl⟩, cwX11_total, gw1 1 (by decide +kernel) rfl, gw1 934 (by decide +kernel) rfl, gw1 935 (by decide +kernel) rfl, by decide, ⟨by decide, by decide, by decide +kernel⟩, Or.inl (gw1 933 (by decide +kernel) rfl)⟩
theorem mvL_135 : MLv RL 135 12 mX12_total 0 := ⟨⟨TX12, 53, rfl⟩, cwX12_total, gw1 15 (by decide +kernel) rfl, gw1 1519 (by decide +kernel) rfl, gw1 1520 (by decide +kernel) rfl, by decide, ⟨by decide, by decide, by decide +kernel⟩, Or.inl (gw1 1518 (by decide +kernel) rfl)⟩
theorem mvL_136 : MLv RL 136 11 mX11_rack 3 := ⟨⟨TX11, 12, rfl⟩, cwX11_rack, gw1 1 (by decide +kernel) rfl, gw1 939 (by decide +kernel) rfl, gw1 940 (by decide +kernel) rfl, by decide, ⟨by decide, by decide, by decide +kernel⟩, Or.inl (gw1 938 (by decide +kernel) rfl)⟩
theorem mvL_139 : MLv RL 139 12 mX12_rack 3 := ⟨⟨TX12, 53, rfl⟩, cwX12_rack, gw1 15 (by decide +kernel) rfl, gw1 1523 (by decide +kernel) rfl, gw1 1524 (by decide +kernel) rfl, by decide, ⟨by decide, by decide, by decide +kernel⟩, Or.inl (gw1 1522 (by decide +kernel) rfl)⟩
theorem mvL_140 : MLv RL 140 11 mX11_keep 1 := ⟨⟨TX11, 12, rfl⟩, cwX11_keep, gw1 1 (by decide +kernel) rfl, gw1 951 (by decide +kernel) rfl, gw1 952 (by decide +kernel) rfl, by decide, ⟨by decide, by decide, by decide +kernel⟩, Or.inl (gw1 950 (by decide +kernel) rfl)⟩
theorem mvL_143 : MLv RL 143 12 mX12_keep 1 := ⟨⟨TX12, 53, rfl⟩, cwX12_keep, gw1 15 (by decide +kernel) rfl, gw1 1530 (by decide +kernel) rfl, gw1 1531 (by decide +kernel) rfl, by decide, ⟨by decide, by decide, by decide +kernel⟩, Or.inl (gw1 1529 (by decide +kernel) rfl)⟩
theorem mvL_144 : MLv RL 144 11 mX11_clear 1 := ⟨⟨TX11, 12, rfl⟩, cwX11_clear, gw1 1 (by decide +kernel) rfl, gw1 960 (by decide +kernel) rfl, gw1 961 (by decide +kernel) rfl, by decide, ⟨by decide, by decide, by decide +kernel⟩, Or.inl (gw1 959 (by decide +kernel) rfl)⟩
theorem mvL_147 : MLv RL 147 12 mX12_clear 1 := ⟨⟨TX12, 53, rfl⟩, cwX12_clear, gw1 15 (by decide +kernel) rfl, gw1 1534 (by decide +kernel) rfl, gw1 1535 (by decide +kernel) rfl, by decide, ⟨by decide, by decide, by decide +kernel⟩, Or.inl (gw1 1533 (by decide +kernel) rfl)⟩
theorem mvL_148 : MLv RL 148 11 mX11_put 3 := ⟨⟨TX11, 12, rfl⟩, cwX11_put, gw1 1 (by decide +kernel) rfl, gw1 964 (by decide +kernel) rfl, gw1 965 (by decide +kernel) rfl, by decide, ⟨by decide, by decide, by decide +kernel⟩, Or.inl (gw1 963 (by decide +kernel) rfl)⟩
theorem mvL_151 : MLv RL 151 12 mX12_put 3 := ⟨⟨TX12, 53, rfl⟩, cwX12_put, gw1 15 (by decide +kernel) rfl, gw1 1538 (by decide +kernel) rfl, gw1 1539 (by decide +kernel) rfl, by decide, ⟨by decide, by decide, by decide +kernel⟩, Or.inl (gw1 1537 (by decide +kernel) rfl)⟩
theorem mvL_157 : MLv RL 157 12 mX12_at 2 := ⟨⟨TX12, 53, rfl⟩, cwX12_at, gw1 15 (by decide +kernel) rfl, gw1 1546 (by decide +kernel) rfl, gw1 1547 (by decide +kernel) rfl, by decide, ⟨by decide, by decide, by decide +kernel⟩, Or.inl (gw1 1545 (by decide +kernel) rfl)⟩
theorem mvL_158 : MLv RL 158 12 mX12_thrown 0 := ⟨⟨TX12, 53, rfl⟩, cwX12_thrown, gw1 15 (by decide +kernel) rfl, gw1 1293 (by decide +kernel) rfl, gw1 1294 (by decide +kernel) rfl, by decide, ⟨by decide, by decide, by decide +kernel⟩, Or.inl (gw1 1292 (by decide +kernel) rfl)⟩
theorem mvL_161 : MLv RL 161 11 mX11_copy 5 := ⟨⟨TX11, 12, rfl⟩, cwX11_copy, gw1 1 (by decide +kernel) rfl, gw1 980 (by decide +kernel) rfl, gw1 981 (by decide +kernel) rfl, by decide, ⟨by decide, by decide, by decide +kernel⟩, Or.inl (gw1 979 (by decide +kernel) rfl)⟩
theorem mvL_165 : MLv RL 165 12 mX12_copy 5 := ⟨⟨TX12, 53, rfl⟩, cwX12_copy, gw1 15 (by decide +kernel) rfl, gw1 1550 (by decide +kernel) rfl, gw1 1551 (by decide +kernel) rfl, by decide, ⟨by decide, by decide, by decide +kernel⟩, Or.inl (gw1 1549 (by decide +kernel) rfl)⟩
theorem mvL_166 : MLv RL 166 11 mX11_take 2 := ⟨⟨TX11, 12, rfl⟩, cwX11_take, gw1 1 (by decide +kernel) rfl, gw1 985 (by decide +kernel) rfl, gw1 986 (by decide +kernel) rfl, by decide, ⟨by decide, by decide, by decide +kernel⟩, Or.inl (gw1 984 (by decide +kernel) rfl)⟩
theorem mvL_169 : MLv RL 169 12 mX12_take 2 := ⟨⟨TX12, 53, rfl⟩, cwX12_take, gw1 15 (by decide +kernel) rfl, gw1 1554 (by decide +kernel) rfl, gw1 1555 (by decide +kernel) rfl, by decide, ⟨by decide, by decide, by decide +kernel⟩, Or.inl (gw1 1553 (by decide +kernel) rfl)⟩
theorem mvL_170 : MLv RL 170 11 mX11_kept 2 := ⟨⟨TX11, 12, rfl⟩, cwX11_kept, gw1 1 (by decide +kernel) rfl, gw1 994 (by decide +kernel) rfl, gw1 995 (by decide +kernel) rfl, by decide, ⟨by decide, by decide, by decide +kernel⟩, Or.inl (gw1 993 (by decide +kernel) rfl)⟩
theorem mvL_173 : MLv RL 173 12 mX12_kept 2 := ⟨⟨TX12, 53, rfl⟩, cwX12_kept, gw1 15 (by decide +kernel) rfl, gw1 1558 (by decide +kernel) rfl, gw1 1559 (by decide +kernel) rfl, by decide, ⟨by decide, by decide, by decide +kernel⟩, Or.inl (gw1 1557 (by decide +kernel) rfl)⟩
theorem mvL_177 : MLv RL 177 12 mX12_toss 1 := ⟨⟨TX12, 53, rfl⟩, cwX12_toss, gw1 15 (by decide +kernel) rfl, gw1 1570 (by decide +kernel) rfl, gw1 1571 (by decide +kernel) rfl, by decide, ⟨by decide, by decide, by decide +kernel⟩, Or.inl (gw1 1569 (by decide +kernel) rfl)⟩
theorem mvL_178 : MLv RL 178 11 mX11_count 1 := ⟨⟨TX11, 12, rfl⟩, cwX11_count, gw1 1 (by decide +kernel) rfl, gw1 1090 (by decide +kernel) rfl, gw1 1091 (by decide +kernel) rfl, by decide, ⟨by decide, by decide, by decide +kernel⟩, Or.inl (gw1 1089 (by decide +kernel) rfl)⟩
theorem mvL_181 : MLv RL 181 12 mX12_count 1 := ⟨⟨TX12, 53, rfl⟩, cwX12_count, gw1 15 (by decide +kernel) rfl, gw1 1574 (by decide +kernel) rfl, gw1 1575 (by decide +kernel) rfl, by decide, ⟨by decide, by decide, by decide +kernel⟩, Or.inl (gw1 1573 (by decide +kernel) rfl)⟩
theorem msX12_142 : MLs RX12 142 mX12_in 3 := ⟨cwX12_in, gw1 15 (by decide +kernel) rfl, gw1 1301 (by decide +kernel) rfl, by decide, ⟨by decide, by decide, by decide +kernel⟩, Or.inl (gw1 1300 (by decide +kernel) rfl)⟩
theorem mvX12_146 : MLv RX12 146 12 mX12_peg0 2 := ⟨⟨TX12, 53, rfl⟩, cwX12_peg0, gw1 15 (by decide +kernel) rfl, gw1 1317 (by decide +kernel) rfl, gwp 89 (by decide +kernel) rfl, by decide, ⟨by decide, by decide, by decide +kernel⟩, Or.inl (gw1 1315 (by decide +kernel) rfl)⟩
theorem mvX12_156 : MLv RX12 156 12 mX12_guessTurn 1 := ⟨⟨TX12, 53, rfl⟩, cwX12_guessTurn, gw1 15 (by decide +kernel) rfl, gw1 1357 (by decide +kernel) rfl, gwp 95 (by decide +kernel) rfl, by decide, ⟨by decide, by decide, by decide +kernel⟩, Or.inl (gw1 1355 (by decide +kernel) rfl)⟩
theorem mvX12_160 : MLv RX12 160 12 mX12_answers 1 := ⟨⟨TX12, 53, rfl⟩, cwX12_answers, gw1 15 (by decide +kernel) rfl, gw1 1361 (by decide +kernel) rfl, gwp 96 (by decide +kernel) rfl, by decide, ⟨by decide, by decide, by decide +kernel⟩, Or.inl (gw1 1359 (by decide +kernel) rfl)⟩
theorem mvX12_167 : MLv RX12 167 12 mX12_isAllowed 1 := ⟨⟨TX12, 53, rfl⟩, cwX12_isAllowed, gw1 15 (by decide +kernel) rfl, gw1 1313 (by decide +kernel) rfl, gwp 88 (by decide +kernel) rfl, by decide, ⟨by decide, by decide, by decide +kernel⟩, Or.inl (gw1 1311 (by decide +kernel) rfl)⟩
theorem mvX12_174 : MLv RX12 174 12 mX12_falseOf 2 := ⟨⟨TX12, 53, rfl⟩, cwX12_falseOf, gw1 15 (by decide +kernel) rfl, gw1 1353 (by decide +kernel) rfl, gwp 94 (by decide +kernel) rfl, by decide, ⟨by decide, by decide, by decide +kernel⟩, Or.inl (gw1 1351 (by decide +kernel) rfl)⟩
theorem msX12_177 : MLs RX12 177 mX12_ones 1 := ⟨cwX12_ones, gw1 15 (by decide +kernel) rfl, gw1 1364 (by decide +kernel) rfl, by decide, ⟨by decide, by decide, by decide +kernel⟩, Or.inl (gw1 1363 (by decide +kernel) rfl)⟩
theorem mvX12_195 : MLv RX12 195 12 mX12_allowed 0 := ⟨⟨TX12, 53, rfl⟩, cwX12_allowed, gw1 15 (by decide +kernel) rfl, gw1 1309 (by decide +kernel) rfl, gwp 87 (by decide +kernel) rfl, by decide, ⟨by decide, by decide, by decide +kernel⟩, Or.inl (gw1 1307 (by decide +kernel) rfl)⟩
theorem mvX12_199 : MLv RX12 199 12 mX12_isCode 1 := ⟨⟨TX12, 53, rfl⟩, cwX12_isCode, gw1 15 (by decide +kernel) rfl, gw1 1325 (by decide +kernel) rfl, gwp 90 (by decide +kernel) rfl, by decide, ⟨by decide, by decide, by decide +kernel⟩, Or.inl (gw1 1323 (by decide +kernel) rfl)⟩
theorem mvX12_202 : MLv RX12 202 12 mX12_found 1 := ⟨⟨TX12, 53, rfl⟩, cwX12_found, gw1 15 (by decide +kernel) rfl, gw1 1337 (by decide +kernel) rfl, gwp 91 (by decide +kernel) rfl, by decide, ⟨by decide, by decide, by decide +kernel⟩, Or.inl (gw1 1335 (by decide +kernel) rfl)⟩
theorem mvX12_205 : MLv RX12 205 12 mX12_sortOf 0 := ⟨⟨TX12, 53, rfl⟩, cwX12_sortOf, gw1 15 (by decide +kernel) rfl, gw1 1345 (by decide +kernel) rfl, gwp 92 (by decide +kernel) rfl, by decide, ⟨by decide, by decide, by decide +kernel⟩, Or.inl (gw1 1343 (by decide +kernel) rfl)⟩
theorem mvX12_208 : MLv RX12 208 12 mX12_look 0 := ⟨⟨TX12, 53, rfl⟩, cwX12_look, gw1 15 (by decide +kernel) rfl, gw1 1349 (by decide +kernel) rfl, gwp 93 (by decide +kernel) rfl, by decide, ⟨by decide, by decide, by decide +kernel⟩, Or.inl (gw1 1347 (by decide +kernel) rfl)⟩
theorem mvX12_211 : MLv RX12 211 12 mX12_guessHand 0 := ⟨⟨TX12, 53, rfl⟩, cwX12_guessHand, gw1 15 (by decide +kernel) rfl, gw1 1368 (by decide +kernel) rfl, gwp 97 (by decide +kernel) rfl, by decide, ⟨by decide, by decide, by decide +kernel⟩, Or.inl (gw1 1366 (by decide +kernel) rfl)⟩
theorem mvX12_214 : MLv RX12 214 12 mX12_guessCode 1 := ⟨⟨TX12, 53, rfl⟩, cwX12_guessCode, gw1 15 (by decide +kernel) rfl, gw1 1384 (by decide +kernel) rfl, gwp 98 (by decide +kernel) rfl, by decide, ⟨by decide, by decide, by decide +kernel⟩, Or.inl (gw1 1382 (by decide +kernel) rfl)⟩
theorem mvX12_217 : MLv RX12 217 12 mX12_mayAnswer 1 := ⟨⟨TX12, 53, rfl⟩, cwX12_mayAnswer, gw1 15 (by decide +kernel) rfl, gw1 1396 (by decide +kernel) rfl, gwp 99 (by decide +kernel) rfl, by decide, ⟨by decide, by decide, by decide +kernel⟩, Or.inl (gw1 1394 (by decide +kernel) rfl)⟩
theorem mvX12_220 : MLv RX12 220 12 mX12_quarrels 1 := ⟨⟨TX12, 53, rfl⟩, cwX12_quarrels, gw1 15 (by decide +kernel) rfl, gw1 1400 (by decide +kernel) rfl, gwp 100 (by decide +kernel) rfl, by decide, ⟨by decide, by decide, by decide +kernel⟩, Or.inl (gw1 1398 (by decide +kernel) rfl)⟩
theorem mvX12_223 : MLv RX12 223 12 mX12_partsOf 0 := ⟨⟨TX12, 53, rfl⟩, cwX12_partsOf, gw1 15 (by decide +kernel) rfl, gw1 1428 (by decide +kernel) rfl, gwp 101 (by decide +kernel) rfl, by decide, ⟨by decide, by decide, by decide +kernel⟩, Or.inl (gw1 1426 (by decide +kernel) rfl)⟩
theorem mvX12_228 : MLv RX12 228 12 mX12_isLeft 1 := ⟨⟨TX12, 53, rfl⟩, cwX12_isLeft, gw1 15 (by decide +kernel) rfl, gw1 1442 (by decide +kernel) rfl, gwp 102 (by decide +kernel) rfl, by decide, ⟨by decide, by decide, by decide +kernel⟩, Or.inl (gw1 1440 (by decide +kernel) rfl)⟩
theorem msX12_231 : MLs RX12 231 mX12_order 3 := ⟨cwX12_order, gw1 15 (by decide +kernel) rfl, gw1 1445 (by decide +kernel) rfl, by decide, ⟨by decide, by decide, by decide +kernel⟩, Or.inl (gw1 1444 (by decide +kernel) rfl)⟩
theorem mvX12_235 : MLv RX12 235 12 mX12_turned 1 := ⟨⟨TX12, 53, rfl⟩, cwX12_turned, gw1 15 (by decide +kernel) rfl, gw1 1449 (by decide +kernel) rfl, gwp 103 (by decide +kernel) rfl, by decide, ⟨by decide, by decide, by decide +kernel⟩, Or.inl (gw1 1447 (by decide +kernel) rfl)⟩
theorem mvX12_241 : MLv RX12 241 12 mX12_isIn 2 := ⟨⟨TX12, 53, rfl⟩, cwX12_isIn, gw1 15 (by decide +kernel) rfl, gw1 1465 (by decide +kernel) rfl, gwp 106 (by decide +kernel) rfl, by decide, ⟨by decide, by decide, by decide +kernel⟩, Or.inl (gw1 1463 (by decide +kernel) rfl)⟩
theorem mvX12_245 : MLv RX12 245 12 mX12_split 2 := ⟨⟨TX12, 53, rfl⟩, cwX12_split, gw1 15 (by decide +kernel) rfl, gw1 1469 (by decide +kernel) rfl, gwp 107 (by decide +kernel) rfl, by decide, ⟨by decide, by decide, by decide +kernel⟩, Or.inl (gw1 1467 (by decide +kernel) rfl)⟩
theorem mvX12_248 : MLv RX12 248 12 mX12_refusedTree 1 := ⟨⟨TX12, 53, rfl⟩, cwX12_refusedTree, gw1 15 (by decide +kernel) rfl, gw1 1457 (by decide +kernel) rfl, gwp 104 (by decide +kernel) rfl, by decide, ⟨by decide, by decide, by decide +kernel⟩, Or.inl (gw1 1455 (by decide +kernel) rfl)⟩
theorem mvX12_251 : MLv RX12 251 12 mX12_trees 1 := ⟨⟨TX12, 53, rfl⟩, cwX12_trees, gw1 15 (by decide +kernel) rfl, gw1 1461 (by decide +kernel) rfl, gwp 105 (by decide +kernel) rfl, by decide, ⟨by decide, by decide, by decide +kernel⟩, Or.inl (gw1 1459 (by decide +kernel) rfl)⟩
theorem mvX12_254 : MLv RX12 254 12 mX12_asked 2 := ⟨⟨TX12, 53, rfl⟩, cwX12_asked, gw1 15 (by decide +kernel) rfl, gw1 1477 (by decide +kernel) rfl, gwp 108 (by decide +kernel) rfl, by decide, ⟨by decide, by decide, by decide +kernel⟩, Or.inl (gw1 1475 (by decide +kernel) rfl)⟩
theorem msX12_257 : MLs RX12 257 mX12_row 1 := ⟨cwX12_row, gw1 15 (by decide +kernel) rfl, gw1 1480 (by decide +kernel) rfl, by decide, ⟨by decide, by decide, by decide +kernel⟩, Or.inl (gw1 1479 (by decide +kernel) rfl)⟩
theorem mvX12_260 : MLv RX12 260 12 mX12_isMeant 2 := ⟨⟨TX12, 53, rfl⟩, cwX12_isMeant, gw1 15 (by decide +kernel) rfl, gw1 1516 (by decide +kernel) rfl, gwp 111 (by decide +kernel) rfl, by decide, ⟨by decide, by decide, by decide +kernel⟩, Or.inl (gw1 1514 (by decide +kernel) rfl)⟩
theorem mvX12_263 : MLv RX12 263 12 mX12_isWhole 1 := ⟨⟨TX12, 53, rfl⟩, cwX12_isWhole, gw1 15 (by decide +kernel) rfl, gw1 1512 (by decide +kernel) rfl, gwp 110 (by decide +kernel) rfl, by decide, ⟨by decide, by decide, by decide +kernel⟩, Or.inl (gw1 1510 (by decide +kernel) rfl)⟩
theorem mvX12_266 : MLv RX12 266 12 mX12_judged 0 := ⟨⟨TX12, 53, rfl⟩, cwX12_judged, gw1 15 (by decide +kernel) rfl, gw1 1508 (by decide +kernel) rfl, gwp 109 (by decide +kernel) rfl, by decide, ⟨by decide, by decide, by decide +kernel⟩, Or.inl (gw1 1506 (by decide +kernel) rfl)⟩
theorem msX12_270 : MLs RX12 270 mX12_isShelf 1 := ⟨cwX12_isShelf, gw1 15 (by decide +kernel) rfl, gw1 1527 (by decide +kernel) rfl, by decide, ⟨by decide, by decide, by decide +kernel⟩, Or.inl (gw1 1526 (by decide +kernel) rfl)⟩
theorem msX12_273 : MLs RX12 273 mX12_narrow 2 := ⟨cwX12_narrow, gw1 15 (by decide +kernel) rfl, gw1 1542 (by decide +kernel) rfl, by decide, ⟨by decide, by decide, by decide +kernel⟩, Or.inl (gw1 1541 (by decide +kernel) rfl)⟩
theorem mvX12_276 : MLv RX12 276 12 mX12_pegs 1 := ⟨⟨TX12, 53, rfl⟩, cwX12_pegs, gw1 15 (by decide +kernel) rfl, gw1 1567 (by decide +kernel) rfl, gwp 113 (by decide +kernel) rfl, by decide, ⟨by decide, by decide, by decide +kernel⟩, Or.inl (gw1 1565 (by decide +kernel) rfl)⟩
theorem mvX12_279 : MLv RX12 279 12 mX12_weight 1 := ⟨⟨TX12, 53, rfl⟩, cwX12_weight, gw1 15 (by decide +kernel) rfl, gw1 1563 (by decide +kernel) rfl, gwp 112 (by decide +kernel) rfl, by decide, ⟨by decide, by decide, by decide +kernel⟩, Or.inl (gw1 1561 (by decide +kernel) rfl)⟩
theorem kcX11_245 : Cond.constant RX11 245 (200000) ∈ gw := gw1 715 (by decide +kernel) rfl
theorem kcX1_121 : Cond.constantLong RX1 121 (-7046029254386353131) ∈ gw := gw1 797 (by decide +kernel) rfl
theorem kcX1_138 : Cond.constant RX1 138 (1000000) ∈ gw := gw1 823 (by decide +kernel) rfl
theorem kcX7_42 : Cond.constant RX7 42 (65535) ∈ gw := gw1 992 (by decide +kernel) rfl
theorem kcX12_75 : Cond.constant RX12 75 (40960) ∈ gw := gw1 1131 (by decide +kernel) rfl
theorem kcX12_226 : Cond.constant RX12 226 (200000) ∈ gw := gw1 1434 (by decide +kernel) rfl
theorem kcX12_227 : Cond.constant RX12 227 (1000000000) ∈ gw := gw1 1435 (by decide +kernel) rfl
theorem kcX12_269 : Cond.constant RX12 269 (65535) ∈ gw := gw1 1544 (by decide +kernel) rfl
theorem kcJ6_265 : Cond.constant RJ6 265 (1431655765) ∈ gw := gw1 491 (by decide +kernel) rfl
theorem kcJ6_266 : Cond.constant RJ6 266 (858993459) ∈ gw := gw1 492 (by decide +kernel) rfl
theorem kcJ6_267 : Cond.constant RJ6 267 (252645135) ∈ gw := gw1 493 (by decide +kernel) rfl
