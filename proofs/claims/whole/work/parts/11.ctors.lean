set_option maxRecDepth 20000 in
theorem lk_155 : Cond.methodLink RX11 1 Lib.objectInit ∈ WSG := lkT1 35 rfl rfl
set_option maxRecDepth 20000 in
theorem lk_156 : Cond.instanceMethod Lib.objectInit ∈ WSG := lkT1 36 rfl rfl
set_option maxRecDepth 20000 in
theorem lk_157 : Cond.code Lib.objectInit ⟨#[0xb1]⟩ 1 none ∈ WSG := lkT1 37 rfl rfl
set_option maxRecDepth 20000 in
theorem lk_158 : Cond.classLink RX11 17 "RainWishes$Sky" ∈ WSG := lkT1 38 rfl rfl
set_option maxRecDepth 20000 in
theorem lk_159 : Cond.instantiable RX8 16 ∈ WSG := lkT1 39 rfl rfl
set_option maxRecDepth 20000 in
theorem lk_161 : Cond.instanceMethod yX8_init ∈ WSG := lkT1 41 rfl rfl
set_option maxRecDepth 20000 in
theorem lk_162 : Cond.code yX8_init cX8_init 1 none ∈ WSG := lkT1 42 rfl rfl
set_option maxRecDepth 20000 in
theorem lk_163 : Cond.methodLink RX8 3 Lib.objectInit ∈ WSG := lkT1 43 rfl rfl
set_option maxRecDepth 20000 in
theorem lk_255 : Cond.arrayClass .byte ∈ WSG := lkT1 135 rfl rfl
set_option maxRecDepth 20000 in
theorem lk_256 : Cond.arrayClass .boolean ∈ WSG := lkT1 136 rfl rfl
set_option maxRecDepth 20000 in
theorem lk_257 : Cond.arrayClass .int ∈ WSG := lkT1 137 rfl rfl
set_option maxRecDepth 20000 in
theorem lk_258 : Cond.classLink RX11 27 "RainWishes$Parser" ∈ WSG := lkT1 138 rfl rfl
set_option maxRecDepth 20000 in
theorem lk_259 : Cond.instantiable RX6 12 ∈ WSG := lkT1 139 rfl rfl
set_option maxRecDepth 20000 in
theorem lk_260 : Cond.methodLink RX11 29 yX6_init ∈ WSG := lkT1 140 rfl rfl
set_option maxRecDepth 20000 in
theorem lk_261 : Cond.instanceMethod yX6_init ∈ WSG := lkT1 141 rfl rfl
set_option maxRecDepth 20000 in
theorem lk_262 : Cond.code yX6_init cX6_init 3 none ∈ WSG := lkT1 142 rfl rfl
set_option maxRecDepth 20000 in
theorem lk_263 : Cond.methodLink RX6 3 Lib.objectInit ∈ WSG := lkT1 143 rfl rfl
set_option maxRecDepth 20000 in
theorem lk_264 : Cond.classLink RX6 19 "RainWishes$Tokens" ∈ WSG := lkT1 144 rfl rfl
set_option maxRecDepth 20000 in
theorem lk_265 : Cond.instantiable RX9 5 ∈ WSG := lkT1 145 rfl rfl
set_option maxRecDepth 20000 in
theorem lk_266 : Cond.methodLink RX6 21 yX9_init ∈ WSG := lkT1 146 rfl rfl
set_option maxRecDepth 20000 in
theorem lk_267 : Cond.instanceMethod yX9_init ∈ WSG := lkT1 147 rfl rfl
set_option maxRecDepth 20000 in
theorem lk_268 : Cond.code yX9_init cX9_init 2 none ∈ WSG := lkT1 148 rfl rfl
set_option maxRecDepth 20000 in
theorem lk_269 : Cond.methodLink RX9 1 Lib.objectInit ∈ WSG := lkT1 149 rfl rfl
set_option maxRecDepth 20000 in
theorem lk_327 : Cond.classLink RX11 36 "RainWishes$Book" ∈ WSG := lkT1 207 rfl rfl
set_option maxRecDepth 20000 in
theorem lk_328 : Cond.instantiable RX0 6 ∈ WSG := lkT1 208 rfl rfl
set_option maxRecDepth 20000 in
theorem lk_330 : Cond.instanceMethod yX0_init ∈ WSG := lkT1 210 rfl rfl
set_option maxRecDepth 20000 in
theorem lk_331 : Cond.code yX0_init cX0_init 1 none ∈ WSG := lkT1 211 rfl rfl
set_option maxRecDepth 20000 in
theorem lk_332 : Cond.methodLink RX0 3 Lib.objectInit ∈ WSG := lkT1 212 rfl rfl
set_option maxRecDepth 20000 in
theorem lk_333 : Cond.classLink RX0 18 "[[I" ∈ WSG := lkT1 213 rfl rfl
set_option maxRecDepth 20000 in
theorem lk_361 : Cond.classLink RX11 43 "RainWishes$Field" ∈ WSG := lkT2 1 rfl rfl
set_option maxRecDepth 20000 in
theorem lk_362 : Cond.instantiable RX3 3 ∈ WSG := lkT2 2 rfl rfl
set_option maxRecDepth 20000 in
theorem lk_363 : Cond.methodLink RX11 45 yX3_init ∈ WSG := lkT2 3 rfl rfl
set_option maxRecDepth 20000 in
theorem lk_364 : Cond.instanceMethod yX3_init ∈ WSG := lkT2 4 rfl rfl
set_option maxRecDepth 20000 in
theorem lk_365 : Cond.code yX3_init cX3_init 2 none ∈ WSG := lkT2 5 rfl rfl
set_option maxRecDepth 20000 in
theorem lk_366 : Cond.methodLink RX3 3 Lib.objectInit ∈ WSG := lkT2 6 rfl rfl
set_option maxRecDepth 20000 in
theorem lk_380 : Cond.classLink RX11 52 "RainWishes$Choices" ∈ WSG := lkT2 20 rfl rfl
set_option maxRecDepth 20000 in
theorem lk_381 : Cond.instantiable RX2 9 ∈ WSG := lkT2 21 rfl rfl
set_option maxRecDepth 20000 in
theorem lk_382 : Cond.methodLink RX11 54 yX2_init ∈ WSG := lkT2 22 rfl rfl
set_option maxRecDepth 20000 in
theorem lk_383 : Cond.instanceMethod yX2_init ∈ WSG := lkT2 23 rfl rfl
set_option maxRecDepth 20000 in
theorem lk_384 : Cond.code yX2_init cX2_init 4 none ∈ WSG := lkT2 24 rfl rfl
set_option maxRecDepth 20000 in
theorem lk_385 : Cond.methodLink RX2 3 Lib.objectInit ∈ WSG := lkT2 25 rfl rfl
set_option maxRecDepth 20000 in
theorem lk_418 : Cond.classLink RX11 61 "RainWishes$Rules" ∈ WSG := lkT2 58 rfl rfl
set_option maxRecDepth 20000 in
theorem lk_419 : Cond.instantiable RX7 8 ∈ WSG := lkT2 59 rfl rfl
set_option maxRecDepth 20000 in
theorem lk_420 : Cond.methodLink RX11 63 yX7_init ∈ WSG := lkT2 60 rfl rfl
set_option maxRecDepth 20000 in
theorem lk_421 : Cond.instanceMethod yX7_init ∈ WSG := lkT2 61 rfl rfl
set_option maxRecDepth 20000 in
theorem lk_422 : Cond.code yX7_init cX7_init 4 none ∈ WSG := lkT2 62 rfl rfl
set_option maxRecDepth 20000 in
theorem lk_423 : Cond.methodLink RX7 3 Lib.objectInit ∈ WSG := lkT2 63 rfl rfl
set_option maxRecDepth 20000 in
theorem lk_451 : Cond.classLink RX11 70 "RainWishes$Meant" ∈ WSG := lkT2 91 rfl rfl
set_option maxRecDepth 20000 in
theorem lk_452 : Cond.instantiable RX5 7 ∈ WSG := lkT2 92 rfl rfl
set_option maxRecDepth 20000 in
theorem lk_453 : Cond.methodLink RX11 72 yX5_init ∈ WSG := lkT2 93 rfl rfl
set_option maxRecDepth 20000 in
theorem lk_454 : Cond.instanceMethod yX5_init ∈ WSG := lkT2 94 rfl rfl
set_option maxRecDepth 20000 in
theorem lk_455 : Cond.code yX5_init cX5_init 2 none ∈ WSG := lkT2 95 rfl rfl
set_option maxRecDepth 20000 in
theorem lk_456 : Cond.methodLink RX5 3 Lib.objectInit ∈ WSG := lkT2 96 rfl rfl
set_option maxRecDepth 20000 in
theorem lk_481 : Cond.classLink RX11 77 "RainWishes$Brackets" ∈ WSG := lkT2 121 rfl rfl
set_option maxRecDepth 20000 in
theorem lk_482 : Cond.instantiable RX1 9 ∈ WSG := lkT2 122 rfl rfl
set_option maxRecDepth 20000 in
theorem lk_483 : Cond.methodLink RX11 79 yX1_init ∈ WSG := lkT2 123 rfl rfl
set_option maxRecDepth 20000 in
theorem lk_484 : Cond.instanceMethod yX1_init ∈ WSG := lkT2 124 rfl rfl
set_option maxRecDepth 20000 in
theorem lk_485 : Cond.code yX1_init cX1_init 3 none ∈ WSG := lkT2 125 rfl rfl
set_option maxRecDepth 20000 in
theorem lk_486 : Cond.methodLink RX1 1 Lib.objectInit ∈ WSG := lkT2 126 rfl rfl
set_option maxRecDepth 20000 in
theorem lk_487 : Cond.classLink RX1 19 "[[I" ∈ WSG := lkT2 127 rfl rfl
set_option maxRecDepth 20000 in
theorem lk_516 : Cond.classLink RX11 86 "RainWishes$Holding" ∈ WSG := lkT2 156 rfl rfl
set_option maxRecDepth 20000 in
theorem lk_517 : Cond.instantiable RX4 4 ∈ WSG := lkT2 157 rfl rfl
set_option maxRecDepth 20000 in
theorem lk_519 : Cond.instanceMethod yX4_init ∈ WSG := lkT2 159 rfl rfl
set_option maxRecDepth 20000 in
theorem lk_520 : Cond.code yX4_init cX4_init 1 none ∈ WSG := lkT2 160 rfl rfl
set_option maxRecDepth 20000 in
theorem lk_521 : Cond.methodLink RX4 3 Lib.objectInit ∈ WSG := lkT2 161 rfl rfl
set_option maxRecDepth 20000 in
theorem lk_522 : Cond.classLink RX4 15 "[[J" ∈ WSG := lkT2 162 rfl rfl
set_option maxRecDepth 20000 in
theorem lk_537 : Cond.arrayClass .long ∈ WSG := lkT2 177 rfl rfl
set_option maxRecDepth 20000 in
theorem lk_538 : Cond.classLink RX11 93 "RainWishes$Tray" ∈ WSG := lkT2 178 rfl rfl
set_option maxRecDepth 20000 in
theorem lk_540 : Cond.instantiable RX10 3 ∈ WSG := lkT2 180 rfl rfl
set_option maxRecDepth 20000 in
theorem lk_542 : Cond.instanceMethod yX10_init ∈ WSG := lkT2 182 rfl rfl
set_option maxRecDepth 20000 in
theorem lk_543 : Cond.code yX10_init cX10_init 1 none ∈ WSG := lkT2 183 rfl rfl
set_option maxRecDepth 20000 in
theorem lk_544 : Cond.methodLink RX10 3 Lib.objectInit ∈ WSG := lkT2 184 rfl rfl
set_option maxRecDepth 20000 in
theorem lk_1658 : Cond.methodLink RX12 1 Lib.objectInit ∈ WSG := lkT7 98 rfl rfl
set_option maxRecDepth 20000 in
theorem lk_1659 : Cond.constant RX12 33 (40960 : Int32) ∈ WSG := lkT7 99 rfl rfl
theorem bp_25 : (Int8.ofInt 25).toInt32 = (25 : Int32) := by decide
theorem bp_49 : (Int8.ofInt 49).toInt32 = (49 : Int32) := by decide
theorem bp_120 : (Int8.ofInt 120).toInt32 = (120 : Int32) := by decide
theorem sp_2496 : (Int16.ofInt 2496).toInt32 = (2496 : Int32) := by decide
theorem sp_3600 : (Int16.ofInt 3600).toInt32 = (3600 : Int32) := by decide
theorem fu_0 : FT TX0 6 tyX0 := ⟨tyX0_ok, nmX0⟩
theorem fu_1 : FT TX1 9 tyX1 := ⟨tyX1_ok, nmX1⟩
theorem fu_2 : FT TX2 9 tyX2 := ⟨tyX2_ok, nmX2⟩
theorem fu_3 : FT TX3 3 tyX3 := ⟨tyX3_ok, nmX3⟩
theorem fu_4 : FT TX4 4 tyX4 := ⟨tyX4_ok, nmX4⟩
theorem fu_5 : FT TX5 7 tyX5 := ⟨tyX5_ok, nmX5⟩
theorem fu_6 : FT TX6 12 tyX6 := ⟨tyX6_ok, nmX6⟩
theorem fu_7 : FT TX7 8 tyX7 := ⟨tyX7_ok, nmX7⟩
theorem fu_8 : FT TX8 16 tyX8 := ⟨tyX8_ok, nmX8⟩
theorem fu_9 : FT TX9 5 tyX9 := ⟨tyX9_ok, nmX9⟩
theorem fu_10 : FT TX10 3 tyX10 := ⟨tyX10_ok, nmX10⟩
theorem fu_11 : FT TX11 16 tyX11 := ⟨tyX11_ok, nmX11⟩
theorem fu_12 : FT TX12 39 tyX12 := ⟨tyX12_ok, nmX12⟩
theorem dv_0 : DV 0 6 tyX0 := by
  intro j hj
  match j, hj with
  | 0, _ => exact ⟨by decide, Or.inl ⟨rfl, rfl⟩⟩
  | 1, _ => exact ⟨by decide, Or.inr (Or.inr ⟨rfl, rfl⟩)⟩
  | 2, _ => exact ⟨by decide, Or.inr (Or.inr ⟨rfl, rfl⟩)⟩
  | 3, _ => exact ⟨by decide, Or.inl ⟨rfl, rfl⟩⟩
  | 4, _ => exact ⟨by decide, Or.inl ⟨rfl, rfl⟩⟩
  | 5, _ => exact ⟨by decide, Or.inr (Or.inr ⟨rfl, rfl⟩)⟩
  | j + 6, hj => exact absurd hj (by omega)
theorem dv_1 : DV 1 9 tyX1 := by
  intro j hj
  match j, hj with
  | 0, _ => exact ⟨by decide, Or.inr (Or.inr ⟨rfl, rfl⟩)⟩
  | 1, _ => exact ⟨by decide, Or.inr (Or.inr ⟨rfl, rfl⟩)⟩
  | 2, _ => exact ⟨by decide, Or.inr (Or.inr ⟨rfl, rfl⟩)⟩
  | 3, _ => exact ⟨by decide, Or.inr (Or.inr ⟨rfl, rfl⟩)⟩
  | 4, _ => exact ⟨by decide, Or.inr (Or.inr ⟨rfl, rfl⟩)⟩
  | 5, _ => exact ⟨by decide, Or.inr (Or.inr ⟨rfl, rfl⟩)⟩
  | 6, _ => exact ⟨by decide, Or.inr (Or.inr ⟨rfl, rfl⟩)⟩
  | 7, _ => exact ⟨by decide, Or.inl ⟨rfl, rfl⟩⟩
  | 8, _ => exact ⟨by decide, Or.inl ⟨rfl, rfl⟩⟩
  | j + 9, hj => exact absurd hj (by omega)
theorem dv_2 : DV 2 9 tyX2 := by
  intro j hj
  match j, hj with
  | 0, _ => exact ⟨by decide, Or.inr (Or.inr ⟨rfl, rfl⟩)⟩
  | 1, _ => exact ⟨by decide, Or.inr (Or.inr ⟨rfl, rfl⟩)⟩
  | 2, _ => exact ⟨by decide, Or.inr (Or.inr ⟨rfl, rfl⟩)⟩
  | 3, _ => exact ⟨by decide, Or.inr (Or.inr ⟨rfl, rfl⟩)⟩
  | 4, _ => exact ⟨by decide, Or.inl ⟨rfl, rfl⟩⟩
  | 5, _ => exact ⟨by decide, Or.inr (Or.inr ⟨rfl, rfl⟩)⟩
  | 6, _ => exact ⟨by decide, Or.inr (Or.inr ⟨rfl, rfl⟩)⟩
  | 7, _ => exact ⟨by decide, Or.inl ⟨rfl, rfl⟩⟩
  | 8, _ => exact ⟨by decide, Or.inl ⟨rfl, rfl⟩⟩
  | j + 9, hj => exact absurd hj (by omega)
theorem dv_3 : DV 3 3 tyX3 := by
  intro j hj
  match j, hj with
  | 0, _ => exact ⟨by decide, Or.inr (Or.inr ⟨rfl, rfl⟩)⟩
  | 1, _ => exact ⟨by decide, Or.inr (Or.inr ⟨rfl, rfl⟩)⟩
  | 2, _ => exact ⟨by decide, Or.inr (Or.inr ⟨rfl, rfl⟩)⟩
  | j + 3, hj => exact absurd hj (by omega)
theorem dv_4 : DV 4 4 tyX4 := by
  intro j hj
  match j, hj with
  | 0, _ => exact ⟨by decide, Or.inr (Or.inr ⟨rfl, rfl⟩)⟩
  | 1, _ => exact ⟨by decide, Or.inl ⟨rfl, rfl⟩⟩
  | 2, _ => exact ⟨by decide, Or.inr (Or.inr ⟨rfl, rfl⟩)⟩
  | 3, _ => exact ⟨by decide, Or.inr (Or.inr ⟨rfl, rfl⟩)⟩
  | j + 4, hj => exact absurd hj (by omega)
theorem dv_5 : DV 5 7 tyX5 := by
  intro j hj
  match j, hj with
  | 0, _ => exact ⟨by decide, Or.inr (Or.inr ⟨rfl, rfl⟩)⟩
  | 1, _ => exact ⟨by decide, Or.inr (Or.inr ⟨rfl, rfl⟩)⟩
  | 2, _ => exact ⟨by decide, Or.inl ⟨rfl, rfl⟩⟩
  | 3, _ => exact ⟨by decide, Or.inl ⟨rfl, rfl⟩⟩
  | 4, _ => exact ⟨by decide, Or.inl ⟨rfl, rfl⟩⟩
  | 5, _ => exact ⟨by decide, Or.inl ⟨rfl, rfl⟩⟩
  | 6, _ => exact ⟨by decide, Or.inl ⟨rfl, rfl⟩⟩
  | j + 7, hj => exact absurd hj (by omega)
theorem dv_6 : DV 6 12 tyX6 := by
  intro j hj
  match j, hj with
  | 0, _ => exact ⟨by decide, Or.inr (Or.inr ⟨rfl, rfl⟩)⟩
  | 1, _ => exact ⟨by decide, Or.inr (Or.inr ⟨rfl, rfl⟩)⟩
  | 2, _ => exact ⟨by decide, Or.inr (Or.inr ⟨rfl, rfl⟩)⟩
  | 3, _ => exact ⟨by decide, Or.inl ⟨rfl, rfl⟩⟩
  | 4, _ => exact ⟨by decide, Or.inl ⟨rfl, rfl⟩⟩
  | 5, _ => exact ⟨by decide, Or.inl ⟨rfl, rfl⟩⟩
  | 6, _ => exact ⟨by decide, Or.inl ⟨rfl, rfl⟩⟩
  | 7, _ => exact ⟨by decide, Or.inl ⟨rfl, rfl⟩⟩
  | 8, _ => exact ⟨by decide, Or.inl ⟨rfl, rfl⟩⟩
  | 9, _ => exact ⟨by decide, Or.inl ⟨rfl, rfl⟩⟩
  | 10, _ => exact ⟨by decide, Or.inl ⟨rfl, rfl⟩⟩
  | 11, _ => exact ⟨by decide, Or.inl ⟨rfl, rfl⟩⟩
  | j + 12, hj => exact absurd hj (by omega)
theorem dv_7 : DV 7 8 tyX7 := by
  intro j hj
  match j, hj with
  | 0, _ => exact ⟨by decide, Or.inr (Or.inr ⟨rfl, rfl⟩)⟩
  | 1, _ => exact ⟨by decide, Or.inr (Or.inr ⟨rfl, rfl⟩)⟩
  | 2, _ => exact ⟨by decide, Or.inr (Or.inr ⟨rfl, rfl⟩)⟩
  | 3, _ => exact ⟨by decide, Or.inr (Or.inr ⟨rfl, rfl⟩)⟩
  | 4, _ => exact ⟨by decide, Or.inr (Or.inr ⟨rfl, rfl⟩)⟩
  | 5, _ => exact ⟨by decide, Or.inl ⟨rfl, rfl⟩⟩
  | 6, _ => exact ⟨by decide, Or.inl ⟨rfl, rfl⟩⟩
  | 7, _ => exact ⟨by decide, Or.inl ⟨rfl, rfl⟩⟩
  | j + 8, hj => exact absurd hj (by omega)
theorem dv_8 : DV 8 16 tyX8 := by
  intro j hj
  match j, hj with
  | 0, _ => exact ⟨by decide, Or.inl ⟨rfl, rfl⟩⟩
  | 1, _ => exact ⟨by decide, Or.inl ⟨rfl, rfl⟩⟩
  | 2, _ => exact ⟨by decide, Or.inl ⟨rfl, rfl⟩⟩
  | 3, _ => exact ⟨by decide, Or.inl ⟨rfl, rfl⟩⟩
  | 4, _ => exact ⟨by decide, Or.inl ⟨rfl, rfl⟩⟩
  | 5, _ => exact ⟨by decide, Or.inl ⟨rfl, rfl⟩⟩
  | 6, _ => exact ⟨by decide, Or.inl ⟨rfl, rfl⟩⟩
  | 7, _ => exact ⟨by decide, Or.inl ⟨rfl, rfl⟩⟩
  | 8, _ => exact ⟨by decide, Or.inl ⟨rfl, rfl⟩⟩
  | 9, _ => exact ⟨by decide, Or.inl ⟨rfl, rfl⟩⟩
  | 10, _ => exact ⟨by decide, Or.inl ⟨rfl, rfl⟩⟩
  | 11, _ => exact ⟨by decide, Or.inl ⟨rfl, rfl⟩⟩
  | 12, _ => exact ⟨by decide, Or.inr (Or.inr ⟨rfl, rfl⟩)⟩
  | 13, _ => exact ⟨by decide, Or.inr (Or.inr ⟨rfl, rfl⟩)⟩
  | 14, _ => exact ⟨by decide, Or.inr (Or.inr ⟨rfl, rfl⟩)⟩
  | 15, _ => exact ⟨by decide, Or.inr (Or.inr ⟨rfl, rfl⟩)⟩
  | j + 16, hj => exact absurd hj (by omega)
theorem dv_9 : DV 9 5 tyX9 := by
  intro j hj
  match j, hj with
  | 0, _ => exact ⟨by decide, Or.inr (Or.inr ⟨rfl, rfl⟩)⟩
  | 1, _ => exact ⟨by decide, Or.inl ⟨rfl, rfl⟩⟩
  | 2, _ => exact ⟨by decide, Or.inl ⟨rfl, rfl⟩⟩
  | 3, _ => exact ⟨by decide, Or.inl ⟨rfl, rfl⟩⟩
  | 4, _ => exact ⟨by decide, Or.inl ⟨rfl, rfl⟩⟩
  | j + 5, hj => exact absurd hj (by omega)
theorem dv_10 : DV 10 3 tyX10 := by
  intro j hj
  match j, hj with
  | 0, _ => exact ⟨by decide, Or.inl ⟨rfl, rfl⟩⟩
  | 1, _ => exact ⟨by decide, Or.inl ⟨rfl, rfl⟩⟩
  | 2, _ => exact ⟨by decide, Or.inr (Or.inr ⟨rfl, rfl⟩)⟩
  | j + 3, hj => exact absurd hj (by omega)
theorem fg_0_1 : FF 0 1 RX0 TX0 6 2 := ⟨iw_0, rfl, by decide, by decide, rfl, by decide⟩
theorem fg_0_2 : FF 0 2 RX0 TX0 6 2 := ⟨iw_0, rfl, by decide, by decide, rfl, by decide⟩
theorem fg_0_5 : FF 0 5 RX0 TX0 6 2 := ⟨iw_0, rfl, by decide, by decide, rfl, by decide⟩
theorem fg_1_0 : FF 1 0 RX1 TX1 9 2 := ⟨iw_1, rfl, by decide, by decide, rfl, by decide⟩
theorem fg_1_1 : FF 1 1 RX1 TX1 9 2 := ⟨iw_1, rfl, by decide, by decide, rfl, by decide⟩
theorem fg_1_2 : FF 1 2 RX1 TX1 9 2 := ⟨iw_1, rfl, by decide, by decide, rfl, by decide⟩
theorem fg_1_3 : FF 1 3 RX1 TX1 9 2 := ⟨iw_1, rfl, by decide, by decide, rfl, by decide⟩
theorem fg_1_4 : FF 1 4 RX1 TX1 9 2 := ⟨iw_1, rfl, by decide, by decide, rfl, by decide⟩
theorem fg_1_5 : FF 1 5 RX1 TX1 9 2 := ⟨iw_1, rfl, by decide, by decide, rfl, by decide⟩
theorem fg_1_6 : FF 1 6 RX1 TX1 9 2 := ⟨iw_1, rfl, by decide, by decide, rfl, by decide⟩
theorem fg_2_0 : FF 2 0 RX2 TX2 9 2 := ⟨iw_2, rfl, by decide, by decide, rfl, by decide⟩
theorem fg_2_1 : FF 2 1 RX2 TX2 9 2 := ⟨iw_2, rfl, by decide, by decide, rfl, by decide⟩
theorem fg_2_2 : FF 2 2 RX2 TX2 9 2 := ⟨iw_2, rfl, by decide, by decide, rfl, by decide⟩
theorem fg_2_3 : FF 2 3 RX2 TX2 9 2 := ⟨iw_2, rfl, by decide, by decide, rfl, by decide⟩
theorem fg_2_5 : FF 2 5 RX2 TX2 9 2 := ⟨iw_2, rfl, by decide, by decide, rfl, by decide⟩
theorem fg_2_6 : FF 2 6 RX2 TX2 9 2 := ⟨iw_2, rfl, by decide, by decide, rfl, by decide⟩
theorem fg_3_0 : FF 3 0 RX3 TX3 3 2 := ⟨iw_3, rfl, by decide, by decide, rfl, by decide⟩
theorem fg_3_1 : FF 3 1 RX3 TX3 3 2 := ⟨iw_3, rfl, by decide, by decide, rfl, by decide⟩
theorem fg_3_2 : FF 3 2 RX3 TX3 3 2 := ⟨iw_3, rfl, by decide, by decide, rfl, by decide⟩
theorem fg_4_0 : FF 4 0 RX4 TX4 4 2 := ⟨iw_4, rfl, by decide, by decide, rfl, by decide⟩
theorem fg_4_2 : FF 4 2 RX4 TX4 4 2 := ⟨iw_4, rfl, by decide, by decide, rfl, by decide⟩
theorem fg_4_3 : FF 4 3 RX4 TX4 4 2 := ⟨iw_4, rfl, by decide, by decide, rfl, by decide⟩
theorem fg_5_0 : FF 5 0 RX5 TX5 7 2 := ⟨iw_5, rfl, by decide, by decide, rfl, by decide⟩
theorem fg_5_1 : FF 5 1 RX5 TX5 7 2 := ⟨iw_5, rfl, by decide, by decide, rfl, by decide⟩
theorem fg_6_0 : FF 6 0 RX6 TX6 12 2 := ⟨iw_6, rfl, by decide, by decide, rfl, by decide⟩
theorem fg_6_1 : FF 6 1 RX6 TX6 12 2 := ⟨iw_6, rfl, by decide, by decide, rfl, by decide⟩
theorem fg_6_2 : FF 6 2 RX6 TX6 12 2 := ⟨iw_6, rfl, by decide, by decide, rfl, by decide⟩
theorem fg_6_11 : FF 6 11 RX6 TX6 12 0 := ⟨iw_6, rfl, by decide, by decide, rfl, by decide⟩
theorem fg_7_0 : FF 7 0 RX7 TX7 8 2 := ⟨iw_7, rfl, by decide, by decide, rfl, by decide⟩
theorem fg_7_1 : FF 7 1 RX7 TX7 8 2 := ⟨iw_7, rfl, by decide, by decide, rfl, by decide⟩
theorem fg_7_2 : FF 7 2 RX7 TX7 8 2 := ⟨iw_7, rfl, by decide, by decide, rfl, by decide⟩
theorem fg_7_3 : FF 7 3 RX7 TX7 8 2 := ⟨iw_7, rfl, by decide, by decide, rfl, by decide⟩
theorem fg_7_4 : FF 7 4 RX7 TX7 8 2 := ⟨iw_7, rfl, by decide, by decide, rfl, by decide⟩
theorem fg_8_3 : FF 8 3 RX8 TX8 16 0 := ⟨iw_8, rfl, by decide, by decide, rfl, by decide⟩
theorem fg_8_12 : FF 8 12 RX8 TX8 16 2 := ⟨iw_8, rfl, by decide, by decide, rfl, by decide⟩
theorem fg_8_13 : FF 8 13 RX8 TX8 16 2 := ⟨iw_8, rfl, by decide, by decide, rfl, by decide⟩
theorem fg_8_14 : FF 8 14 RX8 TX8 16 2 := ⟨iw_8, rfl, by decide, by decide, rfl, by decide⟩
theorem fg_8_15 : FF 8 15 RX8 TX8 16 2 := ⟨iw_8, rfl, by decide, by decide, rfl, by decide⟩
theorem fg_9_0 : FF 9 0 RX9 TX9 5 2 := ⟨iw_9, rfl, by decide, by decide, rfl, by decide⟩
theorem fg_10_1 : FF 10 1 RX10 TX10 3 0 := ⟨iw_10, rfl, by decide, by decide, rfl, by decide⟩
theorem fg_10_2 : FF 10 2 RX10 TX10 3 2 := ⟨iw_10, rfl, by decide, by decide, rfl, by decide⟩
theorem fg_11_0 : FF 11 0 RX11 TX11 16 2 := ⟨iw_11, rfl, by decide, by decide, rfl, by decide⟩
theorem fg_11_2 : FF 11 2 RX11 TX11 16 2 := ⟨iw_11, rfl, by decide, by decide, rfl, by decide⟩
theorem fg_11_3 : FF 11 3 RX11 TX11 16 2 := ⟨iw_11, rfl, by decide, by decide, rfl, by decide⟩
theorem fg_11_4 : FF 11 4 RX11 TX11 16 2 := ⟨iw_11, rfl, by decide, by decide, rfl, by decide⟩
theorem fg_11_5 : FF 11 5 RX11 TX11 16 2 := ⟨iw_11, rfl, by decide, by decide, rfl, by decide⟩
theorem fg_11_6 : FF 11 6 RX11 TX11 16 2 := ⟨iw_11, rfl, by decide, by decide, rfl, by decide⟩
theorem fg_11_7 : FF 11 7 RX11 TX11 16 2 := ⟨iw_11, rfl, by decide, by decide, rfl, by decide⟩
theorem fg_11_8 : FF 11 8 RX11 TX11 16 2 := ⟨iw_11, rfl, by decide, by decide, rfl, by decide⟩
theorem fg_11_9 : FF 11 9 RX11 TX11 16 2 := ⟨iw_11, rfl, by decide, by decide, rfl, by decide⟩
theorem fg_11_10 : FF 11 10 RX11 TX11 16 2 := ⟨iw_11, rfl, by decide, by decide, rfl, by decide⟩
theorem fg_11_11 : FF 11 11 RX11 TX11 16 2 := ⟨iw_11, rfl, by decide, by decide, rfl, by decide⟩
theorem fg_11_12 : FF 11 12 RX11 TX11 16 2 := ⟨iw_11, rfl, by decide, by decide, rfl, by decide⟩
theorem fg_11_13 : FF 11 13 RX11 TX11 16 2 := ⟨iw_11, rfl, by decide, by decide, rfl, by decide⟩
theorem fg_11_14 : FF 11 14 RX11 TX11 16 2 := ⟨iw_11, rfl, by decide, by decide, rfl, by decide⟩
theorem fg_11_15 : FF 11 15 RX11 TX11 16 2 := ⟨iw_11, rfl, by decide, by decide, rfl, by decide⟩
theorem fg_12_0 : FF 12 0 RX12 TX12 39 2 := ⟨iw_12, rfl, by decide, by decide, rfl, by decide⟩
theorem fg_12_1 : FF 12 1 RX12 TX12 39 2 := ⟨iw_12, rfl, by decide, by decide, rfl, by decide⟩
theorem fg_12_2 : FF 12 2 RX12 TX12 39 2 := ⟨iw_12, rfl, by decide, by decide, rfl, by decide⟩
theorem fg_12_3 : FF 12 3 RX12 TX12 39 2 := ⟨iw_12, rfl, by decide, by decide, rfl, by decide⟩
theorem fg_12_4 : FF 12 4 RX12 TX12 39 2 := ⟨iw_12, rfl, by decide, by decide, rfl, by decide⟩
theorem fg_12_6 : FF 12 6 RX12 TX12 39 2 := ⟨iw_12, rfl, by decide, by decide, rfl, by decide⟩
theorem fg_12_16 : FF 12 16 RX12 TX12 39 0 := ⟨iw_12, rfl, by decide, by decide, rfl, by decide⟩
theorem fg_12_18 : FF 12 18 RX12 TX12 39 2 := ⟨iw_12, rfl, by decide, by decide, rfl, by decide⟩
theorem fg_12_19 : FF 12 19 RX12 TX12 39 2 := ⟨iw_12, rfl, by decide, by decide, rfl, by decide⟩
theorem fg_12_20 : FF 12 20 RX12 TX12 39 2 := ⟨iw_12, rfl, by decide, by decide, rfl, by decide⟩
theorem fg_12_21 : FF 12 21 RX12 TX12 39 2 := ⟨iw_12, rfl, by decide, by decide, rfl, by decide⟩
theorem fg_12_22 : FF 12 22 RX12 TX12 39 2 := ⟨iw_12, rfl, by decide, by decide, rfl, by decide⟩
theorem fg_12_23 : FF 12 23 RX12 TX12 39 2 := ⟨iw_12, rfl, by decide, by decide, rfl, by decide⟩
theorem fg_12_24 : FF 12 24 RX12 TX12 39 2 := ⟨iw_12, rfl, by decide, by decide, rfl, by decide⟩
theorem fg_12_25 : FF 12 25 RX12 TX12 39 2 := ⟨iw_12, rfl, by decide, by decide, rfl, by decide⟩
theorem fg_12_26 : FF 12 26 RX12 TX12 39 2 := ⟨iw_12, rfl, by decide, by decide, rfl, by decide⟩
theorem fg_12_27 : FF 12 27 RX12 TX12 39 2 := ⟨iw_12, rfl, by decide, by decide, rfl, by decide⟩
theorem fg_12_28 : FF 12 28 RX12 TX12 39 2 := ⟨iw_12, rfl, by decide, by decide, rfl, by decide⟩
theorem fg_12_30 : FF 12 30 RX12 TX12 39 2 := ⟨iw_12, rfl, by decide, by decide, rfl, by decide⟩
theorem fg_12_31 : FF 12 31 RX12 TX12 39 2 := ⟨iw_12, rfl, by decide, by decide, rfl, by decide⟩
theorem fg_12_32 : FF 12 32 RX12 TX12 39 2 := ⟨iw_12, rfl, by decide, by decide, rfl, by decide⟩
theorem fg_12_35 : FF 12 35 RX12 TX12 39 2 := ⟨iw_12, rfl, by decide, by decide, rfl, by decide⟩
theorem fg_12_36 : FF 12 36 RX12 TX12 39 2 := ⟨iw_12, rfl, by decide, by decide, rfl, by decide⟩
theorem fg_12_37 : FF 12 37 RX12 TX12 39 2 := ⟨iw_12, rfl, by decide, by decide, rfl, by decide⟩
theorem fg_12_38 : FF 12 38 RX12 TX12 39 2 := ⟨iw_12, rfl, by decide, by decide, rfl, by decide⟩
def flI (h : PH) (a N : Nat) (v : Int32) : PH := (fun i j => if i = a ∧ j < N then v else h.1 i j, h.2)
theorem ZZ_flI {n : Nat} {h : PH} {Q : RF} {a N : Nat} {v : Int32} (z : ZZ n h Q) (ha : a < n) : ZZ n (flI h a N v) Q := fun i hi k => by
  have e : i ≠ a := by omega
  have := z i hi k
  simpa [flI, e] using this
theorem flI_0 {h : PH} {a : Nat} {v : Int32} : flI h a 0 v = h := by
  simp [flI]
theorem flI_s {h : PH} {a k : Nat} {v : Int32} : pI (flI h a k v) a k v = flI h a (k + 1) v := by
  simp only [pI, flI, Prod.mk.injEq, and_true]
  funext i j
  by_cases h1 : i = a
  · subst h1
    by_cases h2 : j = k
    · subst h2; simp
    · by_cases h3 : j < k
      · simp [h2, h3, Nat.lt_succ_of_lt h3]
      · simp [h2, h3, show ¬ j < k + 1 by omega]
  · simp [h1]
set_option maxHeartbeats 4000000 in
theorem cc_fill (l : Launch) (a n : Nat) (Q : RF) (h : PH) (ha : a < n) (hk : kd a = (13, 4096)) : CTc l yJ7_fill_53178 cJ7_fill_53178 4 (rmx 1 0 0) [.ref a, .int (-1)] n Q h n Q (flI h a 4096 (-1)) 0 0 := by
  refine ctc_of (by decide) (Nat.le_of_ble_eq_true rfl) (fun hz => ZZ_flI hz ha) ?_
  intro p e s m args below meth c D cA b hnc X hr hlk hmi hbn
  have X : Cc p s m args c "java/util/Arrays" cJ7_fill_53178 4 D cA b := X
  refine sc_pick (L' := [(0, .ref a), (1, .int (-1))]) X [0, 1] rfl ?_
  refine sc_iconst (v := (0 : Int32)) X (dkJ7_fill_53178 (0, .iconst 0, 1) (pgm 0 rfl)) (by decide) ?_
  refine sc_istore_n (i := 2) (L' := [(2, .int 0), (0, .ref a), (1, .int (-1))]) X (dkJ7_fill_53178 (1, .istore_n 2, 1) (pgm 1 rfl)) rfl (by decide) rfl ?_
  refine sc_aload_n (i := 0) X 1 (dkJ7_fill_53178 (2, .aload_n 0, 1) (pgm 2 rfl)) rfl rfl ?_
  refine sc_alen X hk ha (dkJ7_fill_53178 (3, .arraylength, 1) (pgm 3 rfl)) ?_
  refine sc_istore_n (i := 3) (L' := [(3, .int (Int32.ofNat 4096)), (2, .int 0), (0, .ref a), (1, .int (-1))]) X (dkJ7_fill_53178 (4, .istore_n 3, 1) (pgm 4 rfl)) rfl (by decide) rfl ?_
  refine sc_pick (L' := [(0, .ref a), (1, .int (-1)), (2, .int (Int32.ofNat 0)), (3, .int (Int32.ofNat 4096))]) X [2, 3, 1, 0] rfl ?_
  have key : ∀ (k i : Nat), i + k = 4096 → SWc (MQ below (PstK D cA b n Q (flI h a 4096 (-1))) args s 0 0 (Ab b)) p l e (rmx 1 0 0) s m args below meth c 0 0 4 D cA b 5 [(0, .ref a), (1, .int (-1)), (2, .int (Int32.ofNat i)), (3, .int (Int32.ofNat 4096))] [] n Q (flI h a i (-1)) := by
    intro k
    induction k with
    | zero =>
      intro i hi
      have hi : i = 4096 := by omega
      subst hi
      refine sc_iload_n (i := 2) X 2 (dkJ7_fill_53178 (5, .iload_n 2, 1) (pgm 5 rfl)) rfl rfl ?_
      refine sc_iload_n (i := 3) X 3 (dkJ7_fill_53178 (6, .iload_n 3, 1) (pgm 6 rfl)) rfl rfl ?_
      refine sc_geT (tgt := 20) X (dkJ7_fill_53178 (7, .if_icmp .ge 13, 3) (pgm 7 rfl)) rfl (by decide) ?_
      exact sc_vret X hr hlk (dkJ7_fill_53178 (20, .return_, 1) (pgm 14 rfl))
    | succ k ih =>
      intro i hi
      have hlt : i < 4096 := by omega
      refine sc_iload_n (i := 2) X 2 (dkJ7_fill_53178 (5, .iload_n 2, 1) (pgm 5 rfl)) rfl rfl ?_
      refine sc_iload_n (i := 3) X 3 (dkJ7_fill_53178 (6, .iload_n 3, 1) (pgm 6 rfl)) rfl rfl ?_
      refine sc_geF (tgt := 20) X (dkJ7_fill_53178 (7, .if_icmp .ge 13, 3) (pgm 7 rfl)) rfl (fun q => by have := (nI_leI (a := 4096) (b := i) (by decide) (by omega)).mp q; omega) ?_
      refine sc_aload_n (i := 0) X 0 (dkJ7_fill_53178 (10, .aload_n 0, 1) (pgm 8 rfl)) rfl rfl ?_
      refine sc_iload_n (i := 2) X 2 (dkJ7_fill_53178 (11, .iload_n 2, 1) (pgm 9 rfl)) rfl rfl ?_
      refine sc_iload_n (i := 1) X 1 (dkJ7_fill_53178 (12, .iload_n 1, 1) (pgm 10 rfl)) rfl rfl ?_
      refine sc_iast (iN := i) X (by simp [Int32.toNatClampNeg, Int32.toInt_ofNat_of_lt (show i < 2 ^ 31 by omega)]) hk ha (by rw [Int32.toInt_ofNat_of_lt (show i < 2 ^ 31 by omega)]; omega) (dkJ7_fill_53178 (13, .iastore, 1) (pgm 11 rfl)) (by omega) ?_
      rw [flI_s]
      refine sc_iinc (i := 2) (v := Int32.ofNat (i + 1)) (L' := [(2, .int (Int32.ofNat (i + 1))), (0, .ref a), (1, .int (-1)), (3, .int (Int32.ofNat 4096))]) X 2 (dkJ7_fill_53178 (14, .iinc 2 1, 3) (pgm 12 rfl)) rfl (by rw [Int32.ofNat_add]; rfl) (by decide) rfl ?_
      refine sc_goto (tgt := 5) X (dkJ7_fill_53178 (17, .goto (-12), 3) (pgm 13 rfl)) rfl ?_
      refine sc_pick (L' := [(0, .ref a), (1, .int (-1)), (2, .int (Int32.ofNat (i + 1))), (3, .int (Int32.ofNat 4096))]) X [1, 2, 0, 3] rfl ?_
      exact ih (i + 1) (by omega)
  have k0 := key 4096 0 rfl
  rw [flI_0] at k0
  exact k0
def pgX10_init : List (Nat × Instr × Nat) := [(0, .aload_n 0, 1), (1, .invokespecial 3, 3), (4, .aload_n 0, 1), (5, .iconst (-1), 1), (6, .putfield 9, 3), (9, .aload_n 0, 1), (10, .bipush 30, 2), (12, .newarray .long, 2), (14, .putfield 15, 3), (17, .return_, 1)]
theorem dkX10_init : ∀ q ∈ pgX10_init, decode cX10_init q.1 = .ok q.2 := by decide +kernel
def q_X10_init (Q : RF) (n i : Nat) : RF := rU (Q) i 2 n
def h_X10_init (h : PH) (n i : Nat) : PH := pI (h) i 1 (-1 : Int32)
theorem zz_X10_init {Q : RF} {h : PH} {m n i : Nat} (hi : i < n) (hm : n + 1 ≤ m) (hz : ZZ m h Q) : ZZ m (h_X10_init h n i) (q_X10_init Q n i) := by
  unfold h_X10_init q_X10_init
  repeat (first | exact hz | refine ZZ_pI ?_ (by omega) | refine ZZ_rU ?_ (by omega) | refine ZZ_rM ?_ (by omega) | refine ZZ_flI ?_ (by omega) | refine zz_X10_init (by omega) (by omega) ?_)
set_option maxRecDepth 100000 in
set_option maxHeartbeats 4000000 in
theorem cc_X10_init (l : Launch) (n i : Nat) (Q : RF) (h : PH) (hi : i < n) (hk : (kd i).1 = 10) (hc_n : kd n = (16, 30)) : CTc l yX10_init cX10_init 1 (rmx 2 1 30) [.ref i] n Q h (n + 1) (q_X10_init Q n i) (h_X10_init h n i) 1 30 := by
  refine ctc_of (by decide) (Nat.le_of_ble_eq_true rfl) (fun hz => zz_X10_init hi (Nat.le_refl _) (hz.up (Nat.le_add_right _ _))) ?_
  intro p e s m args below meth c D cA b hnc X hr hlk hmi hbn
  have X : Cc p s m args c RX10 cX10_init 1 D cA b := X
  refine sc_pick (L' := [(0, .ref i)]) X [0] rfl ?_
  refine sc_aload_n (i := 0) X 0 (dkX10_init (0, .aload_n 0, 1) (pgm 0 rfl)) rfl rfl ?_
  refine sc_objInit X lk_544 lk_156 lk_157 (dkX10_init (1, .invokespecial 3, 3) (pgm 1 rfl)) (Nat.le_of_ble_eq_true rfl) (Nat.le_of_ble_eq_true rfl) ?_
  refine sc_aload_n (i := 0) X 0 (dkX10_init (4, .aload_n 0, 1) (pgm 2 rfl)) rfl rfl ?_
  refine sc_iconst (v := (-1 : Int32)) X (dkX10_init (5, .iconst (-1), 1) (pgm 3 rfl)) ic_m1 ?_
  refine sc_putI X fg_10_1 lk_546 hk (by omega) fu_10 rfl rfl rfl (dkX10_init (6, .putfield 9, 3) (pgm 4 rfl)) (by omega) ?_
  refine sc_aload_n (i := 0) X 0 (dkX10_init (9, .aload_n 0, 1) (pgm 5 rfl)) rfl rfl ?_
  refine sc_bipush (v := (30 : Int32)) X (dkX10_init (10, .bipush 30, 2) (pgm 6 rfl)) bp_30 ?_
  refine sc_newL (N := 30) X lk_537 hc_n (by decide) (by decide) (Nat.le_of_ble_eq_true rfl) (Nat.le_of_ble_eq_true rfl) (Nat.le_of_ble_eq_true rfl) (dkX10_init (12, .newarray .long, 2) (pgm 7 rfl)) ?_
  refine sc_putFR X fg_10_2 lk_551 hk (by omega) fu_10 rfl hmi rfl (fun _ => rfl) (fun _ => rfl) (dkX10_init (14, .putfield 15, 3) (pgm 8 rfl)) (by omega) ?_
  exact sc_vret X hr hlk (dkX10_init (17, .return_, 1) (pgm 9 rfl))
def pgX8_init : List (Nat × Instr × Nat) := [(0, .aload_n 0, 1), (1, .invokespecial 3, 3), (4, .aload_n 0, 1), (5, .iconst 3, 1), (6, .putfield 9, 3), (9, .aload_n 0, 1), (10, .bipush 10, 2), (12, .newarray .int, 2), (14, .putfield 15, 3), (17, .aload_n 0, 1), (18, .bipush 10, 2), (20, .newarray .int, 2), (22, .putfield 19, 3), (25, .aload_n 0, 1), (26, .bipush 11, 2), (28, .newarray .int, 2), (30, .putfield 22, 3), (33, .aload_n 0, 1), (34, .sipush 900, 3), (37, .newarray .int, 2), (39, .putfield 25, 3), (42, .return_, 1)]
theorem dkX8_init : ∀ q ∈ pgX8_init, decode cX8_init q.1 = .ok q.2 := by decide +kernel
def q_X8_init (Q : RF) (n i : Nat) : RF := rU (rU (rU (rU (Q) i 12 n) i 13 (n + 1)) i 14 (n + 2)) i 15 (n + 3)
def h_X8_init (h : PH) (n i : Nat) : PH := pI (h) i 3 (3 : Int32)
theorem zz_X8_init {Q : RF} {h : PH} {m n i : Nat} (hi : i < n) (hm : n + 4 ≤ m) (hz : ZZ m h Q) : ZZ m (h_X8_init h n i) (q_X8_init Q n i) := by
  unfold h_X8_init q_X8_init
  repeat (first | exact hz | refine ZZ_pI ?_ (by omega) | refine ZZ_rU ?_ (by omega) | refine ZZ_rM ?_ (by omega) | refine ZZ_flI ?_ (by omega) | refine zz_X10_init (by omega) (by omega) ?_ | refine zz_X8_init (by omega) (by omega) ?_)
set_option maxRecDepth 100000 in
set_option maxHeartbeats 4000000 in
theorem cc_X8_init (l : Launch) (n i : Nat) (Q : RF) (h : PH) (hi : i < n) (hk : (kd i).1 = 8) (hc_n : kd n = (13, 10)) (hc_n_1 : kd (n + 1) = (13, 10)) (hc_n_2 : kd (n + 2) = (13, 11)) (hc_n_3 : kd (n + 3) = (13, 900)) : CTc l yX8_init cX8_init 1 (rmx 2 4 931) [.ref i] n Q h (n + 4) (q_X8_init Q n i) (h_X8_init h n i) 4 931 := by
  refine ctc_of (by decide) (Nat.le_of_ble_eq_true rfl) (fun hz => zz_X8_init hi (Nat.le_refl _) (hz.up (Nat.le_add_right _ _))) ?_
  intro p e s m args below meth c D cA b hnc X hr hlk hmi hbn
  have X : Cc p s m args c RX8 cX8_init 1 D cA b := X
  refine sc_pick (L' := [(0, .ref i)]) X [0] rfl ?_
  refine sc_aload_n (i := 0) X 0 (dkX8_init (0, .aload_n 0, 1) (pgm 0 rfl)) rfl rfl ?_
  refine sc_objInit X lk_163 lk_156 lk_157 (dkX8_init (1, .invokespecial 3, 3) (pgm 1 rfl)) (Nat.le_of_ble_eq_true rfl) (Nat.le_of_ble_eq_true rfl) ?_
  refine sc_aload_n (i := 0) X 0 (dkX8_init (4, .aload_n 0, 1) (pgm 2 rfl)) rfl rfl ?_
  refine sc_iconst (v := (3 : Int32)) X (dkX8_init (5, .iconst 3, 1) (pgm 3 rfl)) ic_3 ?_
  refine sc_putI X fg_8_3 lk_173 hk (by omega) fu_8 rfl rfl rfl (dkX8_init (6, .putfield 9, 3) (pgm 4 rfl)) (by omega) ?_
  refine sc_aload_n (i := 0) X 0 (dkX8_init (9, .aload_n 0, 1) (pgm 5 rfl)) rfl rfl ?_
  refine sc_bipush (v := (10 : Int32)) X (dkX8_init (10, .bipush 10, 2) (pgm 6 rfl)) bp_10 ?_
  refine sc_newI (N := 10) X lk_257 hc_n (by decide) (by decide) (Nat.le_of_ble_eq_true rfl) (Nat.le_of_ble_eq_true rfl) (Nat.le_of_ble_eq_true rfl) (dkX8_init (12, .newarray .int, 2) (pgm 7 rfl)) ?_
  refine sc_putFR X fg_8_12 lk_207 hk (by omega) fu_8 rfl hmi rfl (fun _ => rfl) (fun _ => rfl) (dkX8_init (14, .putfield 15, 3) (pgm 8 rfl)) (by omega) ?_
  refine sc_aload_n (i := 0) X 0 (dkX8_init (17, .aload_n 0, 1) (pgm 9 rfl)) rfl rfl ?_
  refine sc_bipush (v := (10 : Int32)) X (dkX8_init (18, .bipush 10, 2) (pgm 10 rfl)) bp_10 ?_
  refine sc_newI (N := 10) X lk_257 hc_n_1 (by decide) (by decide) (Nat.le_of_ble_eq_true rfl) (Nat.le_of_ble_eq_true rfl) (Nat.le_of_ble_eq_true rfl) (dkX8_init (20, .newarray .int, 2) (pgm 11 rfl)) ?_
  refine sc_putFR X fg_8_13 lk_212 hk (by omega) fu_8 rfl hmi rfl (fun _ => rfl) (fun _ => rfl) (dkX8_init (22, .putfield 19, 3) (pgm 12 rfl)) (by omega) ?_
  refine sc_aload_n (i := 0) X 0 (dkX8_init (25, .aload_n 0, 1) (pgm 13 rfl)) rfl rfl ?_
  refine sc_bipush (v := (11 : Int32)) X (dkX8_init (26, .bipush 11, 2) (pgm 14 rfl)) bp_11 ?_
  refine sc_newI (N := 11) X lk_257 hc_n_2 (by decide) (by decide) (Nat.le_of_ble_eq_true rfl) (Nat.le_of_ble_eq_true rfl) (Nat.le_of_ble_eq_true rfl) (dkX8_init (28, .newarray .int, 2) (pgm 15 rfl)) ?_
  refine sc_putFR X fg_8_14 lk_217 hk (by omega) fu_8 rfl hmi rfl (fun _ => rfl) (fun _ => rfl) (dkX8_init (30, .putfield 22, 3) (pgm 16 rfl)) (by omega) ?_
  refine sc_aload_n (i := 0) X 0 (dkX8_init (33, .aload_n 0, 1) (pgm 17 rfl)) rfl rfl ?_
  refine sc_sipush (v := (900 : Int32)) X (dkX8_init (34, .sipush 900, 3) (pgm 18 rfl)) sp_900 ?_
  refine sc_newI (N := 900) X lk_257 hc_n_3 (by decide) (by decide) (Nat.le_of_ble_eq_true rfl) (Nat.le_of_ble_eq_true rfl) (Nat.le_of_ble_eq_true rfl) (dkX8_init (37, .newarray .int, 2) (pgm 19 rfl)) ?_
  refine sc_putFR X fg_8_15 lk_220 hk (by omega) fu_8 rfl hmi rfl (fun _ => rfl) (fun _ => rfl) (dkX8_init (39, .putfield 25, 3) (pgm 20 rfl)) (by omega) ?_
  exact sc_vret X hr hlk (dkX8_init (42, .return_, 1) (pgm 21 rfl))
def pgX0_init : List (Nat × Instr × Nat) := [(0, .aload_n 0, 1), (1, .invokespecial 3, 3), (4, .aload_n 0, 1), (5, .bipush 10, 2), (7, .newarray .int, 2), (9, .putfield 9, 3), (12, .aload_n 0, 1), (13, .bipush 6, 2), (15, .newarray .int, 2), (17, .putfield 15, 3), (20, .aload_n 0, 1), (21, .bipush 10, 2), (23, .bipush 17, 2), (25, .multianewarray 18 2, 4), (29, .putfield 20, 3), (32, .return_, 1)]
theorem dkX0_init : ∀ q ∈ pgX0_init, decode cX0_init q.1 = .ok q.2 := by decide +kernel
def q_X0_init (Q : RF) (n i : Nat) : RF := rU (rM (rU (rU (Q) i 1 n) i 2 (n + 1)) (n + 2) 10) i 5 (n + 2)
def h_X0_init (h : PH) (n i : Nat) : PH := h
theorem zz_X0_init {Q : RF} {h : PH} {m n i : Nat} (hi : i < n) (hm : n + 13 ≤ m) (hz : ZZ m h Q) : ZZ m (h_X0_init h n i) (q_X0_init Q n i) := by
  unfold h_X0_init q_X0_init
  repeat (first | exact hz | refine ZZ_pI ?_ (by omega) | refine ZZ_rU ?_ (by omega) | refine ZZ_rM ?_ (by omega) | refine ZZ_flI ?_ (by omega) | refine zz_X10_init (by omega) (by omega) ?_ | refine zz_X8_init (by omega) (by omega) ?_ | refine zz_X0_init (by omega) (by omega) ?_)
set_option maxRecDepth 100000 in
set_option maxHeartbeats 4000000 in
theorem cc_X0_init (l : Launch) (n i : Nat) (Q : RF) (h : PH) (hi : i < n) (hk : (kd i).1 = 0) (hc_n : kd n = (13, 10)) (hc_n_1 : kd (n + 1) = (13, 6)) (hc_n_2 : kd (n + 2) = (17, 10)) (hc_n_2_j : ∀ j, j < 10 → kd ((n + 2) + 1 + j) = (13, 17)) : CTc l yX0_init cX0_init 1 (rmx 2 13 196) [.ref i] n Q h (n + 13) (q_X0_init Q n i) (h_X0_init h n i) 13 196 := by
  refine ctc_of (by decide) (Nat.le_of_ble_eq_true rfl) (fun hz => zz_X0_init hi (Nat.le_refl _) (hz.up (Nat.le_add_right _ _))) ?_
  intro p e s m args below meth c D cA b hnc X hr hlk hmi hbn
  have X : Cc p s m args c RX0 cX0_init 1 D cA b := X
  refine sc_pick (L' := [(0, .ref i)]) X [0] rfl ?_
  refine sc_aload_n (i := 0) X 0 (dkX0_init (0, .aload_n 0, 1) (pgm 0 rfl)) rfl rfl ?_
  refine sc_objInit X lk_332 lk_156 lk_157 (dkX0_init (1, .invokespecial 3, 3) (pgm 1 rfl)) (Nat.le_of_ble_eq_true rfl) (Nat.le_of_ble_eq_true rfl) ?_
  refine sc_aload_n (i := 0) X 0 (dkX0_init (4, .aload_n 0, 1) (pgm 2 rfl)) rfl rfl ?_
  refine sc_bipush (v := (10 : Int32)) X (dkX0_init (5, .bipush 10, 2) (pgm 3 rfl)) bp_10 ?_
  refine sc_newI (N := 10) X lk_257 hc_n (by decide) (by decide) (Nat.le_of_ble_eq_true rfl) (Nat.le_of_ble_eq_true rfl) (Nat.le_of_ble_eq_true rfl) (dkX0_init (7, .newarray .int, 2) (pgm 4 rfl)) ?_
  refine sc_putFR X fg_0_1 lk_339 hk (by omega) fu_0 rfl hmi rfl (fun _ => rfl) (fun _ => rfl) (dkX0_init (9, .putfield 9, 3) (pgm 5 rfl)) (by omega) ?_
  refine sc_aload_n (i := 0) X 0 (dkX0_init (12, .aload_n 0, 1) (pgm 6 rfl)) rfl rfl ?_
  refine sc_bipush (v := (6 : Int32)) X (dkX0_init (13, .bipush 6, 2) (pgm 7 rfl)) bp_6 ?_
  refine sc_newI (N := 6) X lk_257 hc_n_1 (by decide) (by decide) (Nat.le_of_ble_eq_true rfl) (Nat.le_of_ble_eq_true rfl) (Nat.le_of_ble_eq_true rfl) (dkX0_init (15, .newarray .int, 2) (pgm 8 rfl)) ?_
  refine sc_putFR X fg_0_2 lk_342 hk (by omega) fu_0 rfl hmi rfl (fun _ => rfl) (fun _ => rfl) (dkX0_init (17, .putfield 15, 3) (pgm 9 rfl)) (by omega) ?_
  refine sc_aload_n (i := 0) X 0 (dkX0_init (20, .aload_n 0, 1) (pgm 10 rfl)) rfl rfl ?_
  refine sc_bipush (v := (10 : Int32)) X (dkX0_init (21, .bipush 10, 2) (pgm 11 rfl)) bp_10 ?_
  refine sc_bipush (v := (17 : Int32)) X (dkX0_init (23, .bipush 17, 2) (pgm 12 rfl)) bp_17 ?_
  refine sc_mnaI (N := 10) (M := 17) X lk_333 (by decide) lk_257 hc_n_2 hc_n_2_j (by decide) (by decide) (by decide) (by decide) (Nat.le_of_ble_eq_true rfl) (Nat.le_of_ble_eq_true rfl) (Nat.le_of_ble_eq_true rfl) (Nat.le_of_ble_eq_true rfl) (Nat.le_of_ble_eq_true rfl) (dkX0_init (25, .multianewarray 18 2, 4) (pgm 13 rfl)) ?_
  refine sc_putFR X fg_0_5 lk_347 hk (by omega) fu_0 rfl hmi rfl (fun _ => rfl) (fun _ => rfl) (dkX0_init (29, .putfield 20, 3) (pgm 14 rfl)) (by omega) ?_
  exact sc_vret X hr hlk (dkX0_init (32, .return_, 1) (pgm 15 rfl))
def pgX9_init : List (Nat × Instr × Nat) := [(0, .aload_n 0, 1), (1, .invokespecial 1, 3), (4, .aload_n 0, 1), (5, .aload_n 1, 1), (6, .putfield 7, 3), (9, .return_, 1)]
theorem dkX9_init : ∀ q ∈ pgX9_init, decode cX9_init q.1 = .ok q.2 := by decide +kernel
def q_X9_init (Q : RF) (n i a1 : Nat) : RF := rU (Q) i 0 a1
def h_X9_init (h : PH) (n i a1 : Nat) : PH := h
theorem zz_X9_init {Q : RF} {h : PH} {m n i a1 : Nat} (hi : i < n) (ha1 : a1 < n) (hm : n + 0 ≤ m) (hz : ZZ m h Q) : ZZ m (h_X9_init h n i a1) (q_X9_init Q n i a1) := by
  unfold h_X9_init q_X9_init
  repeat (first | exact hz | refine ZZ_pI ?_ (by omega) | refine ZZ_rU ?_ (by omega) | refine ZZ_rM ?_ (by omega) | refine ZZ_flI ?_ (by omega) | refine zz_X10_init (by omega) (by omega) ?_ | refine zz_X8_init (by omega) (by omega) ?_ | refine zz_X0_init (by omega) (by omega) ?_ | refine zz_X9_init (by omega) (by omega) (by omega) ?_)
set_option maxRecDepth 100000 in
set_option maxHeartbeats 4000000 in
theorem cc_X9_init (l : Launch) (n i a1 : Nat) (Q : RF) (h : PH) (hi : i < n) (hk : (kd i).1 = 9) (ha1 : a1 < n) : CTc l yX9_init cX9_init 2 (rmx 2 0 0) [.ref i, .ref a1] n Q h (n + 0) (q_X9_init Q n i a1) (h_X9_init h n i a1) 0 0 := by
  refine ctc_of (by decide) (Nat.le_of_ble_eq_true rfl) (fun hz => zz_X9_init hi ha1 (Nat.le_refl _) (hz.up (Nat.le_add_right _ _))) ?_
  intro p e s m args below meth c D cA b hnc X hr hlk hmi hbn
  have X : Cc p s m args c RX9 cX9_init 2 D cA b := X
  refine sc_pick (L' := [(0, .ref i), (1, .ref a1)]) X [0, 1] rfl ?_
  refine sc_aload_n (i := 0) X 0 (dkX9_init (0, .aload_n 0, 1) (pgm 0 rfl)) rfl rfl ?_
  refine sc_objInit X lk_269 lk_156 lk_157 (dkX9_init (1, .invokespecial 1, 3) (pgm 1 rfl)) (Nat.le_of_ble_eq_true rfl) (Nat.le_of_ble_eq_true rfl) ?_
  refine sc_aload_n (i := 0) X 0 (dkX9_init (4, .aload_n 0, 1) (pgm 2 rfl)) rfl rfl ?_
  refine sc_aload_n (i := 1) X 1 (dkX9_init (5, .aload_n 1, 1) (pgm 3 rfl)) rfl rfl ?_
  refine sc_putFR X fg_9_0 lk_270 hk (by omega) fu_9 rfl hmi rfl (fun _ => rfl) (fun _ => rfl) (dkX9_init (6, .putfield 7, 3) (pgm 4 rfl)) (by omega) ?_
  exact sc_vret X hr hlk (dkX9_init (9, .return_, 1) (pgm 5 rfl))
def pgX1_init : List (Nat × Instr × Nat) := [(0, .aload_n 0, 1), (1, .invokespecial 1, 3), (4, .aload_n 0, 1), (5, .iconst 5, 1), (6, .newarray .int, 2), (8, .putfield 9, 3), (11, .aload_n 0, 1), (12, .iconst 5, 1), (13, .newarray .int, 2), (15, .putfield 13, 3), (18, .aload_n 0, 1), (19, .bipush 32, 2), (21, .newarray .int, 2), (23, .putfield 16, 3), (26, .aload_n 0, 1), (27, .bipush 25, 2), (29, .bipush 14, 2), (31, .multianewarray 19 2, 4), (35, .putfield 21, 3), (38, .aload_n 0, 1), (39, .bipush 25, 2), (41, .newarray .int, 2), (43, .putfield 24, 3), (46, .aload_n 0, 1), (47, .aload_n 1, 1), (48, .putfield 27, 3), (51, .aload_n 0, 1), (52, .aload_n 2, 1), (53, .putfield 31, 3), (56, .return_, 1)]
theorem dkX1_init : ∀ q ∈ pgX1_init, decode cX1_init q.1 = .ok q.2 := by decide +kernel
def q_X1_init (Q : RF) (n i a1 a2 : Nat) : RF := rU (rU (rU (rU (rM (rU (rU (rU (Q) i 2 n) i 3 (n + 1)) i 4 (n + 2)) (n + 3) 25) i 5 (n + 3)) i 6 (n + 29)) i 0 a1) i 1 a2
def h_X1_init (h : PH) (n i a1 a2 : Nat) : PH := h
theorem zz_X1_init {Q : RF} {h : PH} {m n i a1 a2 : Nat} (hi : i < n) (ha1 : a1 < n) (ha2 : a2 < n) (hm : n + 30 ≤ m) (hz : ZZ m h Q) : ZZ m (h_X1_init h n i a1 a2) (q_X1_init Q n i a1 a2) := by
  unfold h_X1_init q_X1_init
  repeat (first | exact hz | refine ZZ_pI ?_ (by omega) | refine ZZ_rU ?_ (by omega) | refine ZZ_rM ?_ (by omega) | refine ZZ_flI ?_ (by omega) | refine zz_X10_init (by omega) (by omega) ?_ | refine zz_X8_init (by omega) (by omega) ?_ | refine zz_X0_init (by omega) (by omega) ?_ | refine zz_X9_init (by omega) (by omega) (by omega) ?_ | refine zz_X1_init (by omega) (by omega) (by omega) (by omega) ?_)
set_option maxRecDepth 100000 in
set_option maxHeartbeats 4000000 in
theorem cc_X1_init (l : Launch) (n i a1 a2 : Nat) (Q : RF) (h : PH) (hi : i < n) (hk : (kd i).1 = 1) (ha1 : a1 < n) (ha2 : a2 < n) (hc_n : kd n = (13, 5)) (hc_n_1 : kd (n + 1) = (13, 5)) (hc_n_2 : kd (n + 2) = (13, 32)) (hc_n_3 : kd (n + 3) = (17, 25)) (hc_n_3_j : ∀ j, j < 25 → kd ((n + 3) + 1 + j) = (13, 14)) (hc_n_29 : kd (n + 29) = (13, 25)) : CTc l yX1_init cX1_init 3 (rmx 2 30 442) [.ref i, .ref a1, .ref a2] n Q h (n + 30) (q_X1_init Q n i a1 a2) (h_X1_init h n i a1 a2) 30 442 := by
  refine ctc_of (by decide) (Nat.le_of_ble_eq_true rfl) (fun hz => zz_X1_init hi ha1 ha2 (Nat.le_refl _) (hz.up (Nat.le_add_right _ _))) ?_
  intro p e s m args below meth c D cA b hnc X hr hlk hmi hbn
  have X : Cc p s m args c RX1 cX1_init 3 D cA b := X
  refine sc_pick (L' := [(0, .ref i), (1, .ref a1), (2, .ref a2)]) X [0, 1, 2] rfl ?_
  refine sc_aload_n (i := 0) X 0 (dkX1_init (0, .aload_n 0, 1) (pgm 0 rfl)) rfl rfl ?_
  refine sc_objInit X lk_486 lk_156 lk_157 (dkX1_init (1, .invokespecial 1, 3) (pgm 1 rfl)) (Nat.le_of_ble_eq_true rfl) (Nat.le_of_ble_eq_true rfl) ?_
  refine sc_aload_n (i := 0) X 0 (dkX1_init (4, .aload_n 0, 1) (pgm 2 rfl)) rfl rfl ?_
  refine sc_iconst (v := (5 : Int32)) X (dkX1_init (5, .iconst 5, 1) (pgm 3 rfl)) ic_5 ?_
  refine sc_newI (N := 5) X lk_257 hc_n (by decide) (by decide) (Nat.le_of_ble_eq_true rfl) (Nat.le_of_ble_eq_true rfl) (Nat.le_of_ble_eq_true rfl) (dkX1_init (6, .newarray .int, 2) (pgm 4 rfl)) ?_
  refine sc_putFR X fg_1_2 lk_490 hk (by omega) fu_1 rfl hmi rfl (fun _ => rfl) (fun _ => rfl) (dkX1_init (8, .putfield 9, 3) (pgm 5 rfl)) (by omega) ?_
  refine sc_aload_n (i := 0) X 0 (dkX1_init (11, .aload_n 0, 1) (pgm 6 rfl)) rfl rfl ?_
  refine sc_iconst (v := (5 : Int32)) X (dkX1_init (12, .iconst 5, 1) (pgm 7 rfl)) ic_5 ?_
  refine sc_newI (N := 5) X lk_257 hc_n_1 (by decide) (by decide) (Nat.le_of_ble_eq_true rfl) (Nat.le_of_ble_eq_true rfl) (Nat.le_of_ble_eq_true rfl) (dkX1_init (13, .newarray .int, 2) (pgm 8 rfl)) ?_
  refine sc_putFR X fg_1_3 lk_491 hk (by omega) fu_1 rfl hmi rfl (fun _ => rfl) (fun _ => rfl) (dkX1_init (15, .putfield 13, 3) (pgm 9 rfl)) (by omega) ?_
  refine sc_aload_n (i := 0) X 0 (dkX1_init (18, .aload_n 0, 1) (pgm 10 rfl)) rfl rfl ?_
  refine sc_bipush (v := (32 : Int32)) X (dkX1_init (19, .bipush 32, 2) (pgm 11 rfl)) bp_32 ?_
  refine sc_newI (N := 32) X lk_257 hc_n_2 (by decide) (by decide) (Nat.le_of_ble_eq_true rfl) (Nat.le_of_ble_eq_true rfl) (Nat.le_of_ble_eq_true rfl) (dkX1_init (21, .newarray .int, 2) (pgm 12 rfl)) ?_
  refine sc_putFR X fg_1_4 lk_492 hk (by omega) fu_1 rfl hmi rfl (fun _ => rfl) (fun _ => rfl) (dkX1_init (23, .putfield 16, 3) (pgm 13 rfl)) (by omega) ?_
  refine sc_aload_n (i := 0) X 0 (dkX1_init (26, .aload_n 0, 1) (pgm 14 rfl)) rfl rfl ?_
  refine sc_bipush (v := (25 : Int32)) X (dkX1_init (27, .bipush 25, 2) (pgm 15 rfl)) bp_25 ?_
  refine sc_bipush (v := (14 : Int32)) X (dkX1_init (29, .bipush 14, 2) (pgm 16 rfl)) bp_14 ?_
  refine sc_mnaI (N := 25) (M := 14) X lk_487 (by decide) lk_257 hc_n_3 hc_n_3_j (by decide) (by decide) (by decide) (by decide) (Nat.le_of_ble_eq_true rfl) (Nat.le_of_ble_eq_true rfl) (Nat.le_of_ble_eq_true rfl) (Nat.le_of_ble_eq_true rfl) (Nat.le_of_ble_eq_true rfl) (dkX1_init (31, .multianewarray 19 2, 4) (pgm 17 rfl)) ?_
  refine sc_putFR X fg_1_5 lk_493 hk (by omega) fu_1 rfl hmi rfl (fun _ => rfl) (fun _ => rfl) (dkX1_init (35, .putfield 21, 3) (pgm 18 rfl)) (by omega) ?_
  refine sc_aload_n (i := 0) X 0 (dkX1_init (38, .aload_n 0, 1) (pgm 19 rfl)) rfl rfl ?_
  refine sc_bipush (v := (25 : Int32)) X (dkX1_init (39, .bipush 25, 2) (pgm 20 rfl)) bp_25 ?_
  refine sc_newI (N := 25) X lk_257 hc_n_29 (by decide) (by decide) (Nat.le_of_ble_eq_true rfl) (Nat.le_of_ble_eq_true rfl) (Nat.le_of_ble_eq_true rfl) (dkX1_init (41, .newarray .int, 2) (pgm 21 rfl)) ?_
  refine sc_putFR X fg_1_6 lk_494 hk (by omega) fu_1 rfl hmi rfl (fun _ => rfl) (fun _ => rfl) (dkX1_init (43, .putfield 24, 3) (pgm 22 rfl)) (by omega) ?_
  refine sc_aload_n (i := 0) X 0 (dkX1_init (46, .aload_n 0, 1) (pgm 23 rfl)) rfl rfl ?_
  refine sc_aload_n (i := 1) X 1 (dkX1_init (47, .aload_n 1, 1) (pgm 24 rfl)) rfl rfl ?_
  refine sc_putFR X fg_1_0 lk_488 hk (by omega) fu_1 rfl hmi rfl (fun _ => rfl) (fun _ => rfl) (dkX1_init (48, .putfield 27, 3) (pgm 25 rfl)) (by omega) ?_
  refine sc_aload_n (i := 0) X 0 (dkX1_init (51, .aload_n 0, 1) (pgm 26 rfl)) rfl rfl ?_
  refine sc_aload_n (i := 2) X 2 (dkX1_init (52, .aload_n 2, 1) (pgm 27 rfl)) rfl rfl ?_
  refine sc_putFR X fg_1_1 lk_489 hk (by omega) fu_1 rfl hmi rfl (fun _ => rfl) (fun _ => rfl) (dkX1_init (53, .putfield 31, 3) (pgm 28 rfl)) (by omega) ?_
  exact sc_vret X hr hlk (dkX1_init (56, .return_, 1) (pgm 29 rfl))
def pgX2_init : List (Nat × Instr × Nat) := [(0, .aload_n 0, 1), (1, .invokespecial 3, 3), (4, .aload_n 0, 1), (5, .sipush 4096, 3), (8, .newarray .int, 2), (10, .putfield 9, 3), (13, .aload_n 0, 1), (14, .sipush 1024, 3), (17, .newarray .int, 2), (19, .putfield 15, 3), (22, .aload_n 0, 1), (23, .sipush 1024, 3), (26, .newarray .int, 2), (28, .putfield 18, 3), (31, .aload_n 0, 1), (32, .aload_n 1, 1), (33, .putfield 21, 3), (36, .aload_n 0, 1), (37, .aload_n 2, 1), (38, .putfield 25, 3), (41, .aload_n 0, 1), (42, .aload_n 3, 1), (43, .putfield 29, 3), (46, .return_, 1)]
theorem dkX2_init : ∀ q ∈ pgX2_init, decode cX2_init q.1 = .ok q.2 := by decide +kernel
def q_X2_init (Q : RF) (n i a1 a2 a3 : Nat) : RF := rU (rU (rU (rU (rU (rU (Q) i 3 n) i 5 (n + 1)) i 6 (n + 2)) i 0 a1) i 1 a2) i 2 a3
def h_X2_init (h : PH) (n i a1 a2 a3 : Nat) : PH := h
theorem zz_X2_init {Q : RF} {h : PH} {m n i a1 a2 a3 : Nat} (hi : i < n) (ha1 : a1 < n) (ha2 : a2 < n) (ha3 : a3 < n) (hm : n + 3 ≤ m) (hz : ZZ m h Q) : ZZ m (h_X2_init h n i a1 a2 a3) (q_X2_init Q n i a1 a2 a3) := by
  unfold h_X2_init q_X2_init
  repeat (first | exact hz | refine ZZ_pI ?_ (by omega) | refine ZZ_rU ?_ (by omega) | refine ZZ_rM ?_ (by omega) | refine ZZ_flI ?_ (by omega) | refine zz_X10_init (by omega) (by omega) ?_ | refine zz_X8_init (by omega) (by omega) ?_ | refine zz_X0_init (by omega) (by omega) ?_ | refine zz_X9_init (by omega) (by omega) (by omega) ?_ | refine zz_X1_init (by omega) (by omega) (by omega) (by omega) ?_ | refine zz_X2_init (by omega) (by omega) (by omega) (by omega) (by omega) ?_)
set_option maxRecDepth 100000 in
set_option maxHeartbeats 4000000 in
theorem cc_X2_init (l : Launch) (n i a1 a2 a3 : Nat) (Q : RF) (h : PH) (hi : i < n) (hk : (kd i).1 = 2) (ha1 : a1 < n) (ha2 : a2 < n) (ha3 : a3 < n) (hc_n : kd n = (13, 4096)) (hc_n_1 : kd (n + 1) = (13, 1024)) (hc_n_2 : kd (n + 2) = (13, 1024)) : CTc l yX2_init cX2_init 4 (rmx 2 3 6144) [.ref i, .ref a1, .ref a2, .ref a3] n Q h (n + 3) (q_X2_init Q n i a1 a2 a3) (h_X2_init h n i a1 a2 a3) 3 6144 := by
  refine ctc_of (by decide) (Nat.le_of_ble_eq_true rfl) (fun hz => zz_X2_init hi ha1 ha2 ha3 (Nat.le_refl _) (hz.up (Nat.le_add_right _ _))) ?_
  intro p e s m args below meth c D cA b hnc X hr hlk hmi hbn
  have X : Cc p s m args c RX2 cX2_init 4 D cA b := X
  refine sc_pick (L' := [(0, .ref i), (1, .ref a1), (2, .ref a2), (3, .ref a3)]) X [0, 1, 2, 3] rfl ?_
  refine sc_aload_n (i := 0) X 0 (dkX2_init (0, .aload_n 0, 1) (pgm 0 rfl)) rfl rfl ?_
  refine sc_objInit X lk_385 lk_156 lk_157 (dkX2_init (1, .invokespecial 3, 3) (pgm 1 rfl)) (Nat.le_of_ble_eq_true rfl) (Nat.le_of_ble_eq_true rfl) ?_
  refine sc_aload_n (i := 0) X 0 (dkX2_init (4, .aload_n 0, 1) (pgm 2 rfl)) rfl rfl ?_
  refine sc_sipush (v := (4096 : Int32)) X (dkX2_init (5, .sipush 4096, 3) (pgm 3 rfl)) sp_4096 ?_
  refine sc_newI (N := 4096) X lk_257 hc_n (by decide) (by decide) (Nat.le_of_ble_eq_true rfl) (Nat.le_of_ble_eq_true rfl) (Nat.le_of_ble_eq_true rfl) (dkX2_init (8, .newarray .int, 2) (pgm 4 rfl)) ?_
  refine sc_putFR X fg_2_3 lk_389 hk (by omega) fu_2 rfl hmi rfl (fun _ => rfl) (fun _ => rfl) (dkX2_init (10, .putfield 9, 3) (pgm 5 rfl)) (by omega) ?_
  refine sc_aload_n (i := 0) X 0 (dkX2_init (13, .aload_n 0, 1) (pgm 6 rfl)) rfl rfl ?_
  refine sc_sipush (v := (1024 : Int32)) X (dkX2_init (14, .sipush 1024, 3) (pgm 7 rfl)) sp_1024 ?_
  refine sc_newI (N := 1024) X lk_257 hc_n_1 (by decide) (by decide) (Nat.le_of_ble_eq_true rfl) (Nat.le_of_ble_eq_true rfl) (Nat.le_of_ble_eq_true rfl) (dkX2_init (17, .newarray .int, 2) (pgm 8 rfl)) ?_
  refine sc_putFR X fg_2_5 lk_395 hk (by omega) fu_2 rfl hmi rfl (fun _ => rfl) (fun _ => rfl) (dkX2_init (19, .putfield 15, 3) (pgm 9 rfl)) (by omega) ?_
  refine sc_aload_n (i := 0) X 0 (dkX2_init (22, .aload_n 0, 1) (pgm 10 rfl)) rfl rfl ?_
  refine sc_sipush (v := (1024 : Int32)) X (dkX2_init (23, .sipush 1024, 3) (pgm 11 rfl)) sp_1024 ?_
  refine sc_newI (N := 1024) X lk_257 hc_n_2 (by decide) (by decide) (Nat.le_of_ble_eq_true rfl) (Nat.le_of_ble_eq_true rfl) (Nat.le_of_ble_eq_true rfl) (dkX2_init (26, .newarray .int, 2) (pgm 12 rfl)) ?_
  refine sc_putFR X fg_2_6 lk_396 hk (by omega) fu_2 rfl hmi rfl (fun _ => rfl) (fun _ => rfl) (dkX2_init (28, .putfield 18, 3) (pgm 13 rfl)) (by omega) ?_
  refine sc_aload_n (i := 0) X 0 (dkX2_init (31, .aload_n 0, 1) (pgm 14 rfl)) rfl rfl ?_
  refine sc_aload_n (i := 1) X 1 (dkX2_init (32, .aload_n 1, 1) (pgm 15 rfl)) rfl rfl ?_
  refine sc_putFR X fg_2_0 lk_386 hk (by omega) fu_2 rfl hmi rfl (fun _ => rfl) (fun _ => rfl) (dkX2_init (33, .putfield 21, 3) (pgm 16 rfl)) (by omega) ?_
  refine sc_aload_n (i := 0) X 0 (dkX2_init (36, .aload_n 0, 1) (pgm 17 rfl)) rfl rfl ?_
  refine sc_aload_n (i := 2) X 2 (dkX2_init (37, .aload_n 2, 1) (pgm 18 rfl)) rfl rfl ?_
  refine sc_putFR X fg_2_1 lk_387 hk (by omega) fu_2 rfl hmi rfl (fun _ => rfl) (fun _ => rfl) (dkX2_init (38, .putfield 25, 3) (pgm 19 rfl)) (by omega) ?_
  refine sc_aload_n (i := 0) X 0 (dkX2_init (41, .aload_n 0, 1) (pgm 20 rfl)) rfl rfl ?_
  refine sc_aload_n (i := 3) X 3 (dkX2_init (42, .aload_n 3, 1) (pgm 21 rfl)) rfl rfl ?_
  refine sc_putFR X fg_2_2 lk_388 hk (by omega) fu_2 rfl hmi rfl (fun _ => rfl) (fun _ => rfl) (dkX2_init (43, .putfield 29, 3) (pgm 22 rfl)) (by omega) ?_
  exact sc_vret X hr hlk (dkX2_init (46, .return_, 1) (pgm 23 rfl))
def pgX4_init : List (Nat × Instr × Nat) := [(0, .aload_n 0, 1), (1, .invokespecial 3, 3), (4, .aload_n 0, 1), (5, .bipush 6, 2), (7, .newarray .int, 2), (9, .putfield 11, 3), (12, .aload_n 0, 1), (13, .bipush 7, 2), (15, .bipush 7, 2), (17, .multianewarray 15 2, 4), (21, .putfield 17, 3), (24, .aload_n 0, 1), (25, .bipush 7, 2), (27, .newarray .long, 2), (29, .putfield 20, 3), (32, .return_, 1)]
theorem dkX4_init : ∀ q ∈ pgX4_init, decode cX4_init q.1 = .ok q.2 := by decide +kernel
def q_X4_init (Q : RF) (n i : Nat) : RF := rU (rU (rM (rU (Q) i 0 n) (n + 1) 7) i 2 (n + 1)) i 3 (n + 9)
def h_X4_init (h : PH) (n i : Nat) : PH := h
theorem zz_X4_init {Q : RF} {h : PH} {m n i : Nat} (hi : i < n) (hm : n + 10 ≤ m) (hz : ZZ m h Q) : ZZ m (h_X4_init h n i) (q_X4_init Q n i) := by
  unfold h_X4_init q_X4_init
  repeat (first | exact hz | refine ZZ_pI ?_ (by omega) | refine ZZ_rU ?_ (by omega) | refine ZZ_rM ?_ (by omega) | refine ZZ_flI ?_ (by omega) | refine zz_X10_init (by omega) (by omega) ?_ | refine zz_X8_init (by omega) (by omega) ?_ | refine zz_X0_init (by omega) (by omega) ?_ | refine zz_X9_init (by omega) (by omega) (by omega) ?_ | refine zz_X1_init (by omega) (by omega) (by omega) (by omega) ?_ | refine zz_X2_init (by omega) (by omega) (by omega) (by omega) (by omega) ?_ | refine zz_X4_init (by omega) (by omega) ?_)
set_option maxRecDepth 100000 in
set_option maxHeartbeats 4000000 in
theorem cc_X4_init (l : Launch) (n i : Nat) (Q : RF) (h : PH) (hi : i < n) (hk : (kd i).1 = 4) (hc_n : kd n = (13, 6)) (hc_n_1 : kd (n + 1) = (18, 7)) (hc_n_1_j : ∀ j, j < 7 → kd ((n + 1) + 1 + j) = (16, 7)) (hc_n_9 : kd (n + 9) = (16, 7)) : CTc l yX4_init cX4_init 1 (rmx 2 10 69) [.ref i] n Q h (n + 10) (q_X4_init Q n i) (h_X4_init h n i) 10 69 := by
  refine ctc_of (by decide) (Nat.le_of_ble_eq_true rfl) (fun hz => zz_X4_init hi (Nat.le_refl _) (hz.up (Nat.le_add_right _ _))) ?_
  intro p e s m args below meth c D cA b hnc X hr hlk hmi hbn
  have X : Cc p s m args c RX4 cX4_init 1 D cA b := X
  refine sc_pick (L' := [(0, .ref i)]) X [0] rfl ?_
  refine sc_aload_n (i := 0) X 0 (dkX4_init (0, .aload_n 0, 1) (pgm 0 rfl)) rfl rfl ?_
  refine sc_objInit X lk_521 lk_156 lk_157 (dkX4_init (1, .invokespecial 3, 3) (pgm 1 rfl)) (Nat.le_of_ble_eq_true rfl) (Nat.le_of_ble_eq_true rfl) ?_
  refine sc_aload_n (i := 0) X 0 (dkX4_init (4, .aload_n 0, 1) (pgm 2 rfl)) rfl rfl ?_
  refine sc_bipush (v := (6 : Int32)) X (dkX4_init (5, .bipush 6, 2) (pgm 3 rfl)) bp_6 ?_
  refine sc_newI (N := 6) X lk_257 hc_n (by decide) (by decide) (Nat.le_of_ble_eq_true rfl) (Nat.le_of_ble_eq_true rfl) (Nat.le_of_ble_eq_true rfl) (dkX4_init (7, .newarray .int, 2) (pgm 4 rfl)) ?_
  refine sc_putFR X fg_4_0 lk_524 hk (by omega) fu_4 rfl hmi rfl (fun _ => rfl) (fun _ => rfl) (dkX4_init (9, .putfield 11, 3) (pgm 5 rfl)) (by omega) ?_
  refine sc_aload_n (i := 0) X 0 (dkX4_init (12, .aload_n 0, 1) (pgm 6 rfl)) rfl rfl ?_
  refine sc_bipush (v := (7 : Int32)) X (dkX4_init (13, .bipush 7, 2) (pgm 7 rfl)) bp_7 ?_
  refine sc_bipush (v := (7 : Int32)) X (dkX4_init (15, .bipush 7, 2) (pgm 8 rfl)) bp_7 ?_
  refine sc_mnaL (N := 7) (M := 7) X lk_522 (by decide) lk_537 hc_n_1 hc_n_1_j (by decide) (by decide) (by decide) (by decide) (Nat.le_of_ble_eq_true rfl) (Nat.le_of_ble_eq_true rfl) (Nat.le_of_ble_eq_true rfl) (Nat.le_of_ble_eq_true rfl) (Nat.le_of_ble_eq_true rfl) (dkX4_init (17, .multianewarray 15 2, 4) (pgm 9 rfl)) ?_
  refine sc_putFR X fg_4_2 lk_526 hk (by omega) fu_4 rfl hmi rfl (fun _ => rfl) (fun _ => rfl) (dkX4_init (21, .putfield 17, 3) (pgm 10 rfl)) (by omega) ?_
  refine sc_aload_n (i := 0) X 0 (dkX4_init (24, .aload_n 0, 1) (pgm 11 rfl)) rfl rfl ?_
  refine sc_bipush (v := (7 : Int32)) X (dkX4_init (25, .bipush 7, 2) (pgm 12 rfl)) bp_7 ?_
  refine sc_newL (N := 7) X lk_537 hc_n_9 (by decide) (by decide) (Nat.le_of_ble_eq_true rfl) (Nat.le_of_ble_eq_true rfl) (Nat.le_of_ble_eq_true rfl) (dkX4_init (27, .newarray .long, 2) (pgm 13 rfl)) ?_
  refine sc_putFR X fg_4_3 lk_527 hk (by omega) fu_4 rfl hmi rfl (fun _ => rfl) (fun _ => rfl) (dkX4_init (29, .putfield 20, 3) (pgm 14 rfl)) (by omega) ?_
  exact sc_vret X hr hlk (dkX4_init (32, .return_, 1) (pgm 15 rfl))
def pgX5_init : List (Nat × Instr × Nat) := [(0, .aload_n 0, 1), (1, .invokespecial 3, 3), (4, .aload_n 0, 1), (5, .bipush 12, 2), (7, .newarray .int, 2), (9, .putfield 11, 3), (12, .aload_n 0, 1), (13, .aload_n 1, 1), (14, .putfield 15, 3), (17, .return_, 1)]
theorem dkX5_init : ∀ q ∈ pgX5_init, decode cX5_init q.1 = .ok q.2 := by decide +kernel
def q_X5_init (Q : RF) (n i a1 : Nat) : RF := rU (rU (Q) i 1 n) i 0 a1
def h_X5_init (h : PH) (n i a1 : Nat) : PH := h
theorem zz_X5_init {Q : RF} {h : PH} {m n i a1 : Nat} (hi : i < n) (ha1 : a1 < n) (hm : n + 1 ≤ m) (hz : ZZ m h Q) : ZZ m (h_X5_init h n i a1) (q_X5_init Q n i a1) := by
  unfold h_X5_init q_X5_init
  repeat (first | exact hz | refine ZZ_pI ?_ (by omega) | refine ZZ_rU ?_ (by omega) | refine ZZ_rM ?_ (by omega) | refine ZZ_flI ?_ (by omega) | refine zz_X10_init (by omega) (by omega) ?_ | refine zz_X8_init (by omega) (by omega) ?_ | refine zz_X0_init (by omega) (by omega) ?_ | refine zz_X9_init (by omega) (by omega) (by omega) ?_ | refine zz_X1_init (by omega) (by omega) (by omega) (by omega) ?_ | refine zz_X2_init (by omega) (by omega) (by omega) (by omega) (by omega) ?_ | refine zz_X4_init (by omega) (by omega) ?_ | refine zz_X5_init (by omega) (by omega) (by omega) ?_)
set_option maxRecDepth 100000 in
set_option maxHeartbeats 4000000 in
theorem cc_X5_init (l : Launch) (n i a1 : Nat) (Q : RF) (h : PH) (hi : i < n) (hk : (kd i).1 = 5) (ha1 : a1 < n) (hc_n : kd n = (13, 12)) : CTc l yX5_init cX5_init 2 (rmx 2 1 12) [.ref i, .ref a1] n Q h (n + 1) (q_X5_init Q n i a1) (h_X5_init h n i a1) 1 12 := by
  refine ctc_of (by decide) (Nat.le_of_ble_eq_true rfl) (fun hz => zz_X5_init hi ha1 (Nat.le_refl _) (hz.up (Nat.le_add_right _ _))) ?_
  intro p e s m args below meth c D cA b hnc X hr hlk hmi hbn
  have X : Cc p s m args c RX5 cX5_init 2 D cA b := X
  refine sc_pick (L' := [(0, .ref i), (1, .ref a1)]) X [0, 1] rfl ?_
  refine sc_aload_n (i := 0) X 0 (dkX5_init (0, .aload_n 0, 1) (pgm 0 rfl)) rfl rfl ?_
  refine sc_objInit X lk_456 lk_156 lk_157 (dkX5_init (1, .invokespecial 3, 3) (pgm 1 rfl)) (Nat.le_of_ble_eq_true rfl) (Nat.le_of_ble_eq_true rfl) ?_
  refine sc_aload_n (i := 0) X 0 (dkX5_init (4, .aload_n 0, 1) (pgm 2 rfl)) rfl rfl ?_
  refine sc_bipush (v := (12 : Int32)) X (dkX5_init (5, .bipush 12, 2) (pgm 3 rfl)) bp_12 ?_
  refine sc_newI (N := 12) X lk_257 hc_n (by decide) (by decide) (Nat.le_of_ble_eq_true rfl) (Nat.le_of_ble_eq_true rfl) (Nat.le_of_ble_eq_true rfl) (dkX5_init (7, .newarray .int, 2) (pgm 4 rfl)) ?_
  refine sc_putFR X fg_5_1 lk_458 hk (by omega) fu_5 rfl hmi rfl (fun _ => rfl) (fun _ => rfl) (dkX5_init (9, .putfield 11, 3) (pgm 5 rfl)) (by omega) ?_
  refine sc_aload_n (i := 0) X 0 (dkX5_init (12, .aload_n 0, 1) (pgm 6 rfl)) rfl rfl ?_
  refine sc_aload_n (i := 1) X 1 (dkX5_init (13, .aload_n 1, 1) (pgm 7 rfl)) rfl rfl ?_
  refine sc_putFR X fg_5_0 lk_457 hk (by omega) fu_5 rfl hmi rfl (fun _ => rfl) (fun _ => rfl) (dkX5_init (14, .putfield 15, 3) (pgm 8 rfl)) (by omega) ?_
  exact sc_vret X hr hlk (dkX5_init (17, .return_, 1) (pgm 9 rfl))
def pgX7_init : List (Nat × Instr × Nat) := [(0, .aload_n 0, 1), (1, .invokespecial 3, 3), (4, .aload_n 0, 1), (5, .bipush 10, 2), (7, .newarray .int, 2), (9, .putfield 9, 3), (12, .aload_n 0, 1), (13, .bipush 10, 2), (15, .newarray .int, 2), (17, .putfield 15, 3), (20, .aload_n 0, 1), (21, .aload_n 1, 1), (22, .putfield 18, 3), (25, .aload_n 0, 1), (26, .aload_n 2, 1), (27, .putfield 22, 3), (30, .aload_n 0, 1), (31, .aload_n 3, 1), (32, .putfield 26, 3), (35, .return_, 1)]
theorem dkX7_init : ∀ q ∈ pgX7_init, decode cX7_init q.1 = .ok q.2 := by decide +kernel
def q_X7_init (Q : RF) (n i a1 a2 a3 : Nat) : RF := rU (rU (rU (rU (rU (Q) i 3 n) i 4 (n + 1)) i 0 a1) i 1 a2) i 2 a3
def h_X7_init (h : PH) (n i a1 a2 a3 : Nat) : PH := h
theorem zz_X7_init {Q : RF} {h : PH} {m n i a1 a2 a3 : Nat} (hi : i < n) (ha1 : a1 < n) (ha2 : a2 < n) (ha3 : a3 < n) (hm : n + 2 ≤ m) (hz : ZZ m h Q) : ZZ m (h_X7_init h n i a1 a2 a3) (q_X7_init Q n i a1 a2 a3) := by
  unfold h_X7_init q_X7_init
  repeat (first | exact hz | refine ZZ_pI ?_ (by omega) | refine ZZ_rU ?_ (by omega) | refine ZZ_rM ?_ (by omega) | refine ZZ_flI ?_ (by omega) | refine zz_X10_init (by omega) (by omega) ?_ | refine zz_X8_init (by omega) (by omega) ?_ | refine zz_X0_init (by omega) (by omega) ?_ | refine zz_X9_init (by omega) (by omega) (by omega) ?_ | refine zz_X1_init (by omega) (by omega) (by omega) (by omega) ?_ | refine zz_X2_init (by omega) (by omega) (by omega) (by omega) (by omega) ?_ | refine zz_X4_init (by omega) (by omega) ?_ | refine zz_X5_init (by omega) (by omega) (by omega) ?_ | refine zz_X7_init (by omega) (by omega) (by omega) (by omega) (by omega) ?_)
set_option maxRecDepth 100000 in
set_option maxHeartbeats 4000000 in
theorem cc_X7_init (l : Launch) (n i a1 a2 a3 : Nat) (Q : RF) (h : PH) (hi : i < n) (hk : (kd i).1 = 7) (ha1 : a1 < n) (ha2 : a2 < n) (ha3 : a3 < n) (hc_n : kd n = (13, 10)) (hc_n_1 : kd (n + 1) = (13, 10)) : CTc l yX7_init cX7_init 4 (rmx 2 2 20) [.ref i, .ref a1, .ref a2, .ref a3] n Q h (n + 2) (q_X7_init Q n i a1 a2 a3) (h_X7_init h n i a1 a2 a3) 2 20 := by
  refine ctc_of (by decide) (Nat.le_of_ble_eq_true rfl) (fun hz => zz_X7_init hi ha1 ha2 ha3 (Nat.le_refl _) (hz.up (Nat.le_add_right _ _))) ?_
  intro p e s m args below meth c D cA b hnc X hr hlk hmi hbn
  have X : Cc p s m args c RX7 cX7_init 4 D cA b := X
  refine sc_pick (L' := [(0, .ref i), (1, .ref a1), (2, .ref a2), (3, .ref a3)]) X [0, 1, 2, 3] rfl ?_
  refine sc_aload_n (i := 0) X 0 (dkX7_init (0, .aload_n 0, 1) (pgm 0 rfl)) rfl rfl ?_
  refine sc_objInit X lk_423 lk_156 lk_157 (dkX7_init (1, .invokespecial 3, 3) (pgm 1 rfl)) (Nat.le_of_ble_eq_true rfl) (Nat.le_of_ble_eq_true rfl) ?_
  refine sc_aload_n (i := 0) X 0 (dkX7_init (4, .aload_n 0, 1) (pgm 2 rfl)) rfl rfl ?_
  refine sc_bipush (v := (10 : Int32)) X (dkX7_init (5, .bipush 10, 2) (pgm 3 rfl)) bp_10 ?_
  refine sc_newI (N := 10) X lk_257 hc_n (by decide) (by decide) (Nat.le_of_ble_eq_true rfl) (Nat.le_of_ble_eq_true rfl) (Nat.le_of_ble_eq_true rfl) (dkX7_init (7, .newarray .int, 2) (pgm 4 rfl)) ?_
  refine sc_putFR X fg_7_3 lk_427 hk (by omega) fu_7 rfl hmi rfl (fun _ => rfl) (fun _ => rfl) (dkX7_init (9, .putfield 9, 3) (pgm 5 rfl)) (by omega) ?_
  refine sc_aload_n (i := 0) X 0 (dkX7_init (12, .aload_n 0, 1) (pgm 6 rfl)) rfl rfl ?_
  refine sc_bipush (v := (10 : Int32)) X (dkX7_init (13, .bipush 10, 2) (pgm 7 rfl)) bp_10 ?_
  refine sc_newI (N := 10) X lk_257 hc_n_1 (by decide) (by decide) (Nat.le_of_ble_eq_true rfl) (Nat.le_of_ble_eq_true rfl) (Nat.le_of_ble_eq_true rfl) (dkX7_init (15, .newarray .int, 2) (pgm 8 rfl)) ?_
  refine sc_putFR X fg_7_4 lk_428 hk (by omega) fu_7 rfl hmi rfl (fun _ => rfl) (fun _ => rfl) (dkX7_init (17, .putfield 15, 3) (pgm 9 rfl)) (by omega) ?_
  refine sc_aload_n (i := 0) X 0 (dkX7_init (20, .aload_n 0, 1) (pgm 10 rfl)) rfl rfl ?_
  refine sc_aload_n (i := 1) X 1 (dkX7_init (21, .aload_n 1, 1) (pgm 11 rfl)) rfl rfl ?_
  refine sc_putFR X fg_7_0 lk_424 hk (by omega) fu_7 rfl hmi rfl (fun _ => rfl) (fun _ => rfl) (dkX7_init (22, .putfield 18, 3) (pgm 12 rfl)) (by omega) ?_
  refine sc_aload_n (i := 0) X 0 (dkX7_init (25, .aload_n 0, 1) (pgm 13 rfl)) rfl rfl ?_
  refine sc_aload_n (i := 2) X 2 (dkX7_init (26, .aload_n 2, 1) (pgm 14 rfl)) rfl rfl ?_
  refine sc_putFR X fg_7_1 lk_425 hk (by omega) fu_7 rfl hmi rfl (fun _ => rfl) (fun _ => rfl) (dkX7_init (27, .putfield 22, 3) (pgm 15 rfl)) (by omega) ?_
  refine sc_aload_n (i := 0) X 0 (dkX7_init (30, .aload_n 0, 1) (pgm 16 rfl)) rfl rfl ?_
  refine sc_aload_n (i := 3) X 3 (dkX7_init (31, .aload_n 3, 1) (pgm 17 rfl)) rfl rfl ?_
  refine sc_putFR X fg_7_2 lk_426 hk (by omega) fu_7 rfl hmi rfl (fun _ => rfl) (fun _ => rfl) (dkX7_init (32, .putfield 26, 3) (pgm 18 rfl)) (by omega) ?_
  exact sc_vret X hr hlk (dkX7_init (35, .return_, 1) (pgm 19 rfl))
def pgX3_init : List (Nat × Instr × Nat) := [(0, .aload_n 0, 1), (1, .invokespecial 3, 3), (4, .aload_n 0, 1), (5, .sipush 4096, 3), (8, .newarray .int, 2), (10, .putfield 9, 3), (13, .aload_n 0, 1), (14, .sipush 900, 3), (17, .newarray .int, 2), (19, .putfield 15, 3), (22, .aload_n 0, 1), (23, .aload_n 1, 1), (24, .putfield 18, 3), (27, .aload_n 0, 1), (28, .getfield 9, 3), (31, .iconst (-1), 1), (32, .invokestatic 22, 3), (35, .return_, 1)]
theorem dkX3_init : ∀ q ∈ pgX3_init, decode cX3_init q.1 = .ok q.2 := by decide +kernel
def q_X3_init (Q : RF) (n i a1 : Nat) : RF := rU (rU (rU (Q) i 1 n) i 2 (n + 1)) i 0 a1
def h_X3_init (h : PH) (n i a1 : Nat) : PH := flI (h) n 4096 (-1 : Int32)
theorem zz_X3_init {Q : RF} {h : PH} {m n i a1 : Nat} (hi : i < n) (ha1 : a1 < n) (hm : n + 2 ≤ m) (hz : ZZ m h Q) : ZZ m (h_X3_init h n i a1) (q_X3_init Q n i a1) := by
  unfold h_X3_init q_X3_init
  repeat (first | exact hz | refine ZZ_pI ?_ (by omega) | refine ZZ_rU ?_ (by omega) | refine ZZ_rM ?_ (by omega) | refine ZZ_flI ?_ (by omega) | refine zz_X10_init (by omega) (by omega) ?_ | refine zz_X8_init (by omega) (by omega) ?_ | refine zz_X0_init (by omega) (by omega) ?_ | refine zz_X9_init (by omega) (by omega) (by omega) ?_ | refine zz_X1_init (by omega) (by omega) (by omega) (by omega) ?_ | refine zz_X2_init (by omega) (by omega) (by omega) (by omega) (by omega) ?_ | refine zz_X4_init (by omega) (by omega) ?_ | refine zz_X5_init (by omega) (by omega) (by omega) ?_ | refine zz_X7_init (by omega) (by omega) (by omega) (by omega) (by omega) ?_ | refine zz_X3_init (by omega) (by omega) (by omega) ?_)
set_option maxRecDepth 100000 in
set_option maxHeartbeats 4000000 in
theorem cc_X3_init (l : Launch) (n i a1 : Nat) (Q : RF) (h : PH) (hi : i < n) (hk : (kd i).1 = 3) (ha1 : a1 < n) (hc_n : kd n = (13, 4096)) (hc_n_1 : kd (n + 1) = (13, 900)) : CTc l yX3_init cX3_init 2 (rmx 2 2 4996) [.ref i, .ref a1] n Q h (n + 2) (q_X3_init Q n i a1) (h_X3_init h n i a1) 2 4996 := by
  refine ctc_of (by decide) (Nat.le_of_ble_eq_true rfl) (fun hz => zz_X3_init hi ha1 (Nat.le_refl _) (hz.up (Nat.le_add_right _ _))) ?_
  intro p e s m args below meth c D cA b hnc X hr hlk hmi hbn
  have X : Cc p s m args c RX3 cX3_init 2 D cA b := X
  refine sc_pick (L' := [(0, .ref i), (1, .ref a1)]) X [0, 1] rfl ?_
  refine sc_aload_n (i := 0) X 0 (dkX3_init (0, .aload_n 0, 1) (pgm 0 rfl)) rfl rfl ?_
  refine sc_objInit X lk_366 lk_156 lk_157 (dkX3_init (1, .invokespecial 3, 3) (pgm 1 rfl)) (Nat.le_of_ble_eq_true rfl) (Nat.le_of_ble_eq_true rfl) ?_
  refine sc_aload_n (i := 0) X 0 (dkX3_init (4, .aload_n 0, 1) (pgm 2 rfl)) rfl rfl ?_
  refine sc_sipush (v := (4096 : Int32)) X (dkX3_init (5, .sipush 4096, 3) (pgm 3 rfl)) sp_4096 ?_
  refine sc_newI (N := 4096) X lk_257 hc_n (by decide) (by decide) (Nat.le_of_ble_eq_true rfl) (Nat.le_of_ble_eq_true rfl) (Nat.le_of_ble_eq_true rfl) (dkX3_init (8, .newarray .int, 2) (pgm 4 rfl)) ?_
  refine sc_putFR X fg_3_1 lk_371 hk (by omega) fu_3 rfl hmi rfl (fun _ => rfl) (fun _ => rfl) (dkX3_init (10, .putfield 9, 3) (pgm 5 rfl)) (by omega) ?_
  refine sc_aload_n (i := 0) X 0 (dkX3_init (13, .aload_n 0, 1) (pgm 6 rfl)) rfl rfl ?_
  refine sc_sipush (v := (900 : Int32)) X (dkX3_init (14, .sipush 900, 3) (pgm 7 rfl)) sp_900 ?_
  refine sc_newI (N := 900) X lk_257 hc_n_1 (by decide) (by decide) (Nat.le_of_ble_eq_true rfl) (Nat.le_of_ble_eq_true rfl) (Nat.le_of_ble_eq_true rfl) (dkX3_init (17, .newarray .int, 2) (pgm 8 rfl)) ?_
  refine sc_putFR X fg_3_2 lk_372 hk (by omega) fu_3 rfl hmi rfl (fun _ => rfl) (fun _ => rfl) (dkX3_init (19, .putfield 15, 3) (pgm 9 rfl)) (by omega) ?_
  refine sc_aload_n (i := 0) X 0 (dkX3_init (22, .aload_n 0, 1) (pgm 10 rfl)) rfl rfl ?_
  refine sc_aload_n (i := 1) X 1 (dkX3_init (23, .aload_n 1, 1) (pgm 11 rfl)) rfl rfl ?_
  refine sc_putFR X fg_3_0 lk_370 hk (by omega) fu_3 rfl hmi rfl (fun _ => rfl) (fun _ => rfl) (dkX3_init (24, .putfield 18, 3) (pgm 12 rfl)) (by omega) ?_
  refine sc_aload_n (i := 0) X 0 (dkX3_init (27, .aload_n 0, 1) (pgm 13 rfl)) rfl rfl ?_
  refine sc_getR (v := n) X fg_3_1 lk_371 hk (by omega) (by simp [rU, rM]) (dkX3_init (28, .getfield 9, 3) (pgm 14 rfl)) ?_
  refine sc_iconst (v := (-1 : Int32)) X (dkX3_init (31, .iconst (-1), 1) (pgm 15 rfl)) ic_m1 ?_
  refine sc_callS (na := 2) (As := [.ref n, .int (-1 : Int32)]) X hnc (cc_fill l n (n + 2) _ _ (by omega) hc_n) lk_367 lk_368 lk_127 lk_369 (by decide +kernel) rfl rfl rfl (rm_okxx (by omega) (by decide)) ⟨Nat.le_of_ble_eq_true rfl, Nat.le_of_ble_eq_true rfl⟩ (Nat.le_of_ble_eq_true rfl) (dkX3_init (32, .invokestatic 22, 3) (pgm 16 rfl)) ?_ rfl
  exact sc_vret X hr hlk (dkX3_init (35, .return_, 1) (pgm 17 rfl))
def pgX6_init : List (Nat × Instr × Nat) := [(0, .aload_n 0, 1), (1, .invokespecial 3, 3), (4, .aload_n 0, 1), (5, .sipush 900, 3), (8, .newarray .int, 2), (10, .putfield 9, 3), (13, .aload_n 0, 1), (14, .iconst (-1), 1), (15, .putfield 15, 3), (18, .aload_n 0, 1), (19, .new 19, 3), (22, .dup, 1), (23, .aload_n 1, 1), (24, .invokespecial 21, 3), (27, .putfield 24, 3), (30, .aload_n 0, 1), (31, .aload_n 2, 1), (32, .putfield 28, 3), (35, .return_, 1)]
theorem dkX6_init : ∀ q ∈ pgX6_init, decode cX6_init q.1 = .ok q.2 := by decide +kernel
def q_X6_init (Q : RF) (n i a1 a2 : Nat) : RF := rU (rU (q_X9_init (rU (Q) i 2 n) (n + 2) (n + 1) a1) i 0 (n + 1)) i 1 a2
def h_X6_init (h : PH) (n i a1 a2 : Nat) : PH := h_X9_init (pI (h) i 11 (-1 : Int32)) (n + 2) (n + 1) a1
theorem zz_X6_init {Q : RF} {h : PH} {m n i a1 a2 : Nat} (hi : i < n) (ha1 : a1 < n) (ha2 : a2 < n) (hm : n + 2 ≤ m) (hz : ZZ m h Q) : ZZ m (h_X6_init h n i a1 a2) (q_X6_init Q n i a1 a2) := by
  unfold h_X6_init q_X6_init
  repeat (first | exact hz | refine ZZ_pI ?_ (by omega) | refine ZZ_rU ?_ (by omega) | refine ZZ_rM ?_ (by omega) | refine ZZ_flI ?_ (by omega) | refine zz_X10_init (by omega) (by omega) ?_ | refine zz_X8_init (by omega) (by omega) ?_ | refine zz_X0_init (by omega) (by omega) ?_ | refine zz_X9_init (by omega) (by omega) (by omega) ?_ | refine zz_X1_init (by omega) (by omega) (by omega) (by omega) ?_ | refine zz_X2_init (by omega) (by omega) (by omega) (by omega) (by omega) ?_ | refine zz_X4_init (by omega) (by omega) ?_ | refine zz_X5_init (by omega) (by omega) (by omega) ?_ | refine zz_X7_init (by omega) (by omega) (by omega) (by omega) (by omega) ?_ | refine zz_X3_init (by omega) (by omega) (by omega) ?_ | refine zz_X6_init (by omega) (by omega) (by omega) (by omega) ?_)
set_option maxRecDepth 100000 in
set_option maxHeartbeats 4000000 in
theorem cc_X6_init (l : Launch) (n i a1 a2 : Nat) (Q : RF) (h : PH) (hi : i < n) (hk : (kd i).1 = 6) (ha1 : a1 < n) (ha2 : a2 < n) (hc_n : kd n = (13, 900)) (hc_n_1 : (kd (n + 1)).1 = 9) : CTc l yX6_init cX6_init 3 (rmx 3 2 905) [.ref i, .ref a1, .ref a2] n Q h (n + 2) (q_X6_init Q n i a1 a2) (h_X6_init h n i a1 a2) 2 905 := by
  refine ctc_of (by decide) (Nat.le_of_ble_eq_true rfl) (fun hz => zz_X6_init hi ha1 ha2 (Nat.le_refl _) (hz.up (Nat.le_add_right _ _))) ?_
  intro p e s m args below meth c D cA b hnc X hr hlk hmi hbn
  have X : Cc p s m args c RX6 cX6_init 3 D cA b := X
  refine sc_pick (L' := [(0, .ref i), (1, .ref a1), (2, .ref a2)]) X [0, 1, 2] rfl ?_
  refine sc_aload_n (i := 0) X 0 (dkX6_init (0, .aload_n 0, 1) (pgm 0 rfl)) rfl rfl ?_
  refine sc_objInit X lk_263 lk_156 lk_157 (dkX6_init (1, .invokespecial 3, 3) (pgm 1 rfl)) (Nat.le_of_ble_eq_true rfl) (Nat.le_of_ble_eq_true rfl) ?_
  refine sc_aload_n (i := 0) X 0 (dkX6_init (4, .aload_n 0, 1) (pgm 2 rfl)) rfl rfl ?_
  refine sc_sipush (v := (900 : Int32)) X (dkX6_init (5, .sipush 900, 3) (pgm 3 rfl)) sp_900 ?_
  refine sc_newI (N := 900) X lk_257 hc_n (by decide) (by decide) (Nat.le_of_ble_eq_true rfl) (Nat.le_of_ble_eq_true rfl) (Nat.le_of_ble_eq_true rfl) (dkX6_init (8, .newarray .int, 2) (pgm 4 rfl)) ?_
  refine sc_putFR X fg_6_2 lk_290 hk (by omega) fu_6 rfl hmi rfl (fun _ => rfl) (fun _ => rfl) (dkX6_init (10, .putfield 9, 3) (pgm 5 rfl)) (by omega) ?_
  refine sc_aload_n (i := 0) X 0 (dkX6_init (13, .aload_n 0, 1) (pgm 6 rfl)) rfl rfl ?_
  refine sc_iconst (v := (-1 : Int32)) X (dkX6_init (14, .iconst (-1), 1) (pgm 7 rfl)) ic_m1 ?_
  refine sc_putI X fg_6_11 lk_300 hk (by omega) fu_6 rfl rfl rfl (dkX6_init (15, .putfield 15, 3) (pgm 8 rfl)) (by omega) ?_
  refine sc_aload_n (i := 0) X 0 (dkX6_init (18, .aload_n 0, 1) (pgm 9 rfl)) rfl rfl ?_
  refine sc_new (ci := 9) (N := 5) X iw_9 rfl tyX9_ok dv_9 (by decide) lk_264 lk_265 lk_124 hc_n_1 (Nat.le_of_ble_eq_true rfl) (Nat.le_of_ble_eq_true rfl) (dkX6_init (19, .new 19, 3) (pgm 10 rfl)) ?_
  refine sc_dup X (dkX6_init (22, .dup, 1) (pgm 11 rfl)) rfl ?_
  refine sc_aload_n (i := 1) X 1 (dkX6_init (23, .aload_n 1, 1) (pgm 12 rfl)) rfl rfl ?_
  refine sc_callI (na := 1) (As := [.ref a1]) X hnc (cc_X9_init l (n + 2) (n + 1) a1 _ _ (by omega) hc_n_1 (by omega)) lk_266 lk_267 lk_124 lk_268 rfl (by decide +kernel) rfl rfl rfl (rm_okxx (by omega) (by decide)) ⟨Nat.le_of_ble_eq_true rfl, Nat.le_of_ble_eq_true rfl⟩ (Nat.le_of_ble_eq_true rfl) (dkX6_init (24, .invokespecial 21, 3) (pgm 13 rfl)) ?_ rfl
  refine sc_putFR X fg_6_0 lk_288 hk (by omega) fu_6 rfl hmi rfl (fun _ => rfl) (fun _ => rfl) (dkX6_init (27, .putfield 24, 3) (pgm 14 rfl)) (by omega) ?_
  refine sc_aload_n (i := 0) X 0 (dkX6_init (30, .aload_n 0, 1) (pgm 15 rfl)) rfl rfl ?_
  refine sc_aload_n (i := 2) X 2 (dkX6_init (31, .aload_n 2, 1) (pgm 16 rfl)) rfl rfl ?_
  refine sc_putFR X fg_6_1 lk_289 hk (by omega) fu_6 rfl hmi rfl (fun _ => rfl) (fun _ => rfl) (dkX6_init (32, .putfield 28, 3) (pgm 17 rfl)) (by omega) ?_
  exact sc_vret X hr hlk (dkX6_init (35, .return_, 1) (pgm 18 rfl))
def pgX11_init : List (Nat × Instr × Nat) := [(0, .aload_n 0, 1), (1, .invokespecial 1, 3), (4, .aload_n 0, 1), (5, .sipush 900, 3), (8, .newarray .byte, 2), (10, .putfield 9, 3), (13, .aload_n 0, 1), (14, .iconst 3, 1), (15, .newarray .boolean, 2), (17, .putfield 13, 3), (20, .aload_n 0, 1), (21, .new 17, 3), (24, .dup, 1), (25, .invokespecial 19, 3), (28, .putfield 20, 3), (31, .aload_n 0, 1), (32, .new 17, 3), (35, .dup, 1), (36, .invokespecial 19, 3), (39, .putfield 24, 3), (42, .aload_n 0, 1), (43, .new 27, 3), (46, .dup, 1), (47, .aload_n 0, 1), (48, .getfield 9, 3), (51, .aload_n 0, 1), (52, .getfield 24, 3), (55, .invokespecial 29, 3), (58, .putfield 32, 3), (61, .aload_n 0, 1), (62, .new 36, 3), (65, .dup, 1), (66, .invokespecial 38, 3), (69, .putfield 39, 3), (72, .aload_n 0, 1), (73, .new 43, 3), (76, .dup, 1), (77, .aload_n 0, 1), (78, .getfield 20, 3), (81, .invokespecial 45, 3), (84, .putfield 48, 3), (87, .aload_n 0, 1), (88, .new 52, 3), (91, .dup, 1), (92, .aload_n 0, 1), (93, .getfield 20, 3), (96, .aload_n 0, 1), (97, .getfield 39, 3), (100, .aload_n 0, 1), (101, .getfield 48, 3), (104, .invokespecial 54, 3), (107, .putfield 57, 3), (110, .aload_n 0, 1), (111, .new 61, 3), (114, .dup, 1), (115, .aload_n 0, 1), (116, .getfield 20, 3), (119, .aload_n 0, 1), (120, .getfield 39, 3), (123, .aload_n 0, 1), (124, .getfield 57, 3), (127, .invokespecial 63, 3), (130, .putfield 66, 3), (133, .aload_n 0, 1), (134, .new 70, 3), (137, .dup, 1), (138, .aload_n 0, 1), (139, .getfield 20, 3), (142, .invokespecial 72, 3), (145, .putfield 73, 3), (148, .aload_n 0, 1), (149, .new 77, 3), (152, .dup, 1), (153, .aload_n 0, 1), (154, .getfield 20, 3), (157, .aload_n 0, 1), (158, .getfield 57, 3), (161, .invokespecial 79, 3), (164, .putfield 82, 3), (167, .aload_n 0, 1), (168, .new 86, 3), (171, .dup, 1), (172, .invokespecial 88, 3), (175, .putfield 89, 3), (178, .aload_n 0, 1), (179, .iconst 4, 1), (180, .anewarray 93, 3), (183, .putfield 95, 3), (186, .iconst 0, 1), (187, .istore_n 1, 1), (188, .iload_n 1, 1), (189, .iconst 4, 1), (190, .if_icmp .ge 22, 3), (193, .aload_n 0, 1), (194, .getfield 95, 3), (197, .iload_n 1, 1), (198, .new 93, 3), (201, .dup, 1), (202, .invokespecial 99, 3), (205, .aastore, 1), (206, .iinc 1 1, 3), (209, .goto (-21), 3), (212, .aload_n 0, 1), (213, .iconst 3, 1), (214, .anewarray 17, 3), (217, .putfield 100, 3), (220, .aload_n 0, 1), (221, .iconst 3, 1), (222, .anewarray 36, 3), (225, .putfield 104, 3), (228, .iconst 0, 1), (229, .istore_n 1, 1), (230, .iload_n 1, 1), (231, .iconst 3, 1), (232, .if_icmp .ge 35, 3), (235, .aload_n 0, 1), (236, .getfield 100, 3), (239, .iload_n 1, 1), (240, .new 17, 3), (243, .dup, 1), (244, .invokespecial 19, 3), (247, .aastore, 1), (248, .aload_n 0, 1), (249, .getfield 104, 3), (252, .iload_n 1, 1), (253, .new 36, 3), (256, .dup, 1), (257, .invokespecial 38, 3), (260, .aastore, 1), (261, .iinc 1 1, 3), (264, .goto (-34), 3), (267, .return_, 1)]
theorem dkX11_init : ∀ q ∈ pgX11_init, decode cX11_init q.1 = .ok q.2 := by decide +kernel
def q_X11_init (Q : RF) : RF := rU (q_X0_init (rU (q_X8_init (rU (q_X0_init (rU (q_X8_init (rU (q_X0_init (rU (q_X8_init (rU (rU (rU (q_X10_init (rU (q_X10_init (rU (q_X10_init (rU (q_X10_init (rU (rU (q_X4_init (rU (q_X1_init (rU (q_X5_init (rU (q_X7_init (rU (q_X2_init (rU (q_X3_init (rU (q_X0_init (rU (q_X6_init (rU (q_X8_init (rU (q_X8_init (rU (rU (Q) 0 0 1) 0 15 2) 4 3) 0 2 3) 9 8) 0 3 8) 14 13 1 8) 0 4 13) 17 16) 0 5 16) 31 30 3) 0 6 30) 34 33 3 16 30) 0 7 33) 38 37 3 16 33) 0 8 37) 41 40 3) 0 9 40) 43 42 3 33) 0 10 42) 74 73) 0 11 73) 0 12 84) 86 85) 84 0 85) 88 87) 84 1 87) 90 89) 84 2 89) 92 91) 84 3 91) 0 13 93) 0 14 94) 96 95) 93 0 95) 101 100) 94 0 100) 115 114) 93 1 114) 120 119) 94 1 119) 134 133) 93 2 133) 139 138) 94 2 138
def h_X11_init (h : PH) : PH := h_X0_init (h_X8_init (h_X0_init (h_X8_init (h_X0_init (h_X8_init (h_X10_init (h_X10_init (h_X10_init (h_X10_init (h_X4_init (h_X1_init (h_X5_init (h_X7_init (h_X2_init (h_X3_init (h_X0_init (h_X6_init (h_X8_init (h_X8_init (h) 4 3) 9 8) 14 13 1 8) 17 16) 31 30 3) 34 33 3 16 30) 38 37 3 16 33) 41 40 3) 43 42 3 33) 74 73) 86 85) 88 87) 90 89) 92 91) 96 95) 101 100) 115 114) 120 119) 134 133) 139 138
theorem zz_X11_init {Q : RF} {h : PH} (hz : ZZ 152 h Q) : ZZ 152 (h_X11_init h) (q_X11_init Q) := by
  unfold h_X11_init q_X11_init
  repeat (first | exact hz | refine ZZ_pI ?_ (by omega) | refine ZZ_rU ?_ (by omega) | refine ZZ_rM ?_ (by omega) | refine ZZ_flI ?_ (by omega) | refine zz_X10_init (by omega) (by omega) ?_ | refine zz_X8_init (by omega) (by omega) ?_ | refine zz_X0_init (by omega) (by omega) ?_ | refine zz_X9_init (by omega) (by omega) (by omega) ?_ | refine zz_X1_init (by omega) (by omega) (by omega) (by omega) ?_ | refine zz_X2_init (by omega) (by omega) (by omega) (by omega) (by omega) ?_ | refine zz_X4_init (by omega) (by omega) ?_ | refine zz_X5_init (by omega) (by omega) (by omega) ?_ | refine zz_X7_init (by omega) (by omega) (by omega) (by omega) (by omega) ?_ | refine zz_X3_init (by omega) (by omega) (by omega) ?_ | refine zz_X6_init (by omega) (by omega) (by omega) (by omega) ?_)
set_option maxRecDepth 100000 in
set_option maxHeartbeats 8000000 in
theorem cc_X11_init (l : Launch) (Q : RF) (h : PH) : CTc l yX11_init cX11_init 2 (rmx 4 151 19228) [.ref 0] 1 Q h 152 (q_X11_init Q) (h_X11_init h) 151 19228 := by
  refine ctc_of (by decide) (Nat.le_of_ble_eq_true rfl) (fun hz => zz_X11_init (hz.up (by decide))) ?_
  intro p e s m args below meth c D cA b hnc X hr hlk hmi hbn
  have X : Cc p s m args c RX11 cX11_init 2 D cA b := X
  refine sc_pick (L' := [(0, .ref 0)]) X [0] rfl ?_
  refine sc_aload_n (i := 0) X 0 (dkX11_init (0, .aload_n 0, 1) (pgm 0 rfl)) rfl rfl ?_
  refine sc_objInit X lk_155 lk_156 lk_157 (dkX11_init (1, .invokespecial 1, 3) (pgm 1 rfl)) (Nat.le_of_ble_eq_true rfl) (Nat.le_of_ble_eq_true rfl) ?_
  refine sc_aload_n (i := 0) X 0 (dkX11_init (4, .aload_n 0, 1) (pgm 2 rfl)) rfl rfl ?_
  refine sc_sipush (v := (900 : Int32)) X (dkX11_init (5, .sipush 900, 3) (pgm 3 rfl)) sp_900 ?_
  refine sc_newB (N := 900) X lk_255 (by decide +kernel) (by decide) (by decide) (Nat.le_of_ble_eq_true rfl) (Nat.le_of_ble_eq_true rfl) (Nat.le_of_ble_eq_true rfl) (dkX11_init (8, .newarray .byte, 2) (pgm 4 rfl)) ?_
  refine sc_putFR X fg_11_0 lk_565 (by decide +kernel) (by decide) fu_11 rfl hmi rfl (fun _ => rfl) (fun _ => rfl) (dkX11_init (10, .putfield 9, 3) (pgm 5 rfl)) (by omega) ?_
  refine sc_aload_n (i := 0) X 0 (dkX11_init (13, .aload_n 0, 1) (pgm 6 rfl)) rfl rfl ?_
  refine sc_iconst (v := (3 : Int32)) X (dkX11_init (14, .iconst 3, 1) (pgm 7 rfl)) ic_3 ?_
  refine sc_newZ (N := 3) X lk_256 (by decide +kernel) (by decide) (by decide) (Nat.le_of_ble_eq_true rfl) (Nat.le_of_ble_eq_true rfl) (Nat.le_of_ble_eq_true rfl) (dkX11_init (15, .newarray .boolean, 2) (pgm 8 rfl)) ?_
  refine sc_putFR X fg_11_15 lk_580 (by decide +kernel) (by decide) fu_11 rfl hmi rfl (fun _ => rfl) (fun _ => rfl) (dkX11_init (17, .putfield 13, 3) (pgm 9 rfl)) (by omega) ?_
  refine sc_aload_n (i := 0) X 0 (dkX11_init (20, .aload_n 0, 1) (pgm 10 rfl)) rfl rfl ?_
  refine sc_new (ci := 8) (N := 16) X iw_8 rfl tyX8_ok dv_8 (by decide) lk_158 lk_159 lk_122 (by decide +kernel) (Nat.le_of_ble_eq_true rfl) (Nat.le_of_ble_eq_true rfl) (dkX11_init (21, .new 17, 3) (pgm 11 rfl)) ?_
  refine sc_dup X (dkX11_init (24, .dup, 1) (pgm 12 rfl)) rfl ?_
  refine sc_callN (na := 0) (As := []) X hnc (cc_X8_init l 4 3 _ _ (by decide) (by decide +kernel) (by decide +kernel) (by decide +kernel) (by decide +kernel) (by decide +kernel)) rfl (by decide) lk_161 lk_122 lk_162 rfl (by decide +kernel) rfl rfl rfl (rm_okxx (by omega) (by decide)) ⟨Nat.le_of_ble_eq_true rfl, Nat.le_of_ble_eq_true rfl⟩ (Nat.le_of_ble_eq_true rfl) (dkX11_init (25, .invokespecial 19, 3) (pgm 13 rfl)) ?_ rfl
  refine sc_putFR X fg_11_2 lk_567 (by decide +kernel) (by decide) fu_11 rfl hmi rfl (fun _ => rfl) (fun _ => rfl) (dkX11_init (28, .putfield 20, 3) (pgm 14 rfl)) (by omega) ?_
  refine sc_aload_n (i := 0) X 0 (dkX11_init (31, .aload_n 0, 1) (pgm 15 rfl)) rfl rfl ?_
  refine sc_new (ci := 8) (N := 16) X iw_8 rfl tyX8_ok dv_8 (by decide) lk_158 lk_159 lk_122 (by decide +kernel) (Nat.le_of_ble_eq_true rfl) (Nat.le_of_ble_eq_true rfl) (dkX11_init (32, .new 17, 3) (pgm 16 rfl)) ?_
  refine sc_dup X (dkX11_init (35, .dup, 1) (pgm 17 rfl)) rfl ?_
  refine sc_callN (na := 0) (As := []) X hnc (cc_X8_init l 9 8 _ _ (by decide) (by decide +kernel) (by decide +kernel) (by decide +kernel) (by decide +kernel) (by decide +kernel)) rfl (by decide) lk_161 lk_122 lk_162 rfl (by decide +kernel) rfl rfl rfl (rm_okxx (by omega) (by decide)) ⟨Nat.le_of_ble_eq_true rfl, Nat.le_of_ble_eq_true rfl⟩ (Nat.le_of_ble_eq_true rfl) (dkX11_init (36, .invokespecial 19, 3) (pgm 18 rfl)) ?_ rfl
  refine sc_putFR X fg_11_3 lk_568 (by decide +kernel) (by decide) fu_11 rfl hmi rfl (fun _ => rfl) (fun _ => rfl) (dkX11_init (39, .putfield 24, 3) (pgm 19 rfl)) (by omega) ?_
  refine sc_aload_n (i := 0) X 0 (dkX11_init (42, .aload_n 0, 1) (pgm 20 rfl)) rfl rfl ?_
  refine sc_new (ci := 6) (N := 12) X iw_6 rfl tyX6_ok dv_6 (by decide) lk_258 lk_259 lk_123 (by decide +kernel) (Nat.le_of_ble_eq_true rfl) (Nat.le_of_ble_eq_true rfl) (dkX11_init (43, .new 27, 3) (pgm 21 rfl)) ?_
  refine sc_dup X (dkX11_init (46, .dup, 1) (pgm 22 rfl)) rfl ?_
  refine sc_aload_n (i := 0) X 0 (dkX11_init (47, .aload_n 0, 1) (pgm 23 rfl)) rfl rfl ?_
  refine sc_getR (v := 1) X fg_11_0 lk_565 (by decide +kernel) (by decide) rfl (dkX11_init (48, .getfield 9, 3) (pgm 24 rfl)) ?_
  refine sc_aload_n (i := 0) X 0 (dkX11_init (51, .aload_n 0, 1) (pgm 25 rfl)) rfl rfl ?_
  refine sc_getR (v := 8) X fg_11_3 lk_568 (by decide +kernel) (by decide) rfl (dkX11_init (52, .getfield 24, 3) (pgm 26 rfl)) ?_
  refine sc_callI (na := 2) (As := [.ref 1, .ref 8]) X hnc (cc_X6_init l 14 13 1 8 _ _ (by decide) (by decide +kernel) (by decide) (by decide) (by decide +kernel) (by decide +kernel)) lk_260 lk_261 lk_123 lk_262 rfl (by decide +kernel) rfl rfl rfl (rm_okxx (by omega) (by decide)) ⟨Nat.le_of_ble_eq_true rfl, Nat.le_of_ble_eq_true rfl⟩ (Nat.le_of_ble_eq_true rfl) (dkX11_init (55, .invokespecial 29, 3) (pgm 27 rfl)) ?_ rfl
  refine sc_putFR X fg_11_4 lk_569 (by decide +kernel) (by decide) fu_11 rfl hmi rfl (fun _ => rfl) (fun _ => rfl) (dkX11_init (58, .putfield 32, 3) (pgm 28 rfl)) (by omega) ?_
  refine sc_aload_n (i := 0) X 0 (dkX11_init (61, .aload_n 0, 1) (pgm 29 rfl)) rfl rfl ?_
  refine sc_new (ci := 0) (N := 6) X iw_0 rfl tyX0_ok dv_0 (by decide) lk_327 lk_328 lk_125 (by decide +kernel) (Nat.le_of_ble_eq_true rfl) (Nat.le_of_ble_eq_true rfl) (dkX11_init (62, .new 36, 3) (pgm 30 rfl)) ?_
  refine sc_dup X (dkX11_init (65, .dup, 1) (pgm 31 rfl)) rfl ?_
  refine sc_callN (na := 0) (As := []) X hnc (cc_X0_init l 17 16 _ _ (by decide) (by decide +kernel) (by decide +kernel) (by decide +kernel) (by decide +kernel) (by decide +kernel)) rfl (by decide) lk_330 lk_125 lk_331 rfl (by decide +kernel) rfl rfl rfl (rm_okxx (by omega) (by decide)) ⟨Nat.le_of_ble_eq_true rfl, Nat.le_of_ble_eq_true rfl⟩ (Nat.le_of_ble_eq_true rfl) (dkX11_init (66, .invokespecial 38, 3) (pgm 32 rfl)) ?_ rfl
  refine sc_putFR X fg_11_5 lk_570 (by decide +kernel) (by decide) fu_11 rfl hmi rfl (fun _ => rfl) (fun _ => rfl) (dkX11_init (69, .putfield 39, 3) (pgm 33 rfl)) (by omega) ?_
  refine sc_aload_n (i := 0) X 0 (dkX11_init (72, .aload_n 0, 1) (pgm 34 rfl)) rfl rfl ?_
  refine sc_new (ci := 3) (N := 3) X iw_3 rfl tyX3_ok dv_3 (by decide) lk_361 lk_362 lk_126 (by decide +kernel) (Nat.le_of_ble_eq_true rfl) (Nat.le_of_ble_eq_true rfl) (dkX11_init (73, .new 43, 3) (pgm 35 rfl)) ?_
  refine sc_dup X (dkX11_init (76, .dup, 1) (pgm 36 rfl)) rfl ?_
  refine sc_aload_n (i := 0) X 0 (dkX11_init (77, .aload_n 0, 1) (pgm 37 rfl)) rfl rfl ?_
  refine sc_getR (v := 3) X fg_11_2 lk_567 (by decide +kernel) (by decide) rfl (dkX11_init (78, .getfield 20, 3) (pgm 38 rfl)) ?_
  refine sc_callI (na := 1) (As := [.ref 3]) X hnc (cc_X3_init l 31 30 3 _ _ (by decide) (by decide +kernel) (by decide) (by decide +kernel) (by decide +kernel)) lk_363 lk_364 lk_126 lk_365 rfl (by decide +kernel) rfl rfl rfl (rm_okxx (by omega) (by decide)) ⟨Nat.le_of_ble_eq_true rfl, Nat.le_of_ble_eq_true rfl⟩ (Nat.le_of_ble_eq_true rfl) (dkX11_init (81, .invokespecial 45, 3) (pgm 39 rfl)) ?_ rfl
  refine sc_putFR X fg_11_6 lk_571 (by decide +kernel) (by decide) fu_11 rfl hmi rfl (fun _ => rfl) (fun _ => rfl) (dkX11_init (84, .putfield 48, 3) (pgm 40 rfl)) (by omega) ?_
  refine sc_aload_n (i := 0) X 0 (dkX11_init (87, .aload_n 0, 1) (pgm 41 rfl)) rfl rfl ?_
  refine sc_new (ci := 2) (N := 9) X iw_2 rfl tyX2_ok dv_2 (by decide) lk_380 lk_381 lk_128 (by decide +kernel) (Nat.le_of_ble_eq_true rfl) (Nat.le_of_ble_eq_true rfl) (dkX11_init (88, .new 52, 3) (pgm 42 rfl)) ?_
  refine sc_dup X (dkX11_init (91, .dup, 1) (pgm 43 rfl)) rfl ?_
  refine sc_aload_n (i := 0) X 0 (dkX11_init (92, .aload_n 0, 1) (pgm 44 rfl)) rfl rfl ?_
  refine sc_getR (v := 3) X fg_11_2 lk_567 (by decide +kernel) (by decide) rfl (dkX11_init (93, .getfield 20, 3) (pgm 45 rfl)) ?_
  refine sc_aload_n (i := 0) X 0 (dkX11_init (96, .aload_n 0, 1) (pgm 46 rfl)) rfl rfl ?_
  refine sc_getR (v := 16) X fg_11_5 lk_570 (by decide +kernel) (by decide) rfl (dkX11_init (97, .getfield 39, 3) (pgm 47 rfl)) ?_
  refine sc_aload_n (i := 0) X 0 (dkX11_init (100, .aload_n 0, 1) (pgm 48 rfl)) rfl rfl ?_
  refine sc_getR (v := 30) X fg_11_6 lk_571 (by decide +kernel) (by decide) rfl (dkX11_init (101, .getfield 48, 3) (pgm 49 rfl)) ?_
  refine sc_callI (na := 3) (As := [.ref 3, .ref 16, .ref 30]) X hnc (cc_X2_init l 34 33 3 16 30 _ _ (by decide) (by decide +kernel) (by decide) (by decide) (by decide) (by decide +kernel) (by decide +kernel) (by decide +kernel)) lk_382 lk_383 lk_128 lk_384 rfl (by decide +kernel) rfl rfl rfl (rm_okxx (by omega) (by decide)) ⟨Nat.le_of_ble_eq_true rfl, Nat.le_of_ble_eq_true rfl⟩ (Nat.le_of_ble_eq_true rfl) (dkX11_init (104, .invokespecial 54, 3) (pgm 50 rfl)) ?_ rfl
  refine sc_putFR X fg_11_7 lk_572 (by decide +kernel) (by decide) fu_11 rfl hmi rfl (fun _ => rfl) (fun _ => rfl) (dkX11_init (107, .putfield 57, 3) (pgm 51 rfl)) (by omega) ?_
  refine sc_aload_n (i := 0) X 0 (dkX11_init (110, .aload_n 0, 1) (pgm 52 rfl)) rfl rfl ?_
  refine sc_new (ci := 7) (N := 8) X iw_7 rfl tyX7_ok dv_7 (by decide) lk_418 lk_419 lk_129 (by decide +kernel) (Nat.le_of_ble_eq_true rfl) (Nat.le_of_ble_eq_true rfl) (dkX11_init (111, .new 61, 3) (pgm 53 rfl)) ?_
  refine sc_dup X (dkX11_init (114, .dup, 1) (pgm 54 rfl)) rfl ?_
  refine sc_aload_n (i := 0) X 0 (dkX11_init (115, .aload_n 0, 1) (pgm 55 rfl)) rfl rfl ?_
  refine sc_getR (v := 3) X fg_11_2 lk_567 (by decide +kernel) (by decide) rfl (dkX11_init (116, .getfield 20, 3) (pgm 56 rfl)) ?_
  refine sc_aload_n (i := 0) X 0 (dkX11_init (119, .aload_n 0, 1) (pgm 57 rfl)) rfl rfl ?_
  refine sc_getR (v := 16) X fg_11_5 lk_570 (by decide +kernel) (by decide) rfl (dkX11_init (120, .getfield 39, 3) (pgm 58 rfl)) ?_
  refine sc_aload_n (i := 0) X 0 (dkX11_init (123, .aload_n 0, 1) (pgm 59 rfl)) rfl rfl ?_
  refine sc_getR (v := 33) X fg_11_7 lk_572 (by decide +kernel) (by decide) rfl (dkX11_init (124, .getfield 57, 3) (pgm 60 rfl)) ?_
  refine sc_callI (na := 3) (As := [.ref 3, .ref 16, .ref 33]) X hnc (cc_X7_init l 38 37 3 16 33 _ _ (by decide) (by decide +kernel) (by decide) (by decide) (by decide) (by decide +kernel) (by decide +kernel)) lk_420 lk_421 lk_129 lk_422 rfl (by decide +kernel) rfl rfl rfl (rm_okxx (by omega) (by decide)) ⟨Nat.le_of_ble_eq_true rfl, Nat.le_of_ble_eq_true rfl⟩ (Nat.le_of_ble_eq_true rfl) (dkX11_init (127, .invokespecial 63, 3) (pgm 61 rfl)) ?_ rfl
  refine sc_putFR X fg_11_8 lk_573 (by decide +kernel) (by decide) fu_11 rfl hmi rfl (fun _ => rfl) (fun _ => rfl) (dkX11_init (130, .putfield 66, 3) (pgm 62 rfl)) (by omega) ?_
  refine sc_aload_n (i := 0) X 0 (dkX11_init (133, .aload_n 0, 1) (pgm 63 rfl)) rfl rfl ?_
  refine sc_new (ci := 5) (N := 7) X iw_5 rfl tyX5_ok dv_5 (by decide) lk_451 lk_452 lk_130 (by decide +kernel) (Nat.le_of_ble_eq_true rfl) (Nat.le_of_ble_eq_true rfl) (dkX11_init (134, .new 70, 3) (pgm 64 rfl)) ?_
  refine sc_dup X (dkX11_init (137, .dup, 1) (pgm 65 rfl)) rfl ?_
  refine sc_aload_n (i := 0) X 0 (dkX11_init (138, .aload_n 0, 1) (pgm 66 rfl)) rfl rfl ?_
  refine sc_getR (v := 3) X fg_11_2 lk_567 (by decide +kernel) (by decide) rfl (dkX11_init (139, .getfield 20, 3) (pgm 67 rfl)) ?_
  refine sc_callI (na := 1) (As := [.ref 3]) X hnc (cc_X5_init l 41 40 3 _ _ (by decide) (by decide +kernel) (by decide) (by decide +kernel)) lk_453 lk_454 lk_130 lk_455 rfl (by decide +kernel) rfl rfl rfl (rm_okxx (by omega) (by decide)) ⟨Nat.le_of_ble_eq_true rfl, Nat.le_of_ble_eq_true rfl⟩ (Nat.le_of_ble_eq_true rfl) (dkX11_init (142, .invokespecial 72, 3) (pgm 68 rfl)) ?_ rfl
  refine sc_putFR X fg_11_9 lk_574 (by decide +kernel) (by decide) fu_11 rfl hmi rfl (fun _ => rfl) (fun _ => rfl) (dkX11_init (145, .putfield 73, 3) (pgm 69 rfl)) (by omega) ?_
  refine sc_aload_n (i := 0) X 0 (dkX11_init (148, .aload_n 0, 1) (pgm 70 rfl)) rfl rfl ?_
  refine sc_new (ci := 1) (N := 9) X iw_1 rfl tyX1_ok dv_1 (by decide) lk_481 lk_482 lk_131 (by decide +kernel) (Nat.le_of_ble_eq_true rfl) (Nat.le_of_ble_eq_true rfl) (dkX11_init (149, .new 77, 3) (pgm 71 rfl)) ?_
  refine sc_dup X (dkX11_init (152, .dup, 1) (pgm 72 rfl)) rfl ?_
  refine sc_aload_n (i := 0) X 0 (dkX11_init (153, .aload_n 0, 1) (pgm 73 rfl)) rfl rfl ?_
  refine sc_getR (v := 3) X fg_11_2 lk_567 (by decide +kernel) (by decide) rfl (dkX11_init (154, .getfield 20, 3) (pgm 74 rfl)) ?_
  refine sc_aload_n (i := 0) X 0 (dkX11_init (157, .aload_n 0, 1) (pgm 75 rfl)) rfl rfl ?_
  refine sc_getR (v := 33) X fg_11_7 lk_572 (by decide +kernel) (by decide) rfl (dkX11_init (158, .getfield 57, 3) (pgm 76 rfl)) ?_
  refine sc_callI (na := 2) (As := [.ref 3, .ref 33]) X hnc (cc_X1_init l 43 42 3 33 _ _ (by decide) (by decide +kernel) (by decide) (by decide) (by decide +kernel) (by decide +kernel) (by decide +kernel) (by decide +kernel) (by decide +kernel) (by decide +kernel)) lk_483 lk_484 lk_131 lk_485 rfl (by decide +kernel) rfl rfl rfl (rm_okxx (by omega) (by decide)) ⟨Nat.le_of_ble_eq_true rfl, Nat.le_of_ble_eq_true rfl⟩ (Nat.le_of_ble_eq_true rfl) (dkX11_init (161, .invokespecial 79, 3) (pgm 77 rfl)) ?_ rfl
  refine sc_putFR X fg_11_10 lk_575 (by decide +kernel) (by decide) fu_11 rfl hmi rfl (fun _ => rfl) (fun _ => rfl) (dkX11_init (164, .putfield 82, 3) (pgm 78 rfl)) (by omega) ?_
  refine sc_aload_n (i := 0) X 0 (dkX11_init (167, .aload_n 0, 1) (pgm 79 rfl)) rfl rfl ?_
  refine sc_new (ci := 4) (N := 4) X iw_4 rfl tyX4_ok dv_4 (by decide) lk_516 lk_517 lk_132 (by decide +kernel) (Nat.le_of_ble_eq_true rfl) (Nat.le_of_ble_eq_true rfl) (dkX11_init (168, .new 86, 3) (pgm 80 rfl)) ?_
  refine sc_dup X (dkX11_init (171, .dup, 1) (pgm 81 rfl)) rfl ?_
  refine sc_callN (na := 0) (As := []) X hnc (cc_X4_init l 74 73 _ _ (by decide) (by decide +kernel) (by decide +kernel) (by decide +kernel) (by decide +kernel) (by decide +kernel)) rfl (by decide) lk_519 lk_132 lk_520 rfl (by decide +kernel) rfl rfl rfl (rm_okxx (by omega) (by decide)) ⟨Nat.le_of_ble_eq_true rfl, Nat.le_of_ble_eq_true rfl⟩ (Nat.le_of_ble_eq_true rfl) (dkX11_init (172, .invokespecial 88, 3) (pgm 82 rfl)) ?_ rfl
  refine sc_putFR X fg_11_11 lk_576 (by decide +kernel) (by decide) fu_11 rfl hmi rfl (fun _ => rfl) (fun _ => rfl) (dkX11_init (175, .putfield 89, 3) (pgm 83 rfl)) (by omega) ?_
  refine sc_aload_n (i := 0) X 0 (dkX11_init (178, .aload_n 0, 1) (pgm 84 rfl)) rfl rfl ?_
  refine sc_iconst (v := (4 : Int32)) X (dkX11_init (179, .iconst 4, 1) (pgm 85 rfl)) ic_4 ?_
  refine sc_newR (N := 4) X lk_538 (by decide) (by decide) (by decide) (t0 := 6) (fun _ => rfl) (by decide +kernel) (by decide) (by decide) (Nat.le_of_ble_eq_true rfl) (Nat.le_of_ble_eq_true rfl) (Nat.le_of_ble_eq_true rfl) (dkX11_init (180, .anewarray 93, 3) (pgm 86 rfl)) ?_
  refine sc_putFR X fg_11_12 lk_577 (by decide +kernel) (by decide) fu_11 rfl hmi rfl (fun _ => rfl) (fun _ => rfl) (dkX11_init (183, .putfield 95, 3) (pgm 87 rfl)) (by omega) ?_
  refine sc_iconst (v := (0 : Int32)) X (dkX11_init (186, .iconst 0, 1) (pgm 88 rfl)) ic_0 ?_
  refine sc_istore_n (i := 1) (L' := [(1, .int (0 : Int32)), (0, .ref 0)]) X (dkX11_init (187, .istore_n 1, 1) (pgm 89 rfl)) rfl (by decide) rfl ?_
  refine sc_iload_n (i := 1) X 0 (dkX11_init (188, .iload_n 1, 1) (pgm 90 rfl)) rfl rfl ?_
  refine sc_iconst (v := (4 : Int32)) X (dkX11_init (189, .iconst 4, 1) (pgm 91 rfl)) ic_4 ?_
  refine sc_geF (tgt := 212) X (dkX11_init (190, .if_icmp .ge 22, 3) (pgm 92 rfl)) rfl (by decide) ?_
  refine sc_aload_n (i := 0) X 1 (dkX11_init (193, .aload_n 0, 1) (pgm 93 rfl)) rfl rfl ?_
  refine sc_getR (v := 84) X fg_11_12 lk_577 (by decide +kernel) (by decide) rfl (dkX11_init (194, .getfield 95, 3) (pgm 94 rfl)) ?_
  refine sc_iload_n (i := 1) X 0 (dkX11_init (197, .iload_n 1, 1) (pgm 95 rfl)) rfl rfl ?_
  refine sc_new (ci := 10) (N := 3) X iw_10 rfl tyX10_ok dv_10 (by decide) lk_538 lk_540 lk_133 (by decide +kernel) (Nat.le_of_ble_eq_true rfl) (Nat.le_of_ble_eq_true rfl) (dkX11_init (198, .new 93, 3) (pgm 96 rfl)) ?_
  refine sc_dup X (dkX11_init (201, .dup, 1) (pgm 97 rfl)) rfl ?_
  refine sc_callN (na := 0) (As := []) X hnc (cc_X10_init l 86 85 _ _ (by decide) (by decide +kernel) (by decide +kernel)) rfl (by decide) lk_542 lk_133 lk_543 rfl (by decide +kernel) rfl rfl rfl (rm_okxx (by omega) (by decide)) ⟨Nat.le_of_ble_eq_true rfl, Nat.le_of_ble_eq_true rfl⟩ (Nat.le_of_ble_eq_true rfl) (dkX11_init (202, .invokespecial 99, 3) (pgm 98 rfl)) ?_ rfl
  refine sc_aast (N := 4) (c0 := 19) (ci := 10) (iN := 0) (t0 := 6) X (by decide) (by decide +kernel) (by decide) (by decide) (by decide) (by decide +kernel) (by decide) (by decide) rfl (fun _ => rfl) (by decide) (dkX11_init (205, .aastore, 1) (pgm 99 rfl)) (by omega) ?_
  refine sc_iinc (i := 1) (v := (1 : Int32)) (L' := [(1, .int (1 : Int32)), (0, .ref 0)]) X 0 (dkX11_init (206, .iinc 1 1, 3) (pgm 100 rfl)) rfl (by decide) (by decide) rfl ?_
  refine sc_goto (tgt := 188) X (dkX11_init (209, .goto (-21), 3) (pgm 101 rfl)) rfl ?_
  refine sc_iload_n (i := 1) X 0 (dkX11_init (188, .iload_n 1, 1) (pgm 90 rfl)) rfl rfl ?_
  refine sc_iconst (v := (4 : Int32)) X (dkX11_init (189, .iconst 4, 1) (pgm 91 rfl)) ic_4 ?_
  refine sc_geF (tgt := 212) X (dkX11_init (190, .if_icmp .ge 22, 3) (pgm 92 rfl)) rfl (by decide) ?_
  refine sc_aload_n (i := 0) X 1 (dkX11_init (193, .aload_n 0, 1) (pgm 93 rfl)) rfl rfl ?_
  refine sc_getR (v := 84) X fg_11_12 lk_577 (by decide +kernel) (by decide) rfl (dkX11_init (194, .getfield 95, 3) (pgm 94 rfl)) ?_
  refine sc_iload_n (i := 1) X 0 (dkX11_init (197, .iload_n 1, 1) (pgm 95 rfl)) rfl rfl ?_
  refine sc_new (ci := 10) (N := 3) X iw_10 rfl tyX10_ok dv_10 (by decide) lk_538 lk_540 lk_133 (by decide +kernel) (Nat.le_of_ble_eq_true rfl) (Nat.le_of_ble_eq_true rfl) (dkX11_init (198, .new 93, 3) (pgm 96 rfl)) ?_
  refine sc_dup X (dkX11_init (201, .dup, 1) (pgm 97 rfl)) rfl ?_
  refine sc_callN (na := 0) (As := []) X hnc (cc_X10_init l 88 87 _ _ (by decide) (by decide +kernel) (by decide +kernel)) rfl (by decide) lk_542 lk_133 lk_543 rfl (by decide +kernel) rfl rfl rfl (rm_okxx (by omega) (by decide)) ⟨Nat.le_of_ble_eq_true rfl, Nat.le_of_ble_eq_true rfl⟩ (Nat.le_of_ble_eq_true rfl) (dkX11_init (202, .invokespecial 99, 3) (pgm 98 rfl)) ?_ rfl
  refine sc_aast (N := 4) (c0 := 19) (ci := 10) (iN := 1) (t0 := 6) X (by decide) (by decide +kernel) (by decide) (by decide) (by decide) (by decide +kernel) (by decide) (by decide) rfl (fun _ => rfl) (by decide) (dkX11_init (205, .aastore, 1) (pgm 99 rfl)) (by omega) ?_
  refine sc_iinc (i := 1) (v := (2 : Int32)) (L' := [(1, .int (2 : Int32)), (0, .ref 0)]) X 0 (dkX11_init (206, .iinc 1 1, 3) (pgm 100 rfl)) rfl (by decide) (by decide) rfl ?_
  refine sc_goto (tgt := 188) X (dkX11_init (209, .goto (-21), 3) (pgm 101 rfl)) rfl ?_
  refine sc_iload_n (i := 1) X 0 (dkX11_init (188, .iload_n 1, 1) (pgm 90 rfl)) rfl rfl ?_
  refine sc_iconst (v := (4 : Int32)) X (dkX11_init (189, .iconst 4, 1) (pgm 91 rfl)) ic_4 ?_
  refine sc_geF (tgt := 212) X (dkX11_init (190, .if_icmp .ge 22, 3) (pgm 92 rfl)) rfl (by decide) ?_
  refine sc_aload_n (i := 0) X 1 (dkX11_init (193, .aload_n 0, 1) (pgm 93 rfl)) rfl rfl ?_
  refine sc_getR (v := 84) X fg_11_12 lk_577 (by decide +kernel) (by decide) rfl (dkX11_init (194, .getfield 95, 3) (pgm 94 rfl)) ?_
  refine sc_iload_n (i := 1) X 0 (dkX11_init (197, .iload_n 1, 1) (pgm 95 rfl)) rfl rfl ?_
  refine sc_new (ci := 10) (N := 3) X iw_10 rfl tyX10_ok dv_10 (by decide) lk_538 lk_540 lk_133 (by decide +kernel) (Nat.le_of_ble_eq_true rfl) (Nat.le_of_ble_eq_true rfl) (dkX11_init (198, .new 93, 3) (pgm 96 rfl)) ?_
  refine sc_dup X (dkX11_init (201, .dup, 1) (pgm 97 rfl)) rfl ?_
  refine sc_callN (na := 0) (As := []) X hnc (cc_X10_init l 90 89 _ _ (by decide) (by decide +kernel) (by decide +kernel)) rfl (by decide) lk_542 lk_133 lk_543 rfl (by decide +kernel) rfl rfl rfl (rm_okxx (by omega) (by decide)) ⟨Nat.le_of_ble_eq_true rfl, Nat.le_of_ble_eq_true rfl⟩ (Nat.le_of_ble_eq_true rfl) (dkX11_init (202, .invokespecial 99, 3) (pgm 98 rfl)) ?_ rfl
  refine sc_aast (N := 4) (c0 := 19) (ci := 10) (iN := 2) (t0 := 6) X (by decide) (by decide +kernel) (by decide) (by decide) (by decide) (by decide +kernel) (by decide) (by decide) rfl (fun _ => rfl) (by decide) (dkX11_init (205, .aastore, 1) (pgm 99 rfl)) (by omega) ?_
  refine sc_iinc (i := 1) (v := (3 : Int32)) (L' := [(1, .int (3 : Int32)), (0, .ref 0)]) X 0 (dkX11_init (206, .iinc 1 1, 3) (pgm 100 rfl)) rfl (by decide) (by decide) rfl ?_
  refine sc_goto (tgt := 188) X (dkX11_init (209, .goto (-21), 3) (pgm 101 rfl)) rfl ?_
  refine sc_iload_n (i := 1) X 0 (dkX11_init (188, .iload_n 1, 1) (pgm 90 rfl)) rfl rfl ?_
  refine sc_iconst (v := (4 : Int32)) X (dkX11_init (189, .iconst 4, 1) (pgm 91 rfl)) ic_4 ?_
  refine sc_geF (tgt := 212) X (dkX11_init (190, .if_icmp .ge 22, 3) (pgm 92 rfl)) rfl (by decide) ?_
  refine sc_aload_n (i := 0) X 1 (dkX11_init (193, .aload_n 0, 1) (pgm 93 rfl)) rfl rfl ?_
  refine sc_getR (v := 84) X fg_11_12 lk_577 (by decide +kernel) (by decide) rfl (dkX11_init (194, .getfield 95, 3) (pgm 94 rfl)) ?_
  refine sc_iload_n (i := 1) X 0 (dkX11_init (197, .iload_n 1, 1) (pgm 95 rfl)) rfl rfl ?_
  refine sc_new (ci := 10) (N := 3) X iw_10 rfl tyX10_ok dv_10 (by decide) lk_538 lk_540 lk_133 (by decide +kernel) (Nat.le_of_ble_eq_true rfl) (Nat.le_of_ble_eq_true rfl) (dkX11_init (198, .new 93, 3) (pgm 96 rfl)) ?_
  refine sc_dup X (dkX11_init (201, .dup, 1) (pgm 97 rfl)) rfl ?_
  refine sc_callN (na := 0) (As := []) X hnc (cc_X10_init l 92 91 _ _ (by decide) (by decide +kernel) (by decide +kernel)) rfl (by decide) lk_542 lk_133 lk_543 rfl (by decide +kernel) rfl rfl rfl (rm_okxx (by omega) (by decide)) ⟨Nat.le_of_ble_eq_true rfl, Nat.le_of_ble_eq_true rfl⟩ (Nat.le_of_ble_eq_true rfl) (dkX11_init (202, .invokespecial 99, 3) (pgm 98 rfl)) ?_ rfl
  refine sc_aast (N := 4) (c0 := 19) (ci := 10) (iN := 3) (t0 := 6) X (by decide) (by decide +kernel) (by decide) (by decide) (by decide) (by decide +kernel) (by decide) (by decide) rfl (fun _ => rfl) (by decide) (dkX11_init (205, .aastore, 1) (pgm 99 rfl)) (by omega) ?_
  refine sc_iinc (i := 1) (v := (4 : Int32)) (L' := [(1, .int (4 : Int32)), (0, .ref 0)]) X 0 (dkX11_init (206, .iinc 1 1, 3) (pgm 100 rfl)) rfl (by decide) (by decide) rfl ?_
  refine sc_goto (tgt := 188) X (dkX11_init (209, .goto (-21), 3) (pgm 101 rfl)) rfl ?_
  refine sc_iload_n (i := 1) X 0 (dkX11_init (188, .iload_n 1, 1) (pgm 90 rfl)) rfl rfl ?_
  refine sc_iconst (v := (4 : Int32)) X (dkX11_init (189, .iconst 4, 1) (pgm 91 rfl)) ic_4 ?_
  refine sc_geT (tgt := 212) X (dkX11_init (190, .if_icmp .ge 22, 3) (pgm 92 rfl)) rfl (by decide) ?_
  refine sc_aload_n (i := 0) X 1 (dkX11_init (212, .aload_n 0, 1) (pgm 102 rfl)) rfl rfl ?_
  refine sc_iconst (v := (3 : Int32)) X (dkX11_init (213, .iconst 3, 1) (pgm 103 rfl)) ic_3 ?_
  refine sc_newR (N := 3) X lk_158 (by decide) (by decide) (by decide) (t0 := 7) (fun _ => rfl) (by decide +kernel) (by decide) (by decide) (Nat.le_of_ble_eq_true rfl) (Nat.le_of_ble_eq_true rfl) (Nat.le_of_ble_eq_true rfl) (dkX11_init (214, .anewarray 17, 3) (pgm 104 rfl)) ?_
  refine sc_putFR X fg_11_13 lk_578 (by decide +kernel) (by decide) fu_11 rfl hmi rfl (fun _ => rfl) (fun _ => rfl) (dkX11_init (217, .putfield 100, 3) (pgm 105 rfl)) (by omega) ?_
  refine sc_aload_n (i := 0) X 1 (dkX11_init (220, .aload_n 0, 1) (pgm 106 rfl)) rfl rfl ?_
  refine sc_iconst (v := (3 : Int32)) X (dkX11_init (221, .iconst 3, 1) (pgm 107 rfl)) ic_3 ?_
  refine sc_newR (N := 3) X lk_327 (by decide) (by decide) (by decide) (t0 := 8) (fun _ => rfl) (by decide +kernel) (by decide) (by decide) (Nat.le_of_ble_eq_true rfl) (Nat.le_of_ble_eq_true rfl) (Nat.le_of_ble_eq_true rfl) (dkX11_init (222, .anewarray 36, 3) (pgm 108 rfl)) ?_
  refine sc_putFR X fg_11_14 lk_579 (by decide +kernel) (by decide) fu_11 rfl hmi rfl (fun _ => rfl) (fun _ => rfl) (dkX11_init (225, .putfield 104, 3) (pgm 109 rfl)) (by omega) ?_
  refine sc_iconst (v := (0 : Int32)) X (dkX11_init (228, .iconst 0, 1) (pgm 110 rfl)) ic_0 ?_
  refine sc_istore_n (i := 1) (L' := [(1, .int (0 : Int32)), (0, .ref 0)]) X (dkX11_init (229, .istore_n 1, 1) (pgm 111 rfl)) rfl (by decide) rfl ?_
  refine sc_iload_n (i := 1) X 0 (dkX11_init (230, .iload_n 1, 1) (pgm 112 rfl)) rfl rfl ?_
  refine sc_iconst (v := (3 : Int32)) X (dkX11_init (231, .iconst 3, 1) (pgm 113 rfl)) ic_3 ?_
  refine sc_geF (tgt := 267) X (dkX11_init (232, .if_icmp .ge 35, 3) (pgm 114 rfl)) rfl (by decide) ?_
  refine sc_aload_n (i := 0) X 1 (dkX11_init (235, .aload_n 0, 1) (pgm 115 rfl)) rfl rfl ?_
  refine sc_getR (v := 93) X fg_11_13 lk_578 (by decide +kernel) (by decide) rfl (dkX11_init (236, .getfield 100, 3) (pgm 116 rfl)) ?_
  refine sc_iload_n (i := 1) X 0 (dkX11_init (239, .iload_n 1, 1) (pgm 117 rfl)) rfl rfl ?_
  refine sc_new (ci := 8) (N := 16) X iw_8 rfl tyX8_ok dv_8 (by decide) lk_158 lk_159 lk_122 (by decide +kernel) (Nat.le_of_ble_eq_true rfl) (Nat.le_of_ble_eq_true rfl) (dkX11_init (240, .new 17, 3) (pgm 118 rfl)) ?_
  refine sc_dup X (dkX11_init (243, .dup, 1) (pgm 119 rfl)) rfl ?_
  refine sc_callN (na := 0) (As := []) X hnc (cc_X8_init l 96 95 _ _ (by decide) (by decide +kernel) (by decide +kernel) (by decide +kernel) (by decide +kernel) (by decide +kernel)) rfl (by decide) lk_161 lk_122 lk_162 rfl (by decide +kernel) rfl rfl rfl (rm_okxx (by omega) (by decide)) ⟨Nat.le_of_ble_eq_true rfl, Nat.le_of_ble_eq_true rfl⟩ (Nat.le_of_ble_eq_true rfl) (dkX11_init (244, .invokespecial 19, 3) (pgm 120 rfl)) ?_ rfl
  refine sc_aast (N := 3) (c0 := 20) (ci := 8) (iN := 0) (t0 := 7) X (by decide) (by decide +kernel) (by decide) (by decide) (by decide) (by decide +kernel) (by decide) (by decide) rfl (fun _ => rfl) (by decide) (dkX11_init (247, .aastore, 1) (pgm 121 rfl)) (by omega) ?_
  refine sc_aload_n (i := 0) X 1 (dkX11_init (248, .aload_n 0, 1) (pgm 122 rfl)) rfl rfl ?_
  refine sc_getR (v := 94) X fg_11_14 lk_579 (by decide +kernel) (by decide) rfl (dkX11_init (249, .getfield 104, 3) (pgm 123 rfl)) ?_
  refine sc_iload_n (i := 1) X 0 (dkX11_init (252, .iload_n 1, 1) (pgm 124 rfl)) rfl rfl ?_
  refine sc_new (ci := 0) (N := 6) X iw_0 rfl tyX0_ok dv_0 (by decide) lk_327 lk_328 lk_125 (by decide +kernel) (Nat.le_of_ble_eq_true rfl) (Nat.le_of_ble_eq_true rfl) (dkX11_init (253, .new 36, 3) (pgm 125 rfl)) ?_
  refine sc_dup X (dkX11_init (256, .dup, 1) (pgm 126 rfl)) rfl ?_
  refine sc_callN (na := 0) (As := []) X hnc (cc_X0_init l 101 100 _ _ (by decide) (by decide +kernel) (by decide +kernel) (by decide +kernel) (by decide +kernel) (by decide +kernel)) rfl (by decide) lk_330 lk_125 lk_331 rfl (by decide +kernel) rfl rfl rfl (rm_okxx (by omega) (by decide)) ⟨Nat.le_of_ble_eq_true rfl, Nat.le_of_ble_eq_true rfl⟩ (Nat.le_of_ble_eq_true rfl) (dkX11_init (257, .invokespecial 38, 3) (pgm 127 rfl)) ?_ rfl
  refine sc_aast (N := 3) (c0 := 21) (ci := 0) (iN := 0) (t0 := 8) X (by decide) (by decide +kernel) (by decide) (by decide) (by decide) (by decide +kernel) (by decide) (by decide) rfl (fun _ => rfl) (by decide) (dkX11_init (260, .aastore, 1) (pgm 128 rfl)) (by omega) ?_
  refine sc_iinc (i := 1) (v := (1 : Int32)) (L' := [(1, .int (1 : Int32)), (0, .ref 0)]) X 0 (dkX11_init (261, .iinc 1 1, 3) (pgm 129 rfl)) rfl (by decide) (by decide) rfl ?_
  refine sc_goto (tgt := 230) X (dkX11_init (264, .goto (-34), 3) (pgm 130 rfl)) rfl ?_
  refine sc_iload_n (i := 1) X 0 (dkX11_init (230, .iload_n 1, 1) (pgm 112 rfl)) rfl rfl ?_
  refine sc_iconst (v := (3 : Int32)) X (dkX11_init (231, .iconst 3, 1) (pgm 113 rfl)) ic_3 ?_
  refine sc_geF (tgt := 267) X (dkX11_init (232, .if_icmp .ge 35, 3) (pgm 114 rfl)) rfl (by decide) ?_
  refine sc_aload_n (i := 0) X 1 (dkX11_init (235, .aload_n 0, 1) (pgm 115 rfl)) rfl rfl ?_
  refine sc_getR (v := 93) X fg_11_13 lk_578 (by decide +kernel) (by decide) rfl (dkX11_init (236, .getfield 100, 3) (pgm 116 rfl)) ?_
  refine sc_iload_n (i := 1) X 0 (dkX11_init (239, .iload_n 1, 1) (pgm 117 rfl)) rfl rfl ?_
  refine sc_new (ci := 8) (N := 16) X iw_8 rfl tyX8_ok dv_8 (by decide) lk_158 lk_159 lk_122 (by decide +kernel) (Nat.le_of_ble_eq_true rfl) (Nat.le_of_ble_eq_true rfl) (dkX11_init (240, .new 17, 3) (pgm 118 rfl)) ?_
  refine sc_dup X (dkX11_init (243, .dup, 1) (pgm 119 rfl)) rfl ?_
  refine sc_callN (na := 0) (As := []) X hnc (cc_X8_init l 115 114 _ _ (by decide) (by decide +kernel) (by decide +kernel) (by decide +kernel) (by decide +kernel) (by decide +kernel)) rfl (by decide) lk_161 lk_122 lk_162 rfl (by decide +kernel) rfl rfl rfl (rm_okxx (by omega) (by decide)) ⟨Nat.le_of_ble_eq_true rfl, Nat.le_of_ble_eq_true rfl⟩ (Nat.le_of_ble_eq_true rfl) (dkX11_init (244, .invokespecial 19, 3) (pgm 120 rfl)) ?_ rfl
  refine sc_aast (N := 3) (c0 := 20) (ci := 8) (iN := 1) (t0 := 7) X (by decide) (by decide +kernel) (by decide) (by decide) (by decide) (by decide +kernel) (by decide) (by decide) rfl (fun _ => rfl) (by decide) (dkX11_init (247, .aastore, 1) (pgm 121 rfl)) (by omega) ?_
  refine sc_aload_n (i := 0) X 1 (dkX11_init (248, .aload_n 0, 1) (pgm 122 rfl)) rfl rfl ?_
  refine sc_getR (v := 94) X fg_11_14 lk_579 (by decide +kernel) (by decide) rfl (dkX11_init (249, .getfield 104, 3) (pgm 123 rfl)) ?_
  refine sc_iload_n (i := 1) X 0 (dkX11_init (252, .iload_n 1, 1) (pgm 124 rfl)) rfl rfl ?_
  refine sc_new (ci := 0) (N := 6) X iw_0 rfl tyX0_ok dv_0 (by decide) lk_327 lk_328 lk_125 (by decide +kernel) (Nat.le_of_ble_eq_true rfl) (Nat.le_of_ble_eq_true rfl) (dkX11_init (253, .new 36, 3) (pgm 125 rfl)) ?_
  refine sc_dup X (dkX11_init (256, .dup, 1) (pgm 126 rfl)) rfl ?_
  refine sc_callN (na := 0) (As := []) X hnc (cc_X0_init l 120 119 _ _ (by decide) (by decide +kernel) (by decide +kernel) (by decide +kernel) (by decide +kernel) (by decide +kernel)) rfl (by decide) lk_330 lk_125 lk_331 rfl (by decide +kernel) rfl rfl rfl (rm_okxx (by omega) (by decide)) ⟨Nat.le_of_ble_eq_true rfl, Nat.le_of_ble_eq_true rfl⟩ (Nat.le_of_ble_eq_true rfl) (dkX11_init (257, .invokespecial 38, 3) (pgm 127 rfl)) ?_ rfl
  refine sc_aast (N := 3) (c0 := 21) (ci := 0) (iN := 1) (t0 := 8) X (by decide) (by decide +kernel) (by decide) (by decide) (by decide) (by decide +kernel) (by decide) (by decide) rfl (fun _ => rfl) (by decide) (dkX11_init (260, .aastore, 1) (pgm 128 rfl)) (by omega) ?_
  refine sc_iinc (i := 1) (v := (2 : Int32)) (L' := [(1, .int (2 : Int32)), (0, .ref 0)]) X 0 (dkX11_init (261, .iinc 1 1, 3) (pgm 129 rfl)) rfl (by decide) (by decide) rfl ?_
  refine sc_goto (tgt := 230) X (dkX11_init (264, .goto (-34), 3) (pgm 130 rfl)) rfl ?_
  refine sc_iload_n (i := 1) X 0 (dkX11_init (230, .iload_n 1, 1) (pgm 112 rfl)) rfl rfl ?_
  refine sc_iconst (v := (3 : Int32)) X (dkX11_init (231, .iconst 3, 1) (pgm 113 rfl)) ic_3 ?_
  refine sc_geF (tgt := 267) X (dkX11_init (232, .if_icmp .ge 35, 3) (pgm 114 rfl)) rfl (by decide) ?_
  refine sc_aload_n (i := 0) X 1 (dkX11_init (235, .aload_n 0, 1) (pgm 115 rfl)) rfl rfl ?_
  refine sc_getR (v := 93) X fg_11_13 lk_578 (by decide +kernel) (by decide) rfl (dkX11_init (236, .getfield 100, 3) (pgm 116 rfl)) ?_
  refine sc_iload_n (i := 1) X 0 (dkX11_init (239, .iload_n 1, 1) (pgm 117 rfl)) rfl rfl ?_
  refine sc_new (ci := 8) (N := 16) X iw_8 rfl tyX8_ok dv_8 (by decide) lk_158 lk_159 lk_122 (by decide +kernel) (Nat.le_of_ble_eq_true rfl) (Nat.le_of_ble_eq_true rfl) (dkX11_init (240, .new 17, 3) (pgm 118 rfl)) ?_
  refine sc_dup X (dkX11_init (243, .dup, 1) (pgm 119 rfl)) rfl ?_
  refine sc_callN (na := 0) (As := []) X hnc (cc_X8_init l 134 133 _ _ (by decide) (by decide +kernel) (by decide +kernel) (by decide +kernel) (by decide +kernel) (by decide +kernel)) rfl (by decide) lk_161 lk_122 lk_162 rfl (by decide +kernel) rfl rfl rfl (rm_okxx (by omega) (by decide)) ⟨Nat.le_of_ble_eq_true rfl, Nat.le_of_ble_eq_true rfl⟩ (Nat.le_of_ble_eq_true rfl) (dkX11_init (244, .invokespecial 19, 3) (pgm 120 rfl)) ?_ rfl
  refine sc_aast (N := 3) (c0 := 20) (ci := 8) (iN := 2) (t0 := 7) X (by decide) (by decide +kernel) (by decide) (by decide) (by decide) (by decide +kernel) (by decide) (by decide) rfl (fun _ => rfl) (by decide) (dkX11_init (247, .aastore, 1) (pgm 121 rfl)) (by omega) ?_
  refine sc_aload_n (i := 0) X 1 (dkX11_init (248, .aload_n 0, 1) (pgm 122 rfl)) rfl rfl ?_
  refine sc_getR (v := 94) X fg_11_14 lk_579 (by decide +kernel) (by decide) rfl (dkX11_init (249, .getfield 104, 3) (pgm 123 rfl)) ?_
  refine sc_iload_n (i := 1) X 0 (dkX11_init (252, .iload_n 1, 1) (pgm 124 rfl)) rfl rfl ?_
  refine sc_new (ci := 0) (N := 6) X iw_0 rfl tyX0_ok dv_0 (by decide) lk_327 lk_328 lk_125 (by decide +kernel) (Nat.le_of_ble_eq_true rfl) (Nat.le_of_ble_eq_true rfl) (dkX11_init (253, .new 36, 3) (pgm 125 rfl)) ?_
  refine sc_dup X (dkX11_init (256, .dup, 1) (pgm 126 rfl)) rfl ?_
  refine sc_callN (na := 0) (As := []) X hnc (cc_X0_init l 139 138 _ _ (by decide) (by decide +kernel) (by decide +kernel) (by decide +kernel) (by decide +kernel) (by decide +kernel)) rfl (by decide) lk_330 lk_125 lk_331 rfl (by decide +kernel) rfl rfl rfl (rm_okxx (by omega) (by decide)) ⟨Nat.le_of_ble_eq_true rfl, Nat.le_of_ble_eq_true rfl⟩ (Nat.le_of_ble_eq_true rfl) (dkX11_init (257, .invokespecial 38, 3) (pgm 127 rfl)) ?_ rfl
  refine sc_aast (N := 3) (c0 := 21) (ci := 0) (iN := 2) (t0 := 8) X (by decide) (by decide +kernel) (by decide) (by decide) (by decide) (by decide +kernel) (by decide) (by decide) rfl (fun _ => rfl) (by decide) (dkX11_init (260, .aastore, 1) (pgm 128 rfl)) (by omega) ?_
  refine sc_iinc (i := 1) (v := (3 : Int32)) (L' := [(1, .int (3 : Int32)), (0, .ref 0)]) X 0 (dkX11_init (261, .iinc 1 1, 3) (pgm 129 rfl)) rfl (by decide) (by decide) rfl ?_
  refine sc_goto (tgt := 230) X (dkX11_init (264, .goto (-34), 3) (pgm 130 rfl)) rfl ?_
  refine sc_iload_n (i := 1) X 0 (dkX11_init (230, .iload_n 1, 1) (pgm 112 rfl)) rfl rfl ?_
  refine sc_iconst (v := (3 : Int32)) X (dkX11_init (231, .iconst 3, 1) (pgm 113 rfl)) ic_3 ?_
  refine sc_geT (tgt := 267) X (dkX11_init (232, .if_icmp .ge 35, 3) (pgm 114 rfl)) rfl (by decide) ?_
  exact sc_vret X hr hlk (dkX11_init (267, .return_, 1) (pgm 131 rfl))
def pgX12_init : List (Nat × Instr × Nat) := [(0, .aload_n 0, 1), (1, .invokespecial 1, 3), (4, .aload_n 0, 1), (5, .sipush 1200, 3), (8, .newarray .int, 2), (10, .putfield 9, 3), (13, .aload_n 0, 1), (14, .sipush 1200, 3), (17, .newarray .int, 2), (19, .putfield 13, 3), (22, .aload_n 0, 1), (23, .sipush 3600, 3), (26, .newarray .int, 2), (28, .putfield 16, 3), (31, .aload_n 0, 1), (32, .bipush 17, 2), (34, .newarray .int, 2), (36, .putfield 19, 3), (39, .aload_n 0, 1), (40, .iconst 3, 1), (41, .newarray .boolean, 2), (43, .putfield 22, 3), (46, .aload_n 0, 1), (47, .sipush 900, 3), (50, .newarray .int, 2), (52, .putfield 26, 3), (55, .aload_n 0, 1), (56, .iconst (-1), 1), (57, .putfield 29, 3), (60, .aload_n 0, 1), (61, .ldc 33, 2), (63, .newarray .boolean, 2), (65, .putfield 34, 3), (68, .aload_n 0, 1), (69, .sipush 4096, 3), (72, .newarray .int, 2), (74, .putfield 37, 3), (77, .aload_n 0, 1), (78, .bipush 64, 2), (80, .newarray .int, 2), (82, .putfield 40, 3), (85, .aload_n 0, 1), (86, .sipush 4096, 3), (89, .newarray .int, 2), (91, .putfield 43, 3), (94, .aload_n 0, 1), (95, .sipush 1024, 3), (98, .newarray .boolean, 2), (100, .putfield 46, 3), (103, .aload_n 0, 1), (104, .sipush 1024, 3), (107, .newarray .int, 2), (109, .putfield 49, 3), (112, .aload_n 0, 1), (113, .bipush 10, 2), (115, .newarray .int, 2), (117, .putfield 52, 3), (120, .aload_n 0, 1), (121, .bipush 10, 2), (123, .newarray .int, 2), (125, .putfield 55, 3), (128, .aload_n 0, 1), (129, .bipush 10, 2), (131, .newarray .int, 2), (133, .putfield 58, 3), (136, .aload_n 0, 1), (137, .iconst 3, 1), (138, .newarray .int, 2), (140, .putfield 61, 3), (143, .aload_n 0, 1), (144, .iconst 3, 1), (145, .newarray .int, 2), (147, .putfield 64, 3), (150, .aload_n 0, 1), (151, .sipush 2496, 3), (154, .newarray .long, 2), (156, .putfield 67, 3), (159, .aload_n 0, 1), (160, .bipush 25, 2), (162, .newarray .int, 2), (164, .putfield 71, 3), (167, .aload_n 0, 1), (168, .bipush 25, 2), (170, .newarray .int, 2), (172, .putfield 74, 3), (175, .aload_n 0, 1), (176, .bipush 49, 2), (178, .newarray .long, 2), (180, .putfield 77, 3), (183, .aload_n 0, 1), (184, .iconst 4, 1), (185, .newarray .int, 2), (187, .dup, 1), (188, .iconst 0, 1), (189, .iconst (-1), 1), (190, .iastore, 1), (191, .dup, 1), (192, .iconst 1, 1), (193, .iconst (-1), 1), (194, .iastore, 1), (195, .dup, 1), (196, .iconst 2, 1), (197, .iconst (-1), 1), (198, .iastore, 1), (199, .dup, 1), (200, .iconst 3, 1), (201, .iconst (-1), 1), (202, .iastore, 1), (203, .putfield 80, 3), (206, .aload_n 0, 1), (207, .iconst 4, 1), (208, .newarray .int, 2), (210, .putfield 83, 3), (213, .aload_n 0, 1), (214, .bipush 120, 2), (216, .newarray .long, 2), (218, .putfield 86, 3), (221, .aload_n 0, 1), (222, .getfield 9, 3), (225, .iconst 3, 1), (226, .iconst 3, 1), (227, .iastore, 1), (228, .aload_n 0, 1), (229, .invokevirtual 89, 3), (232, .return_, 1)]
theorem dkX12_init : ∀ q ∈ pgX12_init, decode cX12_init q.1 = .ok q.2 := by decide +kernel
def q_X12_init (Q : RF) : RF := rU (rU (rU (rU (rU (rU (rU (rU (rU (rU (rU (rU (rU (rU (rU (rU (rU (rU (rU (rU (rU (rU (rU (rU (Q) 152 0 153) 152 1 154) 152 2 155) 152 3 156) 152 4 157) 152 6 158) 152 18 159) 152 19 160) 152 20 161) 152 21 162) 152 22 163) 152 23 164) 152 24 165) 152 25 166) 152 26 167) 152 27 168) 152 28 169) 152 30 170) 152 31 171) 152 32 172) 152 35 173) 152 36 174) 152 37 175) 152 38 176
def h_X12_init (h : PH) : PH := pI (pI (pI (pI (pI (pI (h) 152 16 (-1 : Int32)) 174 0 (-1 : Int32)) 174 1 (-1 : Int32)) 174 2 (-1 : Int32)) 174 3 (-1 : Int32)) 153 3 (3 : Int32)
theorem zz_X12_init {Q : RF} {h : PH} (hz : ZZ 177 h Q) : ZZ 177 (h_X12_init h) (q_X12_init Q) := by
  unfold h_X12_init q_X12_init
  repeat (first | exact hz | refine ZZ_pI ?_ (by omega) | refine ZZ_rU ?_ (by omega) | refine ZZ_rM ?_ (by omega) | refine ZZ_flI ?_ (by omega) | refine zz_X10_init (by omega) (by omega) ?_ | refine zz_X8_init (by omega) (by omega) ?_ | refine zz_X0_init (by omega) (by omega) ?_ | refine zz_X9_init (by omega) (by omega) (by omega) ?_ | refine zz_X1_init (by omega) (by omega) (by omega) (by omega) ?_ | refine zz_X2_init (by omega) (by omega) (by omega) (by omega) (by omega) ?_ | refine zz_X4_init (by omega) (by omega) ?_ | refine zz_X5_init (by omega) (by omega) (by omega) ?_ | refine zz_X7_init (by omega) (by omega) (by omega) (by omega) (by omega) ?_ | refine zz_X3_init (by omega) (by omega) (by omega) ?_ | refine zz_X6_init (by omega) (by omega) (by omega) (by omega) ?_)
set_option maxRecDepth 100000 in
set_option maxHeartbeats 8000000 in
theorem cc_X12_init (l : Launch) (Q : RF) (h : PH) (h9 : PH) (hlay : CTc l yX12_laysTruths cX12_laysTruths 3 (rmx 4 0 0) [.ref 152] 177 (q_X12_init Q) (h_X12_init h) 177 (q_X12_init Q) h9 0 0) : CTc l yX12_init cX12_init 1 (rmx 5 24 60943) [.ref 152] 153 Q h 177 (q_X12_init Q) h9 24 60943 := by
  refine ctc_of (by decide) (Nat.le_of_ble_eq_true rfl) (fun hz => (hlay (zz_X12_init (hz.up (by decide)))).1) ?_
  intro p e s m args below meth c D cA b hnc X hr hlk hmi hbn
  have X : Cc p s m args c RX12 cX12_init 1 D cA b := X
  refine sc_pick (L' := [(0, .ref 152)]) X [0] rfl ?_
  refine sc_aload_n (i := 0) X 0 (dkX12_init (0, .aload_n 0, 1) (pgm 0 rfl)) rfl rfl ?_
  refine sc_objInit X lk_1658 lk_156 lk_157 (dkX12_init (1, .invokespecial 1, 3) (pgm 1 rfl)) (Nat.le_of_ble_eq_true rfl) (Nat.le_of_ble_eq_true rfl) ?_
  refine sc_aload_n (i := 0) X 0 (dkX12_init (4, .aload_n 0, 1) (pgm 2 rfl)) rfl rfl ?_
  refine sc_sipush (v := (1200 : Int32)) X (dkX12_init (5, .sipush 1200, 3) (pgm 3 rfl)) sp_1200 ?_
  refine sc_newI (N := 1200) X lk_257 (by decide +kernel) (by decide) (by decide) (Nat.le_of_ble_eq_true rfl) (Nat.le_of_ble_eq_true rfl) (Nat.le_of_ble_eq_true rfl) (dkX12_init (8, .newarray .int, 2) (pgm 4 rfl)) ?_
  refine sc_putFR X fg_12_0 lk_1702 (by decide +kernel) (by decide) fu_12 rfl hmi rfl (fun _ => rfl) (fun _ => rfl) (dkX12_init (10, .putfield 9, 3) (pgm 5 rfl)) (by omega) ?_
  refine sc_aload_n (i := 0) X 0 (dkX12_init (13, .aload_n 0, 1) (pgm 6 rfl)) rfl rfl ?_
  refine sc_sipush (v := (1200 : Int32)) X (dkX12_init (14, .sipush 1200, 3) (pgm 7 rfl)) sp_1200 ?_
  refine sc_newI (N := 1200) X lk_257 (by decide +kernel) (by decide) (by decide) (Nat.le_of_ble_eq_true rfl) (Nat.le_of_ble_eq_true rfl) (Nat.le_of_ble_eq_true rfl) (dkX12_init (17, .newarray .int, 2) (pgm 8 rfl)) ?_
  refine sc_putFR X fg_12_1 lk_1703 (by decide +kernel) (by decide) fu_12 rfl hmi rfl (fun _ => rfl) (fun _ => rfl) (dkX12_init (19, .putfield 13, 3) (pgm 9 rfl)) (by omega) ?_
  refine sc_aload_n (i := 0) X 0 (dkX12_init (22, .aload_n 0, 1) (pgm 10 rfl)) rfl rfl ?_
  refine sc_sipush (v := (3600 : Int32)) X (dkX12_init (23, .sipush 3600, 3) (pgm 11 rfl)) sp_3600 ?_
  refine sc_newI (N := 3600) X lk_257 (by decide +kernel) (by decide) (by decide) (Nat.le_of_ble_eq_true rfl) (Nat.le_of_ble_eq_true rfl) (Nat.le_of_ble_eq_true rfl) (dkX12_init (26, .newarray .int, 2) (pgm 12 rfl)) ?_
  refine sc_putFR X fg_12_2 lk_1704 (by decide +kernel) (by decide) fu_12 rfl hmi rfl (fun _ => rfl) (fun _ => rfl) (dkX12_init (28, .putfield 16, 3) (pgm 13 rfl)) (by omega) ?_
  refine sc_aload_n (i := 0) X 0 (dkX12_init (31, .aload_n 0, 1) (pgm 14 rfl)) rfl rfl ?_
  refine sc_bipush (v := (17 : Int32)) X (dkX12_init (32, .bipush 17, 2) (pgm 15 rfl)) bp_17 ?_
  refine sc_newI (N := 17) X lk_257 (by decide +kernel) (by decide) (by decide) (Nat.le_of_ble_eq_true rfl) (Nat.le_of_ble_eq_true rfl) (Nat.le_of_ble_eq_true rfl) (dkX12_init (34, .newarray .int, 2) (pgm 16 rfl)) ?_
  refine sc_putFR X fg_12_3 lk_1705 (by decide +kernel) (by decide) fu_12 rfl hmi rfl (fun _ => rfl) (fun _ => rfl) (dkX12_init (36, .putfield 19, 3) (pgm 17 rfl)) (by omega) ?_
  refine sc_aload_n (i := 0) X 0 (dkX12_init (39, .aload_n 0, 1) (pgm 18 rfl)) rfl rfl ?_
  refine sc_iconst (v := (3 : Int32)) X (dkX12_init (40, .iconst 3, 1) (pgm 19 rfl)) ic_3 ?_
  refine sc_newZ (N := 3) X lk_256 (by decide +kernel) (by decide) (by decide) (Nat.le_of_ble_eq_true rfl) (Nat.le_of_ble_eq_true rfl) (Nat.le_of_ble_eq_true rfl) (dkX12_init (41, .newarray .boolean, 2) (pgm 20 rfl)) ?_
  refine sc_putFR X fg_12_4 lk_1706 (by decide +kernel) (by decide) fu_12 rfl hmi rfl (fun _ => rfl) (fun _ => rfl) (dkX12_init (43, .putfield 22, 3) (pgm 21 rfl)) (by omega) ?_
  refine sc_aload_n (i := 0) X 0 (dkX12_init (46, .aload_n 0, 1) (pgm 22 rfl)) rfl rfl ?_
  refine sc_sipush (v := (900 : Int32)) X (dkX12_init (47, .sipush 900, 3) (pgm 23 rfl)) sp_900 ?_
  refine sc_newI (N := 900) X lk_257 (by decide +kernel) (by decide) (by decide) (Nat.le_of_ble_eq_true rfl) (Nat.le_of_ble_eq_true rfl) (Nat.le_of_ble_eq_true rfl) (dkX12_init (50, .newarray .int, 2) (pgm 24 rfl)) ?_
  refine sc_putFR X fg_12_6 lk_1708 (by decide +kernel) (by decide) fu_12 rfl hmi rfl (fun _ => rfl) (fun _ => rfl) (dkX12_init (52, .putfield 26, 3) (pgm 25 rfl)) (by omega) ?_
  refine sc_aload_n (i := 0) X 0 (dkX12_init (55, .aload_n 0, 1) (pgm 26 rfl)) rfl rfl ?_
  refine sc_iconst (v := (-1 : Int32)) X (dkX12_init (56, .iconst (-1), 1) (pgm 27 rfl)) ic_m1 ?_
  refine sc_putI X fg_12_16 lk_1718 (by decide +kernel) (by decide) fu_12 rfl rfl rfl (dkX12_init (57, .putfield 29, 3) (pgm 28 rfl)) (by omega) ?_
  refine sc_aload_n (i := 0) X 0 (dkX12_init (60, .aload_n 0, 1) (pgm 29 rfl)) rfl rfl ?_
  refine sc_ldc X lk_1659 (dkX12_init (61, .ldc 33, 2) (pgm 30 rfl)) ?_
  refine sc_newZ (N := 40960) X lk_256 (by decide +kernel) (by decide) (by decide) (Nat.le_of_ble_eq_true rfl) (Nat.le_of_ble_eq_true rfl) (Nat.le_of_ble_eq_true rfl) (dkX12_init (63, .newarray .boolean, 2) (pgm 31 rfl)) ?_
  refine sc_putFR X fg_12_18 lk_1720 (by decide +kernel) (by decide) fu_12 rfl hmi rfl (fun _ => rfl) (fun _ => rfl) (dkX12_init (65, .putfield 34, 3) (pgm 32 rfl)) (by omega) ?_
  refine sc_aload_n (i := 0) X 0 (dkX12_init (68, .aload_n 0, 1) (pgm 33 rfl)) rfl rfl ?_
  refine sc_sipush (v := (4096 : Int32)) X (dkX12_init (69, .sipush 4096, 3) (pgm 34 rfl)) sp_4096 ?_
  refine sc_newI (N := 4096) X lk_257 (by decide +kernel) (by decide) (by decide) (Nat.le_of_ble_eq_true rfl) (Nat.le_of_ble_eq_true rfl) (Nat.le_of_ble_eq_true rfl) (dkX12_init (72, .newarray .int, 2) (pgm 35 rfl)) ?_
  refine sc_putFR X fg_12_19 lk_1721 (by decide +kernel) (by decide) fu_12 rfl hmi rfl (fun _ => rfl) (fun _ => rfl) (dkX12_init (74, .putfield 37, 3) (pgm 36 rfl)) (by omega) ?_
  refine sc_aload_n (i := 0) X 0 (dkX12_init (77, .aload_n 0, 1) (pgm 37 rfl)) rfl rfl ?_
  refine sc_bipush (v := (64 : Int32)) X (dkX12_init (78, .bipush 64, 2) (pgm 38 rfl)) bp_64 ?_
  refine sc_newI (N := 64) X lk_257 (by decide +kernel) (by decide) (by decide) (Nat.le_of_ble_eq_true rfl) (Nat.le_of_ble_eq_true rfl) (Nat.le_of_ble_eq_true rfl) (dkX12_init (80, .newarray .int, 2) (pgm 39 rfl)) ?_
  refine sc_putFR X fg_12_20 lk_1722 (by decide +kernel) (by decide) fu_12 rfl hmi rfl (fun _ => rfl) (fun _ => rfl) (dkX12_init (82, .putfield 40, 3) (pgm 40 rfl)) (by omega) ?_
  refine sc_aload_n (i := 0) X 0 (dkX12_init (85, .aload_n 0, 1) (pgm 41 rfl)) rfl rfl ?_
  refine sc_sipush (v := (4096 : Int32)) X (dkX12_init (86, .sipush 4096, 3) (pgm 42 rfl)) sp_4096 ?_
  refine sc_newI (N := 4096) X lk_257 (by decide +kernel) (by decide) (by decide) (Nat.le_of_ble_eq_true rfl) (Nat.le_of_ble_eq_true rfl) (Nat.le_of_ble_eq_true rfl) (dkX12_init (89, .newarray .int, 2) (pgm 43 rfl)) ?_
  refine sc_putFR X fg_12_21 lk_1723 (by decide +kernel) (by decide) fu_12 rfl hmi rfl (fun _ => rfl) (fun _ => rfl) (dkX12_init (91, .putfield 43, 3) (pgm 44 rfl)) (by omega) ?_
  refine sc_aload_n (i := 0) X 0 (dkX12_init (94, .aload_n 0, 1) (pgm 45 rfl)) rfl rfl ?_
  refine sc_sipush (v := (1024 : Int32)) X (dkX12_init (95, .sipush 1024, 3) (pgm 46 rfl)) sp_1024 ?_
  refine sc_newZ (N := 1024) X lk_256 (by decide +kernel) (by decide) (by decide) (Nat.le_of_ble_eq_true rfl) (Nat.le_of_ble_eq_true rfl) (Nat.le_of_ble_eq_true rfl) (dkX12_init (98, .newarray .boolean, 2) (pgm 47 rfl)) ?_
  refine sc_putFR X fg_12_22 lk_1724 (by decide +kernel) (by decide) fu_12 rfl hmi rfl (fun _ => rfl) (fun _ => rfl) (dkX12_init (100, .putfield 46, 3) (pgm 48 rfl)) (by omega) ?_
  refine sc_aload_n (i := 0) X 0 (dkX12_init (103, .aload_n 0, 1) (pgm 49 rfl)) rfl rfl ?_
  refine sc_sipush (v := (1024 : Int32)) X (dkX12_init (104, .sipush 1024, 3) (pgm 50 rfl)) sp_1024 ?_
  refine sc_newI (N := 1024) X lk_257 (by decide +kernel) (by decide) (by decide) (Nat.le_of_ble_eq_true rfl) (Nat.le_of_ble_eq_true rfl) (Nat.le_of_ble_eq_true rfl) (dkX12_init (107, .newarray .int, 2) (pgm 51 rfl)) ?_
  refine sc_putFR X fg_12_23 lk_1725 (by decide +kernel) (by decide) fu_12 rfl hmi rfl (fun _ => rfl) (fun _ => rfl) (dkX12_init (109, .putfield 49, 3) (pgm 52 rfl)) (by omega) ?_
  refine sc_aload_n (i := 0) X 0 (dkX12_init (112, .aload_n 0, 1) (pgm 53 rfl)) rfl rfl ?_
  refine sc_bipush (v := (10 : Int32)) X (dkX12_init (113, .bipush 10, 2) (pgm 54 rfl)) bp_10 ?_
  refine sc_newI (N := 10) X lk_257 (by decide +kernel) (by decide) (by decide) (Nat.le_of_ble_eq_true rfl) (Nat.le_of_ble_eq_true rfl) (Nat.le_of_ble_eq_true rfl) (dkX12_init (115, .newarray .int, 2) (pgm 55 rfl)) ?_
  refine sc_putFR X fg_12_24 lk_1726 (by decide +kernel) (by decide) fu_12 rfl hmi rfl (fun _ => rfl) (fun _ => rfl) (dkX12_init (117, .putfield 52, 3) (pgm 56 rfl)) (by omega) ?_
  refine sc_aload_n (i := 0) X 0 (dkX12_init (120, .aload_n 0, 1) (pgm 57 rfl)) rfl rfl ?_
  refine sc_bipush (v := (10 : Int32)) X (dkX12_init (121, .bipush 10, 2) (pgm 58 rfl)) bp_10 ?_
  refine sc_newI (N := 10) X lk_257 (by decide +kernel) (by decide) (by decide) (Nat.le_of_ble_eq_true rfl) (Nat.le_of_ble_eq_true rfl) (Nat.le_of_ble_eq_true rfl) (dkX12_init (123, .newarray .int, 2) (pgm 59 rfl)) ?_
  refine sc_putFR X fg_12_25 lk_1727 (by decide +kernel) (by decide) fu_12 rfl hmi rfl (fun _ => rfl) (fun _ => rfl) (dkX12_init (125, .putfield 55, 3) (pgm 60 rfl)) (by omega) ?_
  refine sc_aload_n (i := 0) X 0 (dkX12_init (128, .aload_n 0, 1) (pgm 61 rfl)) rfl rfl ?_
  refine sc_bipush (v := (10 : Int32)) X (dkX12_init (129, .bipush 10, 2) (pgm 62 rfl)) bp_10 ?_
  refine sc_newI (N := 10) X lk_257 (by decide +kernel) (by decide) (by decide) (Nat.le_of_ble_eq_true rfl) (Nat.le_of_ble_eq_true rfl) (Nat.le_of_ble_eq_true rfl) (dkX12_init (131, .newarray .int, 2) (pgm 63 rfl)) ?_
  refine sc_putFR X fg_12_26 lk_1728 (by decide +kernel) (by decide) fu_12 rfl hmi rfl (fun _ => rfl) (fun _ => rfl) (dkX12_init (133, .putfield 58, 3) (pgm 64 rfl)) (by omega) ?_
  refine sc_aload_n (i := 0) X 0 (dkX12_init (136, .aload_n 0, 1) (pgm 65 rfl)) rfl rfl ?_
  refine sc_iconst (v := (3 : Int32)) X (dkX12_init (137, .iconst 3, 1) (pgm 66 rfl)) ic_3 ?_
  refine sc_newI (N := 3) X lk_257 (by decide +kernel) (by decide) (by decide) (Nat.le_of_ble_eq_true rfl) (Nat.le_of_ble_eq_true rfl) (Nat.le_of_ble_eq_true rfl) (dkX12_init (138, .newarray .int, 2) (pgm 67 rfl)) ?_
  refine sc_putFR X fg_12_27 lk_1729 (by decide +kernel) (by decide) fu_12 rfl hmi rfl (fun _ => rfl) (fun _ => rfl) (dkX12_init (140, .putfield 61, 3) (pgm 68 rfl)) (by omega) ?_
  refine sc_aload_n (i := 0) X 0 (dkX12_init (143, .aload_n 0, 1) (pgm 69 rfl)) rfl rfl ?_
  refine sc_iconst (v := (3 : Int32)) X (dkX12_init (144, .iconst 3, 1) (pgm 70 rfl)) ic_3 ?_
  refine sc_newI (N := 3) X lk_257 (by decide +kernel) (by decide) (by decide) (Nat.le_of_ble_eq_true rfl) (Nat.le_of_ble_eq_true rfl) (Nat.le_of_ble_eq_true rfl) (dkX12_init (145, .newarray .int, 2) (pgm 71 rfl)) ?_
  refine sc_putFR X fg_12_28 lk_1730 (by decide +kernel) (by decide) fu_12 rfl hmi rfl (fun _ => rfl) (fun _ => rfl) (dkX12_init (147, .putfield 64, 3) (pgm 72 rfl)) (by omega) ?_
  refine sc_aload_n (i := 0) X 0 (dkX12_init (150, .aload_n 0, 1) (pgm 73 rfl)) rfl rfl ?_
  refine sc_sipush (v := (2496 : Int32)) X (dkX12_init (151, .sipush 2496, 3) (pgm 74 rfl)) sp_2496 ?_
  refine sc_newL (N := 2496) X lk_537 (by decide +kernel) (by decide) (by decide) (Nat.le_of_ble_eq_true rfl) (Nat.le_of_ble_eq_true rfl) (Nat.le_of_ble_eq_true rfl) (dkX12_init (154, .newarray .long, 2) (pgm 75 rfl)) ?_
  refine sc_putFR X fg_12_30 lk_1732 (by decide +kernel) (by decide) fu_12 rfl hmi rfl (fun _ => rfl) (fun _ => rfl) (dkX12_init (156, .putfield 67, 3) (pgm 76 rfl)) (by omega) ?_
  refine sc_aload_n (i := 0) X 0 (dkX12_init (159, .aload_n 0, 1) (pgm 77 rfl)) rfl rfl ?_
  refine sc_bipush (v := (25 : Int32)) X (dkX12_init (160, .bipush 25, 2) (pgm 78 rfl)) bp_25 ?_
  refine sc_newI (N := 25) X lk_257 (by decide +kernel) (by decide) (by decide) (Nat.le_of_ble_eq_true rfl) (Nat.le_of_ble_eq_true rfl) (Nat.le_of_ble_eq_true rfl) (dkX12_init (162, .newarray .int, 2) (pgm 79 rfl)) ?_
  refine sc_putFR X fg_12_31 lk_1733 (by decide +kernel) (by decide) fu_12 rfl hmi rfl (fun _ => rfl) (fun _ => rfl) (dkX12_init (164, .putfield 71, 3) (pgm 80 rfl)) (by omega) ?_
  refine sc_aload_n (i := 0) X 0 (dkX12_init (167, .aload_n 0, 1) (pgm 81 rfl)) rfl rfl ?_
  refine sc_bipush (v := (25 : Int32)) X (dkX12_init (168, .bipush 25, 2) (pgm 82 rfl)) bp_25 ?_
  refine sc_newI (N := 25) X lk_257 (by decide +kernel) (by decide) (by decide) (Nat.le_of_ble_eq_true rfl) (Nat.le_of_ble_eq_true rfl) (Nat.le_of_ble_eq_true rfl) (dkX12_init (170, .newarray .int, 2) (pgm 83 rfl)) ?_
  refine sc_putFR X fg_12_32 lk_1734 (by decide +kernel) (by decide) fu_12 rfl hmi rfl (fun _ => rfl) (fun _ => rfl) (dkX12_init (172, .putfield 74, 3) (pgm 84 rfl)) (by omega) ?_
  refine sc_aload_n (i := 0) X 0 (dkX12_init (175, .aload_n 0, 1) (pgm 85 rfl)) rfl rfl ?_
  refine sc_bipush (v := (49 : Int32)) X (dkX12_init (176, .bipush 49, 2) (pgm 86 rfl)) bp_49 ?_
  refine sc_newL (N := 49) X lk_537 (by decide +kernel) (by decide) (by decide) (Nat.le_of_ble_eq_true rfl) (Nat.le_of_ble_eq_true rfl) (Nat.le_of_ble_eq_true rfl) (dkX12_init (178, .newarray .long, 2) (pgm 87 rfl)) ?_
  refine sc_putFR X fg_12_35 lk_1737 (by decide +kernel) (by decide) fu_12 rfl hmi rfl (fun _ => rfl) (fun _ => rfl) (dkX12_init (180, .putfield 77, 3) (pgm 88 rfl)) (by omega) ?_
  refine sc_aload_n (i := 0) X 0 (dkX12_init (183, .aload_n 0, 1) (pgm 89 rfl)) rfl rfl ?_
  refine sc_iconst (v := (4 : Int32)) X (dkX12_init (184, .iconst 4, 1) (pgm 90 rfl)) ic_4 ?_
  refine sc_newI (N := 4) X lk_257 (by decide +kernel) (by decide) (by decide) (Nat.le_of_ble_eq_true rfl) (Nat.le_of_ble_eq_true rfl) (Nat.le_of_ble_eq_true rfl) (dkX12_init (185, .newarray .int, 2) (pgm 91 rfl)) ?_
  refine sc_dup X (dkX12_init (187, .dup, 1) (pgm 92 rfl)) rfl ?_
  refine sc_iconst (v := (0 : Int32)) X (dkX12_init (188, .iconst 0, 1) (pgm 93 rfl)) ic_0 ?_
  refine sc_iconst (v := (-1 : Int32)) X (dkX12_init (189, .iconst (-1), 1) (pgm 94 rfl)) ic_m1 ?_
  refine sc_iast (N := 4) (iN := 0) X (by decide) (by decide +kernel) (by decide) (by decide) (dkX12_init (190, .iastore, 1) (pgm 95 rfl)) (by omega) ?_
  refine sc_dup X (dkX12_init (191, .dup, 1) (pgm 96 rfl)) rfl ?_
  refine sc_iconst (v := (1 : Int32)) X (dkX12_init (192, .iconst 1, 1) (pgm 97 rfl)) ic_1 ?_
  refine sc_iconst (v := (-1 : Int32)) X (dkX12_init (193, .iconst (-1), 1) (pgm 98 rfl)) ic_m1 ?_
  refine sc_iast (N := 4) (iN := 1) X (by decide) (by decide +kernel) (by decide) (by decide) (dkX12_init (194, .iastore, 1) (pgm 99 rfl)) (by omega) ?_
  refine sc_dup X (dkX12_init (195, .dup, 1) (pgm 100 rfl)) rfl ?_
  refine sc_iconst (v := (2 : Int32)) X (dkX12_init (196, .iconst 2, 1) (pgm 101 rfl)) ic_2 ?_
  refine sc_iconst (v := (-1 : Int32)) X (dkX12_init (197, .iconst (-1), 1) (pgm 102 rfl)) ic_m1 ?_
  refine sc_iast (N := 4) (iN := 2) X (by decide) (by decide +kernel) (by decide) (by decide) (dkX12_init (198, .iastore, 1) (pgm 103 rfl)) (by omega) ?_
  refine sc_dup X (dkX12_init (199, .dup, 1) (pgm 104 rfl)) rfl ?_
  refine sc_iconst (v := (3 : Int32)) X (dkX12_init (200, .iconst 3, 1) (pgm 105 rfl)) ic_3 ?_
  refine sc_iconst (v := (-1 : Int32)) X (dkX12_init (201, .iconst (-1), 1) (pgm 106 rfl)) ic_m1 ?_
  refine sc_iast (N := 4) (iN := 3) X (by decide) (by decide +kernel) (by decide) (by decide) (dkX12_init (202, .iastore, 1) (pgm 107 rfl)) (by omega) ?_
  refine sc_putFR X fg_12_36 lk_1738 (by decide +kernel) (by decide) fu_12 rfl hmi rfl (fun _ => rfl) (fun _ => rfl) (dkX12_init (203, .putfield 80, 3) (pgm 108 rfl)) (by omega) ?_
  refine sc_aload_n (i := 0) X 0 (dkX12_init (206, .aload_n 0, 1) (pgm 109 rfl)) rfl rfl ?_
  refine sc_iconst (v := (4 : Int32)) X (dkX12_init (207, .iconst 4, 1) (pgm 110 rfl)) ic_4 ?_
  refine sc_newI (N := 4) X lk_257 (by decide +kernel) (by decide) (by decide) (Nat.le_of_ble_eq_true rfl) (Nat.le_of_ble_eq_true rfl) (Nat.le_of_ble_eq_true rfl) (dkX12_init (208, .newarray .int, 2) (pgm 111 rfl)) ?_
  refine sc_putFR X fg_12_37 lk_1739 (by decide +kernel) (by decide) fu_12 rfl hmi rfl (fun _ => rfl) (fun _ => rfl) (dkX12_init (210, .putfield 83, 3) (pgm 112 rfl)) (by omega) ?_
  refine sc_aload_n (i := 0) X 0 (dkX12_init (213, .aload_n 0, 1) (pgm 113 rfl)) rfl rfl ?_
  refine sc_bipush (v := (120 : Int32)) X (dkX12_init (214, .bipush 120, 2) (pgm 114 rfl)) bp_120 ?_
  refine sc_newL (N := 120) X lk_537 (by decide +kernel) (by decide) (by decide) (Nat.le_of_ble_eq_true rfl) (Nat.le_of_ble_eq_true rfl) (Nat.le_of_ble_eq_true rfl) (dkX12_init (216, .newarray .long, 2) (pgm 115 rfl)) ?_
  refine sc_putFR X fg_12_38 lk_1740 (by decide +kernel) (by decide) fu_12 rfl hmi rfl (fun _ => rfl) (fun _ => rfl) (dkX12_init (218, .putfield 86, 3) (pgm 116 rfl)) (by omega) ?_
  refine sc_aload_n (i := 0) X 0 (dkX12_init (221, .aload_n 0, 1) (pgm 117 rfl)) rfl rfl ?_
  refine sc_getR (v := 153) X fg_12_0 lk_1702 (by decide +kernel) (by decide) rfl (dkX12_init (222, .getfield 9, 3) (pgm 118 rfl)) ?_
  refine sc_iconst (v := (3 : Int32)) X (dkX12_init (225, .iconst 3, 1) (pgm 119 rfl)) ic_3 ?_
  refine sc_iconst (v := (3 : Int32)) X (dkX12_init (226, .iconst 3, 1) (pgm 120 rfl)) ic_3 ?_
  refine sc_iast (N := 1200) (iN := 3) X (by decide) (by decide +kernel) (by decide) (by decide) (dkX12_init (227, .iastore, 1) (pgm 121 rfl)) (by omega) ?_
  refine sc_aload_n (i := 0) X 0 (dkX12_init (228, .aload_n 0, 1) (pgm 122 rfl)) rfl rfl ?_
  refine sc_callV (ci := 12) (na := 0) (As := []) X hnc hlay (by decide +kernel) (by decide) (by decide) rfl rfl lk_1660 lk_1662 lk_55 lk_134 lk_1663 (by decide +kernel) rfl rfl rfl (rm_okxx (by omega) (by decide)) ⟨Nat.le_of_ble_eq_true rfl, Nat.le_of_ble_eq_true rfl⟩ (Nat.le_of_ble_eq_true rfl) (dkX12_init (229, .invokevirtual 89, 3) (pgm 123 rfl)) ?_ rfl
  exact sc_vret X hr hlk (dkX12_init (232, .return_, 1) (pgm 124 rfl))
