theorem axd0 : ∀ j, j < 2 → defaultValue (axFT 0 j) = (if axFr 0 j = true then .null else .int 0)
  | 0, _ => rfl
  | 1, _ => rfl
  | k + 2, h => absurd h (by omega)
theorem axd1 : ∀ j, j < 12 → defaultValue (axFT 1 j) = (if axFr 1 j = true then .null else .int 0)
  | 0, _ => rfl
  | 1, _ => rfl
  | 2, _ => rfl
  | 3, _ => rfl
  | 4, _ => rfl
  | 5, _ => rfl
  | 6, _ => rfl
  | 7, _ => rfl
  | 8, _ => rfl
  | 9, _ => rfl
  | 10, _ => rfl
  | 11, _ => rfl
  | k + 12, h => absurd h (by omega)
theorem axd2 : ∀ j, j < 9 → defaultValue (axFT 2 j) = (if axFr 2 j = true then .null else .int 0)
  | 0, _ => rfl
  | 1, _ => rfl
  | 2, _ => rfl
  | 3, _ => rfl
  | 4, _ => rfl
  | 5, _ => rfl
  | 6, _ => rfl
  | 7, _ => rfl
  | 8, _ => rfl
  | k + 9, h => absurd h (by omega)
theorem axd3 : ∀ j, j < 2 → defaultValue (axFT 3 j) = (if axFr 3 j = true then .null else .int 0)
  | 0, _ => rfl
  | 1, _ => rfl
  | k + 2, h => absurd h (by omega)
theorem axd4 : ∀ j, j < 4 → defaultValue (axFT 4 j) = (if axFr 4 j = true then .null else .int 0)
  | 0, _ => rfl
  | 1, _ => rfl
  | 2, _ => rfl
  | 3, _ => rfl
  | k + 4, h => absurd h (by omega)
theorem axd5 : ∀ j, j < 14 → defaultValue (axFT 5 j) = (if axFr 5 j = true then .null else .int 0)
  | 0, _ => rfl
  | 1, _ => rfl
  | 2, _ => rfl
  | 3, _ => rfl
  | 4, _ => rfl
  | 5, _ => rfl
  | 6, _ => rfl
  | 7, _ => rfl
  | 8, _ => rfl
  | 9, _ => rfl
  | 10, _ => rfl
  | 11, _ => rfl
  | 12, _ => rfl
  | 13, _ => rfl
  | k + 14, h => absurd h (by omega)
theorem axd6 : ∀ j, j < 6 → defaultValue (axFT 6 j) = (if axFr 6 j = true then .null else .int 0)
  | 0, _ => rfl
  | 1, _ => rfl
  | 2, _ => rfl
  | 3, _ => rfl
  | 4, _ => rfl
  | 5, _ => rfl
  | k + 6, h => absurd h (by omega)
theorem axd7 : ∀ j, j < 8 → defaultValue (axFT 7 j) = (if axFr 7 j = true then .null else .int 0)
  | 0, _ => rfl
  | 1, _ => rfl
  | 2, _ => rfl
  | 3, _ => rfl
  | 4, _ => rfl
  | 5, _ => rfl
  | 6, _ => rfl
  | 7, _ => rfl
  | k + 8, h => absurd h (by omega)
theorem axd8 : ∀ j, j < 2 → defaultValue (axFT 8 j) = (if axFr 8 j = true then .null else .int 0)
  | 0, _ => rfl
  | 1, _ => rfl
  | k + 2, h => absurd h (by omega)
theorem axd9 : ∀ j, j < 20 → defaultValue (axFT 9 j) = (if axFr 9 j = true then .null else .int 0)
  | 0, _ => rfl
  | 1, _ => rfl
  | 2, _ => rfl
  | 3, _ => rfl
  | 4, _ => rfl
  | 5, _ => rfl
  | 6, _ => rfl
  | 7, _ => rfl
  | 8, _ => rfl
  | 9, _ => rfl
  | 10, _ => rfl
  | 11, _ => rfl
  | 12, _ => rfl
  | 13, _ => rfl
  | 14, _ => rfl
  | 15, _ => rfl
  | 16, _ => rfl
  | 17, _ => rfl
  | 18, _ => rfl
  | 19, _ => rfl
  | k + 20, h => absurd h (by omega)
theorem axd10 : ∀ j, j < 49 → defaultValue (axFT 10 j) = (if axFr 10 j = true then .null else .int 0)
  | 0, _ => rfl
  | 1, _ => rfl
  | 2, _ => rfl
  | 3, _ => rfl
  | 4, _ => rfl
  | 5, _ => rfl
  | 6, _ => rfl
  | 7, _ => rfl
  | 8, _ => rfl
  | 9, _ => rfl
  | 10, _ => rfl
  | 11, _ => rfl
  | 12, _ => rfl
  | 13, _ => rfl
  | 14, _ => rfl
  | 15, _ => rfl
  | 16, _ => rfl
  | 17, _ => rfl
  | 18, _ => rfl
  | 19, _ => rfl
  | 20, _ => rfl
  | 21, _ => rfl
  | 22, _ => rfl
  | 23, _ => rfl
  | 24, _ => rfl
  | 25, _ => rfl
  | 26, _ => rfl
  | 27, _ => rfl
  | 28, _ => rfl
  | 29, _ => rfl
  | 30, _ => rfl
  | 31, _ => rfl
  | 32, _ => rfl
  | 33, _ => rfl
  | 34, _ => rfl
  | 35, _ => rfl
  | 36, _ => rfl
  | 37, _ => rfl
  | 38, _ => rfl
  | 39, _ => rfl
  | 40, _ => rfl
  | 41, _ => rfl
  | 42, _ => rfl
  | 43, _ => rfl
  | 44, _ => rfl
  | 45, _ => rfl
  | 46, _ => rfl
  | 47, _ => rfl
  | 48, _ => rfl
  | k + 49, h => absurd h (by omega)
theorem wd_86 : Cond.initialized RL ∈ ax_tbl := ax_t (ax_b1 (List.mem_of_getElem? (i := 0) rfl)) rfl
theorem wd_109 : Cond.classLink RL 8 RX9 ∈ ax_tbl := ax_t (ax_b1 (List.mem_of_getElem? (i := 23) rfl)) rfl
theorem wd_110 : Cond.instantiable RX9 20 ∈ ax_tbl := ax_t (ax_b1 (List.mem_of_getElem? (i := 24) rfl)) rfl
theorem wd_111 : Cond.methodLink RL 110 yX9_init ∈ ax_tbl := ax_t (ax_b1 (List.mem_of_getElem? (i := 25) rfl)) rfl
theorem wd_112 : Cond.instanceMethod yX9_init ∈ ax_tbl := ax_t (ax_b1 (List.mem_of_getElem? (i := 26) rfl)) rfl
theorem wd_113 : Cond.code yX9_init cX9_init 2 none ∈ ax_tbl := ax_t (ax_b1 (List.mem_of_getElem? (i := 27) rfl)) rfl
theorem wd_114 : Cond.methodLink RX9 1 objectInit ∈ ax_tbl := ax_t (ax_b1 (List.mem_of_getElem? (i := 28) rfl)) rfl
theorem wd_115 : Cond.instanceMethod objectInit ∈ ax_tbl := ax_t (ax_b1 (List.mem_of_getElem? (i := 29) rfl)) rfl
theorem wd_116 : Cond.code objectInit ⟨#[0xb1]⟩ 1 none ∈ ax_tbl := ax_t (ax_b1 (List.mem_of_getElem? (i := 30) rfl)) rfl
theorem wd_117 : Cond.classLink RX9 7 RX7 ∈ ax_tbl := ax_t (ax_b1 (List.mem_of_getElem? (i := 31) rfl)) rfl
theorem wd_118 : Cond.instantiable RX7 8 ∈ ax_tbl := ax_t (ax_b1 (List.mem_of_getElem? (i := 32) rfl)) rfl
theorem wd_119 : Cond.methodLinkNest RX9 9 yX7_init "OwedBell" ∈ lw_tbl := ax_b1 (List.mem_of_getElem? (i := 33) rfl)
theorem wd_120 : Cond.instanceMethod yX7_init ∈ ax_tbl := ax_t (ax_b1 (List.mem_of_getElem? (i := 34) rfl)) rfl
theorem wd_121 : Cond.code yX7_init cX7_init 1 none ∈ ax_tbl := ax_t (ax_b1 (List.mem_of_getElem? (i := 35) rfl)) rfl
theorem wd_122 : Cond.methodLink RX7 3 objectInit ∈ ax_tbl := ax_t (ax_b1 (List.mem_of_getElem? (i := 36) rfl)) rfl
theorem wd_160 : Cond.arrayClass FieldType.int ∈ ax_tbl := ax_t (ax_b1 (List.mem_of_getElem? (i := 74) rfl)) rfl
theorem wd_161 : Cond.classLink RX9 16 RX1 ∈ ax_tbl := ax_t (ax_b1 (List.mem_of_getElem? (i := 75) rfl)) rfl
theorem wd_162 : Cond.instantiable RX1 12 ∈ ax_tbl := ax_t (ax_b1 (List.mem_of_getElem? (i := 76) rfl)) rfl
theorem wd_163 : Cond.methodLink RX9 18 yX1_init ∈ ax_tbl := ax_t (ax_b1 (List.mem_of_getElem? (i := 77) rfl)) rfl
theorem wd_164 : Cond.instanceMethod yX1_init ∈ ax_tbl := ax_t (ax_b1 (List.mem_of_getElem? (i := 78) rfl)) rfl
theorem wd_165 : Cond.code yX1_init cX1_init 1 none ∈ ax_tbl := ax_t (ax_b1 (List.mem_of_getElem? (i := 79) rfl)) rfl
theorem wd_166 : Cond.methodLink RX1 3 objectInit ∈ ax_tbl := ax_t (ax_b1 (List.mem_of_getElem? (i := 80) rfl)) rfl
theorem wd_222 : Cond.classLink RX9 26 RX4 ∈ ax_tbl := ax_t (ax_b1 (List.mem_of_getElem? (i := 136) rfl)) rfl
theorem wd_223 : Cond.instantiable RX4 4 ∈ ax_tbl := ax_t (ax_b1 (List.mem_of_getElem? (i := 137) rfl)) rfl
theorem wd_224 : Cond.methodLinkNest RX9 28 yX4_init "OwedBell" ∈ lw_tbl := ax_b1 (List.mem_of_getElem? (i := 138) rfl)
theorem wd_225 : Cond.instanceMethod yX4_init ∈ ax_tbl := ax_t (ax_b1 (List.mem_of_getElem? (i := 139) rfl)) rfl
theorem wd_226 : Cond.code yX4_init cX4_init 1 none ∈ ax_tbl := ax_t (ax_b1 (List.mem_of_getElem? (i := 140) rfl)) rfl
theorem wd_227 : Cond.methodLink RX4 3 objectInit ∈ ax_tbl := ax_t (ax_b1 (List.mem_of_getElem? (i := 141) rfl)) rfl
theorem wd_241 : Cond.classLink RX9 36 RX0 ∈ ax_tbl := ax_t (ax_b1 (List.mem_of_getElem? (i := 155) rfl)) rfl
theorem wd_242 : Cond.instantiable RX0 2 ∈ ax_tbl := ax_t (ax_b1 (List.mem_of_getElem? (i := 156) rfl)) rfl
theorem wd_243 : Cond.methodLinkNest RX9 38 yX0_init "OwedBell" ∈ lw_tbl := ax_b1 (List.mem_of_getElem? (i := 157) rfl)
theorem wd_244 : Cond.instanceMethod yX0_init ∈ ax_tbl := ax_t (ax_b1 (List.mem_of_getElem? (i := 158) rfl)) rfl
theorem wd_245 : Cond.code yX0_init cX0_init 1 none ∈ ax_tbl := ax_t (ax_b1 (List.mem_of_getElem? (i := 159) rfl)) rfl
theorem wd_246 : Cond.methodLink RX0 3 objectInit ∈ ax_tbl := ax_t (ax_b1 (List.mem_of_getElem? (i := 160) rfl)) rfl
theorem wd_257 : Cond.classLink RX9 46 RX6 ∈ ax_tbl := ax_t (ax_b1 (List.mem_of_getElem? (i := 171) rfl)) rfl
theorem wd_258 : Cond.instantiable RX6 6 ∈ ax_tbl := ax_t (ax_b1 (List.mem_of_getElem? (i := 172) rfl)) rfl
theorem wd_259 : Cond.methodLinkNest RX9 48 yX6_init "OwedBell" ∈ lw_tbl := ax_b1 (List.mem_of_getElem? (i := 173) rfl)
theorem wd_260 : Cond.instanceMethod yX6_init ∈ ax_tbl := ax_t (ax_b1 (List.mem_of_getElem? (i := 174) rfl)) rfl
theorem wd_261 : Cond.code yX6_init cX6_init 1 none ∈ ax_tbl := ax_t (ax_b1 (List.mem_of_getElem? (i := 175) rfl)) rfl
theorem wd_262 : Cond.methodLink RX6 3 objectInit ∈ ax_tbl := ax_t (ax_b1 (List.mem_of_getElem? (i := 176) rfl)) rfl
theorem wd_286 : Cond.classLink RX9 53 RX5 ∈ ax_tbl := ax_t (ax_b1 (List.mem_of_getElem? (i := 200) rfl)) rfl
theorem wd_287 : Cond.instantiable RX5 14 ∈ ax_tbl := ax_t (ax_b1 (List.mem_of_getElem? (i := 201) rfl)) rfl
theorem wd_288 : Cond.methodLinkNest RX9 55 yX5_init "OwedBell" ∈ lw_tbl := ax_b1 (List.mem_of_getElem? (i := 202) rfl)
theorem wd_289 : Cond.instanceMethod yX5_init ∈ ax_tbl := ax_t (ax_b1 (List.mem_of_getElem? (i := 203) rfl)) rfl
theorem wd_290 : Cond.code yX5_init cX5_init 1 none ∈ ax_tbl := ax_t (ax_b1 (List.mem_of_getElem? (i := 204) rfl)) rfl
theorem wd_291 : Cond.methodLink RX5 3 objectInit ∈ ax_tbl := ax_t (ax_b1 (List.mem_of_getElem? (i := 205) rfl)) rfl
theorem wd_349 : Cond.classLink RX9 63 RX8 ∈ ax_tbl := ax_t (ax_b2 (List.mem_of_getElem? (i := 23) rfl)) rfl
theorem wd_350 : Cond.instantiable RX8 2 ∈ ax_tbl := ax_t (ax_b2 (List.mem_of_getElem? (i := 24) rfl)) rfl
theorem wd_351 : Cond.methodLink RX9 65 yX8_init ∈ ax_tbl := ax_t (ax_b2 (List.mem_of_getElem? (i := 25) rfl)) rfl
theorem wd_352 : Cond.instanceMethod yX8_init ∈ ax_tbl := ax_t (ax_b2 (List.mem_of_getElem? (i := 26) rfl)) rfl
theorem wd_353 : Cond.code yX8_init cX8_init 2 none ∈ ax_tbl := ax_t (ax_b2 (List.mem_of_getElem? (i := 27) rfl)) rfl
theorem wd_354 : Cond.methodLink RX8 3 objectInit ∈ ax_tbl := ax_t (ax_b2 (List.mem_of_getElem? (i := 28) rfl)) rfl
theorem wd_355 : Cond.classLink RX8 9 RX5 ∈ ax_tbl := ax_t (ax_b2 (List.mem_of_getElem? (i := 29) rfl)) rfl
theorem wd_356 : Cond.arrayOver (FieldType.object "OwedBell$State") ∈ lw_tbl := ax_b2 (List.mem_of_getElem? (i := 30) rfl)
theorem wd_357 : Cond.methodLinkNest RX8 17 yX5_init "OwedBell" ∈ lw_tbl := ax_b2 (List.mem_of_getElem? (i := 31) rfl)
theorem wd_366 : Cond.classLink RX9 70 RX3 ∈ ax_tbl := ax_t (ax_b2 (List.mem_of_getElem? (i := 40) rfl)) rfl
theorem wd_367 : Cond.arrayOver (FieldType.object "OwedBell$Image") ∈ lw_tbl := ax_b2 (List.mem_of_getElem? (i := 41) rfl)
theorem wd_368 : Cond.classLink RX9 76 RX2 ∈ ax_tbl := ax_t (ax_b2 (List.mem_of_getElem? (i := 42) rfl)) rfl
theorem wd_369 : Cond.instantiable RX2 9 ∈ ax_tbl := ax_t (ax_b2 (List.mem_of_getElem? (i := 43) rfl)) rfl
theorem wd_370 : Cond.methodLinkNest RX9 78 yX2_init "OwedBell" ∈ lw_tbl := ax_b2 (List.mem_of_getElem? (i := 44) rfl)
theorem wd_371 : Cond.instanceMethod yX2_init ∈ ax_tbl := ax_t (ax_b2 (List.mem_of_getElem? (i := 45) rfl)) rfl
theorem wd_372 : Cond.code yX2_init cX2_init 1 none ∈ ax_tbl := ax_t (ax_b2 (List.mem_of_getElem? (i := 46) rfl)) rfl
theorem wd_373 : Cond.methodLink RX2 3 objectInit ∈ ax_tbl := ax_t (ax_b2 (List.mem_of_getElem? (i := 47) rfl)) rfl
theorem wd_374 : Cond.classLink RX2 15 "[[I" ∈ ax_tbl := ax_t (ax_b2 (List.mem_of_getElem? (i := 48) rfl)) rfl
theorem wd_375 : Cond.arrayOver (FieldType.array FieldType.int) ∈ lw_tbl := ax_b2 (List.mem_of_getElem? (i := 49) rfl)
theorem wd_411 : Cond.instantiable RX3 2 ∈ ax_tbl := ax_t (ax_b2 (List.mem_of_getElem? (i := 85) rfl)) rfl
theorem wd_412 : Cond.methodLinkNest RX9 93 yX3_init "OwedBell" ∈ lw_tbl := ax_b2 (List.mem_of_getElem? (i := 86) rfl)
theorem wd_413 : Cond.instanceMethod yX3_init ∈ ax_tbl := ax_t (ax_b2 (List.mem_of_getElem? (i := 87) rfl)) rfl
theorem wd_414 : Cond.code yX3_init cX3_init 1 none ∈ ax_tbl := ax_t (ax_b2 (List.mem_of_getElem? (i := 88) rfl)) rfl
theorem wd_415 : Cond.methodLink RX3 1 objectInit ∈ ax_tbl := ax_t (ax_b2 (List.mem_of_getElem? (i := 89) rfl)) rfl
theorem wd_416 : Cond.classLink RX3 7 RX5 ∈ ax_tbl := ax_t (ax_b2 (List.mem_of_getElem? (i := 90) rfl)) rfl
theorem wd_417 : Cond.methodLinkNest RX3 9 yX5_init "OwedBell" ∈ lw_tbl := ax_b2 (List.mem_of_getElem? (i := 91) rfl)
theorem wd_418 : Cond.classLink RX3 16 RX8 ∈ ax_tbl := ax_t (ax_b2 (List.mem_of_getElem? (i := 92) rfl)) rfl
theorem wd_419 : Cond.methodLink RX3 18 yX8_init ∈ ax_tbl := ax_t (ax_b2 (List.mem_of_getElem? (i := 93) rfl)) rfl
theorem wd_514 : Cond.methodLink RL 114 yX9_feed ∈ ax_tbl := ax_t (ax_b2 (List.mem_of_getElem? (i := 188) rfl)) rfl
theorem wd_515 : Cond.instanceMethod yX9_feed ∈ ax_tbl := ax_t (ax_b2 (List.mem_of_getElem? (i := 189) rfl)) rfl
theorem wd_516 : Cond.selects RX9 yX9_feed yX9_feed ∈ ax_tbl := ax_t (ax_b2 (List.mem_of_getElem? (i := 190) rfl)) rfl
theorem wd_517 : Cond.code yX9_feed cX9_feed 6 (some .int) ∈ ax_tbl := ax_t (ax_b2 (List.mem_of_getElem? (i := 191) rfl)) rfl
theorem wd_523 : Cond.methodLink RL 138 yX9_fault ∈ ax_tbl := ax_t (ax_b2 (List.mem_of_getElem? (i := 197) rfl)) rfl
theorem wd_524 : Cond.instanceMethod yX9_fault ∈ ax_tbl := ax_t (ax_b2 (List.mem_of_getElem? (i := 198) rfl)) rfl
theorem wd_525 : Cond.selects RX9 yX9_fault yX9_fault ∈ ax_tbl := ax_t (ax_b2 (List.mem_of_getElem? (i := 199) rfl)) rfl
theorem wd_526 : Cond.code yX9_fault cX9_fault 1 (some .int) ∈ ax_tbl := ax_t (ax_b2 (List.mem_of_getElem? (i := 200) rfl)) rfl
theorem wd_527 : Cond.methodLink RL 142 yX9_undo ∈ ax_tbl := ax_t (ax_b2 (List.mem_of_getElem? (i := 201) rfl)) rfl
theorem wd_528 : Cond.instanceMethod yX9_undo ∈ ax_tbl := ax_t (ax_b2 (List.mem_of_getElem? (i := 202) rfl)) rfl
theorem wd_529 : Cond.selects RX9 yX9_undo yX9_undo ∈ ax_tbl := ax_t (ax_b2 (List.mem_of_getElem? (i := 203) rfl)) rfl
theorem wd_530 : Cond.code yX9_undo cX9_undo 1 (some .int) ∈ ax_tbl := ax_t (ax_b2 (List.mem_of_getElem? (i := 204) rfl)) rfl
theorem wd_542 : Cond.methodLink RL 165 yX9_strokes ∈ ax_tbl := ax_t (ax_b2 (List.mem_of_getElem? (i := 216) rfl)) rfl
theorem wd_543 : Cond.instanceMethod yX9_strokes ∈ ax_tbl := ax_t (ax_b2 (List.mem_of_getElem? (i := 217) rfl)) rfl
theorem wd_544 : Cond.selects RX9 yX9_strokes yX9_strokes ∈ ax_tbl := ax_t (ax_b2 (List.mem_of_getElem? (i := 218) rfl)) rfl
theorem wd_545 : Cond.code yX9_strokes cX9_strokes 1 (some .int) ∈ ax_tbl := ax_t (ax_b2 (List.mem_of_getElem? (i := 219) rfl)) rfl
theorem wd_566 : Cond.methodLink RL 233 yX9_image ∈ ax_tbl := ax_t (ax_b3 (List.mem_of_getElem? (i := 0) rfl)) rfl
theorem wd_567 : Cond.instanceMethod yX9_image ∈ ax_tbl := ax_t (ax_b3 (List.mem_of_getElem? (i := 1) rfl)) rfl
theorem wd_568 : Cond.selects RX9 yX9_image yX9_image ∈ ax_tbl := ax_t (ax_b3 (List.mem_of_getElem? (i := 2) rfl)) rfl
theorem wd_569 : Cond.code yX9_image cX9_image 1 (some .int) ∈ ax_tbl := ax_t (ax_b3 (List.mem_of_getElem? (i := 3) rfl)) rfl
theorem wd_579 : Cond.methodLink RL 237 yX9_restore ∈ ax_tbl := ax_t (ax_b3 (List.mem_of_getElem? (i := 13) rfl)) rfl
theorem wd_580 : Cond.instanceMethod yX9_restore ∈ ax_tbl := ax_t (ax_b3 (List.mem_of_getElem? (i := 14) rfl)) rfl
theorem wd_581 : Cond.selects RX9 yX9_restore yX9_restore ∈ ax_tbl := ax_t (ax_b3 (List.mem_of_getElem? (i := 15) rfl)) rfl
theorem wd_582 : Cond.code yX9_restore cX9_restore 1 (some .int) ∈ ax_tbl := ax_t (ax_b3 (List.mem_of_getElem? (i := 16) rfl)) rfl
theorem wd_585 : Cond.methodLink RL 241 yX9_status ∈ ax_tbl := ax_t (ax_b3 (List.mem_of_getElem? (i := 19) rfl)) rfl
theorem wd_586 : Cond.instanceMethod yX9_status ∈ ax_tbl := ax_t (ax_b3 (List.mem_of_getElem? (i := 20) rfl)) rfl
theorem wd_587 : Cond.selects RX9 yX9_status yX9_status ∈ ax_tbl := ax_t (ax_b3 (List.mem_of_getElem? (i := 21) rfl)) rfl
theorem wd_588 : Cond.code yX9_status cX9_status 2 (some .int) ∈ ax_tbl := ax_t (ax_b3 (List.mem_of_getElem? (i := 22) rfl)) rfl
theorem wd_589 : Cond.methodLink RL 245 yX9_kept ∈ ax_tbl := ax_t (ax_b3 (List.mem_of_getElem? (i := 23) rfl)) rfl
theorem wd_590 : Cond.instanceMethod yX9_kept ∈ ax_tbl := ax_t (ax_b3 (List.mem_of_getElem? (i := 24) rfl)) rfl
theorem wd_591 : Cond.selects RX9 yX9_kept yX9_kept ∈ ax_tbl := ax_t (ax_b3 (List.mem_of_getElem? (i := 25) rfl)) rfl
theorem wd_592 : Cond.code yX9_kept cX9_kept 2 (some .int) ∈ ax_tbl := ax_t (ax_b3 (List.mem_of_getElem? (i := 26) rfl)) rfl
theorem wd_593 : Cond.methodLink RL 119 yL_abbey ∈ ax_tbl := ax_t (ax_b3 (List.mem_of_getElem? (i := 27) rfl)) rfl
theorem wd_594 : Cond.static yL_abbey ∈ ax_tbl := ax_t (ax_b3 (List.mem_of_getElem? (i := 28) rfl)) rfl
theorem wd_595 : Cond.codeWith yL_abbey cL_abbey 4 (some .int) [(0, 9, 12, 13)] ∈ ax_tbl := ax_t (ax_b3 (List.mem_of_getElem? (i := 29) rfl)) rfl
theorem wd_784 : Cond.methodLink RL 129 yL_law ∈ ax_tbl := ax_t (ax_b3 (List.mem_of_getElem? (i := 218) rfl)) rfl
theorem wd_785 : Cond.static yL_law ∈ ax_tbl := ax_t (ax_b3 (List.mem_of_getElem? (i := 219) rfl)) rfl
theorem wd_786 : Cond.codeWith yL_law cL_law 4 (some .int) [(0, 9, 12, 13)] ∈ ax_tbl := ax_t (ax_b3 (List.mem_of_getElem? (i := 220) rfl)) rfl
theorem wd_826 : Cond.methodLink RL 132 yL_work ∈ ax_tbl := ax_t (ax_b4 (List.mem_of_getElem? (i := 20) rfl)) rfl
theorem wd_827 : Cond.static yL_work ∈ ax_tbl := ax_t (ax_b4 (List.mem_of_getElem? (i := 21) rfl)) rfl
theorem wd_828 : Cond.codeWith yL_work cL_work 4 (some .int) [(0, 9, 12, 13)] ∈ ax_tbl := ax_t (ax_b4 (List.mem_of_getElem? (i := 22) rfl)) rfl
theorem wd_928 : Cond.methodLink RL 135 yL_book ∈ ax_tbl := ax_t (ax_b4 (List.mem_of_getElem? (i := 122) rfl)) rfl
theorem wd_929 : Cond.static yL_book ∈ ax_tbl := ax_t (ax_b4 (List.mem_of_getElem? (i := 123) rfl)) rfl
theorem wd_930 : Cond.codeWith yL_book cL_book 4 (some .int) [(0, 9, 12, 13)] ∈ ax_tbl := ax_t (ax_b4 (List.mem_of_getElem? (i := 124) rfl)) rfl
theorem wd_950 : Cond.methodLink RL 146 yL_told ∈ ax_tbl := ax_t (ax_b4 (List.mem_of_getElem? (i := 144) rfl)) rfl
theorem wd_951 : Cond.static yL_told ∈ ax_tbl := ax_t (ax_b4 (List.mem_of_getElem? (i := 145) rfl)) rfl
theorem wd_952 : Cond.codeWith yL_told cL_told 4 (some .int) [(0, 9, 12, 13)] ∈ ax_tbl := ax_t (ax_b4 (List.mem_of_getElem? (i := 146) rfl)) rfl
theorem wd_957 : Cond.methodLink RL 149 yL_many ∈ ax_tbl := ax_t (ax_b4 (List.mem_of_getElem? (i := 151) rfl)) rfl
theorem wd_958 : Cond.static yL_many ∈ ax_tbl := ax_t (ax_b4 (List.mem_of_getElem? (i := 152) rfl)) rfl
theorem wd_959 : Cond.codeWith yL_many cL_many 4 (some .int) [(0, 9, 12, 13)] ∈ ax_tbl := ax_t (ax_b4 (List.mem_of_getElem? (i := 153) rfl)) rfl
theorem wd_964 : Cond.methodLink RL 152 yL_monk ∈ ax_tbl := ax_t (ax_b4 (List.mem_of_getElem? (i := 158) rfl)) rfl
theorem wd_965 : Cond.static yL_monk ∈ ax_tbl := ax_t (ax_b4 (List.mem_of_getElem? (i := 159) rfl)) rfl
theorem wd_966 : Cond.codeWith yL_monk cL_monk 5 (some .int) [(0, 10, 13, 34), (0, 10, 17, 13)] ∈ ax_tbl := ax_t (ax_b4 (List.mem_of_getElem? (i := 160) rfl)) rfl
theorem wd_992 : Cond.methodLink RL 156 yL_village ∈ ax_tbl := ax_t (ax_b4 (List.mem_of_getElem? (i := 186) rfl)) rfl
theorem wd_993 : Cond.static yL_village ∈ ax_tbl := ax_t (ax_b4 (List.mem_of_getElem? (i := 187) rfl)) rfl
theorem wd_994 : Cond.codeWith yL_village cL_village 5 (some .int) [(0, 10, 13, 34), (0, 10, 17, 13)] ∈ ax_tbl := ax_t (ax_b4 (List.mem_of_getElem? (i := 188) rfl)) rfl
theorem wd_999 : Cond.methodLink RL 159 yL_cell ∈ ax_tbl := ax_t (ax_b4 (List.mem_of_getElem? (i := 193) rfl)) rfl
theorem wd_1000 : Cond.static yL_cell ∈ ax_tbl := ax_t (ax_b4 (List.mem_of_getElem? (i := 194) rfl)) rfl
theorem wd_1001 : Cond.codeWith yL_cell cL_cell 4 (some .int) [(0, 9, 12, 34)] ∈ ax_tbl := ax_t (ax_b4 (List.mem_of_getElem? (i := 195) rfl)) rfl
theorem wd_1006 : Cond.methodLink RL 162 yL_heir ∈ ax_tbl := ax_t (ax_b4 (List.mem_of_getElem? (i := 200) rfl)) rfl
theorem wd_1007 : Cond.static yL_heir ∈ ax_tbl := ax_t (ax_b4 (List.mem_of_getElem? (i := 201) rfl)) rfl
theorem wd_1008 : Cond.codeWith yL_heir cL_heir 4 (some .int) [(0, 9, 12, 34)] ∈ ax_tbl := ax_t (ax_b4 (List.mem_of_getElem? (i := 202) rfl)) rfl
theorem wd_1013 : Cond.methodLink RL 169 yL_would ∈ ax_tbl := ax_t (ax_b4 (List.mem_of_getElem? (i := 207) rfl)) rfl
theorem wd_1014 : Cond.static yL_would ∈ ax_tbl := ax_t (ax_b4 (List.mem_of_getElem? (i := 208) rfl)) rfl
theorem wd_1015 : Cond.codeWith yL_would cL_would 10 (some .int) [(0, 20, 23, 13)] ∈ ax_tbl := ax_t (ax_b4 (List.mem_of_getElem? (i := 209) rfl)) rfl
theorem wd_1021 : Cond.methodLink RL 173 yL_noise ∈ ax_tbl := ax_t (ax_b4 (List.mem_of_getElem? (i := 215) rfl)) rfl
theorem wd_1022 : Cond.static yL_noise ∈ ax_tbl := ax_t (ax_b4 (List.mem_of_getElem? (i := 216) rfl)) rfl
theorem wd_1023 : Cond.codeWith yL_noise cL_noise 5 (some .int) [(0, 10, 13, 34), (0, 10, 17, 13)] ∈ ax_tbl := ax_t (ax_b4 (List.mem_of_getElem? (i := 217) rfl)) rfl
theorem wd_1028 : Cond.methodLink RL 176 yL_ahead ∈ ax_tbl := ax_t (ax_b4 (List.mem_of_getElem? (i := 222) rfl)) rfl
theorem wd_1029 : Cond.static yL_ahead ∈ ax_tbl := ax_t (ax_b4 (List.mem_of_getElem? (i := 223) rfl)) rfl
theorem wd_1030 : Cond.codeWith yL_ahead cL_ahead 5 (some .int) [(0, 10, 13, 13)] ∈ ax_tbl := ax_t (ax_b4 (List.mem_of_getElem? (i := 224) rfl)) rfl
theorem wd_1035 : Cond.methodLink RL 179 yL_loudest ∈ ax_tbl := ax_t (ax_b4 (List.mem_of_getElem? (i := 229) rfl)) rfl
theorem wd_1036 : Cond.static yL_loudest ∈ ax_tbl := ax_t (ax_b4 (List.mem_of_getElem? (i := 230) rfl)) rfl
theorem wd_1037 : Cond.codeWith yL_loudest cL_loudest 4 (some .int) [(0, 9, 12, 13)] ∈ ax_tbl := ax_t (ax_b4 (List.mem_of_getElem? (i := 231) rfl)) rfl
theorem wd_1042 : Cond.methodLink RL 182 yL_hush ∈ ax_tbl := ax_t (ax_b4 (List.mem_of_getElem? (i := 236) rfl)) rfl
theorem wd_1043 : Cond.static yL_hush ∈ ax_tbl := ax_t (ax_b4 (List.mem_of_getElem? (i := 237) rfl)) rfl
theorem wd_1044 : Cond.codeWith yL_hush cL_hush 4 (some .int) [(0, 9, 12, 13)] ∈ ax_tbl := ax_t (ax_b4 (List.mem_of_getElem? (i := 238) rfl)) rfl
theorem wd_1049 : Cond.methodLink RL 185 yL_plan ∈ ax_tbl := ax_t (ax_b5 (List.mem_of_getElem? (i := 3) rfl)) rfl
theorem wd_1050 : Cond.static yL_plan ∈ ax_tbl := ax_t (ax_b5 (List.mem_of_getElem? (i := 4) rfl)) rfl
theorem wd_1051 : Cond.codeWith yL_plan cL_plan 7 (some .int) [(0, 14, 17, 13)] ∈ ax_tbl := ax_t (ax_b5 (List.mem_of_getElem? (i := 5) rfl)) rfl
theorem wd_1069 : Cond.methodLink RL 189 yL_fits ∈ ax_tbl := ax_t (ax_b5 (List.mem_of_getElem? (i := 23) rfl)) rfl
theorem wd_1070 : Cond.static yL_fits ∈ ax_tbl := ax_t (ax_b5 (List.mem_of_getElem? (i := 24) rfl)) rfl
theorem wd_1071 : Cond.codeWith yL_fits cL_fits 4 (some .int) [(0, 9, 12, 13)] ∈ ax_tbl := ax_t (ax_b5 (List.mem_of_getElem? (i := 25) rfl)) rfl
theorem wd_1099 : Cond.methodLink RL 192 yL_count ∈ ax_tbl := ax_t (ax_b5 (List.mem_of_getElem? (i := 53) rfl)) rfl
theorem wd_1100 : Cond.static yL_count ∈ ax_tbl := ax_t (ax_b5 (List.mem_of_getElem? (i := 54) rfl)) rfl
theorem wd_1101 : Cond.codeWith yL_count cL_count 4 (some .int) [(0, 9, 12, 13)] ∈ ax_tbl := ax_t (ax_b5 (List.mem_of_getElem? (i := 55) rfl)) rfl
theorem wd_1106 : Cond.methodLink RL 195 yL_mistaken ∈ ax_tbl := ax_t (ax_b5 (List.mem_of_getElem? (i := 60) rfl)) rfl
theorem wd_1107 : Cond.static yL_mistaken ∈ ax_tbl := ax_t (ax_b5 (List.mem_of_getElem? (i := 61) rfl)) rfl
theorem wd_1108 : Cond.codeWith yL_mistaken cL_mistaken 9 (some .int) [(0, 17, 20, 13)] ∈ ax_tbl := ax_t (ax_b5 (List.mem_of_getElem? (i := 62) rfl)) rfl
theorem wd_1127 : Cond.methodLink RL 199 yL_best ∈ ax_tbl := ax_t (ax_b5 (List.mem_of_getElem? (i := 81) rfl)) rfl
theorem wd_1128 : Cond.static yL_best ∈ ax_tbl := ax_t (ax_b5 (List.mem_of_getElem? (i := 82) rfl)) rfl
theorem wd_1129 : Cond.codeWith yL_best cL_best 6 (some .int) [(0, 12, 15, 13)] ∈ ax_tbl := ax_t (ax_b5 (List.mem_of_getElem? (i := 83) rfl)) rfl
theorem wd_1135 : Cond.methodLink RL 203 yL_beds ∈ ax_tbl := ax_t (ax_b5 (List.mem_of_getElem? (i := 89) rfl)) rfl
theorem wd_1136 : Cond.static yL_beds ∈ ax_tbl := ax_t (ax_b5 (List.mem_of_getElem? (i := 90) rfl)) rfl
theorem wd_1137 : Cond.codeWith yL_beds cL_beds 4 (some .int) [(0, 9, 12, 13)] ∈ ax_tbl := ax_t (ax_b5 (List.mem_of_getElem? (i := 91) rfl)) rfl
theorem wd_1165 : Cond.methodLink RL 206 yL_bed ∈ ax_tbl := ax_t (ax_b5 (List.mem_of_getElem? (i := 119) rfl)) rfl
theorem wd_1166 : Cond.static yL_bed ∈ ax_tbl := ax_t (ax_b5 (List.mem_of_getElem? (i := 120) rfl)) rfl
theorem wd_1167 : Cond.codeWith yL_bed cL_bed 5 (some .int) [(0, 10, 13, 34), (0, 10, 17, 13)] ∈ ax_tbl := ax_t (ax_b5 (List.mem_of_getElem? (i := 121) rfl)) rfl
theorem wd_1172 : Cond.methodLink RL 209 yL_watch ∈ ax_tbl := ax_t (ax_b5 (List.mem_of_getElem? (i := 126) rfl)) rfl
theorem wd_1173 : Cond.static yL_watch ∈ ax_tbl := ax_t (ax_b5 (List.mem_of_getElem? (i := 127) rfl)) rfl
theorem wd_1174 : Cond.codeWith yL_watch cL_watch 5 (some .int) [(0, 10, 13, 34), (0, 10, 17, 13)] ∈ ax_tbl := ax_t (ax_b5 (List.mem_of_getElem? (i := 128) rfl)) rfl
theorem wd_1179 : Cond.methodLink RL 212 yL_heirs ∈ ax_tbl := ax_t (ax_b5 (List.mem_of_getElem? (i := 133) rfl)) rfl
theorem wd_1180 : Cond.static yL_heirs ∈ ax_tbl := ax_t (ax_b5 (List.mem_of_getElem? (i := 134) rfl)) rfl
theorem wd_1181 : Cond.codeWith yL_heirs cL_heirs 5 (some .int) [(0, 10, 13, 13)] ∈ ax_tbl := ax_t (ax_b5 (List.mem_of_getElem? (i := 135) rfl)) rfl
theorem wd_1206 : Cond.methodLink RL 215 yL_sleepers ∈ ax_tbl := ax_t (ax_b5 (List.mem_of_getElem? (i := 160) rfl)) rfl
theorem wd_1207 : Cond.static yL_sleepers ∈ ax_tbl := ax_t (ax_b5 (List.mem_of_getElem? (i := 161) rfl)) rfl
theorem wd_1208 : Cond.codeWith yL_sleepers cL_sleepers 4 (some .int) [(0, 9, 12, 13)] ∈ ax_tbl := ax_t (ax_b5 (List.mem_of_getElem? (i := 162) rfl)) rfl
theorem wd_1213 : Cond.methodLink RL 218 yL_grows ∈ ax_tbl := ax_t (ax_b5 (List.mem_of_getElem? (i := 167) rfl)) rfl
theorem wd_1214 : Cond.static yL_grows ∈ ax_tbl := ax_t (ax_b5 (List.mem_of_getElem? (i := 168) rfl)) rfl
theorem wd_1215 : Cond.codeWith yL_grows cL_grows 4 (some .int) [(0, 9, 12, 13)] ∈ ax_tbl := ax_t (ax_b5 (List.mem_of_getElem? (i := 169) rfl)) rfl
theorem wd_1220 : Cond.methodLink RL 221 yL_bears ∈ ax_tbl := ax_t (ax_b5 (List.mem_of_getElem? (i := 174) rfl)) rfl
theorem wd_1221 : Cond.static yL_bears ∈ ax_tbl := ax_t (ax_b5 (List.mem_of_getElem? (i := 175) rfl)) rfl
theorem wd_1222 : Cond.codeWith yL_bears cL_bears 5 (some .int) [(0, 10, 13, 34)] ∈ ax_tbl := ax_t (ax_b5 (List.mem_of_getElem? (i := 176) rfl)) rfl
theorem wd_1227 : Cond.methodLink RL 224 yL_level ∈ ax_tbl := ax_t (ax_b5 (List.mem_of_getElem? (i := 181) rfl)) rfl
theorem wd_1228 : Cond.static yL_level ∈ ax_tbl := ax_t (ax_b5 (List.mem_of_getElem? (i := 182) rfl)) rfl
theorem wd_1229 : Cond.codeWith yL_level cL_level 4 (some .int) [(0, 9, 12, 13)] ∈ ax_tbl := ax_t (ax_b5 (List.mem_of_getElem? (i := 183) rfl)) rfl
theorem wd_1234 : Cond.methodLink RL 227 yL_years ∈ ax_tbl := ax_t (ax_b5 (List.mem_of_getElem? (i := 188) rfl)) rfl
theorem wd_1235 : Cond.static yL_years ∈ ax_tbl := ax_t (ax_b5 (List.mem_of_getElem? (i := 189) rfl)) rfl
theorem wd_1236 : Cond.codeWith yL_years cL_years 9 (some .int) [(0, 18, 21, 13)] ∈ ax_tbl := ax_t (ax_b5 (List.mem_of_getElem? (i := 190) rfl)) rfl
theorem wd_1256 : Cond.methodLink RL 230 yL_span ∈ ax_tbl := ax_t (ax_b5 (List.mem_of_getElem? (i := 210) rfl)) rfl
theorem wd_1257 : Cond.static yL_span ∈ ax_tbl := ax_t (ax_b5 (List.mem_of_getElem? (i := 211) rfl)) rfl
theorem wd_1258 : Cond.codeWith yL_span cL_span 10 (some .int) [(0, 20, 23, 13)] ∈ ax_tbl := ax_t (ax_b5 (List.mem_of_getElem? (i := 212) rfl)) rfl
theorem wd_1263 : Cond.classLink RL 111 RX10 ∈ ax_tbl := ax_t (ax_b5 (List.mem_of_getElem? (i := 217) rfl)) rfl
theorem wd_1264 : Cond.instantiable RX10 49 ∈ ax_tbl := ax_t (ax_b5 (List.mem_of_getElem? (i := 218) rfl)) rfl
theorem wd_1265 : Cond.methodLink RL 113 yX10_init ∈ ax_tbl := ax_t (ax_b5 (List.mem_of_getElem? (i := 219) rfl)) rfl
theorem wd_1266 : Cond.instanceMethod yX10_init ∈ ax_tbl := ax_t (ax_b5 (List.mem_of_getElem? (i := 220) rfl)) rfl
theorem wd_1267 : Cond.code yX10_init cX10_init 1 none ∈ ax_tbl := ax_t (ax_b5 (List.mem_of_getElem? (i := 221) rfl)) rfl
theorem wd_1268 : Cond.methodLink RX10 1 objectInit ∈ ax_tbl := ax_t (ax_b5 (List.mem_of_getElem? (i := 222) rfl)) rfl
theorem wd_1269 : Cond.classLink RX10 32 "[[I" ∈ ax_tbl := ax_t (ax_b5 (List.mem_of_getElem? (i := 223) rfl)) rfl
theorem wd_1433 : Cond.arrayClass FieldType.long ∈ ax_tbl := ax_t (ax_b6 (List.mem_of_getElem? (i := 147) rfl)) rfl
theorem wd_1434 : Cond.methodLink RL 125 yX10_thrown ∈ ax_tbl := ax_t (ax_b6 (List.mem_of_getElem? (i := 148) rfl)) rfl
theorem wd_1435 : Cond.instanceMethod yX10_thrown ∈ ax_tbl := ax_t (ax_b6 (List.mem_of_getElem? (i := 149) rfl)) rfl
theorem wd_1436 : Cond.selects RX10 yX10_thrown yX10_thrown ∈ ax_tbl := ax_t (ax_b6 (List.mem_of_getElem? (i := 150) rfl)) rfl
theorem wd_1437 : Cond.code yX10_thrown cX10_thrown 1 (some .int) ∈ ax_tbl := ax_t (ax_b6 (List.mem_of_getElem? (i := 151) rfl)) rfl
theorem wd_1438 : Cond.methodLink RL 118 yX10_feed ∈ ax_tbl := ax_t (ax_b6 (List.mem_of_getElem? (i := 152) rfl)) rfl
theorem wd_1439 : Cond.instanceMethod yX10_feed ∈ ax_tbl := ax_t (ax_b6 (List.mem_of_getElem? (i := 153) rfl)) rfl
theorem wd_1440 : Cond.selects RX10 yX10_feed yX10_feed ∈ ax_tbl := ax_t (ax_b6 (List.mem_of_getElem? (i := 154) rfl)) rfl
theorem wd_1441 : Cond.code yX10_feed cX10_feed 8 (some .int) ∈ ax_tbl := ax_t (ax_b6 (List.mem_of_getElem? (i := 155) rfl)) rfl
theorem wd_1442 : Cond.methodLink RL 124 yX10_abbey ∈ ax_tbl := ax_t (ax_b6 (List.mem_of_getElem? (i := 156) rfl)) rfl
theorem wd_1443 : Cond.instanceMethod yX10_abbey ∈ ax_tbl := ax_t (ax_b6 (List.mem_of_getElem? (i := 157) rfl)) rfl
theorem wd_1444 : Cond.selects RX10 yX10_abbey yX10_abbey ∈ ax_tbl := ax_t (ax_b6 (List.mem_of_getElem? (i := 158) rfl)) rfl
theorem wd_1445 : Cond.code yX10_abbey cX10_abbey 2 (some .int) ∈ ax_tbl := ax_t (ax_b6 (List.mem_of_getElem? (i := 159) rfl)) rfl
theorem wd_1524 : Cond.methodLink RL 131 yX10_law ∈ ax_tbl := ax_t (ax_b6 (List.mem_of_getElem? (i := 238) rfl)) rfl
theorem wd_1525 : Cond.instanceMethod yX10_law ∈ ax_tbl := ax_t (ax_b6 (List.mem_of_getElem? (i := 239) rfl)) rfl
theorem wd_1526 : Cond.selects RX10 yX10_law yX10_law ∈ ax_tbl := ax_t (ax_b7 (List.mem_of_getElem? (i := 0) rfl)) rfl
theorem wd_1527 : Cond.code yX10_law cX10_law 2 (some .int) ∈ ax_tbl := ax_t (ax_b7 (List.mem_of_getElem? (i := 1) rfl)) rfl
theorem wd_1560 : Cond.methodLink RL 137 yX10_book ∈ ax_tbl := ax_t (ax_b7 (List.mem_of_getElem? (i := 34) rfl)) rfl
theorem wd_1561 : Cond.instanceMethod yX10_book ∈ ax_tbl := ax_t (ax_b7 (List.mem_of_getElem? (i := 35) rfl)) rfl
theorem wd_1562 : Cond.selects RX10 yX10_book yX10_book ∈ ax_tbl := ax_t (ax_b7 (List.mem_of_getElem? (i := 36) rfl)) rfl
theorem wd_1563 : Cond.code yX10_book cX10_book 6 (some .int) ∈ ax_tbl := ax_t (ax_b7 (List.mem_of_getElem? (i := 37) rfl)) rfl
theorem wd_1564 : Cond.methodLink RL 141 yX10_fault ∈ ax_tbl := ax_t (ax_b7 (List.mem_of_getElem? (i := 38) rfl)) rfl
theorem wd_1565 : Cond.instanceMethod yX10_fault ∈ ax_tbl := ax_t (ax_b7 (List.mem_of_getElem? (i := 39) rfl)) rfl
theorem wd_1566 : Cond.selects RX10 yX10_fault yX10_fault ∈ ax_tbl := ax_t (ax_b7 (List.mem_of_getElem? (i := 40) rfl)) rfl
theorem wd_1567 : Cond.code yX10_fault cX10_fault 1 (some .int) ∈ ax_tbl := ax_t (ax_b7 (List.mem_of_getElem? (i := 41) rfl)) rfl
theorem wd_1568 : Cond.methodLink RL 134 yX10_work ∈ ax_tbl := ax_t (ax_b7 (List.mem_of_getElem? (i := 42) rfl)) rfl
theorem wd_1569 : Cond.instanceMethod yX10_work ∈ ax_tbl := ax_t (ax_b7 (List.mem_of_getElem? (i := 43) rfl)) rfl
theorem wd_1570 : Cond.selects RX10 yX10_work yX10_work ∈ ax_tbl := ax_t (ax_b7 (List.mem_of_getElem? (i := 44) rfl)) rfl
theorem wd_1571 : Cond.code yX10_work cX10_work 2 (some .int) ∈ ax_tbl := ax_t (ax_b7 (List.mem_of_getElem? (i := 45) rfl)) rfl
theorem wd_1634 : Cond.methodLink RL 145 yX10_undo ∈ ax_tbl := ax_t (ax_b7 (List.mem_of_getElem? (i := 108) rfl)) rfl
theorem wd_1635 : Cond.instanceMethod yX10_undo ∈ ax_tbl := ax_t (ax_b7 (List.mem_of_getElem? (i := 109) rfl)) rfl
theorem wd_1636 : Cond.selects RX10 yX10_undo yX10_undo ∈ ax_tbl := ax_t (ax_b7 (List.mem_of_getElem? (i := 110) rfl)) rfl
theorem wd_1637 : Cond.code yX10_undo cX10_undo 1 (some .int) ∈ ax_tbl := ax_t (ax_b7 (List.mem_of_getElem? (i := 111) rfl)) rfl
theorem wd_1638 : Cond.methodLink RL 148 yX10_told ∈ ax_tbl := ax_t (ax_b7 (List.mem_of_getElem? (i := 112) rfl)) rfl
theorem wd_1639 : Cond.instanceMethod yX10_told ∈ ax_tbl := ax_t (ax_b7 (List.mem_of_getElem? (i := 113) rfl)) rfl
theorem wd_1640 : Cond.selects RX10 yX10_told yX10_told ∈ ax_tbl := ax_t (ax_b7 (List.mem_of_getElem? (i := 114) rfl)) rfl
theorem wd_1641 : Cond.code yX10_told cX10_told 2 (some .int) ∈ ax_tbl := ax_t (ax_b7 (List.mem_of_getElem? (i := 115) rfl)) rfl
theorem wd_1642 : Cond.methodLink RL 151 yX10_many ∈ ax_tbl := ax_t (ax_b7 (List.mem_of_getElem? (i := 116) rfl)) rfl
theorem wd_1643 : Cond.instanceMethod yX10_many ∈ ax_tbl := ax_t (ax_b7 (List.mem_of_getElem? (i := 117) rfl)) rfl
theorem wd_1644 : Cond.selects RX10 yX10_many yX10_many ∈ ax_tbl := ax_t (ax_b7 (List.mem_of_getElem? (i := 118) rfl)) rfl
theorem wd_1645 : Cond.code yX10_many cX10_many 2 (some .int) ∈ ax_tbl := ax_t (ax_b7 (List.mem_of_getElem? (i := 119) rfl)) rfl
theorem wd_1646 : Cond.methodLink RL 155 yX10_monk ∈ ax_tbl := ax_t (ax_b7 (List.mem_of_getElem? (i := 120) rfl)) rfl
theorem wd_1647 : Cond.instanceMethod yX10_monk ∈ ax_tbl := ax_t (ax_b7 (List.mem_of_getElem? (i := 121) rfl)) rfl
theorem wd_1648 : Cond.selects RX10 yX10_monk yX10_monk ∈ ax_tbl := ax_t (ax_b7 (List.mem_of_getElem? (i := 122) rfl)) rfl
theorem wd_1649 : Cond.code yX10_monk cX10_monk 3 (some .int) ∈ ax_tbl := ax_t (ax_b7 (List.mem_of_getElem? (i := 123) rfl)) rfl
theorem wd_1654 : Cond.methodLink RL 158 yX10_village ∈ ax_tbl := ax_t (ax_b7 (List.mem_of_getElem? (i := 128) rfl)) rfl
theorem wd_1655 : Cond.instanceMethod yX10_village ∈ ax_tbl := ax_t (ax_b7 (List.mem_of_getElem? (i := 129) rfl)) rfl
theorem wd_1656 : Cond.selects RX10 yX10_village yX10_village ∈ ax_tbl := ax_t (ax_b7 (List.mem_of_getElem? (i := 130) rfl)) rfl
theorem wd_1657 : Cond.code yX10_village cX10_village 3 (some .int) ∈ ax_tbl := ax_t (ax_b7 (List.mem_of_getElem? (i := 131) rfl)) rfl
theorem wd_1658 : Cond.methodLink RL 161 yX10_cell ∈ ax_tbl := ax_t (ax_b7 (List.mem_of_getElem? (i := 132) rfl)) rfl
theorem wd_1659 : Cond.instanceMethod yX10_cell ∈ ax_tbl := ax_t (ax_b7 (List.mem_of_getElem? (i := 133) rfl)) rfl
theorem wd_1660 : Cond.selects RX10 yX10_cell yX10_cell ∈ ax_tbl := ax_t (ax_b7 (List.mem_of_getElem? (i := 134) rfl)) rfl
theorem wd_1661 : Cond.code yX10_cell cX10_cell 2 (some .int) ∈ ax_tbl := ax_t (ax_b7 (List.mem_of_getElem? (i := 135) rfl)) rfl
theorem wd_1662 : Cond.methodLink RL 164 yX10_heir ∈ ax_tbl := ax_t (ax_b7 (List.mem_of_getElem? (i := 136) rfl)) rfl
theorem wd_1663 : Cond.instanceMethod yX10_heir ∈ ax_tbl := ax_t (ax_b7 (List.mem_of_getElem? (i := 137) rfl)) rfl
theorem wd_1664 : Cond.selects RX10 yX10_heir yX10_heir ∈ ax_tbl := ax_t (ax_b7 (List.mem_of_getElem? (i := 138) rfl)) rfl
theorem wd_1665 : Cond.code yX10_heir cX10_heir 2 (some .int) ∈ ax_tbl := ax_t (ax_b7 (List.mem_of_getElem? (i := 139) rfl)) rfl
theorem wd_1666 : Cond.methodLink RL 168 yX10_strokes ∈ ax_tbl := ax_t (ax_b7 (List.mem_of_getElem? (i := 140) rfl)) rfl
theorem wd_1667 : Cond.instanceMethod yX10_strokes ∈ ax_tbl := ax_t (ax_b7 (List.mem_of_getElem? (i := 141) rfl)) rfl
theorem wd_1668 : Cond.selects RX10 yX10_strokes yX10_strokes ∈ ax_tbl := ax_t (ax_b7 (List.mem_of_getElem? (i := 142) rfl)) rfl
theorem wd_1669 : Cond.code yX10_strokes cX10_strokes 1 (some .int) ∈ ax_tbl := ax_t (ax_b7 (List.mem_of_getElem? (i := 143) rfl)) rfl
theorem wd_1670 : Cond.methodLink RL 172 yX10_would ∈ ax_tbl := ax_t (ax_b7 (List.mem_of_getElem? (i := 144) rfl)) rfl
theorem wd_1671 : Cond.instanceMethod yX10_would ∈ ax_tbl := ax_t (ax_b7 (List.mem_of_getElem? (i := 145) rfl)) rfl
theorem wd_1672 : Cond.selects RX10 yX10_would yX10_would ∈ ax_tbl := ax_t (ax_b7 (List.mem_of_getElem? (i := 146) rfl)) rfl
theorem wd_1673 : Cond.code yX10_would cX10_would 8 (some .int) ∈ ax_tbl := ax_t (ax_b7 (List.mem_of_getElem? (i := 147) rfl)) rfl
theorem wd_1674 : Cond.methodLink RL 175 yX10_noise ∈ ax_tbl := ax_t (ax_b7 (List.mem_of_getElem? (i := 148) rfl)) rfl
theorem wd_1675 : Cond.instanceMethod yX10_noise ∈ ax_tbl := ax_t (ax_b7 (List.mem_of_getElem? (i := 149) rfl)) rfl
theorem wd_1676 : Cond.selects RX10 yX10_noise yX10_noise ∈ ax_tbl := ax_t (ax_b7 (List.mem_of_getElem? (i := 150) rfl)) rfl
theorem wd_1677 : Cond.code yX10_noise cX10_noise 3 (some .int) ∈ ax_tbl := ax_t (ax_b7 (List.mem_of_getElem? (i := 151) rfl)) rfl
theorem wd_1678 : Cond.methodLink RL 217 yX10_sleepers ∈ ax_tbl := ax_t (ax_b7 (List.mem_of_getElem? (i := 152) rfl)) rfl
theorem wd_1679 : Cond.instanceMethod yX10_sleepers ∈ ax_tbl := ax_t (ax_b7 (List.mem_of_getElem? (i := 153) rfl)) rfl
theorem wd_1680 : Cond.selects RX10 yX10_sleepers yX10_sleepers ∈ ax_tbl := ax_t (ax_b7 (List.mem_of_getElem? (i := 154) rfl)) rfl
theorem wd_1681 : Cond.code yX10_sleepers cX10_sleepers 4 (some .int) ∈ ax_tbl := ax_t (ax_b7 (List.mem_of_getElem? (i := 155) rfl)) rfl
theorem wd_1682 : Cond.methodLink RL 223 yX10_bears ∈ ax_tbl := ax_t (ax_b7 (List.mem_of_getElem? (i := 156) rfl)) rfl
theorem wd_1683 : Cond.instanceMethod yX10_bears ∈ ax_tbl := ax_t (ax_b7 (List.mem_of_getElem? (i := 157) rfl)) rfl
theorem wd_1684 : Cond.selects RX10 yX10_bears yX10_bears ∈ ax_tbl := ax_t (ax_b7 (List.mem_of_getElem? (i := 158) rfl)) rfl
theorem wd_1685 : Cond.code yX10_bears cX10_bears 4 (some .int) ∈ ax_tbl := ax_t (ax_b7 (List.mem_of_getElem? (i := 159) rfl)) rfl
theorem wd_1686 : Cond.methodLink RL 220 yX10_grows ∈ ax_tbl := ax_t (ax_b7 (List.mem_of_getElem? (i := 160) rfl)) rfl
theorem wd_1687 : Cond.instanceMethod yX10_grows ∈ ax_tbl := ax_t (ax_b7 (List.mem_of_getElem? (i := 161) rfl)) rfl
theorem wd_1688 : Cond.selects RX10 yX10_grows yX10_grows ∈ ax_tbl := ax_t (ax_b7 (List.mem_of_getElem? (i := 162) rfl)) rfl
theorem wd_1689 : Cond.code yX10_grows cX10_grows 3 (some .int) ∈ ax_tbl := ax_t (ax_b7 (List.mem_of_getElem? (i := 163) rfl)) rfl
theorem wd_1690 : Cond.methodLink RL 178 yX10_ahead ∈ ax_tbl := ax_t (ax_b7 (List.mem_of_getElem? (i := 164) rfl)) rfl
theorem wd_1691 : Cond.instanceMethod yX10_ahead ∈ ax_tbl := ax_t (ax_b7 (List.mem_of_getElem? (i := 165) rfl)) rfl
theorem wd_1692 : Cond.selects RX10 yX10_ahead yX10_ahead ∈ ax_tbl := ax_t (ax_b7 (List.mem_of_getElem? (i := 166) rfl)) rfl
theorem wd_1693 : Cond.code yX10_ahead cX10_ahead 5 (some .int) ∈ ax_tbl := ax_t (ax_b7 (List.mem_of_getElem? (i := 167) rfl)) rfl
theorem wd_1694 : Cond.methodLink RL 181 yX10_loudest ∈ ax_tbl := ax_t (ax_b7 (List.mem_of_getElem? (i := 168) rfl)) rfl
theorem wd_1695 : Cond.instanceMethod yX10_loudest ∈ ax_tbl := ax_t (ax_b7 (List.mem_of_getElem? (i := 169) rfl)) rfl
theorem wd_1696 : Cond.selects RX10 yX10_loudest yX10_loudest ∈ ax_tbl := ax_t (ax_b7 (List.mem_of_getElem? (i := 170) rfl)) rfl
theorem wd_1697 : Cond.code yX10_loudest cX10_loudest 6 (some .int) ∈ ax_tbl := ax_t (ax_b7 (List.mem_of_getElem? (i := 171) rfl)) rfl
theorem wd_1698 : Cond.methodLink RL 184 yX10_hush ∈ ax_tbl := ax_t (ax_b7 (List.mem_of_getElem? (i := 172) rfl)) rfl
theorem wd_1699 : Cond.instanceMethod yX10_hush ∈ ax_tbl := ax_t (ax_b7 (List.mem_of_getElem? (i := 173) rfl)) rfl
theorem wd_1700 : Cond.selects RX10 yX10_hush yX10_hush ∈ ax_tbl := ax_t (ax_b7 (List.mem_of_getElem? (i := 174) rfl)) rfl
theorem wd_1701 : Cond.code yX10_hush cX10_hush 3 (some .int) ∈ ax_tbl := ax_t (ax_b7 (List.mem_of_getElem? (i := 175) rfl)) rfl
theorem wd_1702 : Cond.methodLink RL 188 yX10_plan ∈ ax_tbl := ax_t (ax_b7 (List.mem_of_getElem? (i := 176) rfl)) rfl
theorem wd_1703 : Cond.instanceMethod yX10_plan ∈ ax_tbl := ax_t (ax_b7 (List.mem_of_getElem? (i := 177) rfl)) rfl
theorem wd_1704 : Cond.selects RX10 yX10_plan yX10_plan ∈ ax_tbl := ax_t (ax_b7 (List.mem_of_getElem? (i := 178) rfl)) rfl
theorem wd_1705 : Cond.code yX10_plan cX10_plan 12 (some .int) ∈ ax_tbl := ax_t (ax_b7 (List.mem_of_getElem? (i := 179) rfl)) rfl
theorem wd_1713 : Cond.methodLink RL 191 yX10_fits ∈ ax_tbl := ax_t (ax_b7 (List.mem_of_getElem? (i := 187) rfl)) rfl
theorem wd_1714 : Cond.instanceMethod yX10_fits ∈ ax_tbl := ax_t (ax_b7 (List.mem_of_getElem? (i := 188) rfl)) rfl
theorem wd_1715 : Cond.selects RX10 yX10_fits yX10_fits ∈ ax_tbl := ax_t (ax_b7 (List.mem_of_getElem? (i := 189) rfl)) rfl
theorem wd_1716 : Cond.code yX10_fits cX10_fits 9 (some .int) ∈ ax_tbl := ax_t (ax_b7 (List.mem_of_getElem? (i := 190) rfl)) rfl
theorem wd_1725 : Cond.methodLink RL 194 yX10_count ∈ ax_tbl := ax_t (ax_b7 (List.mem_of_getElem? (i := 199) rfl)) rfl
theorem wd_1726 : Cond.instanceMethod yX10_count ∈ ax_tbl := ax_t (ax_b7 (List.mem_of_getElem? (i := 200) rfl)) rfl
theorem wd_1727 : Cond.selects RX10 yX10_count yX10_count ∈ ax_tbl := ax_t (ax_b7 (List.mem_of_getElem? (i := 201) rfl)) rfl
theorem wd_1728 : Cond.code yX10_count cX10_count 7 (some .int) ∈ ax_tbl := ax_t (ax_b7 (List.mem_of_getElem? (i := 202) rfl)) rfl
theorem wd_1733 : Cond.methodLink RL 198 yX10_mistaken ∈ ax_tbl := ax_t (ax_b7 (List.mem_of_getElem? (i := 207) rfl)) rfl
theorem wd_1734 : Cond.instanceMethod yX10_mistaken ∈ ax_tbl := ax_t (ax_b7 (List.mem_of_getElem? (i := 208) rfl)) rfl
theorem wd_1735 : Cond.selects RX10 yX10_mistaken yX10_mistaken ∈ ax_tbl := ax_t (ax_b7 (List.mem_of_getElem? (i := 209) rfl)) rfl
theorem wd_1736 : Cond.code yX10_mistaken cX10_mistaken 15 (some .long) ∈ ax_tbl := ax_t (ax_b7 (List.mem_of_getElem? (i := 210) rfl)) rfl
theorem wd_1747 : Cond.methodLink RL 202 yX10_best ∈ ax_tbl := ax_t (ax_b7 (List.mem_of_getElem? (i := 221) rfl)) rfl
theorem wd_1748 : Cond.instanceMethod yX10_best ∈ ax_tbl := ax_t (ax_b7 (List.mem_of_getElem? (i := 222) rfl)) rfl
theorem wd_1749 : Cond.selects RX10 yX10_best yX10_best ∈ ax_tbl := ax_t (ax_b7 (List.mem_of_getElem? (i := 223) rfl)) rfl
theorem wd_1750 : Cond.code yX10_best cX10_best 10 (some .int) ∈ ax_tbl := ax_t (ax_b7 (List.mem_of_getElem? (i := 224) rfl)) rfl
theorem wd_1751 : Cond.methodLink RL 205 yX10_beds ∈ ax_tbl := ax_t (ax_b7 (List.mem_of_getElem? (i := 225) rfl)) rfl
theorem wd_1752 : Cond.instanceMethod yX10_beds ∈ ax_tbl := ax_t (ax_b7 (List.mem_of_getElem? (i := 226) rfl)) rfl
theorem wd_1753 : Cond.selects RX10 yX10_beds yX10_beds ∈ ax_tbl := ax_t (ax_b7 (List.mem_of_getElem? (i := 227) rfl)) rfl
theorem wd_1754 : Cond.code yX10_beds cX10_beds 2 (some .int) ∈ ax_tbl := ax_t (ax_b7 (List.mem_of_getElem? (i := 228) rfl)) rfl
theorem wd_1763 : Cond.methodLink RL 208 yX10_bed ∈ ax_tbl := ax_t (ax_b7 (List.mem_of_getElem? (i := 237) rfl)) rfl
theorem wd_1764 : Cond.instanceMethod yX10_bed ∈ ax_tbl := ax_t (ax_b7 (List.mem_of_getElem? (i := 238) rfl)) rfl
theorem wd_1765 : Cond.selects RX10 yX10_bed yX10_bed ∈ ax_tbl := ax_t (ax_b7 (List.mem_of_getElem? (i := 239) rfl)) rfl
theorem wd_1766 : Cond.code yX10_bed cX10_bed 3 (some .int) ∈ ax_tbl := ax_t (ax_b8 (List.mem_of_getElem? (i := 0) rfl)) rfl
theorem wd_1767 : Cond.methodLink RL 211 yX10_watch ∈ ax_tbl := ax_t (ax_b8 (List.mem_of_getElem? (i := 1) rfl)) rfl
theorem wd_1768 : Cond.instanceMethod yX10_watch ∈ ax_tbl := ax_t (ax_b8 (List.mem_of_getElem? (i := 2) rfl)) rfl
theorem wd_1769 : Cond.selects RX10 yX10_watch yX10_watch ∈ ax_tbl := ax_t (ax_b8 (List.mem_of_getElem? (i := 3) rfl)) rfl
theorem wd_1770 : Cond.code yX10_watch cX10_watch 4 (some .int) ∈ ax_tbl := ax_t (ax_b8 (List.mem_of_getElem? (i := 4) rfl)) rfl
theorem wd_1775 : Cond.methodLink RL 214 yX10_heirs ∈ ax_tbl := ax_t (ax_b8 (List.mem_of_getElem? (i := 9) rfl)) rfl
theorem wd_1776 : Cond.instanceMethod yX10_heirs ∈ ax_tbl := ax_t (ax_b8 (List.mem_of_getElem? (i := 10) rfl)) rfl
theorem wd_1777 : Cond.selects RX10 yX10_heirs yX10_heirs ∈ ax_tbl := ax_t (ax_b8 (List.mem_of_getElem? (i := 11) rfl)) rfl
theorem wd_1778 : Cond.code yX10_heirs cX10_heirs 12 (some .int) ∈ ax_tbl := ax_t (ax_b8 (List.mem_of_getElem? (i := 12) rfl)) rfl
theorem wd_1791 : Cond.methodLink RL 226 yX10_level ∈ ax_tbl := ax_t (ax_b8 (List.mem_of_getElem? (i := 25) rfl)) rfl
theorem wd_1792 : Cond.instanceMethod yX10_level ∈ ax_tbl := ax_t (ax_b8 (List.mem_of_getElem? (i := 26) rfl)) rfl
theorem wd_1793 : Cond.selects RX10 yX10_level yX10_level ∈ ax_tbl := ax_t (ax_b8 (List.mem_of_getElem? (i := 27) rfl)) rfl
theorem wd_1794 : Cond.code yX10_level cX10_level 5 (some .int) ∈ ax_tbl := ax_t (ax_b8 (List.mem_of_getElem? (i := 28) rfl)) rfl
theorem wd_1795 : Cond.methodLink RL 229 yX10_years ∈ ax_tbl := ax_t (ax_b8 (List.mem_of_getElem? (i := 29) rfl)) rfl
theorem wd_1796 : Cond.instanceMethod yX10_years ∈ ax_tbl := ax_t (ax_b8 (List.mem_of_getElem? (i := 30) rfl)) rfl
theorem wd_1797 : Cond.selects RX10 yX10_years yX10_years ∈ ax_tbl := ax_t (ax_b8 (List.mem_of_getElem? (i := 31) rfl)) rfl
theorem wd_1798 : Cond.code yX10_years cX10_years 7 (some .int) ∈ ax_tbl := ax_t (ax_b8 (List.mem_of_getElem? (i := 32) rfl)) rfl
theorem wd_1811 : Cond.methodLink RL 232 yX10_span ∈ ax_tbl := ax_t (ax_b8 (List.mem_of_getElem? (i := 45) rfl)) rfl
theorem wd_1812 : Cond.instanceMethod yX10_span ∈ ax_tbl := ax_t (ax_b8 (List.mem_of_getElem? (i := 46) rfl)) rfl
theorem wd_1813 : Cond.selects RX10 yX10_span yX10_span ∈ ax_tbl := ax_t (ax_b8 (List.mem_of_getElem? (i := 47) rfl)) rfl
theorem wd_1814 : Cond.code yX10_span cX10_span 12 (some .int) ∈ ax_tbl := ax_t (ax_b8 (List.mem_of_getElem? (i := 48) rfl)) rfl
theorem wd_1815 : Cond.methodLink RL 236 yX10_image ∈ ax_tbl := ax_t (ax_b8 (List.mem_of_getElem? (i := 49) rfl)) rfl
theorem wd_1816 : Cond.instanceMethod yX10_image ∈ ax_tbl := ax_t (ax_b8 (List.mem_of_getElem? (i := 50) rfl)) rfl
theorem wd_1817 : Cond.selects RX10 yX10_image yX10_image ∈ ax_tbl := ax_t (ax_b8 (List.mem_of_getElem? (i := 51) rfl)) rfl
theorem wd_1818 : Cond.code yX10_image cX10_image 1 (some .int) ∈ ax_tbl := ax_t (ax_b8 (List.mem_of_getElem? (i := 52) rfl)) rfl
theorem wd_1827 : Cond.methodLink RL 240 yX10_restore ∈ ax_tbl := ax_t (ax_b8 (List.mem_of_getElem? (i := 61) rfl)) rfl
theorem wd_1828 : Cond.instanceMethod yX10_restore ∈ ax_tbl := ax_t (ax_b8 (List.mem_of_getElem? (i := 62) rfl)) rfl
theorem wd_1829 : Cond.selects RX10 yX10_restore yX10_restore ∈ ax_tbl := ax_t (ax_b8 (List.mem_of_getElem? (i := 63) rfl)) rfl
theorem wd_1830 : Cond.code yX10_restore cX10_restore 1 (some .int) ∈ ax_tbl := ax_t (ax_b8 (List.mem_of_getElem? (i := 64) rfl)) rfl
theorem wd_1831 : Cond.methodLink RL 244 yX10_status ∈ ax_tbl := ax_t (ax_b8 (List.mem_of_getElem? (i := 65) rfl)) rfl
theorem wd_1832 : Cond.instanceMethod yX10_status ∈ ax_tbl := ax_t (ax_b8 (List.mem_of_getElem? (i := 66) rfl)) rfl
theorem wd_1833 : Cond.selects RX10 yX10_status yX10_status ∈ ax_tbl := ax_t (ax_b8 (List.mem_of_getElem? (i := 67) rfl)) rfl
theorem wd_1834 : Cond.code yX10_status cX10_status 2 (some .int) ∈ ax_tbl := ax_t (ax_b8 (List.mem_of_getElem? (i := 68) rfl)) rfl
theorem wd_1835 : Cond.methodLink RL 248 yX10_kept ∈ ax_tbl := ax_t (ax_b8 (List.mem_of_getElem? (i := 69) rfl)) rfl
theorem wd_1836 : Cond.instanceMethod yX10_kept ∈ ax_tbl := ax_t (ax_b8 (List.mem_of_getElem? (i := 70) rfl)) rfl
theorem wd_1837 : Cond.selects RX10 yX10_kept yX10_kept ∈ ax_tbl := ax_t (ax_b8 (List.mem_of_getElem? (i := 71) rfl)) rfl
theorem wd_1838 : Cond.code yX10_kept cX10_kept 2 (some .int) ∈ ax_tbl := ax_t (ax_b8 (List.mem_of_getElem? (i := 72) rfl)) rfl
theorem pd_L_abbey : yL_abbey.cls = RL ∧ yL_abbey.cls ≠ "java/lang/invoke/MethodHandle" ∧ yL_abbey.cls ≠ "java/lang/invoke/VarHandle" ∧ (parseMethodDescriptor yL_abbey.desc).map (fun d => d.parameters.length) = some 3 := ⟨rfl, by decide +kernel, by decide +kernel, by decide +kernel⟩
theorem pd_L_ahead : yL_ahead.cls = RL ∧ yL_ahead.cls ≠ "java/lang/invoke/MethodHandle" ∧ yL_ahead.cls ≠ "java/lang/invoke/VarHandle" ∧ (parseMethodDescriptor yL_ahead.desc).map (fun d => d.parameters.length) = some 4 := ⟨rfl, by decide +kernel, by decide +kernel, by decide +kernel⟩
theorem pd_L_bears : yL_bears.cls = RL ∧ yL_bears.cls ≠ "java/lang/invoke/MethodHandle" ∧ yL_bears.cls ≠ "java/lang/invoke/VarHandle" ∧ (parseMethodDescriptor yL_bears.desc).map (fun d => d.parameters.length) = some 4 := ⟨rfl, by decide +kernel, by decide +kernel, by decide +kernel⟩
theorem pd_L_bed : yL_bed.cls = RL ∧ yL_bed.cls ≠ "java/lang/invoke/MethodHandle" ∧ yL_bed.cls ≠ "java/lang/invoke/VarHandle" ∧ (parseMethodDescriptor yL_bed.desc).map (fun d => d.parameters.length) = some 4 := ⟨rfl, by decide +kernel, by decide +kernel, by decide +kernel⟩
theorem pd_L_beds : yL_beds.cls = RL ∧ yL_beds.cls ≠ "java/lang/invoke/MethodHandle" ∧ yL_beds.cls ≠ "java/lang/invoke/VarHandle" ∧ (parseMethodDescriptor yL_beds.desc).map (fun d => d.parameters.length) = some 3 := ⟨rfl, by decide +kernel, by decide +kernel, by decide +kernel⟩
theorem pd_L_best : yL_best.cls = RL ∧ yL_best.cls ≠ "java/lang/invoke/MethodHandle" ∧ yL_best.cls ≠ "java/lang/invoke/VarHandle" ∧ (parseMethodDescriptor yL_best.desc).map (fun d => d.parameters.length) = some 5 := ⟨rfl, by decide +kernel, by decide +kernel, by decide +kernel⟩
theorem pd_L_book : yL_book.cls = RL ∧ yL_book.cls ≠ "java/lang/invoke/MethodHandle" ∧ yL_book.cls ≠ "java/lang/invoke/VarHandle" ∧ (parseMethodDescriptor yL_book.desc).map (fun d => d.parameters.length) = some 3 := ⟨rfl, by decide +kernel, by decide +kernel, by decide +kernel⟩
theorem pd_L_cell : yL_cell.cls = RL ∧ yL_cell.cls ≠ "java/lang/invoke/MethodHandle" ∧ yL_cell.cls ≠ "java/lang/invoke/VarHandle" ∧ (parseMethodDescriptor yL_cell.desc).map (fun d => d.parameters.length) = some 3 := ⟨rfl, by decide +kernel, by decide +kernel, by decide +kernel⟩
theorem pd_L_count : yL_count.cls = RL ∧ yL_count.cls ≠ "java/lang/invoke/MethodHandle" ∧ yL_count.cls ≠ "java/lang/invoke/VarHandle" ∧ (parseMethodDescriptor yL_count.desc).map (fun d => d.parameters.length) = some 3 := ⟨rfl, by decide +kernel, by decide +kernel, by decide +kernel⟩
theorem pd_L_fits : yL_fits.cls = RL ∧ yL_fits.cls ≠ "java/lang/invoke/MethodHandle" ∧ yL_fits.cls ≠ "java/lang/invoke/VarHandle" ∧ (parseMethodDescriptor yL_fits.desc).map (fun d => d.parameters.length) = some 3 := ⟨rfl, by decide +kernel, by decide +kernel, by decide +kernel⟩
theorem pd_L_grows : yL_grows.cls = RL ∧ yL_grows.cls ≠ "java/lang/invoke/MethodHandle" ∧ yL_grows.cls ≠ "java/lang/invoke/VarHandle" ∧ (parseMethodDescriptor yL_grows.desc).map (fun d => d.parameters.length) = some 3 := ⟨rfl, by decide +kernel, by decide +kernel, by decide +kernel⟩
theorem pd_L_heir : yL_heir.cls = RL ∧ yL_heir.cls ≠ "java/lang/invoke/MethodHandle" ∧ yL_heir.cls ≠ "java/lang/invoke/VarHandle" ∧ (parseMethodDescriptor yL_heir.desc).map (fun d => d.parameters.length) = some 3 := ⟨rfl, by decide +kernel, by decide +kernel, by decide +kernel⟩
theorem pd_L_heirs : yL_heirs.cls = RL ∧ yL_heirs.cls ≠ "java/lang/invoke/MethodHandle" ∧ yL_heirs.cls ≠ "java/lang/invoke/VarHandle" ∧ (parseMethodDescriptor yL_heirs.desc).map (fun d => d.parameters.length) = some 4 := ⟨rfl, by decide +kernel, by decide +kernel, by decide +kernel⟩
theorem pd_L_hush : yL_hush.cls = RL ∧ yL_hush.cls ≠ "java/lang/invoke/MethodHandle" ∧ yL_hush.cls ≠ "java/lang/invoke/VarHandle" ∧ (parseMethodDescriptor yL_hush.desc).map (fun d => d.parameters.length) = some 3 := ⟨rfl, by decide +kernel, by decide +kernel, by decide +kernel⟩
theorem pd_L_law : yL_law.cls = RL ∧ yL_law.cls ≠ "java/lang/invoke/MethodHandle" ∧ yL_law.cls ≠ "java/lang/invoke/VarHandle" ∧ (parseMethodDescriptor yL_law.desc).map (fun d => d.parameters.length) = some 3 := ⟨rfl, by decide +kernel, by decide +kernel, by decide +kernel⟩
theorem pd_L_level : yL_level.cls = RL ∧ yL_level.cls ≠ "java/lang/invoke/MethodHandle" ∧ yL_level.cls ≠ "java/lang/invoke/VarHandle" ∧ (parseMethodDescriptor yL_level.desc).map (fun d => d.parameters.length) = some 3 := ⟨rfl, by decide +kernel, by decide +kernel, by decide +kernel⟩
theorem pd_L_loudest : yL_loudest.cls = RL ∧ yL_loudest.cls ≠ "java/lang/invoke/MethodHandle" ∧ yL_loudest.cls ≠ "java/lang/invoke/VarHandle" ∧ (parseMethodDescriptor yL_loudest.desc).map (fun d => d.parameters.length) = some 3 := ⟨rfl, by decide +kernel, by decide +kernel, by decide +kernel⟩
theorem pd_L_many : yL_many.cls = RL ∧ yL_many.cls ≠ "java/lang/invoke/MethodHandle" ∧ yL_many.cls ≠ "java/lang/invoke/VarHandle" ∧ (parseMethodDescriptor yL_many.desc).map (fun d => d.parameters.length) = some 3 := ⟨rfl, by decide +kernel, by decide +kernel, by decide +kernel⟩
theorem pd_L_mistaken : yL_mistaken.cls = RL ∧ yL_mistaken.cls ≠ "java/lang/invoke/MethodHandle" ∧ yL_mistaken.cls ≠ "java/lang/invoke/VarHandle" ∧ (parseMethodDescriptor yL_mistaken.desc).map (fun d => d.parameters.length) = some 8 := ⟨rfl, by decide +kernel, by decide +kernel, by decide +kernel⟩
theorem pd_L_monk : yL_monk.cls = RL ∧ yL_monk.cls ≠ "java/lang/invoke/MethodHandle" ∧ yL_monk.cls ≠ "java/lang/invoke/VarHandle" ∧ (parseMethodDescriptor yL_monk.desc).map (fun d => d.parameters.length) = some 4 := ⟨rfl, by decide +kernel, by decide +kernel, by decide +kernel⟩
theorem pd_L_noise : yL_noise.cls = RL ∧ yL_noise.cls ≠ "java/lang/invoke/MethodHandle" ∧ yL_noise.cls ≠ "java/lang/invoke/VarHandle" ∧ (parseMethodDescriptor yL_noise.desc).map (fun d => d.parameters.length) = some 4 := ⟨rfl, by decide +kernel, by decide +kernel, by decide +kernel⟩
theorem pd_L_plan : yL_plan.cls = RL ∧ yL_plan.cls ≠ "java/lang/invoke/MethodHandle" ∧ yL_plan.cls ≠ "java/lang/invoke/VarHandle" ∧ (parseMethodDescriptor yL_plan.desc).map (fun d => d.parameters.length) = some 6 := ⟨rfl, by decide +kernel, by decide +kernel, by decide +kernel⟩
theorem pd_L_sleepers : yL_sleepers.cls = RL ∧ yL_sleepers.cls ≠ "java/lang/invoke/MethodHandle" ∧ yL_sleepers.cls ≠ "java/lang/invoke/VarHandle" ∧ (parseMethodDescriptor yL_sleepers.desc).map (fun d => d.parameters.length) = some 3 := ⟨rfl, by decide +kernel, by decide +kernel, by decide +kernel⟩
theorem pd_L_span : yL_span.cls = RL ∧ yL_span.cls ≠ "java/lang/invoke/MethodHandle" ∧ yL_span.cls ≠ "java/lang/invoke/VarHandle" ∧ (parseMethodDescriptor yL_span.desc).map (fun d => d.parameters.length) = some 9 := ⟨rfl, by decide +kernel, by decide +kernel, by decide +kernel⟩
theorem pd_L_told : yL_told.cls = RL ∧ yL_told.cls ≠ "java/lang/invoke/MethodHandle" ∧ yL_told.cls ≠ "java/lang/invoke/VarHandle" ∧ (parseMethodDescriptor yL_told.desc).map (fun d => d.parameters.length) = some 3 := ⟨rfl, by decide +kernel, by decide +kernel, by decide +kernel⟩
theorem pd_L_village : yL_village.cls = RL ∧ yL_village.cls ≠ "java/lang/invoke/MethodHandle" ∧ yL_village.cls ≠ "java/lang/invoke/VarHandle" ∧ (parseMethodDescriptor yL_village.desc).map (fun d => d.parameters.length) = some 4 := ⟨rfl, by decide +kernel, by decide +kernel, by decide +kernel⟩
theorem pd_L_watch : yL_watch.cls = RL ∧ yL_watch.cls ≠ "java/lang/invoke/MethodHandle" ∧ yL_watch.cls ≠ "java/lang/invoke/VarHandle" ∧ (parseMethodDescriptor yL_watch.desc).map (fun d => d.parameters.length) = some 4 := ⟨rfl, by decide +kernel, by decide +kernel, by decide +kernel⟩
theorem pd_L_work : yL_work.cls = RL ∧ yL_work.cls ≠ "java/lang/invoke/MethodHandle" ∧ yL_work.cls ≠ "java/lang/invoke/VarHandle" ∧ (parseMethodDescriptor yL_work.desc).map (fun d => d.parameters.length) = some 3 := ⟨rfl, by decide +kernel, by decide +kernel, by decide +kernel⟩
theorem pd_L_would : yL_would.cls = RL ∧ yL_would.cls ≠ "java/lang/invoke/MethodHandle" ∧ yL_would.cls ≠ "java/lang/invoke/VarHandle" ∧ (parseMethodDescriptor yL_would.desc).map (fun d => d.parameters.length) = some 9 := ⟨rfl, by decide +kernel, by decide +kernel, by decide +kernel⟩
theorem pd_L_years : yL_years.cls = RL ∧ yL_years.cls ≠ "java/lang/invoke/MethodHandle" ∧ yL_years.cls ≠ "java/lang/invoke/VarHandle" ∧ (parseMethodDescriptor yL_years.desc).map (fun d => d.parameters.length) = some 8 := ⟨rfl, by decide +kernel, by decide +kernel, by decide +kernel⟩
theorem pd_X0_init : yX0_init.cls = RX0 ∧ yX0_init.cls ≠ "java/lang/invoke/MethodHandle" ∧ yX0_init.cls ≠ "java/lang/invoke/VarHandle" ∧ (parseMethodDescriptor yX0_init.desc).map (fun d => d.parameters.length) = some 0 := ⟨rfl, by decide +kernel, by decide +kernel, by decide +kernel⟩
theorem pd_X10_abbey : yX10_abbey.cls = RX10 ∧ yX10_abbey.cls ≠ "java/lang/invoke/MethodHandle" ∧ yX10_abbey.cls ≠ "java/lang/invoke/VarHandle" ∧ (parseMethodDescriptor yX10_abbey.desc).map (fun d => d.parameters.length) = some 1 := ⟨rfl, by decide +kernel, by decide +kernel, by decide +kernel⟩
theorem pd_X10_ahead : yX10_ahead.cls = RX10 ∧ yX10_ahead.cls ≠ "java/lang/invoke/MethodHandle" ∧ yX10_ahead.cls ≠ "java/lang/invoke/VarHandle" ∧ (parseMethodDescriptor yX10_ahead.desc).map (fun d => d.parameters.length) = some 2 := ⟨rfl, by decide +kernel, by decide +kernel, by decide +kernel⟩
theorem pd_X10_bears : yX10_bears.cls = RX10 ∧ yX10_bears.cls ≠ "java/lang/invoke/MethodHandle" ∧ yX10_bears.cls ≠ "java/lang/invoke/VarHandle" ∧ (parseMethodDescriptor yX10_bears.desc).map (fun d => d.parameters.length) = some 2 := ⟨rfl, by decide +kernel, by decide +kernel, by decide +kernel⟩
theorem pd_X10_bed : yX10_bed.cls = RX10 ∧ yX10_bed.cls ≠ "java/lang/invoke/MethodHandle" ∧ yX10_bed.cls ≠ "java/lang/invoke/VarHandle" ∧ (parseMethodDescriptor yX10_bed.desc).map (fun d => d.parameters.length) = some 2 := ⟨rfl, by decide +kernel, by decide +kernel, by decide +kernel⟩
theorem pd_X10_beds : yX10_beds.cls = RX10 ∧ yX10_beds.cls ≠ "java/lang/invoke/MethodHandle" ∧ yX10_beds.cls ≠ "java/lang/invoke/VarHandle" ∧ (parseMethodDescriptor yX10_beds.desc).map (fun d => d.parameters.length) = some 1 := ⟨rfl, by decide +kernel, by decide +kernel, by decide +kernel⟩
theorem pd_X10_best : yX10_best.cls = RX10 ∧ yX10_best.cls ≠ "java/lang/invoke/MethodHandle" ∧ yX10_best.cls ≠ "java/lang/invoke/VarHandle" ∧ (parseMethodDescriptor yX10_best.desc).map (fun d => d.parameters.length) = some 3 := ⟨rfl, by decide +kernel, by decide +kernel, by decide +kernel⟩
theorem pd_X10_book : yX10_book.cls = RX10 ∧ yX10_book.cls ≠ "java/lang/invoke/MethodHandle" ∧ yX10_book.cls ≠ "java/lang/invoke/VarHandle" ∧ (parseMethodDescriptor yX10_book.desc).map (fun d => d.parameters.length) = some 1 := ⟨rfl, by decide +kernel, by decide +kernel, by decide +kernel⟩
theorem pd_X10_cell : yX10_cell.cls = RX10 ∧ yX10_cell.cls ≠ "java/lang/invoke/MethodHandle" ∧ yX10_cell.cls ≠ "java/lang/invoke/VarHandle" ∧ (parseMethodDescriptor yX10_cell.desc).map (fun d => d.parameters.length) = some 1 := ⟨rfl, by decide +kernel, by decide +kernel, by decide +kernel⟩
theorem pd_X10_count : yX10_count.cls = RX10 ∧ yX10_count.cls ≠ "java/lang/invoke/MethodHandle" ∧ yX10_count.cls ≠ "java/lang/invoke/VarHandle" ∧ (parseMethodDescriptor yX10_count.desc).map (fun d => d.parameters.length) = some 1 := ⟨rfl, by decide +kernel, by decide +kernel, by decide +kernel⟩
theorem pd_X10_fault : yX10_fault.cls = RX10 ∧ yX10_fault.cls ≠ "java/lang/invoke/MethodHandle" ∧ yX10_fault.cls ≠ "java/lang/invoke/VarHandle" ∧ (parseMethodDescriptor yX10_fault.desc).map (fun d => d.parameters.length) = some 0 := ⟨rfl, by decide +kernel, by decide +kernel, by decide +kernel⟩
theorem pd_X10_feed : yX10_feed.cls = RX10 ∧ yX10_feed.cls ≠ "java/lang/invoke/MethodHandle" ∧ yX10_feed.cls ≠ "java/lang/invoke/VarHandle" ∧ (parseMethodDescriptor yX10_feed.desc).map (fun d => d.parameters.length) = some 5 := ⟨rfl, by decide +kernel, by decide +kernel, by decide +kernel⟩
theorem pd_X10_fits : yX10_fits.cls = RX10 ∧ yX10_fits.cls ≠ "java/lang/invoke/MethodHandle" ∧ yX10_fits.cls ≠ "java/lang/invoke/VarHandle" ∧ (parseMethodDescriptor yX10_fits.desc).map (fun d => d.parameters.length) = some 1 := ⟨rfl, by decide +kernel, by decide +kernel, by decide +kernel⟩
theorem pd_X10_grows : yX10_grows.cls = RX10 ∧ yX10_grows.cls ≠ "java/lang/invoke/MethodHandle" ∧ yX10_grows.cls ≠ "java/lang/invoke/VarHandle" ∧ (parseMethodDescriptor yX10_grows.desc).map (fun d => d.parameters.length) = some 1 := ⟨rfl, by decide +kernel, by decide +kernel, by decide +kernel⟩
theorem pd_X10_heir : yX10_heir.cls = RX10 ∧ yX10_heir.cls ≠ "java/lang/invoke/MethodHandle" ∧ yX10_heir.cls ≠ "java/lang/invoke/VarHandle" ∧ (parseMethodDescriptor yX10_heir.desc).map (fun d => d.parameters.length) = some 1 := ⟨rfl, by decide +kernel, by decide +kernel, by decide +kernel⟩
theorem pd_X10_heirs : yX10_heirs.cls = RX10 ∧ yX10_heirs.cls ≠ "java/lang/invoke/MethodHandle" ∧ yX10_heirs.cls ≠ "java/lang/invoke/VarHandle" ∧ (parseMethodDescriptor yX10_heirs.desc).map (fun d => d.parameters.length) = some 2 := ⟨rfl, by decide +kernel, by decide +kernel, by decide +kernel⟩
theorem pd_X10_hush : yX10_hush.cls = RX10 ∧ yX10_hush.cls ≠ "java/lang/invoke/MethodHandle" ∧ yX10_hush.cls ≠ "java/lang/invoke/VarHandle" ∧ (parseMethodDescriptor yX10_hush.desc).map (fun d => d.parameters.length) = some 1 := ⟨rfl, by decide +kernel, by decide +kernel, by decide +kernel⟩
theorem pd_X10_image : yX10_image.cls = RX10 ∧ yX10_image.cls ≠ "java/lang/invoke/MethodHandle" ∧ yX10_image.cls ≠ "java/lang/invoke/VarHandle" ∧ (parseMethodDescriptor yX10_image.desc).map (fun d => d.parameters.length) = some 0 := ⟨rfl, by decide +kernel, by decide +kernel, by decide +kernel⟩
theorem pd_X10_init : yX10_init.cls = RX10 ∧ yX10_init.cls ≠ "java/lang/invoke/MethodHandle" ∧ yX10_init.cls ≠ "java/lang/invoke/VarHandle" ∧ (parseMethodDescriptor yX10_init.desc).map (fun d => d.parameters.length) = some 0 := ⟨rfl, by decide +kernel, by decide +kernel, by decide +kernel⟩
theorem pd_X10_kept : yX10_kept.cls = RX10 ∧ yX10_kept.cls ≠ "java/lang/invoke/MethodHandle" ∧ yX10_kept.cls ≠ "java/lang/invoke/VarHandle" ∧ (parseMethodDescriptor yX10_kept.desc).map (fun d => d.parameters.length) = some 1 := ⟨rfl, by decide +kernel, by decide +kernel, by decide +kernel⟩
theorem pd_X10_law : yX10_law.cls = RX10 ∧ yX10_law.cls ≠ "java/lang/invoke/MethodHandle" ∧ yX10_law.cls ≠ "java/lang/invoke/VarHandle" ∧ (parseMethodDescriptor yX10_law.desc).map (fun d => d.parameters.length) = some 1 := ⟨rfl, by decide +kernel, by decide +kernel, by decide +kernel⟩
theorem pd_X10_level : yX10_level.cls = RX10 ∧ yX10_level.cls ≠ "java/lang/invoke/MethodHandle" ∧ yX10_level.cls ≠ "java/lang/invoke/VarHandle" ∧ (parseMethodDescriptor yX10_level.desc).map (fun d => d.parameters.length) = some 1 := ⟨rfl, by decide +kernel, by decide +kernel, by decide +kernel⟩
theorem pd_X10_loudest : yX10_loudest.cls = RX10 ∧ yX10_loudest.cls ≠ "java/lang/invoke/MethodHandle" ∧ yX10_loudest.cls ≠ "java/lang/invoke/VarHandle" ∧ (parseMethodDescriptor yX10_loudest.desc).map (fun d => d.parameters.length) = some 1 := ⟨rfl, by decide +kernel, by decide +kernel, by decide +kernel⟩
theorem pd_X10_many : yX10_many.cls = RX10 ∧ yX10_many.cls ≠ "java/lang/invoke/MethodHandle" ∧ yX10_many.cls ≠ "java/lang/invoke/VarHandle" ∧ (parseMethodDescriptor yX10_many.desc).map (fun d => d.parameters.length) = some 1 := ⟨rfl, by decide +kernel, by decide +kernel, by decide +kernel⟩
theorem pd_X10_mistaken : yX10_mistaken.cls = RX10 ∧ yX10_mistaken.cls ≠ "java/lang/invoke/MethodHandle" ∧ yX10_mistaken.cls ≠ "java/lang/invoke/VarHandle" ∧ (parseMethodDescriptor yX10_mistaken.desc).map (fun d => d.parameters.length) = some 6 := ⟨rfl, by decide +kernel, by decide +kernel, by decide +kernel⟩
theorem pd_X10_monk : yX10_monk.cls = RX10 ∧ yX10_monk.cls ≠ "java/lang/invoke/MethodHandle" ∧ yX10_monk.cls ≠ "java/lang/invoke/VarHandle" ∧ (parseMethodDescriptor yX10_monk.desc).map (fun d => d.parameters.length) = some 2 := ⟨rfl, by decide +kernel, by decide +kernel, by decide +kernel⟩
theorem pd_X10_noise : yX10_noise.cls = RX10 ∧ yX10_noise.cls ≠ "java/lang/invoke/MethodHandle" ∧ yX10_noise.cls ≠ "java/lang/invoke/VarHandle" ∧ (parseMethodDescriptor yX10_noise.desc).map (fun d => d.parameters.length) = some 2 := ⟨rfl, by decide +kernel, by decide +kernel, by decide +kernel⟩
theorem pd_X10_plan : yX10_plan.cls = RX10 ∧ yX10_plan.cls ≠ "java/lang/invoke/MethodHandle" ∧ yX10_plan.cls ≠ "java/lang/invoke/VarHandle" ∧ (parseMethodDescriptor yX10_plan.desc).map (fun d => d.parameters.length) = some 4 := ⟨rfl, by decide +kernel, by decide +kernel, by decide +kernel⟩
theorem pd_X10_restore : yX10_restore.cls = RX10 ∧ yX10_restore.cls ≠ "java/lang/invoke/MethodHandle" ∧ yX10_restore.cls ≠ "java/lang/invoke/VarHandle" ∧ (parseMethodDescriptor yX10_restore.desc).map (fun d => d.parameters.length) = some 0 := ⟨rfl, by decide +kernel, by decide +kernel, by decide +kernel⟩
theorem pd_X10_sleepers : yX10_sleepers.cls = RX10 ∧ yX10_sleepers.cls ≠ "java/lang/invoke/MethodHandle" ∧ yX10_sleepers.cls ≠ "java/lang/invoke/VarHandle" ∧ (parseMethodDescriptor yX10_sleepers.desc).map (fun d => d.parameters.length) = some 1 := ⟨rfl, by decide +kernel, by decide +kernel, by decide +kernel⟩
theorem pd_X10_span : yX10_span.cls = RX10 ∧ yX10_span.cls ≠ "java/lang/invoke/MethodHandle" ∧ yX10_span.cls ≠ "java/lang/invoke/VarHandle" ∧ (parseMethodDescriptor yX10_span.desc).map (fun d => d.parameters.length) = some 7 := ⟨rfl, by decide +kernel, by decide +kernel, by decide +kernel⟩
theorem pd_X10_status : yX10_status.cls = RX10 ∧ yX10_status.cls ≠ "java/lang/invoke/MethodHandle" ∧ yX10_status.cls ≠ "java/lang/invoke/VarHandle" ∧ (parseMethodDescriptor yX10_status.desc).map (fun d => d.parameters.length) = some 1 := ⟨rfl, by decide +kernel, by decide +kernel, by decide +kernel⟩
theorem pd_X10_strokes : yX10_strokes.cls = RX10 ∧ yX10_strokes.cls ≠ "java/lang/invoke/MethodHandle" ∧ yX10_strokes.cls ≠ "java/lang/invoke/VarHandle" ∧ (parseMethodDescriptor yX10_strokes.desc).map (fun d => d.parameters.length) = some 0 := ⟨rfl, by decide +kernel, by decide +kernel, by decide +kernel⟩
theorem pd_X10_thrown : yX10_thrown.cls = RX10 ∧ yX10_thrown.cls ≠ "java/lang/invoke/MethodHandle" ∧ yX10_thrown.cls ≠ "java/lang/invoke/VarHandle" ∧ (parseMethodDescriptor yX10_thrown.desc).map (fun d => d.parameters.length) = some 0 := ⟨rfl, by decide +kernel, by decide +kernel, by decide +kernel⟩
theorem pd_X10_told : yX10_told.cls = RX10 ∧ yX10_told.cls ≠ "java/lang/invoke/MethodHandle" ∧ yX10_told.cls ≠ "java/lang/invoke/VarHandle" ∧ (parseMethodDescriptor yX10_told.desc).map (fun d => d.parameters.length) = some 1 := ⟨rfl, by decide +kernel, by decide +kernel, by decide +kernel⟩
theorem pd_X10_undo : yX10_undo.cls = RX10 ∧ yX10_undo.cls ≠ "java/lang/invoke/MethodHandle" ∧ yX10_undo.cls ≠ "java/lang/invoke/VarHandle" ∧ (parseMethodDescriptor yX10_undo.desc).map (fun d => d.parameters.length) = some 0 := ⟨rfl, by decide +kernel, by decide +kernel, by decide +kernel⟩
theorem pd_X10_village : yX10_village.cls = RX10 ∧ yX10_village.cls ≠ "java/lang/invoke/MethodHandle" ∧ yX10_village.cls ≠ "java/lang/invoke/VarHandle" ∧ (parseMethodDescriptor yX10_village.desc).map (fun d => d.parameters.length) = some 2 := ⟨rfl, by decide +kernel, by decide +kernel, by decide +kernel⟩
theorem pd_X10_watch : yX10_watch.cls = RX10 ∧ yX10_watch.cls ≠ "java/lang/invoke/MethodHandle" ∧ yX10_watch.cls ≠ "java/lang/invoke/VarHandle" ∧ (parseMethodDescriptor yX10_watch.desc).map (fun d => d.parameters.length) = some 2 := ⟨rfl, by decide +kernel, by decide +kernel, by decide +kernel⟩
theorem pd_X10_work : yX10_work.cls = RX10 ∧ yX10_work.cls ≠ "java/lang/invoke/MethodHandle" ∧ yX10_work.cls ≠ "java/lang/invoke/VarHandle" ∧ (parseMethodDescriptor yX10_work.desc).map (fun d => d.parameters.length) = some 1 := ⟨rfl, by decide +kernel, by decide +kernel, by decide +kernel⟩
theorem pd_X10_would : yX10_would.cls = RX10 ∧ yX10_would.cls ≠ "java/lang/invoke/MethodHandle" ∧ yX10_would.cls ≠ "java/lang/invoke/VarHandle" ∧ (parseMethodDescriptor yX10_would.desc).map (fun d => d.parameters.length) = some 7 := ⟨rfl, by decide +kernel, by decide +kernel, by decide +kernel⟩
theorem pd_X10_years : yX10_years.cls = RX10 ∧ yX10_years.cls ≠ "java/lang/invoke/MethodHandle" ∧ yX10_years.cls ≠ "java/lang/invoke/VarHandle" ∧ (parseMethodDescriptor yX10_years.desc).map (fun d => d.parameters.length) = some 6 := ⟨rfl, by decide +kernel, by decide +kernel, by decide +kernel⟩
theorem pd_X1_init : yX1_init.cls = RX1 ∧ yX1_init.cls ≠ "java/lang/invoke/MethodHandle" ∧ yX1_init.cls ≠ "java/lang/invoke/VarHandle" ∧ (parseMethodDescriptor yX1_init.desc).map (fun d => d.parameters.length) = some 0 := ⟨rfl, by decide +kernel, by decide +kernel, by decide +kernel⟩
theorem pd_X2_init : yX2_init.cls = RX2 ∧ yX2_init.cls ≠ "java/lang/invoke/MethodHandle" ∧ yX2_init.cls ≠ "java/lang/invoke/VarHandle" ∧ (parseMethodDescriptor yX2_init.desc).map (fun d => d.parameters.length) = some 0 := ⟨rfl, by decide +kernel, by decide +kernel, by decide +kernel⟩
theorem pd_X3_init : yX3_init.cls = RX3 ∧ yX3_init.cls ≠ "java/lang/invoke/MethodHandle" ∧ yX3_init.cls ≠ "java/lang/invoke/VarHandle" ∧ (parseMethodDescriptor yX3_init.desc).map (fun d => d.parameters.length) = some 0 := ⟨rfl, by decide +kernel, by decide +kernel, by decide +kernel⟩
theorem pd_X4_init : yX4_init.cls = RX4 ∧ yX4_init.cls ≠ "java/lang/invoke/MethodHandle" ∧ yX4_init.cls ≠ "java/lang/invoke/VarHandle" ∧ (parseMethodDescriptor yX4_init.desc).map (fun d => d.parameters.length) = some 0 := ⟨rfl, by decide +kernel, by decide +kernel, by decide +kernel⟩
theorem pd_X5_init : yX5_init.cls = RX5 ∧ yX5_init.cls ≠ "java/lang/invoke/MethodHandle" ∧ yX5_init.cls ≠ "java/lang/invoke/VarHandle" ∧ (parseMethodDescriptor yX5_init.desc).map (fun d => d.parameters.length) = some 0 := ⟨rfl, by decide +kernel, by decide +kernel, by decide +kernel⟩
theorem pd_X6_init : yX6_init.cls = RX6 ∧ yX6_init.cls ≠ "java/lang/invoke/MethodHandle" ∧ yX6_init.cls ≠ "java/lang/invoke/VarHandle" ∧ (parseMethodDescriptor yX6_init.desc).map (fun d => d.parameters.length) = some 0 := ⟨rfl, by decide +kernel, by decide +kernel, by decide +kernel⟩
theorem pd_X7_init : yX7_init.cls = RX7 ∧ yX7_init.cls ≠ "java/lang/invoke/MethodHandle" ∧ yX7_init.cls ≠ "java/lang/invoke/VarHandle" ∧ (parseMethodDescriptor yX7_init.desc).map (fun d => d.parameters.length) = some 0 := ⟨rfl, by decide +kernel, by decide +kernel, by decide +kernel⟩
theorem pd_X8_init : yX8_init.cls = RX8 ∧ yX8_init.cls ≠ "java/lang/invoke/MethodHandle" ∧ yX8_init.cls ≠ "java/lang/invoke/VarHandle" ∧ (parseMethodDescriptor yX8_init.desc).map (fun d => d.parameters.length) = some 0 := ⟨rfl, by decide +kernel, by decide +kernel, by decide +kernel⟩
theorem pd_X9_fault : yX9_fault.cls = RX9 ∧ yX9_fault.cls ≠ "java/lang/invoke/MethodHandle" ∧ yX9_fault.cls ≠ "java/lang/invoke/VarHandle" ∧ (parseMethodDescriptor yX9_fault.desc).map (fun d => d.parameters.length) = some 0 := ⟨rfl, by decide +kernel, by decide +kernel, by decide +kernel⟩
theorem pd_X9_feed : yX9_feed.cls = RX9 ∧ yX9_feed.cls ≠ "java/lang/invoke/MethodHandle" ∧ yX9_feed.cls ≠ "java/lang/invoke/VarHandle" ∧ (parseMethodDescriptor yX9_feed.desc).map (fun d => d.parameters.length) = some 5 := ⟨rfl, by decide +kernel, by decide +kernel, by decide +kernel⟩
theorem pd_X9_image : yX9_image.cls = RX9 ∧ yX9_image.cls ≠ "java/lang/invoke/MethodHandle" ∧ yX9_image.cls ≠ "java/lang/invoke/VarHandle" ∧ (parseMethodDescriptor yX9_image.desc).map (fun d => d.parameters.length) = some 0 := ⟨rfl, by decide +kernel, by decide +kernel, by decide +kernel⟩
theorem pd_X9_init : yX9_init.cls = RX9 ∧ yX9_init.cls ≠ "java/lang/invoke/MethodHandle" ∧ yX9_init.cls ≠ "java/lang/invoke/VarHandle" ∧ (parseMethodDescriptor yX9_init.desc).map (fun d => d.parameters.length) = some 0 := ⟨rfl, by decide +kernel, by decide +kernel, by decide +kernel⟩
theorem pd_X9_kept : yX9_kept.cls = RX9 ∧ yX9_kept.cls ≠ "java/lang/invoke/MethodHandle" ∧ yX9_kept.cls ≠ "java/lang/invoke/VarHandle" ∧ (parseMethodDescriptor yX9_kept.desc).map (fun d => d.parameters.length) = some 1 := ⟨rfl, by decide +kernel, by decide +kernel, by decide +kernel⟩
theorem pd_X9_restore : yX9_restore.cls = RX9 ∧ yX9_restore.cls ≠ "java/lang/invoke/MethodHandle" ∧ yX9_restore.cls ≠ "java/lang/invoke/VarHandle" ∧ (parseMethodDescriptor yX9_restore.desc).map (fun d => d.parameters.length) = some 0 := ⟨rfl, by decide +kernel, by decide +kernel, by decide +kernel⟩
theorem pd_X9_status : yX9_status.cls = RX9 ∧ yX9_status.cls ≠ "java/lang/invoke/MethodHandle" ∧ yX9_status.cls ≠ "java/lang/invoke/VarHandle" ∧ (parseMethodDescriptor yX9_status.desc).map (fun d => d.parameters.length) = some 1 := ⟨rfl, by decide +kernel, by decide +kernel, by decide +kernel⟩
theorem pd_X9_strokes : yX9_strokes.cls = RX9 ∧ yX9_strokes.cls ≠ "java/lang/invoke/MethodHandle" ∧ yX9_strokes.cls ≠ "java/lang/invoke/VarHandle" ∧ (parseMethodDescriptor yX9_strokes.desc).map (fun d => d.parameters.length) = some 0 := ⟨rfl, by decide +kernel, by decide +kernel, by decide +kernel⟩
theorem pd_X9_undo : yX9_undo.cls = RX9 ∧ yX9_undo.cls ≠ "java/lang/invoke/MethodHandle" ∧ yX9_undo.cls ≠ "java/lang/invoke/VarHandle" ∧ (parseMethodDescriptor yX9_undo.desc).map (fun d => d.parameters.length) = some 0 := ⟨rfl, by decide +kernel, by decide +kernel, by decide +kernel⟩
