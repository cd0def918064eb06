theorem ax_ins (ws : List Cond) (ps : List Nat) (hp : ws = ps.filterMap (fun i => lw_tbl[i]?)) (h : ws.all goodWord = true) : ∀ w ∈ ws, w ∈ ax_tbl := by
  intro w hw
  have h1 := List.all_eq_true.mp h w hw
  rw [hp] at hw
  obtain ⟨i, -, hi⟩ := List.mem_filterMap.mp hw
  exact ax_in hi h1
theorem ax_t {w : Cond} (h : w ∈ lw_tbl) (hg : goodWord w = true) : w ∈ ax_tbl := List.mem_filter.mpr ⟨h, hg⟩
theorem ax_b1 {w : Cond} (h : w ∈ tables_1_1) : w ∈ lw_tbl := List.mem_append_right _ (List.mem_append_left _ h)
theorem ax_b2 {w : Cond} (h : w ∈ tables_1_2) : w ∈ lw_tbl := List.mem_append_right _ (List.mem_append_right _ (List.mem_append_left _ h))
theorem ax_b3 {w : Cond} (h : w ∈ tables_1_3) : w ∈ lw_tbl := List.mem_append_right _ (List.mem_append_right _ (List.mem_append_right _ (List.mem_append_left _ h)))
theorem ax_b4 {w : Cond} (h : w ∈ tables_1_4) : w ∈ lw_tbl := List.mem_append_right _ (List.mem_append_right _ (List.mem_append_right _ (List.mem_append_right _ (List.mem_append_left _ h))))
theorem ax_b5 {w : Cond} (h : w ∈ tables_1_5) : w ∈ lw_tbl := List.mem_append_right _ (List.mem_append_right _ (List.mem_append_right _ (List.mem_append_right _ (List.mem_append_right _ (List.mem_append_left _ h)))))
theorem ax_b6 {w : Cond} (h : w ∈ tables_1_6) : w ∈ lw_tbl := List.mem_append_right _ (List.mem_append_right _ (List.mem_append_right _ (List.mem_append_right _ (List.mem_append_right _ (List.mem_append_right _ (List.mem_append_left _ h))))))
theorem ax_b7 {w : Cond} (h : w ∈ tables_1_7) : w ∈ lw_tbl := List.mem_append_right _ (List.mem_append_right _ (List.mem_append_right _ (List.mem_append_right _ (List.mem_append_right _ (List.mem_append_right _ (List.mem_append_right _ (List.mem_append_left _ h)))))))
theorem ax_b8 {w : Cond} (h : w ∈ tables_1_8) : w ∈ lw_tbl := List.mem_append_right _ (List.mem_append_right _ (List.mem_append_right _ (List.mem_append_right _ (List.mem_append_right _ (List.mem_append_right _ (List.mem_append_right _ (List.mem_append_right _ (h))))))))
def axIter {β : Type} (B : β → β) (z : β) : Nat → β
  | 0 => z
  | n + 1 => B (axIter B z n)
def axUshr (x y : Int32) : Int32 := (x.toUInt32 >>> (y.toUInt32 &&& Int32.toUInt32 31)).toInt32
theorem axc0 : AxCls 0 RX0 TX0 2 := ⟨rfl, ax_ins _ [252, 254] (by decide +kernel) (by decide +kernel), fun j h => tyX0_ok j h, nmX0⟩
theorem axc1 : AxCls 1 RX1 TX1 12 := ⟨rfl, ax_ins _ [197, 199, 201, 203, 205, 207, 209, 211, 213, 215, 217, 219] (by decide +kernel) (by decide +kernel), fun j h => tyX1_ok j h, nmX1⟩
theorem axc2 : AxCls 2 RX2 TX2 9 := ⟨rfl, ax_ins _ [392, 394, 396, 398, 400, 402, 404, 406, 408] (by decide +kernel) (by decide +kernel), fun j h => tyX2_ok j h, nmX2⟩
theorem axc3 : AxCls 3 RX3 TX3 2 := ⟨rfl, ax_ins _ [424, 426] (by decide +kernel) (by decide +kernel), fun j h => tyX3_ok j h, nmX3⟩
theorem axc4 : AxCls 4 RX4 TX4 4 := ⟨rfl, ax_ins _ [232, 234, 236, 238] (by decide +kernel) (by decide +kernel), fun j h => tyX4_ok j h, nmX4⟩
theorem axc5 : AxCls 5 RX5 TX5 14 := ⟨rfl, ax_ins _ [320, 322, 324, 326, 328, 330, 332, 334, 336, 338, 340, 342, 344, 346] (by decide +kernel) (by decide +kernel), fun j h => tyX5_ok j h, nmX5⟩
theorem axc6 : AxCls 6 RX6 TX6 6 := ⟨rfl, ax_ins _ [273, 275, 277, 279, 281, 283] (by decide +kernel) (by decide +kernel), fun j h => tyX6_ok j h, nmX6⟩
theorem axc7 : AxCls 7 RX7 TX7 8 := ⟨rfl, ax_ins _ [143, 145, 147, 149, 151, 153, 155, 157] (by decide +kernel) (by decide +kernel), fun j h => tyX7_ok j h, nmX7⟩
theorem axc8 : AxCls 8 RX8 TX8 2 := ⟨rfl, ax_ins _ [361, 363] (by decide +kernel) (by decide +kernel), fun j h => tyX8_ok j h, nmX8⟩
theorem axc9 : AxCls 9 RX9 TX9 20 := ⟨rfl, ax_ins _ [473, 475, 477, 479, 481, 483, 485, 487, 489, 491, 493, 495, 497, 499, 501, 503, 505, 507, 509, 511] (by decide +kernel) (by decide +kernel), fun j h => tyX9_ok j h, nmX9⟩
theorem axc10 : AxCls 10 RX10 TX10 49 := ⟨rfl, ax_ins _ [1334, 1336, 1338, 1340, 1342, 1344, 1346, 1348, 1350, 1352, 1354, 1356, 1358, 1360, 1362, 1364, 1366, 1368, 1370, 1372, 1374, 1376, 1378, 1380, 1382, 1384, 1386, 1388, 1390, 1392, 1394, 1396, 1398, 1400, 1402, 1404, 1406, 1408, 1410, 1412, 1414, 1416, 1418, 1420, 1422, 1424, 1426, 1428, 1430] (by decide +kernel) (by decide +kernel), fun j h => tyX10_ok j h, nmX10⟩
theorem cast_iae : Cond.castable "java/lang/IllegalArgumentException" "java/lang/IllegalArgumentException" ∈ lw_tbl := ax_b3 (List.mem_of_getElem? (i := 41) rfl)
theorem cast_nse : Cond.castable "java/util/NoSuchElementException" "java/util/NoSuchElementException" ∈ lw_tbl := ax_b4 (List.mem_of_getElem? (i := 172) rfl)
theorem wd_0 : Cond.selects RX9 yX9_beginAnew yX9_beginAnew ∈ ax_tbl := ax_in (i := 0) (by decide +kernel) rfl
theorem wd_1 : Cond.selects RX4 yX4_emit yX4_emit ∈ ax_tbl := ax_in (i := 1) (by decide +kernel) rfl
theorem wd_2 : Cond.selects RX9 yX9_strokesOf yX9_strokesOf ∈ ax_tbl := ax_in (i := 2) (by decide +kernel) rfl
theorem wd_3 : Cond.selects RX9 yX9_needArgument yX9_needArgument ∈ ax_tbl := ax_in (i := 3) (by decide +kernel) rfl
theorem wd_5 : Cond.selects RX1 yX1_readClause yX1_readClause ∈ ax_tbl := ax_in (i := 5) (by decide +kernel) rfl
theorem wd_6 : Cond.selects RX1 yX1_isFull yX1_isFull ∈ ax_tbl := ax_in (i := 6) (by decide +kernel) rfl
theorem wd_7 : Cond.selects RX1 yX1_readNumbers yX1_readNumbers ∈ ax_tbl := ax_in (i := 7) (by decide +kernel) rfl
theorem wd_8 : Cond.selects RX4 yX4_readSum yX4_readSum ∈ ax_tbl := ax_in (i := 8) (by decide +kernel) rfl
theorem wd_9 : Cond.selects RX4 yX4_readProduct yX4_readProduct ∈ ax_tbl := ax_in (i := 9) (by decide +kernel) rfl
theorem wd_10 : Cond.selects RX4 yX4_readUnit yX4_readUnit ∈ ax_tbl := ax_in (i := 10) (by decide +kernel) rfl
theorem wd_11 : Cond.selects RX6 yX6_readRow yX6_readRow ∈ ax_tbl := ax_in (i := 11) (by decide +kernel) rfl
theorem wd_12 : Cond.selects RX6 yX6_readStep yX6_readStep ∈ ax_tbl := ax_in (i := 12) (by decide +kernel) rfl
theorem wd_13 : Cond.selects RX6 yX6_readNumbers yX6_readNumbers ∈ ax_tbl := ax_in (i := 13) (by decide +kernel) rfl
theorem wd_14 : Cond.selects RX9 yX9_runSteps yX9_runSteps ∈ ax_tbl := ax_in (i := 14) (by decide +kernel) rfl
theorem wd_15 : Cond.selects RX9 yX9_doStep yX9_doStep ∈ ax_tbl := ax_in (i := 15) (by decide +kernel) rfl
theorem wd_16 : Cond.selects RX9 yX9_passNight yX9_passNight ∈ ax_tbl := ax_in (i := 16) (by decide +kernel) rfl
theorem wd_17 : Cond.selects RX9 yX9_wakes yX9_wakes ∈ ax_tbl := ax_in (i := 17) (by decide +kernel) rfl
theorem wd_18 : Cond.selects RX5 yX5_takeDown yX5_takeDown ∈ ax_tbl := ax_in (i := 18) (by decide +kernel) rfl
theorem wd_19 : Cond.selects RX0 yX0_readLine yX0_readLine ∈ ax_tbl := ax_in (i := 19) (by decide +kernel) rfl
theorem wd_20 : Cond.selects RX9 yX9_needOne yX9_needOne ∈ ax_tbl := ax_in (i := 20) (by decide +kernel) rfl
theorem wd_21 : Cond.selects RX9 yX9_staysQuiet yX9_staysQuiet ∈ ax_tbl := ax_in (i := 21) (by decide +kernel) rfl
theorem wd_22 : Cond.selects RX9 yX9_findFits yX9_findFits ∈ ax_tbl := ax_in (i := 22) (by decide +kernel) rfl
theorem wd_23 : Cond.selects RX9 yX9_isRight yX9_isRight ∈ ax_tbl := ax_in (i := 23) (by decide +kernel) rfl
theorem wd_24 : Cond.selects RX9 yX9_needReceipt yX9_needReceipt ∈ ax_tbl := ax_in (i := 24) (by decide +kernel) rfl
theorem wd_25 : Cond.selects RX9 yX9_findBeds yX9_findBeds ∈ ax_tbl := ax_in (i := 25) (by decide +kernel) rfl
theorem wd_26 : Cond.selects RX9 yX9_sleepWith yX9_sleepWith ∈ ax_tbl := ax_in (i := 26) (by decide +kernel) rfl
theorem wd_27 : Cond.selects RX9 yX9_leastBed yX9_leastBed ∈ ax_tbl := ax_in (i := 27) (by decide +kernel) rfl
theorem wd_28 : Cond.selects RX9 yX9_setBids yX9_setBids ∈ ax_tbl := ax_in (i := 28) (by decide +kernel) rfl
theorem wd_29 : Cond.selects RX9 yX9_restsBy yX9_restsBy ∈ ax_tbl := ax_in (i := 29) (by decide +kernel) rfl
theorem wd_30 : Cond.selects RX9 yX9_had yX9_had ∈ ax_tbl := ax_in (i := 30) (by decide +kernel) rfl
theorem wd_31 : Cond.selects RX9 yX9_bidsAsDigits yX9_bidsAsDigits ∈ ax_tbl := ax_in (i := 31) (by decide +kernel) rfl
theorem wd_32 : Cond.selects RX9 yX9_hadTogether yX9_hadTogether ∈ ax_tbl := ax_in (i := 32) (by decide +kernel) rfl
theorem wd_33 : Cond.selects RX9 yX9_needYears yX9_needYears ∈ ax_tbl := ax_in (i := 33) (by decide +kernel) rfl
theorem wd_34 : Cond.selects RX9 yX9_runYears yX9_runYears ∈ ax_tbl := ax_in (i := 34) (by decide +kernel) rfl
theorem wd_35 : Cond.selects RX10 yX10_tellsNothing yX10_tellsNothing ∈ ax_tbl := ax_in (i := 35) (by decide +kernel) rfl
theorem wd_36 : Cond.selects RX10 yX10_beginsAnew yX10_beginsAnew ∈ ax_tbl := ax_in (i := 36) (by decide +kernel) rfl
theorem wd_37 : Cond.selects RX10 yX10_begins yX10_begins ∈ ax_tbl := ax_in (i := 37) (by decide +kernel) rfl
theorem wd_38 : Cond.selects RX10 yX10_bad yX10_bad ∈ ax_tbl := ax_in (i := 38) (by decide +kernel) rfl
theorem wd_39 : Cond.selects RX10 yX10_starts yX10_starts ∈ ax_tbl := ax_in (i := 39) (by decide +kernel) rfl
theorem wd_40 : Cond.selects RX10 yX10_blanks yX10_blanks ∈ ax_tbl := ax_in (i := 40) (by decide +kernel) rfl
theorem wd_41 : Cond.selects RX10 yX10_byteAt yX10_byteAt ∈ ax_tbl := ax_in (i := 41) (by decide +kernel) rfl
theorem wd_42 : Cond.selects RX10 yX10_clause yX10_clause ∈ ax_tbl := ax_in (i := 42) (by decide +kernel) rfl
theorem wd_43 : Cond.selects RX10 yX10_kindHere yX10_kindHere ∈ ax_tbl := ax_in (i := 43) (by decide +kernel) rfl
theorem wd_44 : Cond.selects RX10 yX10_isWord yX10_isWord ∈ ax_tbl := ax_in (i := 44) (by decide +kernel) rfl
theorem wd_45 : Cond.selects RX10 yX10_wordHere yX10_wordHere ∈ ax_tbl := ax_in (i := 45) (by decide +kernel) rfl
theorem wd_46 : Cond.selects RX10 yX10_wrong yX10_wrong ∈ ax_tbl := ax_in (i := 46) (by decide +kernel) rfl
theorem wd_47 : Cond.selects RX10 yX10_isFull yX10_isFull ∈ ax_tbl := ax_in (i := 47) (by decide +kernel) rfl
theorem wd_48 : Cond.selects RX10 yX10_skipWord yX10_skipWord ∈ ax_tbl := ax_in (i := 48) (by decide +kernel) rfl
theorem wd_49 : Cond.selects RX10 yX10_number yX10_number ∈ ax_tbl := ax_in (i := 49) (by decide +kernel) rfl
theorem wd_50 : Cond.selects RX10 yX10_sign yX10_sign ∈ ax_tbl := ax_in (i := 50) (by decide +kernel) rfl
theorem wd_51 : Cond.selects RX10 yX10_ends yX10_ends ∈ ax_tbl := ax_in (i := 51) (by decide +kernel) rfl
theorem wd_52 : Cond.selects RX10 yX10_sum yX10_sum ∈ ax_tbl := ax_in (i := 52) (by decide +kernel) rfl
theorem wd_53 : Cond.selects RX10 yX10_product yX10_product ∈ ax_tbl := ax_in (i := 53) (by decide +kernel) rfl
theorem wd_54 : Cond.selects RX10 yX10_one yX10_one ∈ ax_tbl := ax_in (i := 54) (by decide +kernel) rfl
theorem wd_55 : Cond.selects RX10 yX10_opensOne yX10_opensOne ∈ ax_tbl := ax_in (i := 55) (by decide +kernel) rfl
theorem wd_56 : Cond.selects RX10 yX10_notes yX10_notes ∈ ax_tbl := ax_in (i := 56) (by decide +kernel) rfl
theorem wd_57 : Cond.selects RX10 yX10_knownHere yX10_knownHere ∈ ax_tbl := ax_in (i := 57) (by decide +kernel) rfl
theorem wd_58 : Cond.selects RX10 yX10_takes yX10_takes ∈ ax_tbl := ax_in (i := 58) (by decide +kernel) rfl
theorem wd_59 : Cond.selects RX10 yX10_takesSign yX10_takesSign ∈ ax_tbl := ax_in (i := 59) (by decide +kernel) rfl
theorem wd_60 : Cond.selects RX10 yX10_readsStep yX10_readsStep ∈ ax_tbl := ax_in (i := 60) (by decide +kernel) rfl
theorem wd_61 : Cond.selects RX10 yX10_stepHere yX10_stepHere ∈ ax_tbl := ax_in (i := 61) (by decide +kernel) rfl
theorem wd_62 : Cond.selects RX10 yX10_goes yX10_goes ∈ ax_tbl := ax_in (i := 62) (by decide +kernel) rfl
theorem wd_63 : Cond.selects RX10 yX10_does yX10_does ∈ ax_tbl := ax_in (i := 63) (by decide +kernel) rfl
theorem wd_64 : Cond.selects RX10 yX10_gives yX10_gives ∈ ax_tbl := ax_in (i := 64) (by decide +kernel) rfl
theorem wd_65 : Cond.selects RX10 yX10_nightEnds yX10_nightEnds ∈ ax_tbl := ax_in (i := 65) (by decide +kernel) rfl
theorem wd_66 : Cond.selects RX10 yX10_strokesOf yX10_strokesOf ∈ ax_tbl := ax_in (i := 66) (by decide +kernel) rfl
theorem wd_67 : Cond.selects RX10 yX10_byLaw yX10_byLaw ∈ ax_tbl := ax_in (i := 67) (by decide +kernel) rfl
theorem wd_68 : Cond.selects RX10 yX10_isWaking yX10_isWaking ∈ ax_tbl := ax_in (i := 68) (by decide +kernel) rfl
theorem wd_69 : Cond.selects RX10 yX10_noiseOf yX10_noiseOf ∈ ax_tbl := ax_in (i := 69) (by decide +kernel) rfl
theorem wd_70 : Cond.selects RX10 yX10_isNo yX10_isNo ∈ ax_tbl := ax_in (i := 70) (by decide +kernel) rfl
theorem wd_71 : Cond.selects RX10 yX10_isPlan yX10_isPlan ∈ ax_tbl := ax_in (i := 71) (by decide +kernel) rfl
theorem wd_72 : Cond.selects RX10 yX10_strikesBy yX10_strikesBy ∈ ax_tbl := ax_in (i := 72) (by decide +kernel) rfl
theorem wd_73 : Cond.selects RX10 yX10_isStruck yX10_isStruck ∈ ax_tbl := ax_in (i := 73) (by decide +kernel) rfl
theorem wd_74 : Cond.selects RX10 yX10_isCounted yX10_isCounted ∈ ax_tbl := ax_in (i := 74) (by decide +kernel) rfl
theorem wd_75 : Cond.selects RX10 yX10_dulls yX10_dulls ∈ ax_tbl := ax_in (i := 75) (by decide +kernel) rfl
theorem wd_76 : Cond.selects RX10 yX10_laysBeds yX10_laysBeds ∈ ax_tbl := ax_in (i := 76) (by decide +kernel) rfl
theorem wd_77 : Cond.selects RX10 yX10_bedsFrom yX10_bedsFrom ∈ ax_tbl := ax_in (i := 77) (by decide +kernel) rfl
theorem wd_78 : Cond.selects RX10 yX10_watcher yX10_watcher ∈ ax_tbl := ax_in (i := 78) (by decide +kernel) rfl
theorem wd_79 : Cond.selects RX10 yX10_isRest yX10_isRest ∈ ax_tbl := ax_in (i := 79) (by decide +kernel) rfl
theorem wd_80 : Cond.selects RX10 yX10_getsBy yX10_getsBy ∈ ax_tbl := ax_in (i := 80) (by decide +kernel) rfl
theorem wd_81 : Cond.selects RX10 yX10_bidsBut yX10_bidsBut ∈ ax_tbl := ax_in (i := 81) (by decide +kernel) rfl
theorem wd_82 : Cond.selects RX10 yX10_yearsBy yX10_yearsBy ∈ ax_tbl := ax_in (i := 82) (by decide +kernel) rfl
theorem wd_83 : Cond.selects RX10 yX10_draw yX10_draw ∈ ax_tbl := ax_in (i := 83) (by decide +kernel) rfl
theorem wd_84 : Cond.selects RX10 yX10_putsAll yX10_putsAll ∈ ax_tbl := ax_in (i := 84) (by decide +kernel) rfl
theorem wd_85 : Cond.selects RX10 yX10_puts yX10_puts ∈ ax_tbl := ax_in (i := 85) (by decide +kernel) rfl
theorem wd_87 : Cond.initialized RX9 ∈ ax_tbl := ax_t (ax_b1 (List.mem_of_getElem? (i := 1) rfl)) rfl
theorem wd_88 : Cond.initialized RX7 ∈ ax_tbl := ax_t (ax_b1 (List.mem_of_getElem? (i := 2) rfl)) rfl
theorem wd_89 : Cond.initialized RX1 ∈ ax_tbl := ax_t (ax_b1 (List.mem_of_getElem? (i := 3) rfl)) rfl
theorem wd_90 : Cond.initialized RX4 ∈ ax_tbl := ax_t (ax_b1 (List.mem_of_getElem? (i := 4) rfl)) rfl
theorem wd_91 : Cond.initialized RX0 ∈ ax_tbl := ax_t (ax_b1 (List.mem_of_getElem? (i := 5) rfl)) rfl
theorem wd_92 : Cond.initialized RX6 ∈ ax_tbl := ax_t (ax_b1 (List.mem_of_getElem? (i := 6) rfl)) rfl
theorem wd_93 : Cond.initialized RX5 ∈ ax_tbl := ax_t (ax_b1 (List.mem_of_getElem? (i := 7) rfl)) rfl
theorem wd_94 : Cond.initialized RX8 ∈ ax_tbl := ax_t (ax_b1 (List.mem_of_getElem? (i := 8) rfl)) rfl
theorem wd_95 : Cond.initialized RX2 ∈ ax_tbl := ax_t (ax_b1 (List.mem_of_getElem? (i := 9) rfl)) rfl
theorem wd_96 : Cond.initialized RX3 ∈ ax_tbl := ax_t (ax_b1 (List.mem_of_getElem? (i := 10) rfl)) rfl
theorem wd_97 : Cond.initialized RX10 ∈ ax_tbl := ax_t (ax_b1 (List.mem_of_getElem? (i := 11) rfl)) rfl
theorem wd_102 : Cond.initialized RJ0 ∈ ax_tbl := ax_t (ax_b1 (List.mem_of_getElem? (i := 16) rfl)) rfl
theorem wd_103 : Cond.initialized RJ1 ∈ ax_tbl := ax_t (ax_b1 (List.mem_of_getElem? (i := 17) rfl)) rfl
theorem wd_104 : Cond.initialized RJ3 ∈ ax_tbl := ax_t (ax_b1 (List.mem_of_getElem? (i := 18) rfl)) rfl
theorem wd_106 : Cond.initialized RJ9 ∈ ax_tbl := ax_t (ax_b1 (List.mem_of_getElem? (i := 20) rfl)) rfl
theorem wd_108 : Cond.initialized RJ6 ∈ ax_tbl := ax_t (ax_b1 (List.mem_of_getElem? (i := 22) rfl)) rfl
theorem wd_123 : Cond.fieldLink RX7 9 (TX7 0).1 (TX7 0).2.1 (TX7 0).2.2.1 ∈ ax_tbl := ax_t (ax_b1 (List.mem_of_getElem? (i := 37) rfl)) rfl
theorem wd_124 : Cond.fieldLink RX7 19 (TX7 1).1 (TX7 1).2.1 (TX7 1).2.2.1 ∈ ax_tbl := ax_t (ax_b1 (List.mem_of_getElem? (i := 38) rfl)) rfl
theorem wd_125 : Cond.fieldLink RX9 121 (TX7 1).1 (TX7 1).2.1 (TX7 1).2.2.1 ∈ ax_tbl := ax_t (ax_b1 (List.mem_of_getElem? (i := 39) rfl)) rfl
theorem wd_126 : Cond.fieldLink RX7 26 (TX7 2).1 (TX7 2).2.1 (TX7 2).2.2.1 ∈ ax_tbl := ax_t (ax_b1 (List.mem_of_getElem? (i := 40) rfl)) rfl
theorem wd_127 : Cond.fieldLink RX7 29 (TX7 3).1 (TX7 3).2.1 (TX7 3).2.2.1 ∈ ax_tbl := ax_t (ax_b1 (List.mem_of_getElem? (i := 41) rfl)) rfl
theorem wd_128 : Cond.fieldLink RX4 39 (TX7 3).1 (TX7 3).2.1 (TX7 3).2.2.1 ∈ ax_tbl := ax_t (ax_b1 (List.mem_of_getElem? (i := 42) rfl)) rfl
theorem wd_129 : Cond.fieldLink RX7 32 (TX7 4).1 (TX7 4).2.1 (TX7 4).2.2.1 ∈ ax_tbl := ax_t (ax_b1 (List.mem_of_getElem? (i := 43) rfl)) rfl
theorem wd_130 : Cond.fieldLink RX0 32 (TX7 4).1 (TX7 4).2.1 (TX7 4).2.2.1 ∈ ax_tbl := ax_t (ax_b1 (List.mem_of_getElem? (i := 44) rfl)) rfl
theorem wd_131 : Cond.fieldLink RX1 62 (TX7 4).1 (TX7 4).2.1 (TX7 4).2.2.1 ∈ ax_tbl := ax_t (ax_b1 (List.mem_of_getElem? (i := 45) rfl)) rfl
theorem wd_132 : Cond.fieldLink RX6 38 (TX7 4).1 (TX7 4).2.1 (TX7 4).2.2.1 ∈ ax_tbl := ax_t (ax_b1 (List.mem_of_getElem? (i := 46) rfl)) rfl
theorem wd_133 : Cond.fieldLink RX9 139 (TX7 4).1 (TX7 4).2.1 (TX7 4).2.2.1 ∈ ax_tbl := ax_t (ax_b1 (List.mem_of_getElem? (i := 47) rfl)) rfl
theorem wd_134 : Cond.fieldLink RX4 64 (TX7 4).1 (TX7 4).2.1 (TX7 4).2.2.1 ∈ ax_tbl := ax_t (ax_b1 (List.mem_of_getElem? (i := 48) rfl)) rfl
theorem wd_135 : Cond.fieldLink RX7 15 (TX7 5).1 (TX7 5).2.1 (TX7 5).2.2.1 ∈ ax_tbl := ax_t (ax_b1 (List.mem_of_getElem? (i := 49) rfl)) rfl
theorem wd_136 : Cond.fieldLink RX9 168 (TX7 5).1 (TX7 5).2.1 (TX7 5).2.2.1 ∈ ax_tbl := ax_t (ax_b1 (List.mem_of_getElem? (i := 50) rfl)) rfl
theorem wd_137 : Cond.fieldLink RX1 72 (TX7 6).1 (TX7 6).2.1 (TX7 6).2.2.1 ∈ ax_tbl := ax_t (ax_b1 (List.mem_of_getElem? (i := 51) rfl)) rfl
theorem wd_138 : Cond.fieldLink RX6 48 (TX7 6).1 (TX7 6).2.1 (TX7 6).2.2.1 ∈ ax_tbl := ax_t (ax_b1 (List.mem_of_getElem? (i := 52) rfl)) rfl
theorem wd_139 : Cond.fieldLink RX4 81 (TX7 6).1 (TX7 6).2.1 (TX7 6).2.2.1 ∈ ax_tbl := ax_t (ax_b1 (List.mem_of_getElem? (i := 53) rfl)) rfl
theorem wd_140 : Cond.fieldLink RX7 61 (TX7 6).1 (TX7 6).2.1 (TX7 6).2.2.1 ∈ ax_tbl := ax_t (ax_b1 (List.mem_of_getElem? (i := 54) rfl)) rfl
theorem wd_141 : Cond.fieldLink RX0 43 (TX7 7).1 (TX7 7).2.1 (TX7 7).2.2.1 ∈ ax_tbl := ax_t (ax_b1 (List.mem_of_getElem? (i := 55) rfl)) rfl
theorem wd_142 : Cond.fieldLink RX7 51 (TX7 7).1 (TX7 7).2.1 (TX7 7).2.2.1 ∈ ax_tbl := ax_t (ax_b1 (List.mem_of_getElem? (i := 56) rfl)) rfl
theorem wd_167 : Cond.methodLink RX1 27 yX1_clear ∈ ax_tbl := ax_t (ax_b1 (List.mem_of_getElem? (i := 81) rfl)) rfl
theorem wd_168 : Cond.instanceMethod yX1_clear ∈ ax_tbl := ax_t (ax_b1 (List.mem_of_getElem? (i := 82) rfl)) rfl
theorem wd_169 : Cond.selects RX1 yX1_clear yX1_clear ∈ ax_tbl := ax_t (ax_b1 (List.mem_of_getElem? (i := 83) rfl)) rfl
theorem wd_170 : Cond.code yX1_clear cX1_clear 2 none ∈ ax_tbl := ax_t (ax_b1 (List.mem_of_getElem? (i := 84) rfl)) rfl
theorem wd_171 : Cond.fieldLink RX5 18 (TX1 0).1 (TX1 0).2.1 (TX1 0).2.2.1 ∈ ax_tbl := ax_t (ax_b1 (List.mem_of_getElem? (i := 85) rfl)) rfl
theorem wd_172 : Cond.fieldLink RX1 30 (TX1 0).1 (TX1 0).2.1 (TX1 0).2.2.1 ∈ ax_tbl := ax_t (ax_b1 (List.mem_of_getElem? (i := 86) rfl)) rfl
theorem wd_173 : Cond.fieldLink RX1 34 (TX1 1).1 (TX1 1).2.1 (TX1 1).2.2.1 ∈ ax_tbl := ax_t (ax_b1 (List.mem_of_getElem? (i := 87) rfl)) rfl
theorem wd_174 : Cond.fieldLink RX9 384 (TX1 1).1 (TX1 1).2.1 (TX1 1).2.2.1 ∈ ax_tbl := ax_t (ax_b1 (List.mem_of_getElem? (i := 88) rfl)) rfl
theorem wd_175 : Cond.fieldLink RX5 27 (TX1 2).1 (TX1 2).2.1 (TX1 2).2.2.1 ∈ ax_tbl := ax_t (ax_b1 (List.mem_of_getElem? (i := 89) rfl)) rfl
theorem wd_176 : Cond.fieldLink RX1 37 (TX1 2).1 (TX1 2).2.1 (TX1 2).2.2.1 ∈ ax_tbl := ax_t (ax_b1 (List.mem_of_getElem? (i := 90) rfl)) rfl
theorem wd_177 : Cond.fieldLink RX1 40 (TX1 3).1 (TX1 3).2.1 (TX1 3).2.2.1 ∈ ax_tbl := ax_t (ax_b1 (List.mem_of_getElem? (i := 91) rfl)) rfl
theorem wd_178 : Cond.fieldLink RX6 71 (TX1 3).1 (TX1 3).2.1 (TX1 3).2.2.1 ∈ ax_tbl := ax_t (ax_b1 (List.mem_of_getElem? (i := 92) rfl)) rfl
theorem wd_179 : Cond.fieldLink RX9 207 (TX1 3).1 (TX1 3).2.1 (TX1 3).2.2.1 ∈ ax_tbl := ax_t (ax_b1 (List.mem_of_getElem? (i := 93) rfl)) rfl
theorem wd_180 : Cond.fieldLink RX1 43 (TX1 4).1 (TX1 4).2.1 (TX1 4).2.2.1 ∈ ax_tbl := ax_t (ax_b1 (List.mem_of_getElem? (i := 94) rfl)) rfl
theorem wd_181 : Cond.fieldLink RX9 210 (TX1 4).1 (TX1 4).2.1 (TX1 4).2.2.1 ∈ ax_tbl := ax_t (ax_b1 (List.mem_of_getElem? (i := 95) rfl)) rfl
theorem wd_182 : Cond.fieldLink RX1 46 (TX1 5).1 (TX1 5).2.1 (TX1 5).2.2.1 ∈ ax_tbl := ax_t (ax_b1 (List.mem_of_getElem? (i := 96) rfl)) rfl
theorem wd_183 : Cond.fieldLink RX9 142 (TX1 5).1 (TX1 5).2.1 (TX1 5).2.2.1 ∈ ax_tbl := ax_t (ax_b1 (List.mem_of_getElem? (i := 97) rfl)) rfl
theorem wd_184 : Cond.fieldLink RX6 76 (TX1 5).1 (TX1 5).2.1 (TX1 5).2.2.1 ∈ ax_tbl := ax_t (ax_b1 (List.mem_of_getElem? (i := 98) rfl)) rfl
theorem wd_185 : Cond.fieldLink RX1 49 (TX1 6).1 (TX1 6).2.1 (TX1 6).2.2.1 ∈ ax_tbl := ax_t (ax_b1 (List.mem_of_getElem? (i := 99) rfl)) rfl
theorem wd_186 : Cond.fieldLink RX9 213 (TX1 6).1 (TX1 6).2.1 (TX1 6).2.2.1 ∈ ax_tbl := ax_t (ax_b1 (List.mem_of_getElem? (i := 100) rfl)) rfl
theorem wd_187 : Cond.fieldLink RX1 9 (TX1 7).1 (TX1 7).2.1 (TX1 7).2.2.1 ∈ ax_tbl := ax_t (ax_b1 (List.mem_of_getElem? (i := 101) rfl)) rfl
theorem wd_188 : Cond.fieldLink RX5 78 (TX1 7).1 (TX1 7).2.1 (TX1 7).2.2.1 ∈ ax_tbl := ax_t (ax_b1 (List.mem_of_getElem? (i := 102) rfl)) rfl
theorem wd_189 : Cond.fieldLink RX1 15 (TX1 8).1 (TX1 8).2.1 (TX1 8).2.2.1 ∈ ax_tbl := ax_t (ax_b1 (List.mem_of_getElem? (i := 103) rfl)) rfl
theorem wd_190 : Cond.fieldLink RX9 241 (TX1 8).1 (TX1 8).2.1 (TX1 8).2.2.1 ∈ ax_tbl := ax_t (ax_b1 (List.mem_of_getElem? (i := 104) rfl)) rfl
theorem wd_191 : Cond.fieldLink RX1 18 (TX1 9).1 (TX1 9).2.1 (TX1 9).2.2.1 ∈ ax_tbl := ax_t (ax_b1 (List.mem_of_getElem? (i := 105) rfl)) rfl
theorem wd_192 : Cond.fieldLink RX9 247 (TX1 9).1 (TX1 9).2.1 (TX1 9).2.2.1 ∈ ax_tbl := ax_t (ax_b1 (List.mem_of_getElem? (i := 106) rfl)) rfl
theorem wd_193 : Cond.fieldLink RX1 21 (TX1 10).1 (TX1 10).2.1 (TX1 10).2.2.1 ∈ ax_tbl := ax_t (ax_b1 (List.mem_of_getElem? (i := 107) rfl)) rfl
theorem wd_194 : Cond.fieldLink RX9 220 (TX1 10).1 (TX1 10).2.1 (TX1 10).2.2.1 ∈ ax_tbl := ax_t (ax_b1 (List.mem_of_getElem? (i := 108) rfl)) rfl
theorem wd_195 : Cond.fieldLink RX1 24 (TX1 11).1 (TX1 11).2.1 (TX1 11).2.2.1 ∈ ax_tbl := ax_t (ax_b1 (List.mem_of_getElem? (i := 109) rfl)) rfl
theorem wd_196 : Cond.fieldLink RX9 250 (TX1 11).1 (TX1 11).2.1 (TX1 11).2.2.1 ∈ ax_tbl := ax_t (ax_b1 (List.mem_of_getElem? (i := 110) rfl)) rfl
theorem wd_228 : Cond.fieldLink RX4 9 (TX4 0).1 (TX4 0).2.1 (TX4 0).2.2.1 ∈ ax_tbl := ax_t (ax_b1 (List.mem_of_getElem? (i := 142) rfl)) rfl
theorem wd_229 : Cond.fieldLink RX4 15 (TX4 1).1 (TX4 1).2.1 (TX4 1).2.2.1 ∈ ax_tbl := ax_t (ax_b1 (List.mem_of_getElem? (i := 143) rfl)) rfl
theorem wd_230 : Cond.fieldLink RX4 18 (TX4 2).1 (TX4 2).2.1 (TX4 2).2.2.1 ∈ ax_tbl := ax_t (ax_b1 (List.mem_of_getElem? (i := 144) rfl)) rfl
theorem wd_231 : Cond.fieldLink RX4 21 (TX4 3).1 (TX4 3).2.1 (TX4 3).2.2.1 ∈ ax_tbl := ax_t (ax_b1 (List.mem_of_getElem? (i := 145) rfl)) rfl
theorem wd_247 : Cond.fieldLink RX0 9 (TX0 0).1 (TX0 0).2.1 (TX0 0).2.2.1 ∈ ax_tbl := ax_t (ax_b1 (List.mem_of_getElem? (i := 161) rfl)) rfl
theorem wd_248 : Cond.fieldLink RX2 47 (TX0 0).1 (TX0 0).2.1 (TX0 0).2.2.1 ∈ ax_tbl := ax_t (ax_b1 (List.mem_of_getElem? (i := 162) rfl)) rfl
theorem wd_249 : Cond.fieldLink RX9 441 (TX0 0).1 (TX0 0).2.1 (TX0 0).2.2.1 ∈ ax_tbl := ax_t (ax_b1 (List.mem_of_getElem? (i := 163) rfl)) rfl
theorem wd_250 : Cond.fieldLink RX0 15 (TX0 1).1 (TX0 1).2.1 (TX0 1).2.2.1 ∈ ax_tbl := ax_t (ax_b1 (List.mem_of_getElem? (i := 164) rfl)) rfl
theorem wd_251 : Cond.fieldLink RX9 167 (TX0 1).1 (TX0 1).2.1 (TX0 1).2.2.1 ∈ ax_tbl := ax_t (ax_b1 (List.mem_of_getElem? (i := 165) rfl)) rfl
theorem wd_263 : Cond.fieldLink RX6 9 (TX6 0).1 (TX6 0).2.1 (TX6 0).2.2.1 ∈ ax_tbl := ax_t (ax_b1 (List.mem_of_getElem? (i := 177) rfl)) rfl
theorem wd_264 : Cond.fieldLink RX9 391 (TX6 0).1 (TX6 0).2.1 (TX6 0).2.2.1 ∈ ax_tbl := ax_t (ax_b1 (List.mem_of_getElem? (i := 178) rfl)) rfl
theorem wd_265 : Cond.fieldLink RX6 15 (TX6 1).1 (TX6 1).2.1 (TX6 1).2.2.1 ∈ ax_tbl := ax_t (ax_b1 (List.mem_of_getElem? (i := 179) rfl)) rfl
theorem wd_266 : Cond.fieldLink RX9 394 (TX6 1).1 (TX6 1).2.1 (TX6 1).2.2.1 ∈ ax_tbl := ax_t (ax_b1 (List.mem_of_getElem? (i := 180) rfl)) rfl
theorem wd_267 : Cond.fieldLink RX6 18 (TX6 2).1 (TX6 2).2.1 (TX6 2).2.2.1 ∈ ax_tbl := ax_t (ax_b1 (List.mem_of_getElem? (i := 181) rfl)) rfl
theorem wd_268 : Cond.fieldLink RX9 400 (TX6 2).1 (TX6 2).2.1 (TX6 2).2.2.1 ∈ ax_tbl := ax_t (ax_b1 (List.mem_of_getElem? (i := 182) rfl)) rfl
theorem wd_269 : Cond.fieldLink RX6 21 (TX6 3).1 (TX6 3).2.1 (TX6 3).2.2.1 ∈ ax_tbl := ax_t (ax_b1 (List.mem_of_getElem? (i := 183) rfl)) rfl
theorem wd_270 : Cond.fieldLink RX9 159 (TX6 3).1 (TX6 3).2.1 (TX6 3).2.2.1 ∈ ax_tbl := ax_t (ax_b1 (List.mem_of_getElem? (i := 184) rfl)) rfl
theorem wd_271 : Cond.fieldLink RX9 153 (TX6 4).1 (TX6 4).2.1 (TX6 4).2.2.1 ∈ ax_tbl := ax_t (ax_b1 (List.mem_of_getElem? (i := 185) rfl)) rfl
theorem wd_272 : Cond.fieldLink RX9 156 (TX6 5).1 (TX6 5).2.1 (TX6 5).2.2.1 ∈ ax_tbl := ax_t (ax_b1 (List.mem_of_getElem? (i := 186) rfl)) rfl
theorem wd_292 : Cond.fieldLink RX5 24 (TX5 0).1 (TX5 0).2.1 (TX5 0).2.2.1 ∈ ax_tbl := ax_t (ax_b1 (List.mem_of_getElem? (i := 206) rfl)) rfl
theorem wd_293 : Cond.fieldLink RX9 174 (TX5 0).1 (TX5 0).2.1 (TX5 0).2.2.1 ∈ ax_tbl := ax_t (ax_b1 (List.mem_of_getElem? (i := 207) rfl)) rfl
theorem wd_294 : Cond.fieldLink RX5 30 (TX5 1).1 (TX5 1).2.1 (TX5 1).2.2.1 ∈ ax_tbl := ax_t (ax_b1 (List.mem_of_getElem? (i := 208) rfl)) rfl
theorem wd_295 : Cond.fieldLink RX9 177 (TX5 1).1 (TX5 1).2.1 (TX5 1).2.2.1 ∈ ax_tbl := ax_t (ax_b1 (List.mem_of_getElem? (i := 209) rfl)) rfl
theorem wd_296 : Cond.fieldLink RX5 31 (TX5 2).1 (TX5 2).2.1 (TX5 2).2.2.1 ∈ ax_tbl := ax_t (ax_b1 (List.mem_of_getElem? (i := 210) rfl)) rfl
theorem wd_297 : Cond.fieldLink RX9 180 (TX5 2).1 (TX5 2).2.1 (TX5 2).2.2.1 ∈ ax_tbl := ax_t (ax_b1 (List.mem_of_getElem? (i := 211) rfl)) rfl
theorem wd_298 : Cond.fieldLink RX5 34 (TX5 3).1 (TX5 3).2.1 (TX5 3).2.2.1 ∈ ax_tbl := ax_t (ax_b1 (List.mem_of_getElem? (i := 212) rfl)) rfl
theorem wd_299 : Cond.fieldLink RX9 183 (TX5 3).1 (TX5 3).2.1 (TX5 3).2.2.1 ∈ ax_tbl := ax_t (ax_b1 (List.mem_of_getElem? (i := 213) rfl)) rfl
theorem wd_300 : Cond.fieldLink RX5 37 (TX5 4).1 (TX5 4).2.1 (TX5 4).2.2.1 ∈ ax_tbl := ax_t (ax_b1 (List.mem_of_getElem? (i := 214) rfl)) rfl
theorem wd_301 : Cond.fieldLink RX9 186 (TX5 4).1 (TX5 4).2.1 (TX5 4).2.2.1 ∈ ax_tbl := ax_t (ax_b1 (List.mem_of_getElem? (i := 215) rfl)) rfl
theorem wd_302 : Cond.fieldLink RX5 40 (TX5 5).1 (TX5 5).2.1 (TX5 5).2.2.1 ∈ ax_tbl := ax_t (ax_b1 (List.mem_of_getElem? (i := 216) rfl)) rfl
theorem wd_303 : Cond.fieldLink RX9 189 (TX5 5).1 (TX5 5).2.1 (TX5 5).2.2.1 ∈ ax_tbl := ax_t (ax_b1 (List.mem_of_getElem? (i := 217) rfl)) rfl
theorem wd_304 : Cond.fieldLink RX5 43 (TX5 6).1 (TX5 6).2.1 (TX5 6).2.2.1 ∈ ax_tbl := ax_t (ax_b1 (List.mem_of_getElem? (i := 218) rfl)) rfl
theorem wd_305 : Cond.fieldLink RX9 192 (TX5 6).1 (TX5 6).2.1 (TX5 6).2.2.1 ∈ ax_tbl := ax_t (ax_b1 (List.mem_of_getElem? (i := 219) rfl)) rfl
theorem wd_306 : Cond.fieldLink RX5 46 (TX5 7).1 (TX5 7).2.1 (TX5 7).2.2.1 ∈ ax_tbl := ax_t (ax_b1 (List.mem_of_getElem? (i := 220) rfl)) rfl
theorem wd_307 : Cond.fieldLink RX9 195 (TX5 7).1 (TX5 7).2.1 (TX5 7).2.2.1 ∈ ax_tbl := ax_t (ax_b1 (List.mem_of_getElem? (i := 221) rfl)) rfl
theorem wd_308 : Cond.fieldLink RX5 49 (TX5 8).1 (TX5 8).2.1 (TX5 8).2.2.1 ∈ ax_tbl := ax_t (ax_b1 (List.mem_of_getElem? (i := 222) rfl)) rfl
theorem wd_309 : Cond.fieldLink RX9 204 (TX5 8).1 (TX5 8).2.1 (TX5 8).2.2.1 ∈ ax_tbl := ax_t (ax_b1 (List.mem_of_getElem? (i := 223) rfl)) rfl
theorem wd_310 : Cond.fieldLink RX5 52 (TX5 9).1 (TX5 9).2.1 (TX5 9).2.2.1 ∈ ax_tbl := ax_t (ax_b1 (List.mem_of_getElem? (i := 224) rfl)) rfl
theorem wd_311 : Cond.fieldLink RX9 244 (TX5 9).1 (TX5 9).2.1 (TX5 9).2.2.1 ∈ ax_tbl := ax_t (ax_b1 (List.mem_of_getElem? (i := 225) rfl)) rfl
theorem wd_312 : Cond.fieldLink RX5 55 (TX5 10).1 (TX5 10).2.1 (TX5 10).2.2.1 ∈ ax_tbl := ax_t (ax_b1 (List.mem_of_getElem? (i := 226) rfl)) rfl
theorem wd_313 : Cond.fieldLink RX9 198 (TX5 10).1 (TX5 10).2.1 (TX5 10).2.2.1 ∈ ax_tbl := ax_t (ax_b1 (List.mem_of_getElem? (i := 227) rfl)) rfl
theorem wd_314 : Cond.fieldLink RX5 58 (TX5 11).1 (TX5 11).2.1 (TX5 11).2.2.1 ∈ ax_tbl := ax_t (ax_b1 (List.mem_of_getElem? (i := 228) rfl)) rfl
theorem wd_315 : Cond.fieldLink RX9 201 (TX5 11).1 (TX5 11).2.1 (TX5 11).2.2.1 ∈ ax_tbl := ax_t (ax_b1 (List.mem_of_getElem? (i := 229) rfl)) rfl
theorem wd_316 : Cond.fieldLink RX5 9 (TX5 12).1 (TX5 12).2.1 (TX5 12).2.2.1 ∈ ax_tbl := ax_t (ax_b1 (List.mem_of_getElem? (i := 230) rfl)) rfl
theorem wd_317 : Cond.fieldLink RX9 227 (TX5 12).1 (TX5 12).2.1 (TX5 12).2.2.1 ∈ ax_tbl := ax_t (ax_b1 (List.mem_of_getElem? (i := 231) rfl)) rfl
theorem wd_318 : Cond.fieldLink RX5 15 (TX5 13).1 (TX5 13).2.1 (TX5 13).2.2.1 ∈ ax_tbl := ax_t (ax_b1 (List.mem_of_getElem? (i := 232) rfl)) rfl
theorem wd_319 : Cond.fieldLink RX9 238 (TX5 13).1 (TX5 13).2.1 (TX5 13).2.2.1 ∈ ax_tbl := ax_t (ax_b1 (List.mem_of_getElem? (i := 233) rfl)) rfl
theorem wd_358 : Cond.fieldLink RX8 11 (TX8 0).1 (TX8 0).2.1 (TX8 0).2.2.1 ∈ ax_tbl := ax_t (ax_b2 (List.mem_of_getElem? (i := 32) rfl)) rfl
theorem wd_359 : Cond.fieldLink RX8 18 (TX8 1).1 (TX8 1).2.1 (TX8 1).2.2.1 ∈ ax_tbl := ax_t (ax_b2 (List.mem_of_getElem? (i := 33) rfl)) rfl
theorem wd_360 : Cond.fieldLink RX9 111 (TX8 1).1 (TX8 1).2.1 (TX8 1).2.2.1 ∈ ax_tbl := ax_t (ax_b2 (List.mem_of_getElem? (i := 34) rfl)) rfl
theorem wd_376 : Cond.fieldLink RX9 103 (TX2 0).1 (TX2 0).2.1 (TX2 0).2.2.1 ∈ ax_tbl := ax_t (ax_b2 (List.mem_of_getElem? (i := 50) rfl)) rfl
theorem wd_377 : Cond.fieldLink RX2 20 (TX2 1).1 (TX2 1).2.1 (TX2 1).2.2.1 ∈ ax_tbl := ax_t (ax_b2 (List.mem_of_getElem? (i := 51) rfl)) rfl
theorem wd_378 : Cond.fieldLink RX9 301 (TX2 1).1 (TX2 1).2.1 (TX2 1).2.2.1 ∈ ax_tbl := ax_t (ax_b2 (List.mem_of_getElem? (i := 52) rfl)) rfl
theorem wd_379 : Cond.fieldLink RX2 24 (TX2 2).1 (TX2 2).2.1 (TX2 2).2.2.1 ∈ ax_tbl := ax_t (ax_b2 (List.mem_of_getElem? (i := 53) rfl)) rfl
theorem wd_380 : Cond.fieldLink RX9 302 (TX2 2).1 (TX2 2).2.1 (TX2 2).2.2.1 ∈ ax_tbl := ax_t (ax_b2 (List.mem_of_getElem? (i := 54) rfl)) rfl
theorem wd_381 : Cond.fieldLink RX2 27 (TX2 3).1 (TX2 3).2.1 (TX2 3).2.2.1 ∈ ax_tbl := ax_t (ax_b2 (List.mem_of_getElem? (i := 55) rfl)) rfl
theorem wd_382 : Cond.fieldLink RX9 305 (TX2 3).1 (TX2 3).2.1 (TX2 3).2.2.1 ∈ ax_tbl := ax_t (ax_b2 (List.mem_of_getElem? (i := 56) rfl)) rfl
theorem wd_383 : Cond.fieldLink RX2 30 (TX2 4).1 (TX2 4).2.1 (TX2 4).2.2.1 ∈ ax_tbl := ax_t (ax_b2 (List.mem_of_getElem? (i := 57) rfl)) rfl
theorem wd_384 : Cond.fieldLink RX9 308 (TX2 4).1 (TX2 4).2.1 (TX2 4).2.2.1 ∈ ax_tbl := ax_t (ax_b2 (List.mem_of_getElem? (i := 58) rfl)) rfl
theorem wd_385 : Cond.fieldLink RX2 41 (TX2 5).1 (TX2 5).2.1 (TX2 5).2.2.1 ∈ ax_tbl := ax_t (ax_b2 (List.mem_of_getElem? (i := 59) rfl)) rfl
theorem wd_386 : Cond.fieldLink RX9 311 (TX2 5).1 (TX2 5).2.1 (TX2 5).2.2.1 ∈ ax_tbl := ax_t (ax_b2 (List.mem_of_getElem? (i := 60) rfl)) rfl
theorem wd_387 : Cond.fieldLink RX2 44 (TX2 6).1 (TX2 6).2.1 (TX2 6).2.2.1 ∈ ax_tbl := ax_t (ax_b2 (List.mem_of_getElem? (i := 61) rfl)) rfl
theorem wd_388 : Cond.fieldLink RX9 312 (TX2 6).1 (TX2 6).2.1 (TX2 6).2.2.1 ∈ ax_tbl := ax_t (ax_b2 (List.mem_of_getElem? (i := 62) rfl)) rfl
theorem wd_389 : Cond.fieldLink RX2 9 (TX2 7).1 (TX2 7).2.1 (TX2 7).2.2.1 ∈ ax_tbl := ax_t (ax_b2 (List.mem_of_getElem? (i := 63) rfl)) rfl
theorem wd_390 : Cond.fieldLink RX9 444 (TX2 7).1 (TX2 7).2.1 (TX2 7).2.2.1 ∈ ax_tbl := ax_t (ax_b2 (List.mem_of_getElem? (i := 64) rfl)) rfl
theorem wd_391 : Cond.fieldLink RX2 17 (TX2 8).1 (TX2 8).2.1 (TX2 8).2.2.1 ∈ ax_tbl := ax_t (ax_b2 (List.mem_of_getElem? (i := 65) rfl)) rfl
theorem wd_420 : Cond.fieldLink RX3 10 (TX3 0).1 (TX3 0).2.1 (TX3 0).2.2.1 ∈ ax_tbl := ax_t (ax_b2 (List.mem_of_getElem? (i := 94) rfl)) rfl
theorem wd_421 : Cond.fieldLink RX9 355 (TX3 0).1 (TX3 0).2.1 (TX3 0).2.2.1 ∈ ax_tbl := ax_t (ax_b2 (List.mem_of_getElem? (i := 95) rfl)) rfl
theorem wd_422 : Cond.fieldLink RX3 19 (TX3 1).1 (TX3 1).2.1 (TX3 1).2.2.1 ∈ ax_tbl := ax_t (ax_b2 (List.mem_of_getElem? (i := 96) rfl)) rfl
theorem wd_423 : Cond.fieldLink RX9 358 (TX3 1).1 (TX3 1).2.1 (TX3 1).2.2.1 ∈ ax_tbl := ax_t (ax_b2 (List.mem_of_getElem? (i := 97) rfl)) rfl
theorem wd_429 : Cond.methodLink RX9 94 yX9_beginAnew ∈ ax_tbl := ax_t (ax_b2 (List.mem_of_getElem? (i := 103) rfl)) rfl
theorem wd_431 : Cond.instanceMethod yX9_beginAnew ∈ ax_tbl := ax_t (ax_b2 (List.mem_of_getElem? (i := 105) rfl)) rfl
theorem wd_432 : Cond.code yX9_beginAnew cX9_beginAnew 1 none ∈ ax_tbl := ax_t (ax_b2 (List.mem_of_getElem? (i := 106) rfl)) rfl
theorem wd_433 : Cond.methodLink RX9 97 yX4_tenth ∈ ax_tbl := ax_t (ax_b2 (List.mem_of_getElem? (i := 107) rfl)) rfl
theorem wd_434 : Cond.instanceMethod yX4_tenth ∈ ax_tbl := ax_t (ax_b2 (List.mem_of_getElem? (i := 108) rfl)) rfl
theorem wd_435 : Cond.selects RX4 yX4_tenth yX4_tenth ∈ ax_tbl := ax_t (ax_b2 (List.mem_of_getElem? (i := 109) rfl)) rfl
theorem wd_436 : Cond.code yX4_tenth cX4_tenth 1 none ∈ ax_tbl := ax_t (ax_b2 (List.mem_of_getElem? (i := 110) rfl)) rfl
theorem wd_437 : Cond.methodLink RX4 25 yX4_emit ∈ ax_tbl := ax_t (ax_b2 (List.mem_of_getElem? (i := 111) rfl)) rfl
theorem wd_439 : Cond.instanceMethod yX4_emit ∈ ax_tbl := ax_t (ax_b2 (List.mem_of_getElem? (i := 113) rfl)) rfl
theorem wd_440 : Cond.code yX4_emit cX4_emit 2 none ∈ ax_tbl := ax_t (ax_b2 (List.mem_of_getElem? (i := 114) rfl)) rfl
theorem wd_441 : Cond.methodLinkNest RX4 46 yX9_put "OwedBell" ∈ lw_tbl := ax_b2 (List.mem_of_getElem? (i := 115) rfl)
theorem wd_442 : Cond.static yX9_put ∈ ax_tbl := ax_t (ax_b2 (List.mem_of_getElem? (i := 116) rfl)) rfl
theorem wd_443 : Cond.code yX9_put cX9_put 3 none ∈ ax_tbl := ax_t (ax_b2 (List.mem_of_getElem? (i := 117) rfl)) rfl
theorem wd_444 : Cond.methodLink RX9 100 yX0_clear ∈ ax_tbl := ax_t (ax_b2 (List.mem_of_getElem? (i := 118) rfl)) rfl
theorem wd_445 : Cond.instanceMethod yX0_clear ∈ ax_tbl := ax_t (ax_b2 (List.mem_of_getElem? (i := 119) rfl)) rfl
theorem wd_446 : Cond.selects RX0 yX0_clear yX0_clear ∈ ax_tbl := ax_t (ax_b2 (List.mem_of_getElem? (i := 120) rfl)) rfl
theorem wd_447 : Cond.code yX0_clear cX0_clear 2 none ∈ ax_tbl := ax_t (ax_b2 (List.mem_of_getElem? (i := 121) rfl)) rfl
theorem wd_448 : Cond.methodLink RX9 107 yX5_begin ∈ ax_tbl := ax_t (ax_b2 (List.mem_of_getElem? (i := 122) rfl)) rfl
theorem wd_449 : Cond.instanceMethod yX5_begin ∈ ax_tbl := ax_t (ax_b2 (List.mem_of_getElem? (i := 123) rfl)) rfl
theorem wd_450 : Cond.selects RX5 yX5_begin yX5_begin ∈ ax_tbl := ax_t (ax_b2 (List.mem_of_getElem? (i := 124) rfl)) rfl
theorem wd_451 : Cond.code yX5_begin cX5_begin 3 none ∈ ax_tbl := ax_t (ax_b2 (List.mem_of_getElem? (i := 125) rfl)) rfl
theorem wd_452 : Cond.methodLinkNest RX5 61 yX9_put "OwedBell" ∈ lw_tbl := ax_b2 (List.mem_of_getElem? (i := 126) rfl)
theorem wd_453 : Cond.fieldLink RX9 10 (TX9 0).1 (TX9 0).2.1 (TX9 0).2.2.1 ∈ ax_tbl := ax_t (ax_b2 (List.mem_of_getElem? (i := 127) rfl)) rfl
theorem wd_454 : Cond.fieldLink RX9 19 (TX9 1).1 (TX9 1).2.1 (TX9 1).2.2.1 ∈ ax_tbl := ax_t (ax_b2 (List.mem_of_getElem? (i := 128) rfl)) rfl
theorem wd_455 : Cond.fieldLink RX9 23 (TX9 2).1 (TX9 2).2.1 (TX9 2).2.2.1 ∈ ax_tbl := ax_t (ax_b2 (List.mem_of_getElem? (i := 129) rfl)) rfl
theorem wd_456 : Cond.fieldLink RX9 29 (TX9 3).1 (TX9 3).2.1 (TX9 3).2.2.1 ∈ ax_tbl := ax_t (ax_b2 (List.mem_of_getElem? (i := 130) rfl)) rfl
theorem wd_457 : Cond.fieldLink RX9 33 (TX9 4).1 (TX9 4).2.1 (TX9 4).2.2.1 ∈ ax_tbl := ax_t (ax_b2 (List.mem_of_getElem? (i := 131) rfl)) rfl
theorem wd_458 : Cond.fieldLink RX9 39 (TX9 5).1 (TX9 5).2.1 (TX9 5).2.2.1 ∈ ax_tbl := ax_t (ax_b2 (List.mem_of_getElem? (i := 132) rfl)) rfl
theorem wd_459 : Cond.fieldLink RX9 43 (TX9 6).1 (TX9 6).2.1 (TX9 6).2.2.1 ∈ ax_tbl := ax_t (ax_b2 (List.mem_of_getElem? (i := 133) rfl)) rfl
theorem wd_460 : Cond.fieldLink RX9 49 (TX9 7).1 (TX9 7).2.1 (TX9 7).2.2.1 ∈ ax_tbl := ax_t (ax_b2 (List.mem_of_getElem? (i := 134) rfl)) rfl
theorem wd_461 : Cond.fieldLink RX9 56 (TX9 8).1 (TX9 8).2.1 (TX9 8).2.2.1 ∈ ax_tbl := ax_t (ax_b2 (List.mem_of_getElem? (i := 135) rfl)) rfl
theorem wd_462 : Cond.fieldLink RX9 60 (TX9 9).1 (TX9 9).2.1 (TX9 9).2.2.1 ∈ ax_tbl := ax_t (ax_b2 (List.mem_of_getElem? (i := 136) rfl)) rfl
theorem wd_463 : Cond.fieldLink RX9 66 (TX9 10).1 (TX9 10).2.1 (TX9 10).2.2.1 ∈ ax_tbl := ax_t (ax_b2 (List.mem_of_getElem? (i := 137) rfl)) rfl
theorem wd_464 : Cond.fieldLink RX9 72 (TX9 11).1 (TX9 11).2.1 (TX9 11).2.2.1 ∈ ax_tbl := ax_t (ax_b2 (List.mem_of_getElem? (i := 138) rfl)) rfl
theorem wd_465 : Cond.fieldLink RX9 115 (TX9 12).1 (TX9 12).2.1 (TX9 12).2.2.1 ∈ ax_tbl := ax_t (ax_b2 (List.mem_of_getElem? (i := 139) rfl)) rfl
theorem wd_466 : Cond.fieldLink RX9 118 (TX9 13).1 (TX9 13).2.1 (TX9 13).2.2.1 ∈ ax_tbl := ax_t (ax_b2 (List.mem_of_getElem? (i := 140) rfl)) rfl
theorem wd_467 : Cond.fieldLink RX9 362 (TX9 14).1 (TX9 14).2.1 (TX9 14).2.2.1 ∈ ax_tbl := ax_t (ax_b2 (List.mem_of_getElem? (i := 141) rfl)) rfl
theorem wd_468 : Cond.fieldLink RX9 365 (TX9 15).1 (TX9 15).2.1 (TX9 15).2.2.1 ∈ ax_tbl := ax_t (ax_b2 (List.mem_of_getElem? (i := 142) rfl)) rfl
theorem wd_469 : Cond.fieldLink RX9 79 (TX9 16).1 (TX9 16).2.1 (TX9 16).2.2.1 ∈ ax_tbl := ax_t (ax_b2 (List.mem_of_getElem? (i := 143) rfl)) rfl
theorem wd_470 : Cond.fieldLink RX9 83 (TX9 17).1 (TX9 17).2.1 (TX9 17).2.2.1 ∈ ax_tbl := ax_t (ax_b2 (List.mem_of_getElem? (i := 144) rfl)) rfl
theorem wd_471 : Cond.fieldLink RX9 87 (TX9 18).1 (TX9 18).2.1 (TX9 18).2.2.1 ∈ ax_tbl := ax_t (ax_b2 (List.mem_of_getElem? (i := 145) rfl)) rfl
theorem wd_472 : Cond.fieldLink RX9 90 (TX9 19).1 (TX9 19).2.1 (TX9 19).2.2.1 ∈ ax_tbl := ax_t (ax_b2 (List.mem_of_getElem? (i := 146) rfl)) rfl
theorem wd_518 : Cond.methodLink RX9 124 yX7_append ∈ ax_tbl := ax_t (ax_b2 (List.mem_of_getElem? (i := 192) rfl)) rfl
theorem wd_519 : Cond.instanceMethod yX7_append ∈ ax_tbl := ax_t (ax_b2 (List.mem_of_getElem? (i := 193) rfl)) rfl
theorem wd_520 : Cond.selects RX7 yX7_append yX7_append ∈ ax_tbl := ax_t (ax_b2 (List.mem_of_getElem? (i := 194) rfl)) rfl
theorem wd_521 : Cond.code yX7_append cX7_append 3 none ∈ ax_tbl := ax_t (ax_b2 (List.mem_of_getElem? (i := 195) rfl)) rfl
theorem wd_522 : Cond.methodLinkNest RX7 22 yX9_put "OwedBell" ∈ lw_tbl := ax_b2 (List.mem_of_getElem? (i := 196) rfl)
theorem wd_531 : Cond.methodLink RX9 171 yX8_pop ∈ ax_tbl := ax_t (ax_b2 (List.mem_of_getElem? (i := 205) rfl)) rfl
theorem wd_532 : Cond.instanceMethod yX8_pop ∈ ax_tbl := ax_t (ax_b2 (List.mem_of_getElem? (i := 206) rfl)) rfl
theorem wd_533 : Cond.selects RX8 yX8_pop yX8_pop ∈ ax_tbl := ax_t (ax_b2 (List.mem_of_getElem? (i := 207) rfl)) rfl
theorem wd_534 : Cond.code yX8_pop cX8_pop 2 none ∈ ax_tbl := ax_t (ax_b2 (List.mem_of_getElem? (i := 208) rfl)) rfl
theorem wd_535 : Cond.methodLink RX8 22 yX5_take ∈ ax_tbl := ax_t (ax_b2 (List.mem_of_getElem? (i := 209) rfl)) rfl
theorem wd_536 : Cond.instanceMethod yX5_take ∈ ax_tbl := ax_t (ax_b2 (List.mem_of_getElem? (i := 210) rfl)) rfl
theorem wd_537 : Cond.selects RX5 yX5_take yX5_take ∈ ax_tbl := ax_t (ax_b2 (List.mem_of_getElem? (i := 211) rfl)) rfl
theorem wd_538 : Cond.code yX5_take cX5_take 3 none ∈ ax_tbl := ax_t (ax_b2 (List.mem_of_getElem? (i := 212) rfl)) rfl
theorem wd_539 : Cond.methodLinkNest RX5 65 yX9_at "OwedBell" ∈ lw_tbl := ax_b2 (List.mem_of_getElem? (i := 213) rfl)
theorem wd_540 : Cond.static yX9_at ∈ ax_tbl := ax_t (ax_b2 (List.mem_of_getElem? (i := 214) rfl)) rfl
theorem wd_541 : Cond.code yX9_at cX9_at 2 (some .int) ∈ ax_tbl := ax_t (ax_b2 (List.mem_of_getElem? (i := 215) rfl)) rfl
theorem wd_546 : Cond.methodLink RX9 230 yX9_strokesOf ∈ ax_tbl := ax_t (ax_b2 (List.mem_of_getElem? (i := 220) rfl)) rfl
theorem wd_548 : Cond.instanceMethod yX9_strokesOf ∈ ax_tbl := ax_t (ax_b2 (List.mem_of_getElem? (i := 222) rfl)) rfl
theorem wd_549 : Cond.code yX9_strokesOf cX9_strokesOf 5 (some .int) ∈ ax_tbl := ax_t (ax_b2 (List.mem_of_getElem? (i := 223) rfl)) rfl
theorem wd_550 : Cond.methodLink RX9 295 yJ9_max_7cf53 ∈ ax_tbl := ax_t (ax_b2 (List.mem_of_getElem? (i := 224) rfl)) rfl
theorem wd_551 : Cond.static yJ9_max_7cf53 ∈ ax_tbl := ax_t (ax_b2 (List.mem_of_getElem? (i := 225) rfl)) rfl
theorem wd_552 : Cond.code yJ9_max_7cf53 cJ9_max_7cf53 2 (some .int) ∈ ax_tbl := ax_t (ax_b2 (List.mem_of_getElem? (i := 226) rfl)) rfl
theorem wd_553 : Cond.methodLink RX9 254 yX4_tolls ∈ ax_tbl := ax_t (ax_b2 (List.mem_of_getElem? (i := 227) rfl)) rfl
theorem wd_554 : Cond.instanceMethod yX4_tolls ∈ ax_tbl := ax_t (ax_b2 (List.mem_of_getElem? (i := 228) rfl)) rfl
theorem wd_555 : Cond.selects RX4 yX4_tolls yX4_tolls ∈ ax_tbl := ax_t (ax_b2 (List.mem_of_getElem? (i := 229) rfl)) rfl
theorem wd_556 : Cond.code yX4_tolls cX4_tolls 11 (some .int) ∈ ax_tbl := ax_t (ax_b2 (List.mem_of_getElem? (i := 230) rfl)) rfl
theorem wd_557 : Cond.methodLinkNest RX4 102 yX9_at "OwedBell" ∈ lw_tbl := ax_b2 (List.mem_of_getElem? (i := 231) rfl)
theorem wd_558 : Cond.methodLink RX4 106 yX4_done ∈ ax_tbl := ax_t (ax_b2 (List.mem_of_getElem? (i := 232) rfl)) rfl
theorem wd_559 : Cond.static yX4_done ∈ ax_tbl := ax_t (ax_b2 (List.mem_of_getElem? (i := 233) rfl)) rfl
theorem wd_560 : Cond.code yX4_done cX4_done 3 (some .int) ∈ ax_tbl := ax_t (ax_b2 (List.mem_of_getElem? (i := 234) rfl)) rfl
theorem wd_561 : Cond.methodLink RX4 110 yJ9_min_7cf53 ∈ ax_tbl := ax_t (ax_b2 (List.mem_of_getElem? (i := 235) rfl)) rfl
theorem wd_562 : Cond.static yJ9_min_7cf53 ∈ ax_tbl := ax_t (ax_b2 (List.mem_of_getElem? (i := 236) rfl)) rfl
theorem wd_563 : Cond.code yJ9_min_7cf53 cJ9_min_7cf53 2 (some .int) ∈ ax_tbl := ax_t (ax_b2 (List.mem_of_getElem? (i := 237) rfl)) rfl
theorem wd_564 : Cond.methodLink RX4 115 yJ9_max_7cf53 ∈ ax_tbl := ax_t (ax_b2 (List.mem_of_getElem? (i := 238) rfl)) rfl
theorem wd_565 : Cond.methodLink RX9 290 yJ9_min_7cf53 ∈ ax_tbl := ax_t (ax_b2 (List.mem_of_getElem? (i := 239) rfl)) rfl
theorem wd_570 : Cond.methodLink RX9 352 yX3_take ∈ ax_tbl := ax_t (ax_b3 (List.mem_of_getElem? (i := 4) rfl)) rfl
theorem wd_571 : Cond.instanceMethod yX3_take ∈ ax_tbl := ax_t (ax_b3 (List.mem_of_getElem? (i := 5) rfl)) rfl
theorem wd_572 : Cond.selects RX3 yX3_take yX3_take ∈ ax_tbl := ax_t (ax_b3 (List.mem_of_getElem? (i := 6) rfl)) rfl
theorem wd_573 : Cond.code yX3_take cX3_take 3 none ∈ ax_tbl := ax_t (ax_b3 (List.mem_of_getElem? (i := 7) rfl)) rfl
theorem wd_574 : Cond.methodLink RX3 23 yX5_take ∈ ax_tbl := ax_t (ax_b3 (List.mem_of_getElem? (i := 8) rfl)) rfl
theorem wd_575 : Cond.methodLink RX3 27 yX8_take ∈ ax_tbl := ax_t (ax_b3 (List.mem_of_getElem? (i := 9) rfl)) rfl
theorem wd_576 : Cond.instanceMethod yX8_take ∈ ax_tbl := ax_t (ax_b3 (List.mem_of_getElem? (i := 10) rfl)) rfl
theorem wd_577 : Cond.selects RX8 yX8_take yX8_take ∈ ax_tbl := ax_t (ax_b3 (List.mem_of_getElem? (i := 11) rfl)) rfl
theorem wd_578 : Cond.code yX8_take cX8_take 3 none ∈ ax_tbl := ax_t (ax_b3 (List.mem_of_getElem? (i := 12) rfl)) rfl
theorem wd_583 : Cond.methodLink RX9 262 yX5_take ∈ ax_tbl := ax_t (ax_b3 (List.mem_of_getElem? (i := 17) rfl)) rfl
theorem wd_584 : Cond.methodLink RX9 359 yX8_take ∈ ax_tbl := ax_t (ax_b3 (List.mem_of_getElem? (i := 18) rfl)) rfl
theorem wd_596 : Cond.classLink RL 13 "java/lang/IllegalArgumentException" ∈ ax_tbl := ax_t (ax_b3 (List.mem_of_getElem? (i := 30) rfl)) rfl
theorem wd_597 : Cond.methodLink RL 7 yX9_abbey ∈ ax_tbl := ax_t (ax_b3 (List.mem_of_getElem? (i := 31) rfl)) rfl
theorem wd_598 : Cond.instanceMethod yX9_abbey ∈ ax_tbl := ax_t (ax_b3 (List.mem_of_getElem? (i := 32) rfl)) rfl
theorem wd_599 : Cond.selects RX9 yX9_abbey yX9_abbey ∈ ax_tbl := ax_t (ax_b3 (List.mem_of_getElem? (i := 33) rfl)) rfl
theorem wd_600 : Cond.code yX9_abbey cX9_abbey 3 (some .int) ∈ ax_tbl := ax_t (ax_b3 (List.mem_of_getElem? (i := 34) rfl)) rfl
theorem wd_601 : Cond.methodLink RX9 128 yX9_needArgument ∈ ax_tbl := ax_t (ax_b3 (List.mem_of_getElem? (i := 35) rfl)) rfl
theorem wd_603 : Cond.instanceMethod yX9_needArgument ∈ ax_tbl := ax_t (ax_b3 (List.mem_of_getElem? (i := 37) rfl)) rfl
theorem wd_604 : Cond.code yX9_needArgument cX9_needArgument 2 none ∈ ax_tbl := ax_t (ax_b3 (List.mem_of_getElem? (i := 38) rfl)) rfl
theorem wd_672 : Cond.methodLink RX9 132 yX7_open ∈ ax_tbl := ax_t (ax_b3 (List.mem_of_getElem? (i := 106) rfl)) rfl
theorem wd_673 : Cond.instanceMethod yX7_open ∈ ax_tbl := ax_t (ax_b3 (List.mem_of_getElem? (i := 107) rfl)) rfl
theorem wd_674 : Cond.selects RX7 yX7_open yX7_open ∈ ax_tbl := ax_t (ax_b3 (List.mem_of_getElem? (i := 108) rfl)) rfl
theorem wd_675 : Cond.code yX7_open cX7_open 2 none ∈ ax_tbl := ax_t (ax_b3 (List.mem_of_getElem? (i := 109) rfl)) rfl
theorem wd_676 : Cond.methodLink RX9 135 yX1_readFrom ∈ ax_tbl := ax_t (ax_b3 (List.mem_of_getElem? (i := 110) rfl)) rfl
theorem wd_677 : Cond.instanceMethod yX1_readFrom ∈ ax_tbl := ax_t (ax_b3 (List.mem_of_getElem? (i := 111) rfl)) rfl
theorem wd_678 : Cond.selects RX1 yX1_readFrom yX1_readFrom ∈ ax_tbl := ax_t (ax_b3 (List.mem_of_getElem? (i := 112) rfl)) rfl
theorem wd_679 : Cond.code yX1_readFrom cX1_readFrom 3 (some .boolean) ∈ ax_tbl := ax_t (ax_b3 (List.mem_of_getElem? (i := 113) rfl)) rfl
theorem wd_680 : Cond.methodLink RX1 52 yX7_sign ∈ ax_tbl := ax_t (ax_b3 (List.mem_of_getElem? (i := 114) rfl)) rfl
theorem wd_681 : Cond.instanceMethod yX7_sign ∈ ax_tbl := ax_t (ax_b3 (List.mem_of_getElem? (i := 115) rfl)) rfl
theorem wd_682 : Cond.selects RX7 yX7_sign yX7_sign ∈ ax_tbl := ax_t (ax_b3 (List.mem_of_getElem? (i := 116) rfl)) rfl
theorem wd_683 : Cond.code yX7_sign cX7_sign 1 (some .int) ∈ ax_tbl := ax_t (ax_b3 (List.mem_of_getElem? (i := 117) rfl)) rfl
theorem wd_684 : Cond.methodLinkNest RX7 35 yX9_at "OwedBell" ∈ lw_tbl := ax_b3 (List.mem_of_getElem? (i := 118) rfl)
theorem wd_685 : Cond.methodLink RX1 58 yX1_readClause ∈ ax_tbl := ax_t (ax_b3 (List.mem_of_getElem? (i := 119) rfl)) rfl
theorem wd_687 : Cond.instanceMethod yX1_readClause ∈ ax_tbl := ax_t (ax_b3 (List.mem_of_getElem? (i := 121) rfl)) rfl
theorem wd_688 : Cond.code yX1_readClause cX1_readClause 4 (some .boolean) ∈ ax_tbl := ax_t (ax_b3 (List.mem_of_getElem? (i := 122) rfl)) rfl
theorem wd_689 : Cond.methodLink RX1 65 yX7_word ∈ ax_tbl := ax_t (ax_b3 (List.mem_of_getElem? (i := 123) rfl)) rfl
theorem wd_690 : Cond.instanceMethod yX7_word ∈ ax_tbl := ax_t (ax_b3 (List.mem_of_getElem? (i := 124) rfl)) rfl
theorem wd_691 : Cond.selects RX7 yX7_word yX7_word ∈ ax_tbl := ax_t (ax_b3 (List.mem_of_getElem? (i := 125) rfl)) rfl
theorem wd_692 : Cond.code yX7_word cX7_word 1 none ∈ ax_tbl := ax_t (ax_b3 (List.mem_of_getElem? (i := 126) rfl)) rfl
theorem wd_693 : Cond.methodLink RX7 39 yX7_sign ∈ ax_tbl := ax_t (ax_b3 (List.mem_of_getElem? (i := 127) rfl)) rfl
theorem wd_694 : Cond.methodLink RX1 68 yX1_clauseKind ∈ ax_tbl := ax_t (ax_b3 (List.mem_of_getElem? (i := 128) rfl)) rfl
theorem wd_695 : Cond.static yX1_clauseKind ∈ ax_tbl := ax_t (ax_b3 (List.mem_of_getElem? (i := 129) rfl)) rfl
theorem wd_696 : Cond.code yX1_clauseKind cX1_clauseKind 1 (some .int) ∈ ax_tbl := ax_t (ax_b3 (List.mem_of_getElem? (i := 130) rfl)) rfl
theorem wd_698 : Cond.methodLink RX1 91 yX7_isWord ∈ ax_tbl := ax_t (ax_b3 (List.mem_of_getElem? (i := 132) rfl)) rfl
theorem wd_699 : Cond.instanceMethod yX7_isWord ∈ ax_tbl := ax_t (ax_b3 (List.mem_of_getElem? (i := 133) rfl)) rfl
theorem wd_700 : Cond.selects RX7 yX7_isWord yX7_isWord ∈ ax_tbl := ax_t (ax_b3 (List.mem_of_getElem? (i := 134) rfl)) rfl
theorem wd_701 : Cond.code yX7_isWord cX7_isWord 3 (some .boolean) ∈ ax_tbl := ax_t (ax_b3 (List.mem_of_getElem? (i := 135) rfl)) rfl
theorem wd_702 : Cond.methodLink RX7 64 yJ0_length_8abf5 ∈ ax_tbl := ax_t (ax_b3 (List.mem_of_getElem? (i := 136) rfl)) rfl
theorem wd_703 : Cond.instanceMethod yJ0_length_8abf5 ∈ ax_tbl := ax_t (ax_b3 (List.mem_of_getElem? (i := 137) rfl)) rfl
theorem wd_704 : Cond.selects RJ0 yJ0_length_8abf5 yJ0_length_8abf5 ∈ ax_tbl := ax_t (ax_b3 (List.mem_of_getElem? (i := 138) rfl)) rfl
theorem wd_705 : Cond.code yJ0_length_8abf5 cJ0_length_8abf5 1 (some .int) ∈ ax_tbl := ax_t (ax_b3 (List.mem_of_getElem? (i := 139) rfl)) rfl
theorem wd_706 : Cond.methodLink RJ0 335 yJ0_coder_7d493 ∈ ax_tbl := ax_t (ax_b3 (List.mem_of_getElem? (i := 140) rfl)) rfl
theorem wd_707 : Cond.instanceMethod yJ0_coder_7d493 ∈ ax_tbl := ax_t (ax_b3 (List.mem_of_getElem? (i := 141) rfl)) rfl
theorem wd_708 : Cond.selects RJ0 yJ0_coder_7d493 yJ0_coder_7d493 ∈ ax_tbl := ax_t (ax_b3 (List.mem_of_getElem? (i := 142) rfl)) rfl
theorem wd_709 : Cond.code yJ0_coder_7d493 cJ0_coder_7d493 1 (some .byte) ∈ ax_tbl := ax_t (ax_b3 (List.mem_of_getElem? (i := 143) rfl)) rfl
theorem wd_712 : Cond.methodLink RX7 69 yJ0_charAt_5068e ∈ ax_tbl := ax_t (ax_b3 (List.mem_of_getElem? (i := 146) rfl)) rfl
theorem wd_713 : Cond.instanceMethod yJ0_charAt_5068e ∈ ax_tbl := ax_t (ax_b3 (List.mem_of_getElem? (i := 147) rfl)) rfl
theorem wd_714 : Cond.selects RJ0 yJ0_charAt_5068e yJ0_charAt_5068e ∈ ax_tbl := ax_t (ax_b3 (List.mem_of_getElem? (i := 148) rfl)) rfl
theorem wd_715 : Cond.code yJ0_charAt_5068e cJ0_charAt_5068e 2 (some .char) ∈ ax_tbl := ax_t (ax_b3 (List.mem_of_getElem? (i := 149) rfl)) rfl
theorem wd_716 : Cond.methodLink RJ0 492 yJ0_isLatin1_aae02 ∈ ax_tbl := ax_t (ax_b3 (List.mem_of_getElem? (i := 150) rfl)) rfl
theorem wd_717 : Cond.instanceMethod yJ0_isLatin1_aae02 ∈ ax_tbl := ax_t (ax_b3 (List.mem_of_getElem? (i := 151) rfl)) rfl
theorem wd_718 : Cond.selects RJ0 yJ0_isLatin1_aae02 yJ0_isLatin1_aae02 ∈ ax_tbl := ax_t (ax_b3 (List.mem_of_getElem? (i := 152) rfl)) rfl
theorem wd_719 : Cond.code yJ0_isLatin1_aae02 cJ0_isLatin1_aae02 1 (some .boolean) ∈ ax_tbl := ax_t (ax_b3 (List.mem_of_getElem? (i := 153) rfl)) rfl
theorem wd_720 : Cond.methodLink RJ0 495 yJ1_charAt_3b067 ∈ ax_tbl := ax_t (ax_b3 (List.mem_of_getElem? (i := 154) rfl)) rfl
theorem wd_721 : Cond.static yJ1_charAt_3b067 ∈ ax_tbl := ax_t (ax_b3 (List.mem_of_getElem? (i := 155) rfl)) rfl
theorem wd_722 : Cond.code yJ1_charAt_3b067 cJ1_charAt_3b067 2 (some .char) ∈ ax_tbl := ax_t (ax_b3 (List.mem_of_getElem? (i := 156) rfl)) rfl
theorem wd_723 : Cond.methodLink RJ1 9 yJ0_checkIndex_df160 ∈ ax_tbl := ax_t (ax_b3 (List.mem_of_getElem? (i := 157) rfl)) rfl
theorem wd_724 : Cond.static yJ0_checkIndex_df160 ∈ ax_tbl := ax_t (ax_b3 (List.mem_of_getElem? (i := 158) rfl)) rfl
theorem wd_725 : Cond.code yJ0_checkIndex_df160 cJ0_checkIndex_df160 2 none ∈ ax_tbl := ax_t (ax_b3 (List.mem_of_getElem? (i := 159) rfl)) rfl
theorem wd_728 : Cond.methodLink RJ0 1059 yJ3_checkIndex_8e157 ∈ ax_tbl := ax_t (ax_b3 (List.mem_of_getElem? (i := 162) rfl)) rfl
theorem wd_729 : Cond.static yJ3_checkIndex_8e157 ∈ ax_tbl := ax_t (ax_b3 (List.mem_of_getElem? (i := 163) rfl)) rfl
theorem wd_730 : Cond.code yJ3_checkIndex_8e157 cJ3_checkIndex_8e157 3 (some .int) ∈ ax_tbl := ax_t (ax_b3 (List.mem_of_getElem? (i := 164) rfl)) rfl
theorem wd_757 : Cond.methodLink RX1 75 yX7_fails ∈ ax_tbl := ax_t (ax_b3 (List.mem_of_getElem? (i := 191) rfl)) rfl
theorem wd_758 : Cond.instanceMethod yX7_fails ∈ ax_tbl := ax_t (ax_b3 (List.mem_of_getElem? (i := 192) rfl)) rfl
theorem wd_759 : Cond.selects RX7 yX7_fails yX7_fails ∈ ax_tbl := ax_t (ax_b3 (List.mem_of_getElem? (i := 193) rfl)) rfl
theorem wd_760 : Cond.code yX7_fails cX7_fails 3 (some .boolean) ∈ ax_tbl := ax_t (ax_b3 (List.mem_of_getElem? (i := 194) rfl)) rfl
theorem wd_761 : Cond.methodLink RX1 79 yX1_isFull ∈ ax_tbl := ax_t (ax_b3 (List.mem_of_getElem? (i := 195) rfl)) rfl
theorem wd_763 : Cond.instanceMethod yX1_isFull ∈ ax_tbl := ax_t (ax_b3 (List.mem_of_getElem? (i := 197) rfl)) rfl
theorem wd_764 : Cond.code yX1_isFull cX1_isFull 2 (some .boolean) ∈ ax_tbl := ax_t (ax_b3 (List.mem_of_getElem? (i := 198) rfl)) rfl
theorem wd_765 : Cond.methodLink RX1 83 yX1_readNumbers ∈ ax_tbl := ax_t (ax_b3 (List.mem_of_getElem? (i := 199) rfl)) rfl
theorem wd_767 : Cond.instanceMethod yX1_readNumbers ∈ ax_tbl := ax_t (ax_b3 (List.mem_of_getElem? (i := 201) rfl)) rfl
theorem wd_768 : Cond.code yX1_readNumbers cX1_readNumbers 4 none ∈ ax_tbl := ax_t (ax_b3 (List.mem_of_getElem? (i := 202) rfl)) rfl
theorem wd_769 : Cond.methodLink RX1 107 yX7_number ∈ ax_tbl := ax_t (ax_b3 (List.mem_of_getElem? (i := 203) rfl)) rfl
theorem wd_770 : Cond.instanceMethod yX7_number ∈ ax_tbl := ax_t (ax_b3 (List.mem_of_getElem? (i := 204) rfl)) rfl
theorem wd_771 : Cond.selects RX7 yX7_number yX7_number ∈ ax_tbl := ax_t (ax_b3 (List.mem_of_getElem? (i := 205) rfl)) rfl
theorem wd_772 : Cond.code yX7_number cX7_number 4 (some .int) ∈ ax_tbl := ax_t (ax_b3 (List.mem_of_getElem? (i := 206) rfl)) rfl
theorem wd_773 : Cond.methodLink RX7 47 yX7_isDigit ∈ ax_tbl := ax_t (ax_b3 (List.mem_of_getElem? (i := 207) rfl)) rfl
theorem wd_774 : Cond.static yX7_isDigit ∈ ax_tbl := ax_t (ax_b3 (List.mem_of_getElem? (i := 208) rfl)) rfl
theorem wd_775 : Cond.code yX7_isDigit cX7_isDigit 1 (some .boolean) ∈ ax_tbl := ax_t (ax_b3 (List.mem_of_getElem? (i := 209) rfl)) rfl
theorem wd_776 : Cond.methodLink RX7 43 yX7_fails ∈ ax_tbl := ax_t (ax_b3 (List.mem_of_getElem? (i := 210) rfl)) rfl
theorem wd_777 : Cond.constant RX7 54 (1000000) ∈ ax_tbl := ax_t (ax_b3 (List.mem_of_getElem? (i := 211) rfl)) rfl
theorem wd_778 : Cond.methodLink RX7 55 yJ9_min_7cf53 ∈ ax_tbl := ax_t (ax_b3 (List.mem_of_getElem? (i := 212) rfl)) rfl
theorem wd_779 : Cond.methodLinkNest RX1 111 yX9_put "OwedBell" ∈ lw_tbl := ax_b3 (List.mem_of_getElem? (i := 213) rfl)
theorem wd_780 : Cond.methodLink RX1 87 yX7_takes ∈ ax_tbl := ax_t (ax_b3 (List.mem_of_getElem? (i := 214) rfl)) rfl
theorem wd_781 : Cond.instanceMethod yX7_takes ∈ ax_tbl := ax_t (ax_b3 (List.mem_of_getElem? (i := 215) rfl)) rfl
theorem wd_782 : Cond.selects RX7 yX7_takes yX7_takes ∈ ax_tbl := ax_t (ax_b3 (List.mem_of_getElem? (i := 216) rfl)) rfl
theorem wd_783 : Cond.code yX7_takes cX7_takes 2 (some .boolean) ∈ ax_tbl := ax_t (ax_b3 (List.mem_of_getElem? (i := 217) rfl)) rfl
theorem wd_787 : Cond.methodLink RL 15 yX9_law ∈ ax_tbl := ax_t (ax_b3 (List.mem_of_getElem? (i := 221) rfl)) rfl
theorem wd_788 : Cond.instanceMethod yX9_law ∈ ax_tbl := ax_t (ax_b3 (List.mem_of_getElem? (i := 222) rfl)) rfl
theorem wd_789 : Cond.selects RX9 yX9_law yX9_law ∈ ax_tbl := ax_t (ax_b3 (List.mem_of_getElem? (i := 223) rfl)) rfl
theorem wd_790 : Cond.code yX9_law cX9_law 3 (some .int) ∈ ax_tbl := ax_t (ax_b3 (List.mem_of_getElem? (i := 224) rfl)) rfl
theorem wd_791 : Cond.methodLink RX9 145 yX4_readFrom ∈ ax_tbl := ax_t (ax_b3 (List.mem_of_getElem? (i := 225) rfl)) rfl
theorem wd_792 : Cond.instanceMethod yX4_readFrom ∈ ax_tbl := ax_t (ax_b3 (List.mem_of_getElem? (i := 226) rfl)) rfl
theorem wd_793 : Cond.selects RX4 yX4_readFrom yX4_readFrom ∈ ax_tbl := ax_t (ax_b3 (List.mem_of_getElem? (i := 227) rfl)) rfl
theorem wd_794 : Cond.code yX4_readFrom cX4_readFrom 2 (some .boolean) ∈ ax_tbl := ax_t (ax_b3 (List.mem_of_getElem? (i := 228) rfl)) rfl
theorem wd_795 : Cond.methodLink RX4 29 yX4_readSum ∈ ax_tbl := ax_t (ax_b3 (List.mem_of_getElem? (i := 229) rfl)) rfl
theorem wd_797 : Cond.instanceMethod yX4_readSum ∈ ax_tbl := ax_t (ax_b3 (List.mem_of_getElem? (i := 231) rfl)) rfl
theorem wd_798 : Cond.code yX4_readSum cX4_readSum 5 (some .boolean) ∈ ax_tbl := ax_t (ax_b3 (List.mem_of_getElem? (i := 232) rfl)) rfl
theorem wd_799 : Cond.methodLink RX4 50 yX4_readProduct ∈ ax_tbl := ax_t (ax_b3 (List.mem_of_getElem? (i := 233) rfl)) rfl
theorem wd_801 : Cond.instanceMethod yX4_readProduct ∈ ax_tbl := ax_t (ax_b3 (List.mem_of_getElem? (i := 235) rfl)) rfl
theorem wd_802 : Cond.code yX4_readProduct cX4_readProduct 5 (some .boolean) ∈ ax_tbl := ax_t (ax_b3 (List.mem_of_getElem? (i := 236) rfl)) rfl
theorem wd_803 : Cond.methodLink RX4 53 yX4_readUnit ∈ ax_tbl := ax_t (ax_b3 (List.mem_of_getElem? (i := 237) rfl)) rfl
theorem wd_805 : Cond.instanceMethod yX4_readUnit ∈ ax_tbl := ax_t (ax_b3 (List.mem_of_getElem? (i := 239) rfl)) rfl
theorem wd_806 : Cond.code yX4_readUnit cX4_readUnit 6 (some .boolean) ∈ ax_tbl := ax_t (ax_b4 (List.mem_of_getElem? (i := 0) rfl)) rfl
theorem wd_807 : Cond.methodLink RX4 33 yX7_sign ∈ ax_tbl := ax_t (ax_b4 (List.mem_of_getElem? (i := 1) rfl)) rfl
theorem wd_808 : Cond.methodLink RX4 56 yX7_isDigit ∈ ax_tbl := ax_t (ax_b4 (List.mem_of_getElem? (i := 2) rfl)) rfl
theorem wd_809 : Cond.methodLink RX4 60 yX7_number ∈ ax_tbl := ax_t (ax_b4 (List.mem_of_getElem? (i := 3) rfl)) rfl
theorem wd_810 : Cond.methodLink RX4 42 yX7_fails ∈ ax_tbl := ax_t (ax_b4 (List.mem_of_getElem? (i := 4) rfl)) rfl
theorem wd_811 : Cond.methodLink RX4 67 yX7_takes ∈ ax_tbl := ax_t (ax_b4 (List.mem_of_getElem? (i := 5) rfl)) rfl
theorem wd_812 : Cond.methodLink RX4 70 yX7_word ∈ ax_tbl := ax_t (ax_b4 (List.mem_of_getElem? (i := 6) rfl)) rfl
theorem wd_814 : Cond.methodLink RX4 75 yX7_isWord ∈ ax_tbl := ax_t (ax_b4 (List.mem_of_getElem? (i := 8) rfl)) rfl
theorem wd_816 : Cond.methodLink RX4 84 yX4_inputOf ∈ ax_tbl := ax_t (ax_b4 (List.mem_of_getElem? (i := 10) rfl)) rfl
theorem wd_817 : Cond.static yX4_inputOf ∈ ax_tbl := ax_t (ax_b4 (List.mem_of_getElem? (i := 11) rfl)) rfl
theorem wd_818 : Cond.code yX4_inputOf cX4_inputOf 1 (some .int) ∈ ax_tbl := ax_t (ax_b4 (List.mem_of_getElem? (i := 12) rfl)) rfl
theorem wd_829 : Cond.methodLink RL 18 yX9_work ∈ ax_tbl := ax_t (ax_b4 (List.mem_of_getElem? (i := 23) rfl)) rfl
theorem wd_830 : Cond.instanceMethod yX9_work ∈ ax_tbl := ax_t (ax_b4 (List.mem_of_getElem? (i := 24) rfl)) rfl
theorem wd_831 : Cond.selects RX9 yX9_work yX9_work ∈ ax_tbl := ax_t (ax_b4 (List.mem_of_getElem? (i := 25) rfl)) rfl
theorem wd_832 : Cond.code yX9_work cX9_work 2 (some .int) ∈ ax_tbl := ax_t (ax_b4 (List.mem_of_getElem? (i := 26) rfl)) rfl
theorem wd_833 : Cond.methodLink RX9 146 yX6_readFrom ∈ ax_tbl := ax_t (ax_b4 (List.mem_of_getElem? (i := 27) rfl)) rfl
theorem wd_834 : Cond.instanceMethod yX6_readFrom ∈ ax_tbl := ax_t (ax_b4 (List.mem_of_getElem? (i := 28) rfl)) rfl
theorem wd_835 : Cond.selects RX6 yX6_readFrom yX6_readFrom ∈ ax_tbl := ax_t (ax_b4 (List.mem_of_getElem? (i := 29) rfl)) rfl
theorem wd_836 : Cond.code yX6_readFrom cX6_readFrom 3 (some .boolean) ∈ ax_tbl := ax_t (ax_b4 (List.mem_of_getElem? (i := 30) rfl)) rfl
theorem wd_837 : Cond.methodLink RX6 25 yX6_readRow ∈ ax_tbl := ax_t (ax_b4 (List.mem_of_getElem? (i := 31) rfl)) rfl
theorem wd_839 : Cond.instanceMethod yX6_readRow ∈ ax_tbl := ax_t (ax_b4 (List.mem_of_getElem? (i := 33) rfl)) rfl
theorem wd_840 : Cond.code yX6_readRow cX6_readRow 6 (some .boolean) ∈ ax_tbl := ax_t (ax_b4 (List.mem_of_getElem? (i := 34) rfl)) rfl
theorem wd_841 : Cond.methodLink RX6 29 yX7_sign ∈ ax_tbl := ax_t (ax_b4 (List.mem_of_getElem? (i := 35) rfl)) rfl
theorem wd_842 : Cond.methodLink RX6 35 yX6_readStep ∈ ax_tbl := ax_t (ax_b4 (List.mem_of_getElem? (i := 36) rfl)) rfl
theorem wd_844 : Cond.instanceMethod yX6_readStep ∈ ax_tbl := ax_t (ax_b4 (List.mem_of_getElem? (i := 38) rfl)) rfl
theorem wd_845 : Cond.code yX6_readStep cX6_readStep 6 (some .boolean) ∈ ax_tbl := ax_t (ax_b4 (List.mem_of_getElem? (i := 39) rfl)) rfl
theorem wd_846 : Cond.methodLink RX6 41 yX7_word ∈ ax_tbl := ax_t (ax_b4 (List.mem_of_getElem? (i := 40) rfl)) rfl
theorem wd_847 : Cond.methodLink RX6 44 yX6_stepKind ∈ ax_tbl := ax_t (ax_b4 (List.mem_of_getElem? (i := 41) rfl)) rfl
theorem wd_848 : Cond.static yX6_stepKind ∈ ax_tbl := ax_t (ax_b4 (List.mem_of_getElem? (i := 42) rfl)) rfl
theorem wd_849 : Cond.code yX6_stepKind cX6_stepKind 1 (some .int) ∈ ax_tbl := ax_t (ax_b4 (List.mem_of_getElem? (i := 43) rfl)) rfl
theorem wd_851 : Cond.methodLink RX6 81 yX7_isWord ∈ ax_tbl := ax_t (ax_b4 (List.mem_of_getElem? (i := 45) rfl)) rfl
theorem wd_858 : Cond.methodLink RX6 51 yX7_fails ∈ ax_tbl := ax_t (ax_b4 (List.mem_of_getElem? (i := 52) rfl)) rfl
theorem wd_859 : Cond.methodLinkNest RX6 55 yX9_put "OwedBell" ∈ lw_tbl := ax_b4 (List.mem_of_getElem? (i := 53) rfl)
theorem wd_860 : Cond.methodLink RX6 59 yX6_readNumbers ∈ ax_tbl := ax_t (ax_b4 (List.mem_of_getElem? (i := 54) rfl)) rfl
theorem wd_862 : Cond.instanceMethod yX6_readNumbers ∈ ax_tbl := ax_t (ax_b4 (List.mem_of_getElem? (i := 56) rfl)) rfl
theorem wd_863 : Cond.code yX6_readNumbers cX6_readNumbers 5 none ∈ ax_tbl := ax_t (ax_b4 (List.mem_of_getElem? (i := 57) rfl)) rfl
theorem wd_864 : Cond.methodLink RX6 67 yX7_number ∈ ax_tbl := ax_t (ax_b4 (List.mem_of_getElem? (i := 58) rfl)) rfl
theorem wd_865 : Cond.methodLink RX6 63 yX7_takes ∈ ax_tbl := ax_t (ax_b4 (List.mem_of_getElem? (i := 59) rfl)) rfl
theorem wd_866 : Cond.methodLink RX9 149 yX8_push ∈ ax_tbl := ax_t (ax_b4 (List.mem_of_getElem? (i := 60) rfl)) rfl
theorem wd_867 : Cond.instanceMethod yX8_push ∈ ax_tbl := ax_t (ax_b4 (List.mem_of_getElem? (i := 61) rfl)) rfl
theorem wd_868 : Cond.selects RX8 yX8_push yX8_push ∈ ax_tbl := ax_t (ax_b4 (List.mem_of_getElem? (i := 62) rfl)) rfl
theorem wd_869 : Cond.code yX8_push cX8_push 2 none ∈ ax_tbl := ax_t (ax_b4 (List.mem_of_getElem? (i := 63) rfl)) rfl
theorem wd_870 : Cond.methodLink RX9 162 yX9_runSteps ∈ ax_tbl := ax_t (ax_b4 (List.mem_of_getElem? (i := 64) rfl)) rfl
theorem wd_872 : Cond.instanceMethod yX9_runSteps ∈ ax_tbl := ax_t (ax_b4 (List.mem_of_getElem? (i := 66) rfl)) rfl
theorem wd_873 : Cond.code yX9_runSteps cX9_runSteps 7 none ∈ ax_tbl := ax_t (ax_b4 (List.mem_of_getElem? (i := 67) rfl)) rfl
theorem wd_874 : Cond.methodLink RX9 223 yX9_at ∈ ax_tbl := ax_t (ax_b4 (List.mem_of_getElem? (i := 68) rfl)) rfl
theorem wd_875 : Cond.methodLink RX9 397 yX6_behind ∈ ax_tbl := ax_t (ax_b4 (List.mem_of_getElem? (i := 69) rfl)) rfl
theorem wd_876 : Cond.instanceMethod yX6_behind ∈ ax_tbl := ax_t (ax_b4 (List.mem_of_getElem? (i := 70) rfl)) rfl
theorem wd_877 : Cond.selects RX6 yX6_behind yX6_behind ∈ ax_tbl := ax_t (ax_b4 (List.mem_of_getElem? (i := 71) rfl)) rfl
theorem wd_878 : Cond.code yX6_behind cX6_behind 2 (some .int) ∈ ax_tbl := ax_t (ax_b4 (List.mem_of_getElem? (i := 72) rfl)) rfl
theorem wd_879 : Cond.methodLinkNest RX6 97 yX9_at "OwedBell" ∈ lw_tbl := ax_b4 (List.mem_of_getElem? (i := 73) rfl)
theorem wd_880 : Cond.methodLink RX9 403 yX9_doStep ∈ ax_tbl := ax_t (ax_b4 (List.mem_of_getElem? (i := 74) rfl)) rfl
theorem wd_882 : Cond.instanceMethod yX9_doStep ∈ ax_tbl := ax_t (ax_b4 (List.mem_of_getElem? (i := 76) rfl)) rfl
theorem wd_883 : Cond.code yX9_doStep cX9_doStep 4 (some .boolean) ∈ ax_tbl := ax_t (ax_b4 (List.mem_of_getElem? (i := 77) rfl)) rfl
theorem wd_884 : Cond.methodLink RX9 268 yX5_pays ∈ ax_tbl := ax_t (ax_b4 (List.mem_of_getElem? (i := 78) rfl)) rfl
theorem wd_885 : Cond.instanceMethod yX5_pays ∈ ax_tbl := ax_t (ax_b4 (List.mem_of_getElem? (i := 79) rfl)) rfl
theorem wd_886 : Cond.selects RX5 yX5_pays yX5_pays ∈ ax_tbl := ax_t (ax_b4 (List.mem_of_getElem? (i := 80) rfl)) rfl
theorem wd_887 : Cond.code yX5_pays cX5_pays 2 (some .boolean) ∈ ax_tbl := ax_t (ax_b4 (List.mem_of_getElem? (i := 81) rfl)) rfl
theorem wd_888 : Cond.methodLink RX9 406 yX5_gives ∈ ax_tbl := ax_t (ax_b4 (List.mem_of_getElem? (i := 82) rfl)) rfl
theorem wd_889 : Cond.instanceMethod yX5_gives ∈ ax_tbl := ax_t (ax_b4 (List.mem_of_getElem? (i := 83) rfl)) rfl
theorem wd_890 : Cond.selects RX5 yX5_gives yX5_gives ∈ ax_tbl := ax_t (ax_b4 (List.mem_of_getElem? (i := 84) rfl)) rfl
theorem wd_891 : Cond.code yX5_gives cX5_gives 3 (some .boolean) ∈ ax_tbl := ax_t (ax_b4 (List.mem_of_getElem? (i := 85) rfl)) rfl
theorem wd_892 : Cond.methodLink RX5 69 yJ9_min_7cf53 ∈ ax_tbl := ax_t (ax_b4 (List.mem_of_getElem? (i := 86) rfl)) rfl
theorem wd_893 : Cond.methodLink RX9 409 yX5_waxes ∈ ax_tbl := ax_t (ax_b4 (List.mem_of_getElem? (i := 87) rfl)) rfl
theorem wd_894 : Cond.instanceMethod yX5_waxes ∈ ax_tbl := ax_t (ax_b4 (List.mem_of_getElem? (i := 88) rfl)) rfl
theorem wd_895 : Cond.selects RX5 yX5_waxes yX5_waxes ∈ ax_tbl := ax_t (ax_b4 (List.mem_of_getElem? (i := 89) rfl)) rfl
theorem wd_896 : Cond.code yX5_waxes cX5_waxes 1 (some .boolean) ∈ ax_tbl := ax_t (ax_b4 (List.mem_of_getElem? (i := 90) rfl)) rfl
theorem wd_897 : Cond.methodLink RX9 413 yX5_hangUp ∈ ax_tbl := ax_t (ax_b4 (List.mem_of_getElem? (i := 91) rfl)) rfl
theorem wd_898 : Cond.instanceMethod yX5_hangUp ∈ ax_tbl := ax_t (ax_b4 (List.mem_of_getElem? (i := 92) rfl)) rfl
theorem wd_899 : Cond.selects RX5 yX5_hangUp yX5_hangUp ∈ ax_tbl := ax_t (ax_b4 (List.mem_of_getElem? (i := 93) rfl)) rfl
theorem wd_900 : Cond.code yX5_hangUp cX5_hangUp 2 (some .boolean) ∈ ax_tbl := ax_t (ax_b4 (List.mem_of_getElem? (i := 94) rfl)) rfl
theorem wd_901 : Cond.methodLink RX9 416 yX5_swaps ∈ ax_tbl := ax_t (ax_b4 (List.mem_of_getElem? (i := 95) rfl)) rfl
theorem wd_902 : Cond.instanceMethod yX5_swaps ∈ ax_tbl := ax_t (ax_b4 (List.mem_of_getElem? (i := 96) rfl)) rfl
theorem wd_903 : Cond.selects RX5 yX5_swaps yX5_swaps ∈ ax_tbl := ax_t (ax_b4 (List.mem_of_getElem? (i := 97) rfl)) rfl
theorem wd_904 : Cond.code yX5_swaps cX5_swaps 4 (some .boolean) ∈ ax_tbl := ax_t (ax_b4 (List.mem_of_getElem? (i := 98) rfl)) rfl
theorem wd_905 : Cond.methodLink RX9 265 yX9_passNight ∈ ax_tbl := ax_t (ax_b4 (List.mem_of_getElem? (i := 99) rfl)) rfl
theorem wd_907 : Cond.instanceMethod yX9_passNight ∈ ax_tbl := ax_t (ax_b4 (List.mem_of_getElem? (i := 101) rfl)) rfl
theorem wd_908 : Cond.code yX9_passNight cX9_passNight 5 (some .int) ∈ ax_tbl := ax_t (ax_b4 (List.mem_of_getElem? (i := 102) rfl)) rfl
theorem wd_909 : Cond.methodLink RX9 234 yX9_wakes ∈ ax_tbl := ax_t (ax_b4 (List.mem_of_getElem? (i := 103) rfl)) rfl
theorem wd_911 : Cond.instanceMethod yX9_wakes ∈ ax_tbl := ax_t (ax_b4 (List.mem_of_getElem? (i := 105) rfl)) rfl
theorem wd_912 : Cond.code yX9_wakes cX9_wakes 5 (some .boolean) ∈ ax_tbl := ax_t (ax_b4 (List.mem_of_getElem? (i := 106) rfl)) rfl
theorem wd_913 : Cond.methodLink RX9 258 yX1_loud ∈ ax_tbl := ax_t (ax_b4 (List.mem_of_getElem? (i := 107) rfl)) rfl
theorem wd_914 : Cond.instanceMethod yX1_loud ∈ ax_tbl := ax_t (ax_b4 (List.mem_of_getElem? (i := 108) rfl)) rfl
theorem wd_915 : Cond.selects RX1 yX1_loud yX1_loud ∈ ax_tbl := ax_t (ax_b4 (List.mem_of_getElem? (i := 109) rfl)) rfl
theorem wd_916 : Cond.code yX1_loud cX1_loud 4 (some .int) ∈ ax_tbl := ax_t (ax_b4 (List.mem_of_getElem? (i := 110) rfl)) rfl
theorem wd_917 : Cond.methodLinkNest RX1 115 yX9_at "OwedBell" ∈ lw_tbl := ax_b4 (List.mem_of_getElem? (i := 111) rfl)
theorem wd_918 : Cond.methodLink RX9 380 yX9_put ∈ ax_tbl := ax_t (ax_b4 (List.mem_of_getElem? (i := 112) rfl)) rfl
theorem wd_919 : Cond.methodLink RX9 387 yX5_turn ∈ ax_tbl := ax_t (ax_b4 (List.mem_of_getElem? (i := 113) rfl)) rfl
theorem wd_920 : Cond.instanceMethod yX5_turn ∈ ax_tbl := ax_t (ax_b4 (List.mem_of_getElem? (i := 114) rfl)) rfl
theorem wd_921 : Cond.selects RX5 yX5_turn yX5_turn ∈ ax_tbl := ax_t (ax_b4 (List.mem_of_getElem? (i := 115) rfl)) rfl
theorem wd_922 : Cond.code yX5_turn cX5_turn 5 none ∈ ax_tbl := ax_t (ax_b4 (List.mem_of_getElem? (i := 116) rfl)) rfl
theorem wd_923 : Cond.methodLink RX5 75 yX5_takeDown ∈ ax_tbl := ax_t (ax_b4 (List.mem_of_getElem? (i := 117) rfl)) rfl
theorem wd_925 : Cond.instanceMethod yX5_takeDown ∈ ax_tbl := ax_t (ax_b4 (List.mem_of_getElem? (i := 119) rfl)) rfl
theorem wd_926 : Cond.code yX5_takeDown cX5_takeDown 1 none ∈ ax_tbl := ax_t (ax_b4 (List.mem_of_getElem? (i := 120) rfl)) rfl
theorem wd_927 : Cond.constant RX5 81 (99999) ∈ ax_tbl := ax_t (ax_b4 (List.mem_of_getElem? (i := 121) rfl)) rfl
theorem wd_931 : Cond.methodLink RL 21 yX9_book ∈ ax_tbl := ax_t (ax_b4 (List.mem_of_getElem? (i := 125) rfl)) rfl
theorem wd_932 : Cond.instanceMethod yX9_book ∈ ax_tbl := ax_t (ax_b4 (List.mem_of_getElem? (i := 126) rfl)) rfl
theorem wd_933 : Cond.selects RX9 yX9_book yX9_book ∈ ax_tbl := ax_t (ax_b4 (List.mem_of_getElem? (i := 127) rfl)) rfl
theorem wd_934 : Cond.code yX9_book cX9_book 3 (some .int) ∈ ax_tbl := ax_t (ax_b4 (List.mem_of_getElem? (i := 128) rfl)) rfl
theorem wd_935 : Cond.methodLink RX9 166 yX0_readFrom ∈ ax_tbl := ax_t (ax_b4 (List.mem_of_getElem? (i := 129) rfl)) rfl
theorem wd_936 : Cond.instanceMethod yX0_readFrom ∈ ax_tbl := ax_t (ax_b4 (List.mem_of_getElem? (i := 130) rfl)) rfl
theorem wd_937 : Cond.selects RX0 yX0_readFrom yX0_readFrom ∈ ax_tbl := ax_t (ax_b4 (List.mem_of_getElem? (i := 131) rfl)) rfl
theorem wd_938 : Cond.code yX0_readFrom cX0_readFrom 3 (some .boolean) ∈ ax_tbl := ax_t (ax_b4 (List.mem_of_getElem? (i := 132) rfl)) rfl
theorem wd_939 : Cond.methodLink RX0 19 yX0_clear ∈ ax_tbl := ax_t (ax_b4 (List.mem_of_getElem? (i := 133) rfl)) rfl
theorem wd_940 : Cond.methodLink RX0 22 yX7_sign ∈ ax_tbl := ax_t (ax_b4 (List.mem_of_getElem? (i := 134) rfl)) rfl
theorem wd_941 : Cond.methodLink RX0 28 yX0_readLine ∈ ax_tbl := ax_t (ax_b4 (List.mem_of_getElem? (i := 135) rfl)) rfl
theorem wd_943 : Cond.instanceMethod yX0_readLine ∈ ax_tbl := ax_t (ax_b4 (List.mem_of_getElem? (i := 137) rfl)) rfl
theorem wd_944 : Cond.code yX0_readLine cX0_readLine 3 (some .boolean) ∈ ax_tbl := ax_t (ax_b4 (List.mem_of_getElem? (i := 138) rfl)) rfl
theorem wd_945 : Cond.methodLink RX0 35 yX7_number ∈ ax_tbl := ax_t (ax_b4 (List.mem_of_getElem? (i := 139) rfl)) rfl
theorem wd_946 : Cond.methodLinkNest RX0 39 yX9_at "OwedBell" ∈ lw_tbl := ax_b4 (List.mem_of_getElem? (i := 140) rfl)
theorem wd_947 : Cond.methodLink RX0 46 yX7_fails ∈ ax_tbl := ax_t (ax_b4 (List.mem_of_getElem? (i := 141) rfl)) rfl
theorem wd_948 : Cond.methodLinkNest RX0 50 yX9_put "OwedBell" ∈ lw_tbl := ax_b4 (List.mem_of_getElem? (i := 142) rfl)
theorem wd_949 : Cond.methodLink RX0 54 yX7_takes ∈ ax_tbl := ax_t (ax_b4 (List.mem_of_getElem? (i := 143) rfl)) rfl
theorem wd_953 : Cond.methodLink RL 24 yX9_told ∈ ax_tbl := ax_t (ax_b4 (List.mem_of_getElem? (i := 147) rfl)) rfl
theorem wd_954 : Cond.instanceMethod yX9_told ∈ ax_tbl := ax_t (ax_b4 (List.mem_of_getElem? (i := 148) rfl)) rfl
theorem wd_955 : Cond.selects RX9 yX9_told yX9_told ∈ ax_tbl := ax_t (ax_b4 (List.mem_of_getElem? (i := 149) rfl)) rfl
theorem wd_956 : Cond.code yX9_told cX9_told 2 (some .int) ∈ ax_tbl := ax_t (ax_b4 (List.mem_of_getElem? (i := 150) rfl)) rfl
theorem wd_960 : Cond.methodLink RL 27 yX9_many ∈ ax_tbl := ax_t (ax_b4 (List.mem_of_getElem? (i := 154) rfl)) rfl
theorem wd_961 : Cond.instanceMethod yX9_many ∈ ax_tbl := ax_t (ax_b4 (List.mem_of_getElem? (i := 155) rfl)) rfl
theorem wd_962 : Cond.selects RX9 yX9_many yX9_many ∈ ax_tbl := ax_t (ax_b4 (List.mem_of_getElem? (i := 156) rfl)) rfl
theorem wd_963 : Cond.code yX9_many cX9_many 2 (some .int) ∈ ax_tbl := ax_t (ax_b4 (List.mem_of_getElem? (i := 157) rfl)) rfl
theorem wd_967 : Cond.classLink RL 34 "java/util/NoSuchElementException" ∈ ax_tbl := ax_t (ax_b4 (List.mem_of_getElem? (i := 161) rfl)) rfl
theorem wd_968 : Cond.methodLink RL 30 yX9_monk ∈ ax_tbl := ax_t (ax_b4 (List.mem_of_getElem? (i := 162) rfl)) rfl
theorem wd_969 : Cond.instanceMethod yX9_monk ∈ ax_tbl := ax_t (ax_b4 (List.mem_of_getElem? (i := 163) rfl)) rfl
theorem wd_970 : Cond.selects RX9 yX9_monk yX9_monk ∈ ax_tbl := ax_t (ax_b4 (List.mem_of_getElem? (i := 164) rfl)) rfl
theorem wd_971 : Cond.code yX9_monk cX9_monk 3 (some .int) ∈ ax_tbl := ax_t (ax_b4 (List.mem_of_getElem? (i := 165) rfl)) rfl
theorem wd_972 : Cond.methodLink RX9 216 yX9_needOne ∈ ax_tbl := ax_t (ax_b4 (List.mem_of_getElem? (i := 166) rfl)) rfl
theorem wd_974 : Cond.instanceMethod yX9_needOne ∈ ax_tbl := ax_t (ax_b4 (List.mem_of_getElem? (i := 168) rfl)) rfl
theorem wd_975 : Cond.code yX9_needOne cX9_needOne 3 none ∈ ax_tbl := ax_t (ax_b4 (List.mem_of_getElem? (i := 169) rfl)) rfl
theorem wd_995 : Cond.methodLink RL 36 yX9_village ∈ ax_tbl := ax_t (ax_b4 (List.mem_of_getElem? (i := 189) rfl)) rfl
theorem wd_996 : Cond.instanceMethod yX9_village ∈ ax_tbl := ax_t (ax_b4 (List.mem_of_getElem? (i := 190) rfl)) rfl
theorem wd_997 : Cond.selects RX9 yX9_village yX9_village ∈ ax_tbl := ax_t (ax_b4 (List.mem_of_getElem? (i := 191) rfl)) rfl
theorem wd_998 : Cond.code yX9_village cX9_village 3 (some .int) ∈ ax_tbl := ax_t (ax_b4 (List.mem_of_getElem? (i := 192) rfl)) rfl
theorem wd_1002 : Cond.methodLink RL 39 yX9_cell ∈ ax_tbl := ax_t (ax_b4 (List.mem_of_getElem? (i := 196) rfl)) rfl
theorem wd_1003 : Cond.instanceMethod yX9_cell ∈ ax_tbl := ax_t (ax_b4 (List.mem_of_getElem? (i := 197) rfl)) rfl
theorem wd_1004 : Cond.selects RX9 yX9_cell yX9_cell ∈ ax_tbl := ax_t (ax_b4 (List.mem_of_getElem? (i := 198) rfl)) rfl
theorem wd_1005 : Cond.code yX9_cell cX9_cell 2 (some .int) ∈ ax_tbl := ax_t (ax_b4 (List.mem_of_getElem? (i := 199) rfl)) rfl
theorem wd_1009 : Cond.methodLink RL 42 yX9_heir ∈ ax_tbl := ax_t (ax_b4 (List.mem_of_getElem? (i := 203) rfl)) rfl
theorem wd_1010 : Cond.instanceMethod yX9_heir ∈ ax_tbl := ax_t (ax_b4 (List.mem_of_getElem? (i := 204) rfl)) rfl
theorem wd_1011 : Cond.selects RX9 yX9_heir yX9_heir ∈ ax_tbl := ax_t (ax_b4 (List.mem_of_getElem? (i := 205) rfl)) rfl
theorem wd_1012 : Cond.code yX9_heir cX9_heir 2 (some .int) ∈ ax_tbl := ax_t (ax_b4 (List.mem_of_getElem? (i := 206) rfl)) rfl
theorem wd_1016 : Cond.methodLink RL 45 yX9_would ∈ ax_tbl := ax_t (ax_b4 (List.mem_of_getElem? (i := 210) rfl)) rfl
theorem wd_1017 : Cond.instanceMethod yX9_would ∈ ax_tbl := ax_t (ax_b4 (List.mem_of_getElem? (i := 211) rfl)) rfl
theorem wd_1018 : Cond.selects RX9 yX9_would yX9_would ∈ ax_tbl := ax_t (ax_b4 (List.mem_of_getElem? (i := 212) rfl)) rfl
theorem wd_1019 : Cond.code yX9_would cX9_would 8 (some .int) ∈ ax_tbl := ax_t (ax_b4 (List.mem_of_getElem? (i := 213) rfl)) rfl
theorem wd_1020 : Cond.constant RX9 253 (99999) ∈ ax_tbl := ax_t (ax_b4 (List.mem_of_getElem? (i := 214) rfl)) rfl
theorem wd_1024 : Cond.methodLink RL 49 yX9_noise ∈ ax_tbl := ax_t (ax_b4 (List.mem_of_getElem? (i := 218) rfl)) rfl
theorem wd_1025 : Cond.instanceMethod yX9_noise ∈ ax_tbl := ax_t (ax_b4 (List.mem_of_getElem? (i := 219) rfl)) rfl
theorem wd_1026 : Cond.selects RX9 yX9_noise yX9_noise ∈ ax_tbl := ax_t (ax_b4 (List.mem_of_getElem? (i := 220) rfl)) rfl
theorem wd_1027 : Cond.code yX9_noise cX9_noise 3 (some .int) ∈ ax_tbl := ax_t (ax_b4 (List.mem_of_getElem? (i := 221) rfl)) rfl
theorem wd_1031 : Cond.methodLink RL 52 yX9_ahead ∈ ax_tbl := ax_t (ax_b4 (List.mem_of_getElem? (i := 225) rfl)) rfl
theorem wd_1032 : Cond.instanceMethod yX9_ahead ∈ ax_tbl := ax_t (ax_b4 (List.mem_of_getElem? (i := 226) rfl)) rfl
theorem wd_1033 : Cond.selects RX9 yX9_ahead yX9_ahead ∈ ax_tbl := ax_t (ax_b4 (List.mem_of_getElem? (i := 227) rfl)) rfl
theorem wd_1034 : Cond.code yX9_ahead cX9_ahead 5 (some .int) ∈ ax_tbl := ax_t (ax_b4 (List.mem_of_getElem? (i := 228) rfl)) rfl
theorem wd_1038 : Cond.methodLink RL 55 yX9_loudest ∈ ax_tbl := ax_t (ax_b4 (List.mem_of_getElem? (i := 232) rfl)) rfl
theorem wd_1039 : Cond.instanceMethod yX9_loudest ∈ ax_tbl := ax_t (ax_b4 (List.mem_of_getElem? (i := 233) rfl)) rfl
theorem wd_1040 : Cond.selects RX9 yX9_loudest yX9_loudest ∈ ax_tbl := ax_t (ax_b4 (List.mem_of_getElem? (i := 234) rfl)) rfl
theorem wd_1041 : Cond.code yX9_loudest cX9_loudest 6 (some .int) ∈ ax_tbl := ax_t (ax_b4 (List.mem_of_getElem? (i := 235) rfl)) rfl
theorem wd_1045 : Cond.methodLink RL 58 yX9_hush ∈ ax_tbl := ax_t (ax_b4 (List.mem_of_getElem? (i := 239) rfl)) rfl
theorem wd_1046 : Cond.instanceMethod yX9_hush ∈ ax_tbl := ax_t (ax_b5 (List.mem_of_getElem? (i := 0) rfl)) rfl
theorem wd_1047 : Cond.selects RX9 yX9_hush yX9_hush ∈ ax_tbl := ax_t (ax_b5 (List.mem_of_getElem? (i := 1) rfl)) rfl
theorem wd_1048 : Cond.code yX9_hush cX9_hush 3 (some .int) ∈ ax_tbl := ax_t (ax_b5 (List.mem_of_getElem? (i := 2) rfl)) rfl
theorem wd_1052 : Cond.methodLink RL 61 yX9_plan ∈ ax_tbl := ax_t (ax_b5 (List.mem_of_getElem? (i := 6) rfl)) rfl
theorem wd_1053 : Cond.instanceMethod yX9_plan ∈ ax_tbl := ax_t (ax_b5 (List.mem_of_getElem? (i := 7) rfl)) rfl
theorem wd_1054 : Cond.selects RX9 yX9_plan yX9_plan ∈ ax_tbl := ax_t (ax_b5 (List.mem_of_getElem? (i := 8) rfl)) rfl
theorem wd_1055 : Cond.code yX9_plan cX9_plan 9 (some .int) ∈ ax_tbl := ax_t (ax_b5 (List.mem_of_getElem? (i := 9) rfl)) rfl
theorem wd_1056 : Cond.methodLink RX9 272 yX9_tensTogether ∈ ax_tbl := ax_t (ax_b5 (List.mem_of_getElem? (i := 10) rfl)) rfl
theorem wd_1057 : Cond.static yX9_tensTogether ∈ ax_tbl := ax_t (ax_b5 (List.mem_of_getElem? (i := 11) rfl)) rfl
theorem wd_1058 : Cond.code yX9_tensTogether cX9_tensTogether 4 (some .int) ∈ ax_tbl := ax_t (ax_b5 (List.mem_of_getElem? (i := 12) rfl)) rfl
theorem wd_1059 : Cond.methodLink RX9 426 yX9_tensOf ∈ ax_tbl := ax_t (ax_b5 (List.mem_of_getElem? (i := 13) rfl)) rfl
theorem wd_1060 : Cond.static yX9_tensOf ∈ ax_tbl := ax_t (ax_b5 (List.mem_of_getElem? (i := 14) rfl)) rfl
theorem wd_1061 : Cond.code yX9_tensOf cX9_tensOf 4 (some .int) ∈ ax_tbl := ax_t (ax_b5 (List.mem_of_getElem? (i := 15) rfl)) rfl
theorem wd_1062 : Cond.methodLink RX9 275 yX9_staysQuiet ∈ ax_tbl := ax_t (ax_b5 (List.mem_of_getElem? (i := 16) rfl)) rfl
theorem wd_1064 : Cond.instanceMethod yX9_staysQuiet ∈ ax_tbl := ax_t (ax_b5 (List.mem_of_getElem? (i := 18) rfl)) rfl
theorem wd_1065 : Cond.code yX9_staysQuiet cX9_staysQuiet 7 (some .boolean) ∈ ax_tbl := ax_t (ax_b5 (List.mem_of_getElem? (i := 19) rfl)) rfl
theorem wd_1066 : Cond.methodLink RX9 279 yX9_tensAsDigits ∈ ax_tbl := ax_t (ax_b5 (List.mem_of_getElem? (i := 20) rfl)) rfl
theorem wd_1067 : Cond.static yX9_tensAsDigits ∈ ax_tbl := ax_t (ax_b5 (List.mem_of_getElem? (i := 21) rfl)) rfl
theorem wd_1068 : Cond.code yX9_tensAsDigits cX9_tensAsDigits 4 (some .int) ∈ ax_tbl := ax_t (ax_b5 (List.mem_of_getElem? (i := 22) rfl)) rfl
theorem wd_1072 : Cond.methodLink RL 65 yX9_fits ∈ ax_tbl := ax_t (ax_b5 (List.mem_of_getElem? (i := 26) rfl)) rfl
theorem wd_1073 : Cond.instanceMethod yX9_fits ∈ ax_tbl := ax_t (ax_b5 (List.mem_of_getElem? (i := 27) rfl)) rfl
theorem wd_1074 : Cond.selects RX9 yX9_fits yX9_fits ∈ ax_tbl := ax_t (ax_b5 (List.mem_of_getElem? (i := 28) rfl)) rfl
theorem wd_1075 : Cond.code yX9_fits cX9_fits 2 (some .int) ∈ ax_tbl := ax_t (ax_b5 (List.mem_of_getElem? (i := 29) rfl)) rfl
theorem wd_1076 : Cond.methodLink RX9 298 yX9_findFits ∈ ax_tbl := ax_t (ax_b5 (List.mem_of_getElem? (i := 30) rfl)) rfl
theorem wd_1078 : Cond.instanceMethod yX9_findFits ∈ ax_tbl := ax_t (ax_b5 (List.mem_of_getElem? (i := 32) rfl)) rfl
theorem wd_1079 : Cond.code yX9_findFits cX9_findFits 4 none ∈ ax_tbl := ax_t (ax_b5 (List.mem_of_getElem? (i := 33) rfl)) rfl
theorem wd_1080 : Cond.methodLink RX9 430 yX2_clear ∈ ax_tbl := ax_t (ax_b5 (List.mem_of_getElem? (i := 34) rfl)) rfl
theorem wd_1081 : Cond.instanceMethod yX2_clear ∈ ax_tbl := ax_t (ax_b5 (List.mem_of_getElem? (i := 35) rfl)) rfl
theorem wd_1082 : Cond.selects RX2 yX2_clear yX2_clear ∈ ax_tbl := ax_t (ax_b5 (List.mem_of_getElem? (i := 36) rfl)) rfl
theorem wd_1083 : Cond.code yX2_clear cX2_clear 3 none ∈ ax_tbl := ax_t (ax_b5 (List.mem_of_getElem? (i := 37) rfl)) rfl
theorem wd_1084 : Cond.methodLink RX9 431 yX9_isRight ∈ ax_tbl := ax_t (ax_b5 (List.mem_of_getElem? (i := 38) rfl)) rfl
theorem wd_1086 : Cond.instanceMethod yX9_isRight ∈ ax_tbl := ax_t (ax_b5 (List.mem_of_getElem? (i := 40) rfl)) rfl
theorem wd_1087 : Cond.code yX9_isRight cX9_isRight 6 (some .boolean) ∈ ax_tbl := ax_t (ax_b5 (List.mem_of_getElem? (i := 41) rfl)) rfl
theorem wd_1088 : Cond.methodLink RX9 434 yX2_add ∈ ax_tbl := ax_t (ax_b5 (List.mem_of_getElem? (i := 42) rfl)) rfl
theorem wd_1089 : Cond.instanceMethod yX2_add ∈ ax_tbl := ax_t (ax_b5 (List.mem_of_getElem? (i := 43) rfl)) rfl
theorem wd_1090 : Cond.selects RX2 yX2_add yX2_add ∈ ax_tbl := ax_t (ax_b5 (List.mem_of_getElem? (i := 44) rfl)) rfl
theorem wd_1091 : Cond.code yX2_add cX2_add 5 none ∈ ax_tbl := ax_t (ax_b5 (List.mem_of_getElem? (i := 45) rfl)) rfl
theorem wd_1092 : Cond.methodLinkNest RX2 33 yX9_at "OwedBell" ∈ lw_tbl := ax_b5 (List.mem_of_getElem? (i := 46) rfl)
theorem wd_1093 : Cond.methodLinkNest RX2 37 yX9_put "OwedBell" ∈ lw_tbl := ax_b5 (List.mem_of_getElem? (i := 47) rfl)
theorem wd_1094 : Cond.methodLink RX9 437 yX2_choose ∈ ax_tbl := ax_t (ax_b5 (List.mem_of_getElem? (i := 48) rfl)) rfl
theorem wd_1095 : Cond.instanceMethod yX2_choose ∈ ax_tbl := ax_t (ax_b5 (List.mem_of_getElem? (i := 49) rfl)) rfl
theorem wd_1096 : Cond.selects RX2 yX2_choose yX2_choose ∈ ax_tbl := ax_t (ax_b5 (List.mem_of_getElem? (i := 50) rfl)) rfl
theorem wd_1097 : Cond.code yX2_choose cX2_choose 5 none ∈ ax_tbl := ax_t (ax_b5 (List.mem_of_getElem? (i := 51) rfl)) rfl
theorem wd_1098 : Cond.methodLink RX2 52 yJ9_max_7cf53 ∈ ax_tbl := ax_t (ax_b5 (List.mem_of_getElem? (i := 52) rfl)) rfl
theorem wd_1102 : Cond.methodLink RL 68 yX9_count ∈ ax_tbl := ax_t (ax_b5 (List.mem_of_getElem? (i := 56) rfl)) rfl
theorem wd_1103 : Cond.instanceMethod yX9_count ∈ ax_tbl := ax_t (ax_b5 (List.mem_of_getElem? (i := 57) rfl)) rfl
theorem wd_1104 : Cond.selects RX9 yX9_count yX9_count ∈ ax_tbl := ax_t (ax_b5 (List.mem_of_getElem? (i := 58) rfl)) rfl
theorem wd_1105 : Cond.code yX9_count cX9_count 2 (some .int) ∈ ax_tbl := ax_t (ax_b5 (List.mem_of_getElem? (i := 59) rfl)) rfl
theorem wd_1109 : Cond.methodLink RL 71 yX9_mistaken ∈ ax_tbl := ax_t (ax_b5 (List.mem_of_getElem? (i := 63) rfl)) rfl
theorem wd_1110 : Cond.instanceMethod yX9_mistaken ∈ ax_tbl := ax_t (ax_b5 (List.mem_of_getElem? (i := 64) rfl)) rfl
theorem wd_1111 : Cond.selects RX9 yX9_mistaken yX9_mistaken ∈ ax_tbl := ax_t (ax_b5 (List.mem_of_getElem? (i := 65) rfl)) rfl
theorem wd_1112 : Cond.code yX9_mistaken cX9_mistaken 12 (some .long) ∈ ax_tbl := ax_t (ax_b5 (List.mem_of_getElem? (i := 66) rfl)) rfl
theorem wd_1113 : Cond.methodLink RX9 315 yX9_needReceipt ∈ ax_tbl := ax_t (ax_b5 (List.mem_of_getElem? (i := 67) rfl)) rfl
theorem wd_1115 : Cond.instanceMethod yX9_needReceipt ∈ ax_tbl := ax_t (ax_b5 (List.mem_of_getElem? (i := 69) rfl)) rfl
theorem wd_1116 : Cond.code yX9_needReceipt cX9_needReceipt 4 none ∈ ax_tbl := ax_t (ax_b5 (List.mem_of_getElem? (i := 70) rfl)) rfl
theorem wd_1117 : Cond.methodLink RX9 318 yX9_dullWays ∈ ax_tbl := ax_t (ax_b5 (List.mem_of_getElem? (i := 71) rfl)) rfl
theorem wd_1118 : Cond.static yX9_dullWays ∈ ax_tbl := ax_t (ax_b5 (List.mem_of_getElem? (i := 72) rfl)) rfl
theorem wd_1119 : Cond.code yX9_dullWays cX9_dullWays 7 (some .long) ∈ ax_tbl := ax_t (ax_b5 (List.mem_of_getElem? (i := 73) rfl)) rfl
theorem wd_1120 : Cond.methodLink RX9 447 yX9_choices ∈ ax_tbl := ax_t (ax_b5 (List.mem_of_getElem? (i := 74) rfl)) rfl
theorem wd_1121 : Cond.static yX9_choices ∈ ax_tbl := ax_t (ax_b5 (List.mem_of_getElem? (i := 75) rfl)) rfl
theorem wd_1122 : Cond.code yX9_choices cX9_choices 5 (some .long) ∈ ax_tbl := ax_t (ax_b5 (List.mem_of_getElem? (i := 76) rfl)) rfl
theorem wd_1123 : Cond.methodLink RX9 322 yX9_power ∈ ax_tbl := ax_t (ax_b5 (List.mem_of_getElem? (i := 77) rfl)) rfl
theorem wd_1124 : Cond.static yX9_power ∈ ax_tbl := ax_t (ax_b5 (List.mem_of_getElem? (i := 78) rfl)) rfl
theorem wd_1125 : Cond.code yX9_power cX9_power 5 (some .long) ∈ ax_tbl := ax_t (ax_b5 (List.mem_of_getElem? (i := 79) rfl)) rfl
theorem wd_1126 : Cond.constantLong RX9 326 (2) ∈ ax_tbl := ax_t (ax_b5 (List.mem_of_getElem? (i := 80) rfl)) rfl
theorem wd_1130 : Cond.methodLink RL 75 yX9_best ∈ ax_tbl := ax_t (ax_b5 (List.mem_of_getElem? (i := 84) rfl)) rfl
theorem wd_1131 : Cond.instanceMethod yX9_best ∈ ax_tbl := ax_t (ax_b5 (List.mem_of_getElem? (i := 85) rfl)) rfl
theorem wd_1132 : Cond.selects RX9 yX9_best yX9_best ∈ ax_tbl := ax_t (ax_b5 (List.mem_of_getElem? (i := 86) rfl)) rfl
theorem wd_1133 : Cond.code yX9_best cX9_best 10 (some .int) ∈ ax_tbl := ax_t (ax_b5 (List.mem_of_getElem? (i := 87) rfl)) rfl
theorem wd_1134 : Cond.constantLong RX9 328 (-1) ∈ ax_tbl := ax_t (ax_b5 (List.mem_of_getElem? (i := 88) rfl)) rfl
theorem wd_1138 : Cond.methodLink RL 79 yX9_beds ∈ ax_tbl := ax_t (ax_b5 (List.mem_of_getElem? (i := 92) rfl)) rfl
theorem wd_1139 : Cond.instanceMethod yX9_beds ∈ ax_tbl := ax_t (ax_b5 (List.mem_of_getElem? (i := 93) rfl)) rfl
theorem wd_1140 : Cond.selects RX9 yX9_beds yX9_beds ∈ ax_tbl := ax_t (ax_b5 (List.mem_of_getElem? (i := 94) rfl)) rfl
theorem wd_1141 : Cond.code yX9_beds cX9_beds 2 (some .int) ∈ ax_tbl := ax_t (ax_b5 (List.mem_of_getElem? (i := 95) rfl)) rfl
theorem wd_1142 : Cond.methodLink RX9 330 yX9_findBeds ∈ ax_tbl := ax_t (ax_b5 (List.mem_of_getElem? (i := 96) rfl)) rfl
theorem wd_1144 : Cond.instanceMethod yX9_findBeds ∈ ax_tbl := ax_t (ax_b5 (List.mem_of_getElem? (i := 98) rfl)) rfl
theorem wd_1145 : Cond.code yX9_findBeds cX9_findBeds 7 none ∈ ax_tbl := ax_t (ax_b5 (List.mem_of_getElem? (i := 99) rfl)) rfl
theorem wd_1146 : Cond.methodLink RX9 450 yJ6_bitCount_0f7a4 ∈ ax_tbl := ax_t (ax_b5 (List.mem_of_getElem? (i := 100) rfl)) rfl
theorem wd_1147 : Cond.static yJ6_bitCount_0f7a4 ∈ ax_tbl := ax_t (ax_b5 (List.mem_of_getElem? (i := 101) rfl)) rfl
theorem wd_1148 : Cond.code yJ6_bitCount_0f7a4 cJ6_bitCount_0f7a4 1 (some .int) ∈ ax_tbl := ax_t (ax_b5 (List.mem_of_getElem? (i := 102) rfl)) rfl
theorem wd_1149 : Cond.constant RJ6 265 (1431655765) ∈ ax_tbl := ax_t (ax_b5 (List.mem_of_getElem? (i := 103) rfl)) rfl
theorem wd_1150 : Cond.constant RJ6 266 (858993459) ∈ ax_tbl := ax_t (ax_b5 (List.mem_of_getElem? (i := 104) rfl)) rfl
theorem wd_1151 : Cond.constant RJ6 267 (252645135) ∈ ax_tbl := ax_t (ax_b5 (List.mem_of_getElem? (i := 105) rfl)) rfl
theorem wd_1152 : Cond.methodLink RX9 455 yX9_sleepWith ∈ ax_tbl := ax_t (ax_b5 (List.mem_of_getElem? (i := 106) rfl)) rfl
theorem wd_1154 : Cond.instanceMethod yX9_sleepWith ∈ ax_tbl := ax_t (ax_b5 (List.mem_of_getElem? (i := 108) rfl)) rfl
theorem wd_1155 : Cond.code yX9_sleepWith cX9_sleepWith 5 (some .int) ∈ ax_tbl := ax_t (ax_b5 (List.mem_of_getElem? (i := 109) rfl)) rfl
theorem wd_1156 : Cond.methodLink RX9 348 yX1_sleeps ∈ ax_tbl := ax_t (ax_b5 (List.mem_of_getElem? (i := 110) rfl)) rfl
theorem wd_1157 : Cond.instanceMethod yX1_sleeps ∈ ax_tbl := ax_t (ax_b5 (List.mem_of_getElem? (i := 111) rfl)) rfl
theorem wd_1158 : Cond.selects RX1 yX1_sleeps yX1_sleeps ∈ ax_tbl := ax_t (ax_b5 (List.mem_of_getElem? (i := 112) rfl)) rfl
theorem wd_1159 : Cond.code yX1_sleeps cX1_sleeps 4 (some .boolean) ∈ ax_tbl := ax_t (ax_b5 (List.mem_of_getElem? (i := 113) rfl)) rfl
theorem wd_1160 : Cond.methodLink RX1 119 yX1_loud ∈ ax_tbl := ax_t (ax_b5 (List.mem_of_getElem? (i := 114) rfl)) rfl
theorem wd_1161 : Cond.methodLink RX9 459 yX9_leastBed ∈ ax_tbl := ax_t (ax_b5 (List.mem_of_getElem? (i := 115) rfl)) rfl
theorem wd_1163 : Cond.instanceMethod yX9_leastBed ∈ ax_tbl := ax_t (ax_b5 (List.mem_of_getElem? (i := 117) rfl)) rfl
theorem wd_1164 : Cond.code yX9_leastBed cX9_leastBed 5 (some .int) ∈ ax_tbl := ax_t (ax_b5 (List.mem_of_getElem? (i := 118) rfl)) rfl
theorem wd_1168 : Cond.methodLink RL 82 yX9_bed ∈ ax_tbl := ax_t (ax_b5 (List.mem_of_getElem? (i := 122) rfl)) rfl
theorem wd_1169 : Cond.instanceMethod yX9_bed ∈ ax_tbl := ax_t (ax_b5 (List.mem_of_getElem? (i := 123) rfl)) rfl
theorem wd_1170 : Cond.selects RX9 yX9_bed yX9_bed ∈ ax_tbl := ax_t (ax_b5 (List.mem_of_getElem? (i := 124) rfl)) rfl
theorem wd_1171 : Cond.code yX9_bed cX9_bed 3 (some .int) ∈ ax_tbl := ax_t (ax_b5 (List.mem_of_getElem? (i := 125) rfl)) rfl
theorem wd_1175 : Cond.methodLink RL 85 yX9_watch ∈ ax_tbl := ax_t (ax_b5 (List.mem_of_getElem? (i := 129) rfl)) rfl
theorem wd_1176 : Cond.instanceMethod yX9_watch ∈ ax_tbl := ax_t (ax_b5 (List.mem_of_getElem? (i := 130) rfl)) rfl
theorem wd_1177 : Cond.selects RX9 yX9_watch yX9_watch ∈ ax_tbl := ax_t (ax_b5 (List.mem_of_getElem? (i := 131) rfl)) rfl
theorem wd_1178 : Cond.code yX9_watch cX9_watch 6 (some .int) ∈ ax_tbl := ax_t (ax_b5 (List.mem_of_getElem? (i := 132) rfl)) rfl
theorem wd_1182 : Cond.methodLink RL 88 yX9_heirs ∈ ax_tbl := ax_t (ax_b5 (List.mem_of_getElem? (i := 136) rfl)) rfl
theorem wd_1183 : Cond.instanceMethod yX9_heirs ∈ ax_tbl := ax_t (ax_b5 (List.mem_of_getElem? (i := 137) rfl)) rfl
theorem wd_1184 : Cond.selects RX9 yX9_heirs yX9_heirs ∈ ax_tbl := ax_t (ax_b5 (List.mem_of_getElem? (i := 138) rfl)) rfl
theorem wd_1185 : Cond.code yX9_heirs cX9_heirs 9 (some .int) ∈ ax_tbl := ax_t (ax_b5 (List.mem_of_getElem? (i := 139) rfl)) rfl
theorem wd_1186 : Cond.methodLink RX9 333 yX9_setBids ∈ ax_tbl := ax_t (ax_b5 (List.mem_of_getElem? (i := 140) rfl)) rfl
theorem wd_1188 : Cond.instanceMethod yX9_setBids ∈ ax_tbl := ax_t (ax_b5 (List.mem_of_getElem? (i := 142) rfl)) rfl
theorem wd_1189 : Cond.code yX9_setBids cX9_setBids 6 (some .int) ∈ ax_tbl := ax_t (ax_b5 (List.mem_of_getElem? (i := 143) rfl)) rfl
theorem wd_1190 : Cond.methodLink RX9 336 yX9_restsBy ∈ ax_tbl := ax_t (ax_b5 (List.mem_of_getElem? (i := 144) rfl)) rfl
theorem wd_1192 : Cond.instanceMethod yX9_restsBy ∈ ax_tbl := ax_t (ax_b5 (List.mem_of_getElem? (i := 146) rfl)) rfl
theorem wd_1193 : Cond.code yX9_restsBy cX9_restsBy 6 (some .boolean) ∈ ax_tbl := ax_t (ax_b5 (List.mem_of_getElem? (i := 147) rfl)) rfl
theorem wd_1194 : Cond.methodLink RX9 462 yX9_had ∈ ax_tbl := ax_t (ax_b5 (List.mem_of_getElem? (i := 148) rfl)) rfl
theorem wd_1196 : Cond.instanceMethod yX9_had ∈ ax_tbl := ax_t (ax_b5 (List.mem_of_getElem? (i := 150) rfl)) rfl
theorem wd_1197 : Cond.code yX9_had cX9_had 3 (some .int) ∈ ax_tbl := ax_t (ax_b5 (List.mem_of_getElem? (i := 151) rfl)) rfl
theorem wd_1198 : Cond.methodLink RX9 340 yX9_bidsAsDigits ∈ ax_tbl := ax_t (ax_b5 (List.mem_of_getElem? (i := 152) rfl)) rfl
theorem wd_1200 : Cond.instanceMethod yX9_bidsAsDigits ∈ ax_tbl := ax_t (ax_b5 (List.mem_of_getElem? (i := 154) rfl)) rfl
theorem wd_1201 : Cond.code yX9_bidsAsDigits cX9_bidsAsDigits 3 (some .int) ∈ ax_tbl := ax_t (ax_b5 (List.mem_of_getElem? (i := 155) rfl)) rfl
theorem wd_1202 : Cond.methodLink RX9 344 yX9_hadTogether ∈ ax_tbl := ax_t (ax_b5 (List.mem_of_getElem? (i := 156) rfl)) rfl
theorem wd_1204 : Cond.instanceMethod yX9_hadTogether ∈ ax_tbl := ax_t (ax_b5 (List.mem_of_getElem? (i := 158) rfl)) rfl
theorem wd_1205 : Cond.code yX9_hadTogether cX9_hadTogether 4 (some .int) ∈ ax_tbl := ax_t (ax_b5 (List.mem_of_getElem? (i := 159) rfl)) rfl
theorem wd_1209 : Cond.methodLink RL 91 yX9_sleepers ∈ ax_tbl := ax_t (ax_b5 (List.mem_of_getElem? (i := 163) rfl)) rfl
theorem wd_1210 : Cond.instanceMethod yX9_sleepers ∈ ax_tbl := ax_t (ax_b5 (List.mem_of_getElem? (i := 164) rfl)) rfl
theorem wd_1211 : Cond.selects RX9 yX9_sleepers yX9_sleepers ∈ ax_tbl := ax_t (ax_b5 (List.mem_of_getElem? (i := 165) rfl)) rfl
theorem wd_1212 : Cond.code yX9_sleepers cX9_sleepers 4 (some .int) ∈ ax_tbl := ax_t (ax_b5 (List.mem_of_getElem? (i := 166) rfl)) rfl
theorem wd_1216 : Cond.methodLink RL 94 yX9_grows ∈ ax_tbl := ax_t (ax_b5 (List.mem_of_getElem? (i := 170) rfl)) rfl
theorem wd_1217 : Cond.instanceMethod yX9_grows ∈ ax_tbl := ax_t (ax_b5 (List.mem_of_getElem? (i := 171) rfl)) rfl
theorem wd_1218 : Cond.selects RX9 yX9_grows yX9_grows ∈ ax_tbl := ax_t (ax_b5 (List.mem_of_getElem? (i := 172) rfl)) rfl
theorem wd_1219 : Cond.code yX9_grows cX9_grows 3 (some .int) ∈ ax_tbl := ax_t (ax_b5 (List.mem_of_getElem? (i := 173) rfl)) rfl
theorem wd_1223 : Cond.methodLink RL 97 yX9_bears ∈ ax_tbl := ax_t (ax_b5 (List.mem_of_getElem? (i := 177) rfl)) rfl
theorem wd_1224 : Cond.instanceMethod yX9_bears ∈ ax_tbl := ax_t (ax_b5 (List.mem_of_getElem? (i := 178) rfl)) rfl
theorem wd_1225 : Cond.selects RX9 yX9_bears yX9_bears ∈ ax_tbl := ax_t (ax_b5 (List.mem_of_getElem? (i := 179) rfl)) rfl
theorem wd_1226 : Cond.code yX9_bears cX9_bears 5 (some .int) ∈ ax_tbl := ax_t (ax_b5 (List.mem_of_getElem? (i := 180) rfl)) rfl
theorem wd_1230 : Cond.methodLink RL 100 yX9_level ∈ ax_tbl := ax_t (ax_b5 (List.mem_of_getElem? (i := 184) rfl)) rfl
theorem wd_1231 : Cond.instanceMethod yX9_level ∈ ax_tbl := ax_t (ax_b5 (List.mem_of_getElem? (i := 185) rfl)) rfl
theorem wd_1232 : Cond.selects RX9 yX9_level yX9_level ∈ ax_tbl := ax_t (ax_b5 (List.mem_of_getElem? (i := 186) rfl)) rfl
theorem wd_1233 : Cond.code yX9_level cX9_level 5 (some .int) ∈ ax_tbl := ax_t (ax_b5 (List.mem_of_getElem? (i := 187) rfl)) rfl
theorem wd_1237 : Cond.methodLink RL 103 yX9_years ∈ ax_tbl := ax_t (ax_b5 (List.mem_of_getElem? (i := 191) rfl)) rfl
theorem wd_1238 : Cond.instanceMethod yX9_years ∈ ax_tbl := ax_t (ax_b5 (List.mem_of_getElem? (i := 192) rfl)) rfl
theorem wd_1239 : Cond.selects RX9 yX9_years yX9_years ∈ ax_tbl := ax_t (ax_b5 (List.mem_of_getElem? (i := 193) rfl)) rfl
theorem wd_1240 : Cond.code yX9_years cX9_years 8 (some .int) ∈ ax_tbl := ax_t (ax_b5 (List.mem_of_getElem? (i := 194) rfl)) rfl
theorem wd_1241 : Cond.methodLink RX9 282 yX9_needYears ∈ ax_tbl := ax_t (ax_b5 (List.mem_of_getElem? (i := 195) rfl)) rfl
theorem wd_1243 : Cond.instanceMethod yX9_needYears ∈ ax_tbl := ax_t (ax_b5 (List.mem_of_getElem? (i := 197) rfl)) rfl
theorem wd_1244 : Cond.code yX9_needYears cX9_needYears 5 none ∈ ax_tbl := ax_t (ax_b5 (List.mem_of_getElem? (i := 198) rfl)) rfl
theorem wd_1245 : Cond.methodLink RX9 286 yX9_runYears ∈ ax_tbl := ax_t (ax_b5 (List.mem_of_getElem? (i := 199) rfl)) rfl
theorem wd_1247 : Cond.instanceMethod yX9_runYears ∈ ax_tbl := ax_t (ax_b5 (List.mem_of_getElem? (i := 201) rfl)) rfl
theorem wd_1248 : Cond.code yX9_runYears cX9_runYears 11 (some .int) ∈ ax_tbl := ax_t (ax_b5 (List.mem_of_getElem? (i := 202) rfl)) rfl
theorem wd_1249 : Cond.methodLink RX9 419 yX9_nextSeed ∈ ax_tbl := ax_t (ax_b5 (List.mem_of_getElem? (i := 203) rfl)) rfl
theorem wd_1250 : Cond.static yX9_nextSeed ∈ ax_tbl := ax_t (ax_b5 (List.mem_of_getElem? (i := 204) rfl)) rfl
theorem wd_1251 : Cond.code yX9_nextSeed cX9_nextSeed 1 (some .int) ∈ ax_tbl := ax_t (ax_b5 (List.mem_of_getElem? (i := 205) rfl)) rfl
theorem wd_1252 : Cond.constant RX9 425 (1103515245) ∈ ax_tbl := ax_t (ax_b5 (List.mem_of_getElem? (i := 206) rfl)) rfl
theorem wd_1253 : Cond.methodLink RX9 422 yX9_sixteenth ∈ ax_tbl := ax_t (ax_b5 (List.mem_of_getElem? (i := 207) rfl)) rfl
theorem wd_1254 : Cond.static yX9_sixteenth ∈ ax_tbl := ax_t (ax_b5 (List.mem_of_getElem? (i := 208) rfl)) rfl
theorem wd_1255 : Cond.code yX9_sixteenth cX9_sixteenth 1 (some .int) ∈ ax_tbl := ax_t (ax_b5 (List.mem_of_getElem? (i := 209) rfl)) rfl
theorem wd_1259 : Cond.methodLink RL 107 yX9_span ∈ ax_tbl := ax_t (ax_b5 (List.mem_of_getElem? (i := 213) rfl)) rfl
theorem wd_1260 : Cond.instanceMethod yX9_span ∈ ax_tbl := ax_t (ax_b5 (List.mem_of_getElem? (i := 214) rfl)) rfl
theorem wd_1261 : Cond.selects RX9 yX9_span yX9_span ∈ ax_tbl := ax_t (ax_b5 (List.mem_of_getElem? (i := 215) rfl)) rfl
theorem wd_1262 : Cond.code yX9_span cX9_span 12 (some .int) ∈ ax_tbl := ax_t (ax_b5 (List.mem_of_getElem? (i := 216) rfl)) rfl
theorem wd_1270 : Cond.methodLink RX10 98 yX10_tellsNothing ∈ ax_tbl := ax_t (ax_b5 (List.mem_of_getElem? (i := 224) rfl)) rfl
theorem wd_1272 : Cond.instanceMethod yX10_tellsNothing ∈ ax_tbl := ax_t (ax_b5 (List.mem_of_getElem? (i := 226) rfl)) rfl
theorem wd_1273 : Cond.code yX10_tellsNothing cX10_tellsNothing 2 none ∈ ax_tbl := ax_t (ax_b5 (List.mem_of_getElem? (i := 227) rfl)) rfl
theorem wd_1274 : Cond.methodLink RX10 101 yX10_beginsAnew ∈ ax_tbl := ax_t (ax_b5 (List.mem_of_getElem? (i := 228) rfl)) rfl
theorem wd_1276 : Cond.instanceMethod yX10_beginsAnew ∈ ax_tbl := ax_t (ax_b5 (List.mem_of_getElem? (i := 230) rfl)) rfl
theorem wd_1277 : Cond.code yX10_beginsAnew cX10_beginsAnew 2 none ∈ ax_tbl := ax_t (ax_b5 (List.mem_of_getElem? (i := 231) rfl)) rfl
theorem wd_1278 : Cond.methodLink RX10 206 yX10_lays ∈ ax_tbl := ax_t (ax_b5 (List.mem_of_getElem? (i := 232) rfl)) rfl
theorem wd_1279 : Cond.static yX10_lays ∈ ax_tbl := ax_t (ax_b5 (List.mem_of_getElem? (i := 233) rfl)) rfl
theorem wd_1280 : Cond.code yX10_lays cX10_lays 5 none ∈ ax_tbl := ax_t (ax_b5 (List.mem_of_getElem? (i := 234) rfl)) rfl
theorem wd_1281 : Cond.methodLink RX10 210 yX10_begins ∈ ax_tbl := ax_t (ax_b5 (List.mem_of_getElem? (i := 235) rfl)) rfl
theorem wd_1283 : Cond.instanceMethod yX10_begins ∈ ax_tbl := ax_t (ax_b5 (List.mem_of_getElem? (i := 237) rfl)) rfl
theorem wd_1284 : Cond.code yX10_begins cX10_begins 4 none ∈ ax_tbl := ax_t (ax_b5 (List.mem_of_getElem? (i := 238) rfl)) rfl
theorem wd_1285 : Cond.fieldLink RX10 104 (TX10 0).1 (TX10 0).2.1 (TX10 0).2.2.1 ∈ ax_tbl := ax_t (ax_b5 (List.mem_of_getElem? (i := 239) rfl)) rfl
theorem wd_1286 : Cond.fieldLink RX10 107 (TX10 1).1 (TX10 1).2.1 (TX10 1).2.2.1 ∈ ax_tbl := ax_t (ax_b6 (List.mem_of_getElem? (i := 0) rfl)) rfl
theorem wd_1287 : Cond.fieldLink RX10 110 (TX10 2).1 (TX10 2).2.1 (TX10 2).2.2.1 ∈ ax_tbl := ax_t (ax_b6 (List.mem_of_getElem? (i := 1) rfl)) rfl
theorem wd_1288 : Cond.fieldLink RX10 9 (TX10 3).1 (TX10 3).2.1 (TX10 3).2.2.1 ∈ ax_tbl := ax_t (ax_b6 (List.mem_of_getElem? (i := 2) rfl)) rfl
theorem wd_1289 : Cond.fieldLink RX10 113 (TX10 4).1 (TX10 4).2.1 (TX10 4).2.2.1 ∈ ax_tbl := ax_t (ax_b6 (List.mem_of_getElem? (i := 3) rfl)) rfl
theorem wd_1290 : Cond.fieldLink RX10 120 (TX10 5).1 (TX10 5).2.1 (TX10 5).2.2.1 ∈ ax_tbl := ax_t (ax_b6 (List.mem_of_getElem? (i := 4) rfl)) rfl
theorem wd_1291 : Cond.fieldLink RX10 123 (TX10 6).1 (TX10 6).2.1 (TX10 6).2.2.1 ∈ ax_tbl := ax_t (ax_b6 (List.mem_of_getElem? (i := 5) rfl)) rfl
theorem wd_1292 : Cond.fieldLink RX10 166 (TX10 7).1 (TX10 7).2.1 (TX10 7).2.2.1 ∈ ax_tbl := ax_t (ax_b6 (List.mem_of_getElem? (i := 6) rfl)) rfl
theorem wd_1293 : Cond.fieldLink RX10 169 (TX10 8).1 (TX10 8).2.1 (TX10 8).2.2.1 ∈ ax_tbl := ax_t (ax_b6 (List.mem_of_getElem? (i := 7) rfl)) rfl
theorem wd_1294 : Cond.fieldLink RX10 13 (TX10 9).1 (TX10 9).2.1 (TX10 9).2.2.1 ∈ ax_tbl := ax_t (ax_b6 (List.mem_of_getElem? (i := 8) rfl)) rfl
theorem wd_1295 : Cond.fieldLink RX10 17 (TX10 10).1 (TX10 10).2.1 (TX10 10).2.2.1 ∈ ax_tbl := ax_t (ax_b6 (List.mem_of_getElem? (i := 9) rfl)) rfl
theorem wd_1296 : Cond.fieldLink RX10 20 (TX10 11).1 (TX10 11).2.1 (TX10 11).2.2.1 ∈ ax_tbl := ax_t (ax_b6 (List.mem_of_getElem? (i := 10) rfl)) rfl
theorem wd_1297 : Cond.fieldLink RX10 23 (TX10 12).1 (TX10 12).2.1 (TX10 12).2.2.1 ∈ ax_tbl := ax_t (ax_b6 (List.mem_of_getElem? (i := 11) rfl)) rfl
theorem wd_1298 : Cond.fieldLink RX10 26 (TX10 13).1 (TX10 13).2.1 (TX10 13).2.2.1 ∈ ax_tbl := ax_t (ax_b6 (List.mem_of_getElem? (i := 12) rfl)) rfl
theorem wd_1299 : Cond.fieldLink RX10 29 (TX10 14).1 (TX10 14).2.1 (TX10 14).2.2.1 ∈ ax_tbl := ax_t (ax_b6 (List.mem_of_getElem? (i := 13) rfl)) rfl
theorem wd_1300 : Cond.fieldLink RX10 34 (TX10 15).1 (TX10 15).2.1 (TX10 15).2.2.1 ∈ ax_tbl := ax_t (ax_b6 (List.mem_of_getElem? (i := 14) rfl)) rfl
theorem wd_1301 : Cond.fieldLink RX10 37 (TX10 16).1 (TX10 16).2.1 (TX10 16).2.2.1 ∈ ax_tbl := ax_t (ax_b6 (List.mem_of_getElem? (i := 15) rfl)) rfl
theorem wd_1302 : Cond.fieldLink RX10 214 (TX10 17).1 (TX10 17).2.1 (TX10 17).2.2.1 ∈ ax_tbl := ax_t (ax_b6 (List.mem_of_getElem? (i := 16) rfl)) rfl
theorem wd_1303 : Cond.fieldLink RX10 229 (TX10 18).1 (TX10 18).2.1 (TX10 18).2.2.1 ∈ ax_tbl := ax_t (ax_b6 (List.mem_of_getElem? (i := 17) rfl)) rfl
theorem wd_1304 : Cond.fieldLink RX10 40 (TX10 19).1 (TX10 19).2.1 (TX10 19).2.2.1 ∈ ax_tbl := ax_t (ax_b6 (List.mem_of_getElem? (i := 18) rfl)) rfl
theorem wd_1305 : Cond.fieldLink RX10 43 (TX10 20).1 (TX10 20).2.1 (TX10 20).2.2.1 ∈ ax_tbl := ax_t (ax_b6 (List.mem_of_getElem? (i := 19) rfl)) rfl
theorem wd_1306 : Cond.fieldLink RX10 46 (TX10 21).1 (TX10 21).2.1 (TX10 21).2.2.1 ∈ ax_tbl := ax_t (ax_b6 (List.mem_of_getElem? (i := 20) rfl)) rfl
theorem wd_1307 : Cond.fieldLink RX10 49 (TX10 22).1 (TX10 22).2.1 (TX10 22).2.2.1 ∈ ax_tbl := ax_t (ax_b6 (List.mem_of_getElem? (i := 21) rfl)) rfl
theorem wd_1308 : Cond.fieldLink RX10 52 (TX10 23).1 (TX10 23).2.1 (TX10 23).2.2.1 ∈ ax_tbl := ax_t (ax_b6 (List.mem_of_getElem? (i := 22) rfl)) rfl
theorem wd_1309 : Cond.fieldLink RX10 55 (TX10 24).1 (TX10 24).2.1 (TX10 24).2.2.1 ∈ ax_tbl := ax_t (ax_b6 (List.mem_of_getElem? (i := 23) rfl)) rfl
theorem wd_1310 : Cond.fieldLink RX10 58 (TX10 25).1 (TX10 25).2.1 (TX10 25).2.2.1 ∈ ax_tbl := ax_t (ax_b6 (List.mem_of_getElem? (i := 24) rfl)) rfl
theorem wd_1311 : Cond.fieldLink RX10 267 (TX10 26).1 (TX10 26).2.1 (TX10 26).2.2.1 ∈ ax_tbl := ax_t (ax_b6 (List.mem_of_getElem? (i := 25) rfl)) rfl
theorem wd_1312 : Cond.fieldLink RX10 61 (TX10 27).1 (TX10 27).2.1 (TX10 27).2.2.1 ∈ ax_tbl := ax_t (ax_b6 (List.mem_of_getElem? (i := 26) rfl)) rfl
theorem wd_1313 : Cond.fieldLink RX10 64 (TX10 28).1 (TX10 28).2.1 (TX10 28).2.2.1 ∈ ax_tbl := ax_t (ax_b6 (List.mem_of_getElem? (i := 27) rfl)) rfl
theorem wd_1314 : Cond.fieldLink RX10 67 (TX10 29).1 (TX10 29).2.1 (TX10 29).2.2.1 ∈ ax_tbl := ax_t (ax_b6 (List.mem_of_getElem? (i := 28) rfl)) rfl
theorem wd_1315 : Cond.fieldLink RX10 70 (TX10 30).1 (TX10 30).2.1 (TX10 30).2.2.1 ∈ ax_tbl := ax_t (ax_b6 (List.mem_of_getElem? (i := 29) rfl)) rfl
theorem wd_1316 : Cond.fieldLink RX10 217 (TX10 31).1 (TX10 31).2.1 (TX10 31).2.2.1 ∈ ax_tbl := ax_t (ax_b6 (List.mem_of_getElem? (i := 30) rfl)) rfl
theorem wd_1317 : Cond.fieldLink RX10 220 (TX10 32).1 (TX10 32).2.1 (TX10 32).2.2.1 ∈ ax_tbl := ax_t (ax_b6 (List.mem_of_getElem? (i := 31) rfl)) rfl
theorem wd_1318 : Cond.fieldLink RX10 223 (TX10 33).1 (TX10 33).2.1 (TX10 33).2.2.1 ∈ ax_tbl := ax_t (ax_b6 (List.mem_of_getElem? (i := 32) rfl)) rfl
theorem wd_1319 : Cond.fieldLink RX10 226 (TX10 34).1 (TX10 34).2.1 (TX10 34).2.2.1 ∈ ax_tbl := ax_t (ax_b6 (List.mem_of_getElem? (i := 33) rfl)) rfl
theorem wd_1320 : Cond.fieldLink RX10 395 (TX10 35).1 (TX10 35).2.1 (TX10 35).2.2.1 ∈ ax_tbl := ax_t (ax_b6 (List.mem_of_getElem? (i := 34) rfl)) rfl
theorem wd_1321 : Cond.fieldLink RX10 309 (TX10 36).1 (TX10 36).2.1 (TX10 36).2.2.1 ∈ ax_tbl := ax_t (ax_b6 (List.mem_of_getElem? (i := 35) rfl)) rfl
theorem wd_1322 : Cond.fieldLink RX10 319 (TX10 37).1 (TX10 37).2.1 (TX10 37).2.2.1 ∈ ax_tbl := ax_t (ax_b6 (List.mem_of_getElem? (i := 36) rfl)) rfl
theorem wd_1323 : Cond.fieldLink RX10 73 (TX10 38).1 (TX10 38).2.1 (TX10 38).2.2.1 ∈ ax_tbl := ax_t (ax_b6 (List.mem_of_getElem? (i := 37) rfl)) rfl
theorem wd_1324 : Cond.fieldLink RX10 76 (TX10 39).1 (TX10 39).2.1 (TX10 39).2.2.1 ∈ ax_tbl := ax_t (ax_b6 (List.mem_of_getElem? (i := 38) rfl)) rfl
theorem wd_1325 : Cond.fieldLink RX10 79 (TX10 40).1 (TX10 40).2.1 (TX10 40).2.2.1 ∈ ax_tbl := ax_t (ax_b6 (List.mem_of_getElem? (i := 39) rfl)) rfl
theorem wd_1326 : Cond.fieldLink RX10 82 (TX10 41).1 (TX10 41).2.1 (TX10 41).2.2.1 ∈ ax_tbl := ax_t (ax_b6 (List.mem_of_getElem? (i := 40) rfl)) rfl
theorem wd_1327 : Cond.fieldLink RX10 86 (TX10 42).1 (TX10 42).2.1 (TX10 42).2.2.1 ∈ ax_tbl := ax_t (ax_b6 (List.mem_of_getElem? (i := 41) rfl)) rfl
theorem wd_1328 : Cond.fieldLink RX10 89 (TX10 43).1 (TX10 43).2.1 (TX10 43).2.2.1 ∈ ax_tbl := ax_t (ax_b6 (List.mem_of_getElem? (i := 42) rfl)) rfl
theorem wd_1329 : Cond.fieldLink RX10 355 (TX10 44).1 (TX10 44).2.1 (TX10 44).2.2.1 ∈ ax_tbl := ax_t (ax_b6 (List.mem_of_getElem? (i := 43) rfl)) rfl
theorem wd_1330 : Cond.fieldLink RX10 92 (TX10 45).1 (TX10 45).2.1 (TX10 45).2.2.1 ∈ ax_tbl := ax_t (ax_b6 (List.mem_of_getElem? (i := 44) rfl)) rfl
theorem wd_1331 : Cond.fieldLink RX10 95 (TX10 46).1 (TX10 46).2.1 (TX10 46).2.2.1 ∈ ax_tbl := ax_t (ax_b6 (List.mem_of_getElem? (i := 45) rfl)) rfl
theorem wd_1332 : Cond.fieldLink RX10 377 (TX10 47).1 (TX10 47).2.1 (TX10 47).2.2.1 ∈ ax_tbl := ax_t (ax_b6 (List.mem_of_getElem? (i := 46) rfl)) rfl
theorem wd_1333 : Cond.fieldLink RX10 381 (TX10 48).1 (TX10 48).2.1 (TX10 48).2.2.1 ∈ ax_tbl := ax_t (ax_b6 (List.mem_of_getElem? (i := 47) rfl)) rfl
theorem wd_1446 : Cond.methodLink RX10 138 yX10_in ∈ ax_tbl := ax_t (ax_b6 (List.mem_of_getElem? (i := 160) rfl)) rfl
theorem wd_1447 : Cond.static yX10_in ∈ ax_tbl := ax_t (ax_b6 (List.mem_of_getElem? (i := 161) rfl)) rfl
theorem wd_1448 : Cond.code yX10_in cX10_in 3 (some .boolean) ∈ ax_tbl := ax_t (ax_b6 (List.mem_of_getElem? (i := 162) rfl)) rfl
theorem wd_1449 : Cond.methodLink RX10 193 yX10_bad ∈ ax_tbl := ax_t (ax_b6 (List.mem_of_getElem? (i := 163) rfl)) rfl
theorem wd_1451 : Cond.instanceMethod yX10_bad ∈ ax_tbl := ax_t (ax_b6 (List.mem_of_getElem? (i := 165) rfl)) rfl
theorem wd_1452 : Cond.code yX10_bad cX10_bad 4 (some .boolean) ∈ ax_tbl := ax_t (ax_b6 (List.mem_of_getElem? (i := 166) rfl)) rfl
theorem wd_1453 : Cond.methodLink RX10 197 yX10_starts ∈ ax_tbl := ax_t (ax_b6 (List.mem_of_getElem? (i := 167) rfl)) rfl
theorem wd_1455 : Cond.instanceMethod yX10_starts ∈ ax_tbl := ax_t (ax_b6 (List.mem_of_getElem? (i := 169) rfl)) rfl
theorem wd_1456 : Cond.code yX10_starts cX10_starts 2 none ∈ ax_tbl := ax_t (ax_b6 (List.mem_of_getElem? (i := 170) rfl)) rfl
theorem wd_1457 : Cond.methodLink RX10 126 yX10_blanks ∈ ax_tbl := ax_t (ax_b6 (List.mem_of_getElem? (i := 171) rfl)) rfl
theorem wd_1459 : Cond.instanceMethod yX10_blanks ∈ ax_tbl := ax_t (ax_b6 (List.mem_of_getElem? (i := 173) rfl)) rfl
theorem wd_1460 : Cond.code yX10_blanks cX10_blanks 1 none ∈ ax_tbl := ax_t (ax_b6 (List.mem_of_getElem? (i := 174) rfl)) rfl
theorem wd_1461 : Cond.methodLink RX10 116 yX10_byteAt ∈ ax_tbl := ax_t (ax_b6 (List.mem_of_getElem? (i := 175) rfl)) rfl
theorem wd_1463 : Cond.instanceMethod yX10_byteAt ∈ ax_tbl := ax_t (ax_b6 (List.mem_of_getElem? (i := 177) rfl)) rfl
theorem wd_1464 : Cond.code yX10_byteAt cX10_byteAt 2 (some .int) ∈ ax_tbl := ax_t (ax_b6 (List.mem_of_getElem? (i := 178) rfl)) rfl
theorem wd_1465 : Cond.methodLink RX10 200 yX10_clause ∈ ax_tbl := ax_t (ax_b6 (List.mem_of_getElem? (i := 179) rfl)) rfl
theorem wd_1467 : Cond.instanceMethod yX10_clause ∈ ax_tbl := ax_t (ax_b6 (List.mem_of_getElem? (i := 181) rfl)) rfl
theorem wd_1468 : Cond.code yX10_clause cX10_clause 4 none ∈ ax_tbl := ax_t (ax_b6 (List.mem_of_getElem? (i := 182) rfl)) rfl
theorem wd_1469 : Cond.methodLink RX10 176 yX10_kindHere ∈ ax_tbl := ax_t (ax_b6 (List.mem_of_getElem? (i := 183) rfl)) rfl
theorem wd_1471 : Cond.instanceMethod yX10_kindHere ∈ ax_tbl := ax_t (ax_b6 (List.mem_of_getElem? (i := 185) rfl)) rfl
theorem wd_1472 : Cond.code yX10_kindHere cX10_kindHere 1 (some .int) ∈ ax_tbl := ax_t (ax_b6 (List.mem_of_getElem? (i := 186) rfl)) rfl
theorem wd_1473 : Cond.methodLink RX10 159 yX10_isWord ∈ ax_tbl := ax_t (ax_b6 (List.mem_of_getElem? (i := 187) rfl)) rfl
theorem wd_1475 : Cond.instanceMethod yX10_isWord ∈ ax_tbl := ax_t (ax_b6 (List.mem_of_getElem? (i := 189) rfl)) rfl
theorem wd_1476 : Cond.code yX10_isWord cX10_isWord 8 (some .boolean) ∈ ax_tbl := ax_t (ax_b6 (List.mem_of_getElem? (i := 190) rfl)) rfl
theorem wd_1477 : Cond.methodLink RX10 151 yX10_wordHere ∈ ax_tbl := ax_t (ax_b6 (List.mem_of_getElem? (i := 191) rfl)) rfl
theorem wd_1479 : Cond.instanceMethod yX10_wordHere ∈ ax_tbl := ax_t (ax_b6 (List.mem_of_getElem? (i := 193) rfl)) rfl
theorem wd_1480 : Cond.code yX10_wordHere cX10_wordHere 4 (some .long) ∈ ax_tbl := ax_t (ax_b6 (List.mem_of_getElem? (i := 194) rfl)) rfl
theorem wd_1481 : Cond.methodLink RX10 142 yX10_isSmall ∈ ax_tbl := ax_t (ax_b6 (List.mem_of_getElem? (i := 195) rfl)) rfl
theorem wd_1482 : Cond.static yX10_isSmall ∈ ax_tbl := ax_t (ax_b6 (List.mem_of_getElem? (i := 196) rfl)) rfl
theorem wd_1483 : Cond.code yX10_isSmall cX10_isSmall 1 (some .boolean) ∈ ax_tbl := ax_t (ax_b6 (List.mem_of_getElem? (i := 197) rfl)) rfl
theorem wd_1484 : Cond.constantLong RX10 145 (27) ∈ ax_tbl := ax_t (ax_b6 (List.mem_of_getElem? (i := 198) rfl)) rfl
theorem wd_1485 : Cond.constantLong RX10 147 (97) ∈ ax_tbl := ax_t (ax_b6 (List.mem_of_getElem? (i := 199) rfl)) rfl
theorem wd_1486 : Cond.constantLong RX10 149 (-1) ∈ ax_tbl := ax_t (ax_b6 (List.mem_of_getElem? (i := 200) rfl)) rfl
theorem wd_1487 : Cond.methodLink RX10 155 yX10_seven ∈ ax_tbl := ax_t (ax_b6 (List.mem_of_getElem? (i := 201) rfl)) rfl
theorem wd_1488 : Cond.static yX10_seven ∈ ax_tbl := ax_t (ax_b6 (List.mem_of_getElem? (i := 202) rfl)) rfl
theorem wd_1489 : Cond.code yX10_seven cX10_seven 9 (some .long) ∈ ax_tbl := ax_t (ax_b6 (List.mem_of_getElem? (i := 203) rfl)) rfl
theorem wd_1490 : Cond.methodLink RX10 133 yX10_wrong ∈ ax_tbl := ax_t (ax_b6 (List.mem_of_getElem? (i := 204) rfl)) rfl
theorem wd_1492 : Cond.instanceMethod yX10_wrong ∈ ax_tbl := ax_t (ax_b6 (List.mem_of_getElem? (i := 206) rfl)) rfl
theorem wd_1493 : Cond.code yX10_wrong cX10_wrong 3 none ∈ ax_tbl := ax_t (ax_b6 (List.mem_of_getElem? (i := 207) rfl)) rfl
theorem wd_1494 : Cond.methodLink RX10 180 yX10_isFull ∈ ax_tbl := ax_t (ax_b6 (List.mem_of_getElem? (i := 208) rfl)) rfl
theorem wd_1496 : Cond.instanceMethod yX10_isFull ∈ ax_tbl := ax_t (ax_b6 (List.mem_of_getElem? (i := 210) rfl)) rfl
theorem wd_1497 : Cond.code yX10_isFull cX10_isFull 3 (some .boolean) ∈ ax_tbl := ax_t (ax_b6 (List.mem_of_getElem? (i := 211) rfl)) rfl
theorem wd_1498 : Cond.methodLink RX10 172 yX10_less ∈ ax_tbl := ax_t (ax_b6 (List.mem_of_getElem? (i := 212) rfl)) rfl
theorem wd_1499 : Cond.static yX10_less ∈ ax_tbl := ax_t (ax_b6 (List.mem_of_getElem? (i := 213) rfl)) rfl
theorem wd_1500 : Cond.code yX10_less cX10_less 2 (some .int) ∈ ax_tbl := ax_t (ax_b6 (List.mem_of_getElem? (i := 214) rfl)) rfl
theorem wd_1501 : Cond.methodLink RX10 163 yX10_skipWord ∈ ax_tbl := ax_t (ax_b6 (List.mem_of_getElem? (i := 215) rfl)) rfl
theorem wd_1503 : Cond.instanceMethod yX10_skipWord ∈ ax_tbl := ax_t (ax_b6 (List.mem_of_getElem? (i := 217) rfl)) rfl
theorem wd_1504 : Cond.code yX10_skipWord cX10_skipWord 1 none ∈ ax_tbl := ax_t (ax_b6 (List.mem_of_getElem? (i := 218) rfl)) rfl
theorem wd_1505 : Cond.methodLink RX10 183 yX10_number ∈ ax_tbl := ax_t (ax_b6 (List.mem_of_getElem? (i := 219) rfl)) rfl
theorem wd_1507 : Cond.instanceMethod yX10_number ∈ ax_tbl := ax_t (ax_b6 (List.mem_of_getElem? (i := 221) rfl)) rfl
theorem wd_1508 : Cond.code yX10_number cX10_number 5 (some .int) ∈ ax_tbl := ax_t (ax_b6 (List.mem_of_getElem? (i := 222) rfl)) rfl
theorem wd_1509 : Cond.methodLink RX10 129 yX10_isDigit ∈ ax_tbl := ax_t (ax_b6 (List.mem_of_getElem? (i := 223) rfl)) rfl
theorem wd_1510 : Cond.static yX10_isDigit ∈ ax_tbl := ax_t (ax_b6 (List.mem_of_getElem? (i := 224) rfl)) rfl
theorem wd_1511 : Cond.code yX10_isDigit cX10_isDigit 1 (some .boolean) ∈ ax_tbl := ax_t (ax_b6 (List.mem_of_getElem? (i := 225) rfl)) rfl
theorem wd_1512 : Cond.constant RX10 137 (100000) ∈ ax_tbl := ax_t (ax_b6 (List.mem_of_getElem? (i := 226) rfl)) rfl
theorem wd_1513 : Cond.methodLink RX10 186 yX10_mostOf ∈ ax_tbl := ax_t (ax_b6 (List.mem_of_getElem? (i := 227) rfl)) rfl
theorem wd_1514 : Cond.static yX10_mostOf ∈ ax_tbl := ax_t (ax_b6 (List.mem_of_getElem? (i := 228) rfl)) rfl
theorem wd_1515 : Cond.code yX10_mostOf cX10_mostOf 1 (some .int) ∈ ax_tbl := ax_t (ax_b6 (List.mem_of_getElem? (i := 229) rfl)) rfl
theorem wd_1516 : Cond.methodLink RX10 189 yX10_sign ∈ ax_tbl := ax_t (ax_b6 (List.mem_of_getElem? (i := 230) rfl)) rfl
theorem wd_1518 : Cond.instanceMethod yX10_sign ∈ ax_tbl := ax_t (ax_b6 (List.mem_of_getElem? (i := 232) rfl)) rfl
theorem wd_1519 : Cond.code yX10_sign cX10_sign 2 none ∈ ax_tbl := ax_t (ax_b6 (List.mem_of_getElem? (i := 233) rfl)) rfl
theorem wd_1520 : Cond.methodLink RX10 203 yX10_ends ∈ ax_tbl := ax_t (ax_b6 (List.mem_of_getElem? (i := 234) rfl)) rfl
theorem wd_1522 : Cond.instanceMethod yX10_ends ∈ ax_tbl := ax_t (ax_b6 (List.mem_of_getElem? (i := 236) rfl)) rfl
theorem wd_1523 : Cond.code yX10_ends cX10_ends 1 (some .int) ∈ ax_tbl := ax_t (ax_b6 (List.mem_of_getElem? (i := 237) rfl)) rfl
theorem wd_1528 : Cond.methodLink RX10 251 yX10_sum ∈ ax_tbl := ax_t (ax_b7 (List.mem_of_getElem? (i := 2) rfl)) rfl
theorem wd_1530 : Cond.instanceMethod yX10_sum ∈ ax_tbl := ax_t (ax_b7 (List.mem_of_getElem? (i := 4) rfl)) rfl
theorem wd_1531 : Cond.code yX10_sum cX10_sum 2 none ∈ ax_tbl := ax_t (ax_b7 (List.mem_of_getElem? (i := 5) rfl)) rfl
theorem wd_1532 : Cond.methodLink RX10 232 yX10_product ∈ ax_tbl := ax_t (ax_b7 (List.mem_of_getElem? (i := 6) rfl)) rfl
theorem wd_1534 : Cond.instanceMethod yX10_product ∈ ax_tbl := ax_t (ax_b7 (List.mem_of_getElem? (i := 8) rfl)) rfl
theorem wd_1535 : Cond.code yX10_product cX10_product 2 none ∈ ax_tbl := ax_t (ax_b7 (List.mem_of_getElem? (i := 9) rfl)) rfl
theorem wd_1536 : Cond.methodLink RX10 241 yX10_one ∈ ax_tbl := ax_t (ax_b7 (List.mem_of_getElem? (i := 10) rfl)) rfl
theorem wd_1538 : Cond.instanceMethod yX10_one ∈ ax_tbl := ax_t (ax_b7 (List.mem_of_getElem? (i := 12) rfl)) rfl
theorem wd_1539 : Cond.code yX10_one cX10_one 3 none ∈ ax_tbl := ax_t (ax_b7 (List.mem_of_getElem? (i := 13) rfl)) rfl
theorem wd_1540 : Cond.methodLink RX10 247 yX10_opensOne ∈ ax_tbl := ax_t (ax_b7 (List.mem_of_getElem? (i := 14) rfl)) rfl
theorem wd_1542 : Cond.instanceMethod yX10_opensOne ∈ ax_tbl := ax_t (ax_b7 (List.mem_of_getElem? (i := 16) rfl)) rfl
theorem wd_1543 : Cond.code yX10_opensOne cX10_opensOne 1 (some .boolean) ∈ ax_tbl := ax_t (ax_b7 (List.mem_of_getElem? (i := 17) rfl)) rfl
theorem wd_1544 : Cond.methodLink RX10 238 yX10_notes ∈ ax_tbl := ax_t (ax_b7 (List.mem_of_getElem? (i := 18) rfl)) rfl
theorem wd_1546 : Cond.instanceMethod yX10_notes ∈ ax_tbl := ax_t (ax_b7 (List.mem_of_getElem? (i := 20) rfl)) rfl
theorem wd_1547 : Cond.code yX10_notes cX10_notes 3 none ∈ ax_tbl := ax_t (ax_b7 (List.mem_of_getElem? (i := 21) rfl)) rfl
theorem wd_1548 : Cond.methodLink RX10 254 yX10_knownHere ∈ ax_tbl := ax_t (ax_b7 (List.mem_of_getElem? (i := 22) rfl)) rfl
theorem wd_1550 : Cond.instanceMethod yX10_knownHere ∈ ax_tbl := ax_t (ax_b7 (List.mem_of_getElem? (i := 24) rfl)) rfl
theorem wd_1551 : Cond.code yX10_knownHere cX10_knownHere 1 (some .int) ∈ ax_tbl := ax_t (ax_b7 (List.mem_of_getElem? (i := 25) rfl)) rfl
theorem wd_1552 : Cond.methodLink RX10 244 yX10_takes ∈ ax_tbl := ax_t (ax_b7 (List.mem_of_getElem? (i := 26) rfl)) rfl
theorem wd_1554 : Cond.instanceMethod yX10_takes ∈ ax_tbl := ax_t (ax_b7 (List.mem_of_getElem? (i := 28) rfl)) rfl
theorem wd_1555 : Cond.code yX10_takes cX10_takes 9 (some .boolean) ∈ ax_tbl := ax_t (ax_b7 (List.mem_of_getElem? (i := 29) rfl)) rfl
theorem wd_1556 : Cond.methodLink RX10 235 yX10_takesSign ∈ ax_tbl := ax_t (ax_b7 (List.mem_of_getElem? (i := 30) rfl)) rfl
theorem wd_1558 : Cond.instanceMethod yX10_takesSign ∈ ax_tbl := ax_t (ax_b7 (List.mem_of_getElem? (i := 32) rfl)) rfl
theorem wd_1559 : Cond.code yX10_takesSign cX10_takesSign 3 (some .boolean) ∈ ax_tbl := ax_t (ax_b7 (List.mem_of_getElem? (i := 33) rfl)) rfl
theorem wd_1572 : Cond.methodLink RX10 270 yX10_readsStep ∈ ax_tbl := ax_t (ax_b7 (List.mem_of_getElem? (i := 46) rfl)) rfl
theorem wd_1574 : Cond.instanceMethod yX10_readsStep ∈ ax_tbl := ax_t (ax_b7 (List.mem_of_getElem? (i := 48) rfl)) rfl
theorem wd_1575 : Cond.code yX10_readsStep cX10_readsStep 3 none ∈ ax_tbl := ax_t (ax_b7 (List.mem_of_getElem? (i := 49) rfl)) rfl
theorem wd_1576 : Cond.methodLink RX10 264 yX10_stepHere ∈ ax_tbl := ax_t (ax_b7 (List.mem_of_getElem? (i := 50) rfl)) rfl
theorem wd_1578 : Cond.instanceMethod yX10_stepHere ∈ ax_tbl := ax_t (ax_b7 (List.mem_of_getElem? (i := 52) rfl)) rfl
theorem wd_1579 : Cond.code yX10_stepHere cX10_stepHere 1 (some .int) ∈ ax_tbl := ax_t (ax_b7 (List.mem_of_getElem? (i := 53) rfl)) rfl
theorem wd_1580 : Cond.methodLink RX10 322 yX10_copies ∈ ax_tbl := ax_t (ax_b7 (List.mem_of_getElem? (i := 54) rfl)) rfl
theorem wd_1581 : Cond.static yX10_copies ∈ ax_tbl := ax_t (ax_b7 (List.mem_of_getElem? (i := 55) rfl)) rfl
theorem wd_1582 : Cond.code yX10_copies cX10_copies 3 none ∈ ax_tbl := ax_t (ax_b7 (List.mem_of_getElem? (i := 56) rfl)) rfl
theorem wd_1583 : Cond.methodLink RX10 312 yX10_goes ∈ ax_tbl := ax_t (ax_b7 (List.mem_of_getElem? (i := 57) rfl)) rfl
theorem wd_1585 : Cond.instanceMethod yX10_goes ∈ ax_tbl := ax_t (ax_b7 (List.mem_of_getElem? (i := 59) rfl)) rfl
theorem wd_1586 : Cond.code yX10_goes cX10_goes 5 none ∈ ax_tbl := ax_t (ax_b7 (List.mem_of_getElem? (i := 60) rfl)) rfl
theorem wd_1587 : Cond.methodLink RX10 315 yX10_does ∈ ax_tbl := ax_t (ax_b7 (List.mem_of_getElem? (i := 61) rfl)) rfl
theorem wd_1589 : Cond.instanceMethod yX10_does ∈ ax_tbl := ax_t (ax_b7 (List.mem_of_getElem? (i := 63) rfl)) rfl
theorem wd_1590 : Cond.code yX10_does cX10_does 4 (some .boolean) ∈ ax_tbl := ax_t (ax_b7 (List.mem_of_getElem? (i := 64) rfl)) rfl
theorem wd_1591 : Cond.methodLink RX10 298 yX10_pays ∈ ax_tbl := ax_t (ax_b7 (List.mem_of_getElem? (i := 65) rfl)) rfl
theorem wd_1592 : Cond.static yX10_pays ∈ ax_tbl := ax_t (ax_b7 (List.mem_of_getElem? (i := 66) rfl)) rfl
theorem wd_1593 : Cond.code yX10_pays cX10_pays 2 (some .boolean) ∈ ax_tbl := ax_t (ax_b7 (List.mem_of_getElem? (i := 67) rfl)) rfl
theorem wd_1594 : Cond.methodLink RX10 302 yX10_gives ∈ ax_tbl := ax_t (ax_b7 (List.mem_of_getElem? (i := 68) rfl)) rfl
theorem wd_1596 : Cond.instanceMethod yX10_gives ∈ ax_tbl := ax_t (ax_b7 (List.mem_of_getElem? (i := 70) rfl)) rfl
theorem wd_1597 : Cond.code yX10_gives cX10_gives 3 (some .boolean) ∈ ax_tbl := ax_t (ax_b7 (List.mem_of_getElem? (i := 71) rfl)) rfl
theorem wd_1598 : Cond.methodLink RX10 294 yX10_has ∈ ax_tbl := ax_t (ax_b7 (List.mem_of_getElem? (i := 72) rfl)) rfl
theorem wd_1599 : Cond.static yX10_has ∈ ax_tbl := ax_t (ax_b7 (List.mem_of_getElem? (i := 73) rfl)) rfl
theorem wd_1600 : Cond.code yX10_has cX10_has 2 (some .boolean) ∈ ax_tbl := ax_t (ax_b7 (List.mem_of_getElem? (i := 74) rfl)) rfl
theorem wd_1601 : Cond.methodLink RX10 305 yX10_nightEnds ∈ ax_tbl := ax_t (ax_b7 (List.mem_of_getElem? (i := 75) rfl)) rfl
theorem wd_1603 : Cond.instanceMethod yX10_nightEnds ∈ ax_tbl := ax_t (ax_b7 (List.mem_of_getElem? (i := 77) rfl)) rfl
theorem wd_1604 : Cond.code yX10_nightEnds cX10_nightEnds 4 none ∈ ax_tbl := ax_t (ax_b7 (List.mem_of_getElem? (i := 78) rfl)) rfl
theorem wd_1605 : Cond.methodLink RX10 283 yX10_strokesOf ∈ ax_tbl := ax_t (ax_b7 (List.mem_of_getElem? (i := 79) rfl)) rfl
theorem wd_1607 : Cond.instanceMethod yX10_strokesOf ∈ ax_tbl := ax_t (ax_b7 (List.mem_of_getElem? (i := 81) rfl)) rfl
theorem wd_1608 : Cond.code yX10_strokesOf cX10_strokesOf 2 (some .int) ∈ ax_tbl := ax_t (ax_b7 (List.mem_of_getElem? (i := 82) rfl)) rfl
theorem wd_1609 : Cond.methodLink RX10 273 yX10_asksOf ∈ ax_tbl := ax_t (ax_b7 (List.mem_of_getElem? (i := 83) rfl)) rfl
theorem wd_1610 : Cond.static yX10_asksOf ∈ ax_tbl := ax_t (ax_b7 (List.mem_of_getElem? (i := 84) rfl)) rfl
theorem wd_1611 : Cond.code yX10_asksOf cX10_asksOf 1 (some .int) ∈ ax_tbl := ax_t (ax_b7 (List.mem_of_getElem? (i := 85) rfl)) rfl
theorem wd_1612 : Cond.methodLink RX10 257 yX10_more ∈ ax_tbl := ax_t (ax_b7 (List.mem_of_getElem? (i := 86) rfl)) rfl
theorem wd_1613 : Cond.static yX10_more ∈ ax_tbl := ax_t (ax_b7 (List.mem_of_getElem? (i := 87) rfl)) rfl
theorem wd_1614 : Cond.code yX10_more cX10_more 2 (some .int) ∈ ax_tbl := ax_t (ax_b7 (List.mem_of_getElem? (i := 88) rfl)) rfl
theorem wd_1615 : Cond.methodLink RX10 277 yX10_byLaw ∈ ax_tbl := ax_t (ax_b7 (List.mem_of_getElem? (i := 89) rfl)) rfl
theorem wd_1617 : Cond.instanceMethod yX10_byLaw ∈ ax_tbl := ax_t (ax_b7 (List.mem_of_getElem? (i := 91) rfl)) rfl
theorem wd_1618 : Cond.code yX10_byLaw cX10_byLaw 3 (some .int) ∈ ax_tbl := ax_t (ax_b7 (List.mem_of_getElem? (i := 92) rfl)) rfl
theorem wd_1619 : Cond.methodLink RX10 260 yX10_by ∈ ax_tbl := ax_t (ax_b7 (List.mem_of_getElem? (i := 93) rfl)) rfl
theorem wd_1620 : Cond.static yX10_by ∈ ax_tbl := ax_t (ax_b7 (List.mem_of_getElem? (i := 94) rfl)) rfl
theorem wd_1621 : Cond.code yX10_by cX10_by 3 (some .int) ∈ ax_tbl := ax_t (ax_b7 (List.mem_of_getElem? (i := 95) rfl)) rfl
theorem wd_1622 : Cond.methodLink RX10 286 yX10_isWaking ∈ ax_tbl := ax_t (ax_b7 (List.mem_of_getElem? (i := 96) rfl)) rfl
theorem wd_1624 : Cond.instanceMethod yX10_isWaking ∈ ax_tbl := ax_t (ax_b7 (List.mem_of_getElem? (i := 98) rfl)) rfl
theorem wd_1625 : Cond.code yX10_isWaking cX10_isWaking 4 (some .boolean) ∈ ax_tbl := ax_t (ax_b7 (List.mem_of_getElem? (i := 99) rfl)) rfl
theorem wd_1626 : Cond.methodLink RX10 280 yX10_noiseOf ∈ ax_tbl := ax_t (ax_b7 (List.mem_of_getElem? (i := 100) rfl)) rfl
theorem wd_1628 : Cond.instanceMethod yX10_noiseOf ∈ ax_tbl := ax_t (ax_b7 (List.mem_of_getElem? (i := 102) rfl)) rfl
theorem wd_1629 : Cond.code yX10_noiseOf cX10_noiseOf 4 (some .int) ∈ ax_tbl := ax_t (ax_b7 (List.mem_of_getElem? (i := 103) rfl)) rfl
theorem wd_1630 : Cond.methodLink RX10 290 yX10_earns ∈ ax_tbl := ax_t (ax_b7 (List.mem_of_getElem? (i := 104) rfl)) rfl
theorem wd_1631 : Cond.static yX10_earns ∈ ax_tbl := ax_t (ax_b7 (List.mem_of_getElem? (i := 105) rfl)) rfl
theorem wd_1632 : Cond.code yX10_earns cX10_earns 2 none ∈ ax_tbl := ax_t (ax_b7 (List.mem_of_getElem? (i := 106) rfl)) rfl
theorem wd_1633 : Cond.constant RX10 293 (99999) ∈ ax_tbl := ax_t (ax_b7 (List.mem_of_getElem? (i := 107) rfl)) rfl
theorem wd_1650 : Cond.methodLink RX10 326 yX10_isNo ∈ ax_tbl := ax_t (ax_b7 (List.mem_of_getElem? (i := 124) rfl)) rfl
theorem wd_1652 : Cond.instanceMethod yX10_isNo ∈ ax_tbl := ax_t (ax_b7 (List.mem_of_getElem? (i := 126) rfl)) rfl
theorem wd_1653 : Cond.code yX10_isNo cX10_isNo 3 (some .boolean) ∈ ax_tbl := ax_t (ax_b7 (List.mem_of_getElem? (i := 127) rfl)) rfl
theorem wd_1706 : Cond.methodLink RX10 329 yX10_tens ∈ ax_tbl := ax_t (ax_b7 (List.mem_of_getElem? (i := 180) rfl)) rfl
theorem wd_1707 : Cond.static yX10_tens ∈ ax_tbl := ax_t (ax_b7 (List.mem_of_getElem? (i := 181) rfl)) rfl
theorem wd_1708 : Cond.code yX10_tens cX10_tens 1 (some .int) ∈ ax_tbl := ax_t (ax_b7 (List.mem_of_getElem? (i := 182) rfl)) rfl
theorem wd_1709 : Cond.methodLink RX10 332 yX10_isPlan ∈ ax_tbl := ax_t (ax_b7 (List.mem_of_getElem? (i := 183) rfl)) rfl
theorem wd_1711 : Cond.instanceMethod yX10_isPlan ∈ ax_tbl := ax_t (ax_b7 (List.mem_of_getElem? (i := 185) rfl)) rfl
theorem wd_1712 : Cond.code yX10_isPlan cX10_isPlan 5 (some .boolean) ∈ ax_tbl := ax_t (ax_b7 (List.mem_of_getElem? (i := 186) rfl)) rfl
theorem wd_1717 : Cond.methodLink RX10 335 yX10_strikesBy ∈ ax_tbl := ax_t (ax_b7 (List.mem_of_getElem? (i := 191) rfl)) rfl
theorem wd_1719 : Cond.instanceMethod yX10_strikesBy ∈ ax_tbl := ax_t (ax_b7 (List.mem_of_getElem? (i := 193) rfl)) rfl
theorem wd_1720 : Cond.code yX10_strikesBy cX10_strikesBy 4 none ∈ ax_tbl := ax_t (ax_b7 (List.mem_of_getElem? (i := 194) rfl)) rfl
theorem wd_1721 : Cond.methodLink RX10 338 yX10_isStruck ∈ ax_tbl := ax_t (ax_b7 (List.mem_of_getElem? (i := 195) rfl)) rfl
theorem wd_1723 : Cond.instanceMethod yX10_isStruck ∈ ax_tbl := ax_t (ax_b7 (List.mem_of_getElem? (i := 197) rfl)) rfl
theorem wd_1724 : Cond.code yX10_isStruck cX10_isStruck 2 (some .boolean) ∈ ax_tbl := ax_t (ax_b7 (List.mem_of_getElem? (i := 198) rfl)) rfl
theorem wd_1729 : Cond.methodLink RX10 341 yX10_isCounted ∈ ax_tbl := ax_t (ax_b7 (List.mem_of_getElem? (i := 203) rfl)) rfl
theorem wd_1731 : Cond.instanceMethod yX10_isCounted ∈ ax_tbl := ax_t (ax_b7 (List.mem_of_getElem? (i := 205) rfl)) rfl
theorem wd_1732 : Cond.code yX10_isCounted cX10_isCounted 3 (some .boolean) ∈ ax_tbl := ax_t (ax_b7 (List.mem_of_getElem? (i := 206) rfl)) rfl
theorem wd_1737 : Cond.methodLink RX10 344 yX10_areOdds ∈ ax_tbl := ax_t (ax_b7 (List.mem_of_getElem? (i := 211) rfl)) rfl
theorem wd_1738 : Cond.static yX10_areOdds ∈ ax_tbl := ax_t (ax_b7 (List.mem_of_getElem? (i := 212) rfl)) rfl
theorem wd_1739 : Cond.code yX10_areOdds cX10_areOdds 3 (some .boolean) ∈ ax_tbl := ax_t (ax_b7 (List.mem_of_getElem? (i := 213) rfl)) rfl
theorem wd_1740 : Cond.methodLink RX10 347 yX10_whole ∈ ax_tbl := ax_t (ax_b7 (List.mem_of_getElem? (i := 214) rfl)) rfl
theorem wd_1741 : Cond.static yX10_whole ∈ ax_tbl := ax_t (ax_b7 (List.mem_of_getElem? (i := 215) rfl)) rfl
theorem wd_1742 : Cond.code yX10_whole cX10_whole 1 (some .long) ∈ ax_tbl := ax_t (ax_b7 (List.mem_of_getElem? (i := 216) rfl)) rfl
theorem wd_1743 : Cond.methodLink RX10 351 yX10_dulls ∈ ax_tbl := ax_t (ax_b7 (List.mem_of_getElem? (i := 217) rfl)) rfl
theorem wd_1745 : Cond.instanceMethod yX10_dulls ∈ ax_tbl := ax_t (ax_b7 (List.mem_of_getElem? (i := 219) rfl)) rfl
theorem wd_1746 : Cond.code yX10_dulls cX10_dulls 7 (some .long) ∈ ax_tbl := ax_t (ax_b7 (List.mem_of_getElem? (i := 220) rfl)) rfl
theorem wd_1755 : Cond.methodLink RX10 362 yX10_laysBeds ∈ ax_tbl := ax_t (ax_b7 (List.mem_of_getElem? (i := 229) rfl)) rfl
theorem wd_1757 : Cond.instanceMethod yX10_laysBeds ∈ ax_tbl := ax_t (ax_b7 (List.mem_of_getElem? (i := 231) rfl)) rfl
theorem wd_1758 : Cond.code yX10_laysBeds cX10_laysBeds 2 none ∈ ax_tbl := ax_t (ax_b7 (List.mem_of_getElem? (i := 232) rfl)) rfl
theorem wd_1759 : Cond.methodLink RX10 358 yX10_bedsFrom ∈ ax_tbl := ax_t (ax_b7 (List.mem_of_getElem? (i := 233) rfl)) rfl
theorem wd_1761 : Cond.instanceMethod yX10_bedsFrom ∈ ax_tbl := ax_t (ax_b7 (List.mem_of_getElem? (i := 235) rfl)) rfl
theorem wd_1762 : Cond.code yX10_bedsFrom cX10_bedsFrom 6 none ∈ ax_tbl := ax_t (ax_b7 (List.mem_of_getElem? (i := 236) rfl)) rfl
theorem wd_1771 : Cond.methodLink RX10 365 yX10_watcher ∈ ax_tbl := ax_t (ax_b8 (List.mem_of_getElem? (i := 5) rfl)) rfl
theorem wd_1773 : Cond.instanceMethod yX10_watcher ∈ ax_tbl := ax_t (ax_b8 (List.mem_of_getElem? (i := 7) rfl)) rfl
theorem wd_1774 : Cond.code yX10_watcher cX10_watcher 3 (some .int) ∈ ax_tbl := ax_t (ax_b8 (List.mem_of_getElem? (i := 8) rfl)) rfl
theorem wd_1779 : Cond.methodLink RX10 374 yX10_isRest ∈ ax_tbl := ax_t (ax_b8 (List.mem_of_getElem? (i := 13) rfl)) rfl
theorem wd_1781 : Cond.instanceMethod yX10_isRest ∈ ax_tbl := ax_t (ax_b8 (List.mem_of_getElem? (i := 15) rfl)) rfl
theorem wd_1782 : Cond.code yX10_isRest cX10_isRest 4 (some .boolean) ∈ ax_tbl := ax_t (ax_b8 (List.mem_of_getElem? (i := 16) rfl)) rfl
theorem wd_1783 : Cond.methodLink RX10 371 yX10_getsBy ∈ ax_tbl := ax_t (ax_b8 (List.mem_of_getElem? (i := 17) rfl)) rfl
theorem wd_1785 : Cond.instanceMethod yX10_getsBy ∈ ax_tbl := ax_t (ax_b8 (List.mem_of_getElem? (i := 19) rfl)) rfl
theorem wd_1786 : Cond.code yX10_getsBy cX10_getsBy 3 (some .int) ∈ ax_tbl := ax_t (ax_b8 (List.mem_of_getElem? (i := 20) rfl)) rfl
theorem wd_1787 : Cond.methodLink RX10 368 yX10_bidsBut ∈ ax_tbl := ax_t (ax_b8 (List.mem_of_getElem? (i := 21) rfl)) rfl
theorem wd_1789 : Cond.instanceMethod yX10_bidsBut ∈ ax_tbl := ax_t (ax_b8 (List.mem_of_getElem? (i := 23) rfl)) rfl
theorem wd_1790 : Cond.code yX10_bidsBut cX10_bidsBut 4 (some .int) ∈ ax_tbl := ax_t (ax_b8 (List.mem_of_getElem? (i := 24) rfl)) rfl
theorem wd_1799 : Cond.methodLink RX10 387 yX10_areYears ∈ ax_tbl := ax_t (ax_b8 (List.mem_of_getElem? (i := 33) rfl)) rfl
theorem wd_1800 : Cond.static yX10_areYears ∈ ax_tbl := ax_t (ax_b8 (List.mem_of_getElem? (i := 34) rfl)) rfl
theorem wd_1801 : Cond.code yX10_areYears cX10_areYears 4 (some .boolean) ∈ ax_tbl := ax_t (ax_b8 (List.mem_of_getElem? (i := 35) rfl)) rfl
theorem wd_1802 : Cond.methodLink RX10 391 yX10_yearsBy ∈ ax_tbl := ax_t (ax_b8 (List.mem_of_getElem? (i := 36) rfl)) rfl
theorem wd_1804 : Cond.instanceMethod yX10_yearsBy ∈ ax_tbl := ax_t (ax_b8 (List.mem_of_getElem? (i := 38) rfl)) rfl
theorem wd_1805 : Cond.code yX10_yearsBy cX10_yearsBy 9 none ∈ ax_tbl := ax_t (ax_b8 (List.mem_of_getElem? (i := 39) rfl)) rfl
theorem wd_1806 : Cond.methodLink RX10 384 yX10_draw ∈ ax_tbl := ax_t (ax_b8 (List.mem_of_getElem? (i := 40) rfl)) rfl
theorem wd_1808 : Cond.instanceMethod yX10_draw ∈ ax_tbl := ax_t (ax_b8 (List.mem_of_getElem? (i := 42) rfl)) rfl
theorem wd_1809 : Cond.code yX10_draw cX10_draw 1 (some .int) ∈ ax_tbl := ax_t (ax_b8 (List.mem_of_getElem? (i := 43) rfl)) rfl
theorem wd_1810 : Cond.constant RX10 380 (1103515245) ∈ ax_tbl := ax_t (ax_b8 (List.mem_of_getElem? (i := 44) rfl)) rfl
theorem wd_1819 : Cond.methodLink RX10 402 yX10_putsAll ∈ ax_tbl := ax_t (ax_b8 (List.mem_of_getElem? (i := 53) rfl)) rfl
theorem wd_1821 : Cond.instanceMethod yX10_putsAll ∈ ax_tbl := ax_t (ax_b8 (List.mem_of_getElem? (i := 55) rfl)) rfl
theorem wd_1822 : Cond.code yX10_putsAll cX10_putsAll 5 none ∈ ax_tbl := ax_t (ax_b8 (List.mem_of_getElem? (i := 56) rfl)) rfl
theorem wd_1823 : Cond.methodLink RX10 398 yX10_puts ∈ ax_tbl := ax_t (ax_b8 (List.mem_of_getElem? (i := 57) rfl)) rfl
theorem wd_1825 : Cond.instanceMethod yX10_puts ∈ ax_tbl := ax_t (ax_b8 (List.mem_of_getElem? (i := 59) rfl)) rfl
theorem wd_1826 : Cond.code yX10_puts cX10_puts 4 (some .int) ∈ ax_tbl := ax_t (ax_b8 (List.mem_of_getElem? (i := 60) rfl)) rfl
theorem pd_J6_bitCount_0f7a4 : yJ6_bitCount_0f7a4.cls = RJ6 ∧ yJ6_bitCount_0f7a4.cls ≠ "java/lang/invoke/MethodHandle" ∧ yJ6_bitCount_0f7a4.cls ≠ "java/lang/invoke/VarHandle" ∧ (parseMethodDescriptor yJ6_bitCount_0f7a4.desc).map (fun d => d.parameters.length) = some 1 := ⟨rfl, by decide +kernel, by decide +kernel, by decide +kernel⟩
theorem pd_J9_max_7cf53 : yJ9_max_7cf53.cls = RJ9 ∧ yJ9_max_7cf53.cls ≠ "java/lang/invoke/MethodHandle" ∧ yJ9_max_7cf53.cls ≠ "java/lang/invoke/VarHandle" ∧ (parseMethodDescriptor yJ9_max_7cf53.desc).map (fun d => d.parameters.length) = some 2 := ⟨rfl, by decide +kernel, by decide +kernel, by decide +kernel⟩
theorem pd_J9_min_7cf53 : yJ9_min_7cf53.cls = RJ9 ∧ yJ9_min_7cf53.cls ≠ "java/lang/invoke/MethodHandle" ∧ yJ9_min_7cf53.cls ≠ "java/lang/invoke/VarHandle" ∧ (parseMethodDescriptor yJ9_min_7cf53.desc).map (fun d => d.parameters.length) = some 2 := ⟨rfl, by decide +kernel, by decide +kernel, by decide +kernel⟩
theorem pd_X0_clear : yX0_clear.cls = RX0 ∧ yX0_clear.cls ≠ "java/lang/invoke/MethodHandle" ∧ yX0_clear.cls ≠ "java/lang/invoke/VarHandle" ∧ (parseMethodDescriptor yX0_clear.desc).map (fun d => d.parameters.length) = some 0 := ⟨rfl, by decide +kernel, by decide +kernel, by decide +kernel⟩
theorem pd_X0_readFrom : yX0_readFrom.cls = RX0 ∧ yX0_readFrom.cls ≠ "java/lang/invoke/MethodHandle" ∧ yX0_readFrom.cls ≠ "java/lang/invoke/VarHandle" ∧ (parseMethodDescriptor yX0_readFrom.desc).map (fun d => d.parameters.length) = some 1 := ⟨rfl, by decide +kernel, by decide +kernel, by decide +kernel⟩
theorem pd_X0_readLine : yX0_readLine.cls = RX0 ∧ yX0_readLine.cls ≠ "java/lang/invoke/MethodHandle" ∧ yX0_readLine.cls ≠ "java/lang/invoke/VarHandle" ∧ (parseMethodDescriptor yX0_readLine.desc).map (fun d => d.parameters.length) = some 1 := ⟨rfl, by decide +kernel, by decide +kernel, by decide +kernel⟩
theorem pd_X10_areOdds : yX10_areOdds.cls = RX10 ∧ yX10_areOdds.cls ≠ "java/lang/invoke/MethodHandle" ∧ yX10_areOdds.cls ≠ "java/lang/invoke/VarHandle" ∧ (parseMethodDescriptor yX10_areOdds.desc).map (fun d => d.parameters.length) = some 3 := ⟨rfl, by decide +kernel, by decide +kernel, by decide +kernel⟩
theorem pd_X10_areYears : yX10_areYears.cls = RX10 ∧ yX10_areYears.cls ≠ "java/lang/invoke/MethodHandle" ∧ yX10_areYears.cls ≠ "java/lang/invoke/VarHandle" ∧ (parseMethodDescriptor yX10_areYears.desc).map (fun d => d.parameters.length) = some 4 := ⟨rfl, by decide +kernel, by decide +kernel, by decide +kernel⟩
theorem pd_X10_asksOf : yX10_asksOf.cls = RX10 ∧ yX10_asksOf.cls ≠ "java/lang/invoke/MethodHandle" ∧ yX10_asksOf.cls ≠ "java/lang/invoke/VarHandle" ∧ (parseMethodDescriptor yX10_asksOf.desc).map (fun d => d.parameters.length) = some 1 := ⟨rfl, by decide +kernel, by decide +kernel, by decide +kernel⟩
theorem pd_X10_bad : yX10_bad.cls = RX10 ∧ yX10_bad.cls ≠ "java/lang/invoke/MethodHandle" ∧ yX10_bad.cls ≠ "java/lang/invoke/VarHandle" ∧ (parseMethodDescriptor yX10_bad.desc).map (fun d => d.parameters.length) = some 3 := ⟨rfl, by decide +kernel, by decide +kernel, by decide +kernel⟩
theorem pd_X10_bedsFrom : yX10_bedsFrom.cls = RX10 ∧ yX10_bedsFrom.cls ≠ "java/lang/invoke/MethodHandle" ∧ yX10_bedsFrom.cls ≠ "java/lang/invoke/VarHandle" ∧ (parseMethodDescriptor yX10_bedsFrom.desc).map (fun d => d.parameters.length) = some 4 := ⟨rfl, by decide +kernel, by decide +kernel, by decide +kernel⟩
theorem pd_X10_begins : yX10_begins.cls = RX10 ∧ yX10_begins.cls ≠ "java/lang/invoke/MethodHandle" ∧ yX10_begins.cls ≠ "java/lang/invoke/VarHandle" ∧ (parseMethodDescriptor yX10_begins.desc).map (fun d => d.parameters.length) = some 2 := ⟨rfl, by decide +kernel, by decide +kernel, by decide +kernel⟩
theorem pd_X10_beginsAnew : yX10_beginsAnew.cls = RX10 ∧ yX10_beginsAnew.cls ≠ "java/lang/invoke/MethodHandle" ∧ yX10_beginsAnew.cls ≠ "java/lang/invoke/VarHandle" ∧ (parseMethodDescriptor yX10_beginsAnew.desc).map (fun d => d.parameters.length) = some 0 := ⟨rfl, by decide +kernel, by decide +kernel, by decide +kernel⟩
theorem pd_X10_bidsBut : yX10_bidsBut.cls = RX10 ∧ yX10_bidsBut.cls ≠ "java/lang/invoke/MethodHandle" ∧ yX10_bidsBut.cls ≠ "java/lang/invoke/VarHandle" ∧ (parseMethodDescriptor yX10_bidsBut.desc).map (fun d => d.parameters.length) = some 1 := ⟨rfl, by decide +kernel, by decide +kernel, by decide +kernel⟩
theorem pd_X10_blanks : yX10_blanks.cls = RX10 ∧ yX10_blanks.cls ≠ "java/lang/invoke/MethodHandle" ∧ yX10_blanks.cls ≠ "java/lang/invoke/VarHandle" ∧ (parseMethodDescriptor yX10_blanks.desc).map (fun d => d.parameters.length) = some 0 := ⟨rfl, by decide +kernel, by decide +kernel, by decide +kernel⟩
theorem pd_X10_by : yX10_by.cls = RX10 ∧ yX10_by.cls ≠ "java/lang/invoke/MethodHandle" ∧ yX10_by.cls ≠ "java/lang/invoke/VarHandle" ∧ (parseMethodDescriptor yX10_by.desc).map (fun d => d.parameters.length) = some 3 := ⟨rfl, by decide +kernel, by decide +kernel, by decide +kernel⟩
theorem pd_X10_byLaw : yX10_byLaw.cls = RX10 ∧ yX10_byLaw.cls ≠ "java/lang/invoke/MethodHandle" ∧ yX10_byLaw.cls ≠ "java/lang/invoke/VarHandle" ∧ (parseMethodDescriptor yX10_byLaw.desc).map (fun d => d.parameters.length) = some 0 := ⟨rfl, by decide +kernel, by decide +kernel, by decide +kernel⟩
theorem pd_X10_byteAt : yX10_byteAt.cls = RX10 ∧ yX10_byteAt.cls ≠ "java/lang/invoke/MethodHandle" ∧ yX10_byteAt.cls ≠ "java/lang/invoke/VarHandle" ∧ (parseMethodDescriptor yX10_byteAt.desc).map (fun d => d.parameters.length) = some 1 := ⟨rfl, by decide +kernel, by decide +kernel, by decide +kernel⟩
theorem pd_X10_clause : yX10_clause.cls = RX10 ∧ yX10_clause.cls ≠ "java/lang/invoke/MethodHandle" ∧ yX10_clause.cls ≠ "java/lang/invoke/VarHandle" ∧ (parseMethodDescriptor yX10_clause.desc).map (fun d => d.parameters.length) = some 0 := ⟨rfl, by decide +kernel, by decide +kernel, by decide +kernel⟩
theorem pd_X10_copies : yX10_copies.cls = RX10 ∧ yX10_copies.cls ≠ "java/lang/invoke/MethodHandle" ∧ yX10_copies.cls ≠ "java/lang/invoke/VarHandle" ∧ (parseMethodDescriptor yX10_copies.desc).map (fun d => d.parameters.length) = some 2 := ⟨rfl, by decide +kernel, by decide +kernel, by decide +kernel⟩
theorem pd_X10_does : yX10_does.cls = RX10 ∧ yX10_does.cls ≠ "java/lang/invoke/MethodHandle" ∧ yX10_does.cls ≠ "java/lang/invoke/VarHandle" ∧ (parseMethodDescriptor yX10_does.desc).map (fun d => d.parameters.length) = some 2 := ⟨rfl, by decide +kernel, by decide +kernel, by decide +kernel⟩
theorem pd_X10_draw : yX10_draw.cls = RX10 ∧ yX10_draw.cls ≠ "java/lang/invoke/MethodHandle" ∧ yX10_draw.cls ≠ "java/lang/invoke/VarHandle" ∧ (parseMethodDescriptor yX10_draw.desc).map (fun d => d.parameters.length) = some 0 := ⟨rfl, by decide +kernel, by decide +kernel, by decide +kernel⟩
theorem pd_X10_dulls : yX10_dulls.cls = RX10 ∧ yX10_dulls.cls ≠ "java/lang/invoke/MethodHandle" ∧ yX10_dulls.cls ≠ "java/lang/invoke/VarHandle" ∧ (parseMethodDescriptor yX10_dulls.desc).map (fun d => d.parameters.length) = some 3 := ⟨rfl, by decide +kernel, by decide +kernel, by decide +kernel⟩
theorem pd_X10_earns : yX10_earns.cls = RX10 ∧ yX10_earns.cls ≠ "java/lang/invoke/MethodHandle" ∧ yX10_earns.cls ≠ "java/lang/invoke/VarHandle" ∧ (parseMethodDescriptor yX10_earns.desc).map (fun d => d.parameters.length) = some 2 := ⟨rfl, by decide +kernel, by decide +kernel, by decide +kernel⟩
theorem pd_X10_ends : yX10_ends.cls = RX10 ∧ yX10_ends.cls ≠ "java/lang/invoke/MethodHandle" ∧ yX10_ends.cls ≠ "java/lang/invoke/VarHandle" ∧ (parseMethodDescriptor yX10_ends.desc).map (fun d => d.parameters.length) = some 0 := ⟨rfl, by decide +kernel, by decide +kernel, by decide +kernel⟩
theorem pd_X10_getsBy : yX10_getsBy.cls = RX10 ∧ yX10_getsBy.cls ≠ "java/lang/invoke/MethodHandle" ∧ yX10_getsBy.cls ≠ "java/lang/invoke/VarHandle" ∧ (parseMethodDescriptor yX10_getsBy.desc).map (fun d => d.parameters.length) = some 2 := ⟨rfl, by decide +kernel, by decide +kernel, by decide +kernel⟩
theorem pd_X10_gives : yX10_gives.cls = RX10 ∧ yX10_gives.cls ≠ "java/lang/invoke/MethodHandle" ∧ yX10_gives.cls ≠ "java/lang/invoke/VarHandle" ∧ (parseMethodDescriptor yX10_gives.desc).map (fun d => d.parameters.length) = some 2 := ⟨rfl, by decide +kernel, by decide +kernel, by decide +kernel⟩
theorem pd_X10_goes : yX10_goes.cls = RX10 ∧ yX10_goes.cls ≠ "java/lang/invoke/MethodHandle" ∧ yX10_goes.cls ≠ "java/lang/invoke/VarHandle" ∧ (parseMethodDescriptor yX10_goes.desc).map (fun d => d.parameters.length) = some 2 := ⟨rfl, by decide +kernel, by decide +kernel, by decide +kernel⟩
theorem pd_X10_has : yX10_has.cls = RX10 ∧ yX10_has.cls ≠ "java/lang/invoke/MethodHandle" ∧ yX10_has.cls ≠ "java/lang/invoke/VarHandle" ∧ (parseMethodDescriptor yX10_has.desc).map (fun d => d.parameters.length) = some 2 := ⟨rfl, by decide +kernel, by decide +kernel, by decide +kernel⟩
theorem pd_X10_in : yX10_in.cls = RX10 ∧ yX10_in.cls ≠ "java/lang/invoke/MethodHandle" ∧ yX10_in.cls ≠ "java/lang/invoke/VarHandle" ∧ (parseMethodDescriptor yX10_in.desc).map (fun d => d.parameters.length) = some 3 := ⟨rfl, by decide +kernel, by decide +kernel, by decide +kernel⟩
theorem pd_X10_isCounted : yX10_isCounted.cls = RX10 ∧ yX10_isCounted.cls ≠ "java/lang/invoke/MethodHandle" ∧ yX10_isCounted.cls ≠ "java/lang/invoke/VarHandle" ∧ (parseMethodDescriptor yX10_isCounted.desc).map (fun d => d.parameters.length) = some 1 := ⟨rfl, by decide +kernel, by decide +kernel, by decide +kernel⟩
theorem pd_X10_isDigit : yX10_isDigit.cls = RX10 ∧ yX10_isDigit.cls ≠ "java/lang/invoke/MethodHandle" ∧ yX10_isDigit.cls ≠ "java/lang/invoke/VarHandle" ∧ (parseMethodDescriptor yX10_isDigit.desc).map (fun d => d.parameters.length) = some 1 := ⟨rfl, by decide +kernel, by decide +kernel, by decide +kernel⟩
theorem pd_X10_isFull : yX10_isFull.cls = RX10 ∧ yX10_isFull.cls ≠ "java/lang/invoke/MethodHandle" ∧ yX10_isFull.cls ≠ "java/lang/invoke/VarHandle" ∧ (parseMethodDescriptor yX10_isFull.desc).map (fun d => d.parameters.length) = some 1 := ⟨rfl, by decide +kernel, by decide +kernel, by decide +kernel⟩
theorem pd_X10_isNo : yX10_isNo.cls = RX10 ∧ yX10_isNo.cls ≠ "java/lang/invoke/MethodHandle" ∧ yX10_isNo.cls ≠ "java/lang/invoke/VarHandle" ∧ (parseMethodDescriptor yX10_isNo.desc).map (fun d => d.parameters.length) = some 2 := ⟨rfl, by decide +kernel, by decide +kernel, by decide +kernel⟩
theorem pd_X10_isPlan : yX10_isPlan.cls = RX10 ∧ yX10_isPlan.cls ≠ "java/lang/invoke/MethodHandle" ∧ yX10_isPlan.cls ≠ "java/lang/invoke/VarHandle" ∧ (parseMethodDescriptor yX10_isPlan.desc).map (fun d => d.parameters.length) = some 3 := ⟨rfl, by decide +kernel, by decide +kernel, by decide +kernel⟩
theorem pd_X10_isRest : yX10_isRest.cls = RX10 ∧ yX10_isRest.cls ≠ "java/lang/invoke/MethodHandle" ∧ yX10_isRest.cls ≠ "java/lang/invoke/VarHandle" ∧ (parseMethodDescriptor yX10_isRest.desc).map (fun d => d.parameters.length) = some 1 := ⟨rfl, by decide +kernel, by decide +kernel, by decide +kernel⟩
theorem pd_X10_isSmall : yX10_isSmall.cls = RX10 ∧ yX10_isSmall.cls ≠ "java/lang/invoke/MethodHandle" ∧ yX10_isSmall.cls ≠ "java/lang/invoke/VarHandle" ∧ (parseMethodDescriptor yX10_isSmall.desc).map (fun d => d.parameters.length) = some 1 := ⟨rfl, by decide +kernel, by decide +kernel, by decide +kernel⟩
theorem pd_X10_isStruck : yX10_isStruck.cls = RX10 ∧ yX10_isStruck.cls ≠ "java/lang/invoke/MethodHandle" ∧ yX10_isStruck.cls ≠ "java/lang/invoke/VarHandle" ∧ (parseMethodDescriptor yX10_isStruck.desc).map (fun d => d.parameters.length) = some 0 := ⟨rfl, by decide +kernel, by decide +kernel, by decide +kernel⟩
theorem pd_X10_isWaking : yX10_isWaking.cls = RX10 ∧ yX10_isWaking.cls ≠ "java/lang/invoke/MethodHandle" ∧ yX10_isWaking.cls ≠ "java/lang/invoke/VarHandle" ∧ (parseMethodDescriptor yX10_isWaking.desc).map (fun d => d.parameters.length) = some 3 := ⟨rfl, by decide +kernel, by decide +kernel, by decide +kernel⟩
theorem pd_X10_isWord : yX10_isWord.cls = RX10 ∧ yX10_isWord.cls ≠ "java/lang/invoke/MethodHandle" ∧ yX10_isWord.cls ≠ "java/lang/invoke/VarHandle" ∧ (parseMethodDescriptor yX10_isWord.desc).map (fun d => d.parameters.length) = some 7 := ⟨rfl, by decide +kernel, by decide +kernel, by decide +kernel⟩
theorem pd_X10_kindHere : yX10_kindHere.cls = RX10 ∧ yX10_kindHere.cls ≠ "java/lang/invoke/MethodHandle" ∧ yX10_kindHere.cls ≠ "java/lang/invoke/VarHandle" ∧ (parseMethodDescriptor yX10_kindHere.desc).map (fun d => d.parameters.length) = some 0 := ⟨rfl, by decide +kernel, by decide +kernel, by decide +kernel⟩
theorem pd_X10_knownHere : yX10_knownHere.cls = RX10 ∧ yX10_knownHere.cls ≠ "java/lang/invoke/MethodHandle" ∧ yX10_knownHere.cls ≠ "java/lang/invoke/VarHandle" ∧ (parseMethodDescriptor yX10_knownHere.desc).map (fun d => d.parameters.length) = some 0 := ⟨rfl, by decide +kernel, by decide +kernel, by decide +kernel⟩
theorem pd_X10_lays : yX10_lays.cls = RX10 ∧ yX10_lays.cls ≠ "java/lang/invoke/MethodHandle" ∧ yX10_lays.cls ≠ "java/lang/invoke/VarHandle" ∧ (parseMethodDescriptor yX10_lays.desc).map (fun d => d.parameters.length) = some 3 := ⟨rfl, by decide +kernel, by decide +kernel, by decide +kernel⟩
theorem pd_X10_laysBeds : yX10_laysBeds.cls = RX10 ∧ yX10_laysBeds.cls ≠ "java/lang/invoke/MethodHandle" ∧ yX10_laysBeds.cls ≠ "java/lang/invoke/VarHandle" ∧ (parseMethodDescriptor yX10_laysBeds.desc).map (fun d => d.parameters.length) = some 1 := ⟨rfl, by decide +kernel, by decide +kernel, by decide +kernel⟩
theorem pd_X10_less : yX10_less.cls = RX10 ∧ yX10_less.cls ≠ "java/lang/invoke/MethodHandle" ∧ yX10_less.cls ≠ "java/lang/invoke/VarHandle" ∧ (parseMethodDescriptor yX10_less.desc).map (fun d => d.parameters.length) = some 2 := ⟨rfl, by decide +kernel, by decide +kernel, by decide +kernel⟩
theorem pd_X10_more : yX10_more.cls = RX10 ∧ yX10_more.cls ≠ "java/lang/invoke/MethodHandle" ∧ yX10_more.cls ≠ "java/lang/invoke/VarHandle" ∧ (parseMethodDescriptor yX10_more.desc).map (fun d => d.parameters.length) = some 2 := ⟨rfl, by decide +kernel, by decide +kernel, by decide +kernel⟩
theorem pd_X10_mostOf : yX10_mostOf.cls = RX10 ∧ yX10_mostOf.cls ≠ "java/lang/invoke/MethodHandle" ∧ yX10_mostOf.cls ≠ "java/lang/invoke/VarHandle" ∧ (parseMethodDescriptor yX10_mostOf.desc).map (fun d => d.parameters.length) = some 1 := ⟨rfl, by decide +kernel, by decide +kernel, by decide +kernel⟩
theorem pd_X10_nightEnds : yX10_nightEnds.cls = RX10 ∧ yX10_nightEnds.cls ≠ "java/lang/invoke/MethodHandle" ∧ yX10_nightEnds.cls ≠ "java/lang/invoke/VarHandle" ∧ (parseMethodDescriptor yX10_nightEnds.desc).map (fun d => d.parameters.length) = some 1 := ⟨rfl, by decide +kernel, by decide +kernel, by decide +kernel⟩
theorem pd_X10_noiseOf : yX10_noiseOf.cls = RX10 ∧ yX10_noiseOf.cls ≠ "java/lang/invoke/MethodHandle" ∧ yX10_noiseOf.cls ≠ "java/lang/invoke/VarHandle" ∧ (parseMethodDescriptor yX10_noiseOf.desc).map (fun d => d.parameters.length) = some 3 := ⟨rfl, by decide +kernel, by decide +kernel, by decide +kernel⟩
theorem pd_X10_notes : yX10_notes.cls = RX10 ∧ yX10_notes.cls ≠ "java/lang/invoke/MethodHandle" ∧ yX10_notes.cls ≠ "java/lang/invoke/VarHandle" ∧ (parseMethodDescriptor yX10_notes.desc).map (fun d => d.parameters.length) = some 2 := ⟨rfl, by decide +kernel, by decide +kernel, by decide +kernel⟩
theorem pd_X10_number : yX10_number.cls = RX10 ∧ yX10_number.cls ≠ "java/lang/invoke/MethodHandle" ∧ yX10_number.cls ≠ "java/lang/invoke/VarHandle" ∧ (parseMethodDescriptor yX10_number.desc).map (fun d => d.parameters.length) = some 2 := ⟨rfl, by decide +kernel, by decide +kernel, by decide +kernel⟩
theorem pd_X10_one : yX10_one.cls = RX10 ∧ yX10_one.cls ≠ "java/lang/invoke/MethodHandle" ∧ yX10_one.cls ≠ "java/lang/invoke/VarHandle" ∧ (parseMethodDescriptor yX10_one.desc).map (fun d => d.parameters.length) = some 0 := ⟨rfl, by decide +kernel, by decide +kernel, by decide +kernel⟩
theorem pd_X10_opensOne : yX10_opensOne.cls = RX10 ∧ yX10_opensOne.cls ≠ "java/lang/invoke/MethodHandle" ∧ yX10_opensOne.cls ≠ "java/lang/invoke/VarHandle" ∧ (parseMethodDescriptor yX10_opensOne.desc).map (fun d => d.parameters.length) = some 0 := ⟨rfl, by decide +kernel, by decide +kernel, by decide +kernel⟩
theorem pd_X10_pays : yX10_pays.cls = RX10 ∧ yX10_pays.cls ≠ "java/lang/invoke/MethodHandle" ∧ yX10_pays.cls ≠ "java/lang/invoke/VarHandle" ∧ (parseMethodDescriptor yX10_pays.desc).map (fun d => d.parameters.length) = some 2 := ⟨rfl, by decide +kernel, by decide +kernel, by decide +kernel⟩
theorem pd_X10_product : yX10_product.cls = RX10 ∧ yX10_product.cls ≠ "java/lang/invoke/MethodHandle" ∧ yX10_product.cls ≠ "java/lang/invoke/VarHandle" ∧ (parseMethodDescriptor yX10_product.desc).map (fun d => d.parameters.length) = some 0 := ⟨rfl, by decide +kernel, by decide +kernel, by decide +kernel⟩
theorem pd_X10_puts : yX10_puts.cls = RX10 ∧ yX10_puts.cls ≠ "java/lang/invoke/MethodHandle" ∧ yX10_puts.cls ≠ "java/lang/invoke/VarHandle" ∧ (parseMethodDescriptor yX10_puts.desc).map (fun d => d.parameters.length) = some 3 := ⟨rfl, by decide +kernel, by decide +kernel, by decide +kernel⟩
theorem pd_X10_putsAll : yX10_putsAll.cls = RX10 ∧ yX10_putsAll.cls ≠ "java/lang/invoke/MethodHandle" ∧ yX10_putsAll.cls ≠ "java/lang/invoke/VarHandle" ∧ (parseMethodDescriptor yX10_putsAll.desc).map (fun d => d.parameters.length) = some 2 := ⟨rfl, by decide +kernel, by decide +kernel, by decide +kernel⟩
theorem pd_X10_readsStep : yX10_readsStep.cls = RX10 ∧ yX10_readsStep.cls ≠ "java/lang/invoke/MethodHandle" ∧ yX10_readsStep.cls ≠ "java/lang/invoke/VarHandle" ∧ (parseMethodDescriptor yX10_readsStep.desc).map (fun d => d.parameters.length) = some 0 := ⟨rfl, by decide +kernel, by decide +kernel, by decide +kernel⟩
theorem pd_X10_seven : yX10_seven.cls = RX10 ∧ yX10_seven.cls ≠ "java/lang/invoke/MethodHandle" ∧ yX10_seven.cls ≠ "java/lang/invoke/VarHandle" ∧ (parseMethodDescriptor yX10_seven.desc).map (fun d => d.parameters.length) = some 7 := ⟨rfl, by decide +kernel, by decide +kernel, by decide +kernel⟩
theorem pd_X10_sign : yX10_sign.cls = RX10 ∧ yX10_sign.cls ≠ "java/lang/invoke/MethodHandle" ∧ yX10_sign.cls ≠ "java/lang/invoke/VarHandle" ∧ (parseMethodDescriptor yX10_sign.desc).map (fun d => d.parameters.length) = some 1 := ⟨rfl, by decide +kernel, by decide +kernel, by decide +kernel⟩
theorem pd_X10_skipWord : yX10_skipWord.cls = RX10 ∧ yX10_skipWord.cls ≠ "java/lang/invoke/MethodHandle" ∧ yX10_skipWord.cls ≠ "java/lang/invoke/VarHandle" ∧ (parseMethodDescriptor yX10_skipWord.desc).map (fun d => d.parameters.length) = some 0 := ⟨rfl, by decide +kernel, by decide +kernel, by decide +kernel⟩
theorem pd_X10_starts : yX10_starts.cls = RX10 ∧ yX10_starts.cls ≠ "java/lang/invoke/MethodHandle" ∧ yX10_starts.cls ≠ "java/lang/invoke/VarHandle" ∧ (parseMethodDescriptor yX10_starts.desc).map (fun d => d.parameters.length) = some 1 := ⟨rfl, by decide +kernel, by decide +kernel, by decide +kernel⟩
theorem pd_X10_stepHere : yX10_stepHere.cls = RX10 ∧ yX10_stepHere.cls ≠ "java/lang/invoke/MethodHandle" ∧ yX10_stepHere.cls ≠ "java/lang/invoke/VarHandle" ∧ (parseMethodDescriptor yX10_stepHere.desc).map (fun d => d.parameters.length) = some 0 := ⟨rfl, by decide +kernel, by decide +kernel, by decide +kernel⟩
theorem pd_X10_strikesBy : yX10_strikesBy.cls = RX10 ∧ yX10_strikesBy.cls ≠ "java/lang/invoke/MethodHandle" ∧ yX10_strikesBy.cls ≠ "java/lang/invoke/VarHandle" ∧ (parseMethodDescriptor yX10_strikesBy.desc).map (fun d => d.parameters.length) = some 2 := ⟨rfl, by decide +kernel, by decide +kernel, by decide +kernel⟩
theorem pd_X10_strokesOf : yX10_strokesOf.cls = RX10 ∧ yX10_strokesOf.cls ≠ "java/lang/invoke/MethodHandle" ∧ yX10_strokesOf.cls ≠ "java/lang/invoke/VarHandle" ∧ (parseMethodDescriptor yX10_strokesOf.desc).map (fun d => d.parameters.length) = some 1 := ⟨rfl, by decide +kernel, by decide +kernel, by decide +kernel⟩
theorem pd_X10_sum : yX10_sum.cls = RX10 ∧ yX10_sum.cls ≠ "java/lang/invoke/MethodHandle" ∧ yX10_sum.cls ≠ "java/lang/invoke/VarHandle" ∧ (parseMethodDescriptor yX10_sum.desc).map (fun d => d.parameters.length) = some 0 := ⟨rfl, by decide +kernel, by decide +kernel, by decide +kernel⟩
theorem pd_X10_takes : yX10_takes.cls = RX10 ∧ yX10_takes.cls ≠ "java/lang/invoke/MethodHandle" ∧ yX10_takes.cls ≠ "java/lang/invoke/VarHandle" ∧ (parseMethodDescriptor yX10_takes.desc).map (fun d => d.parameters.length) = some 7 := ⟨rfl, by decide +kernel, by decide +kernel, by decide +kernel⟩
theorem pd_X10_takesSign : yX10_takesSign.cls = RX10 ∧ yX10_takesSign.cls ≠ "java/lang/invoke/MethodHandle" ∧ yX10_takesSign.cls ≠ "java/lang/invoke/VarHandle" ∧ (parseMethodDescriptor yX10_takesSign.desc).map (fun d => d.parameters.length) = some 1 := ⟨rfl, by decide +kernel, by decide +kernel, by decide +kernel⟩
theorem pd_X10_tellsNothing : yX10_tellsNothing.cls = RX10 ∧ yX10_tellsNothing.cls ≠ "java/lang/invoke/MethodHandle" ∧ yX10_tellsNothing.cls ≠ "java/lang/invoke/VarHandle" ∧ (parseMethodDescriptor yX10_tellsNothing.desc).map (fun d => d.parameters.length) = some 0 := ⟨rfl, by decide +kernel, by decide +kernel, by decide +kernel⟩
theorem pd_X10_tens : yX10_tens.cls = RX10 ∧ yX10_tens.cls ≠ "java/lang/invoke/MethodHandle" ∧ yX10_tens.cls ≠ "java/lang/invoke/VarHandle" ∧ (parseMethodDescriptor yX10_tens.desc).map (fun d => d.parameters.length) = some 1 := ⟨rfl, by decide +kernel, by decide +kernel, by decide +kernel⟩
theorem pd_X10_watcher : yX10_watcher.cls = RX10 ∧ yX10_watcher.cls ≠ "java/lang/invoke/MethodHandle" ∧ yX10_watcher.cls ≠ "java/lang/invoke/VarHandle" ∧ (parseMethodDescriptor yX10_watcher.desc).map (fun d => d.parameters.length) = some 0 := ⟨rfl, by decide +kernel, by decide +kernel, by decide +kernel⟩
theorem pd_X10_whole : yX10_whole.cls = RX10 ∧ yX10_whole.cls ≠ "java/lang/invoke/MethodHandle" ∧ yX10_whole.cls ≠ "java/lang/invoke/VarHandle" ∧ (parseMethodDescriptor yX10_whole.desc).map (fun d => d.parameters.length) = some 1 := ⟨rfl, by decide +kernel, by decide +kernel, by decide +kernel⟩
theorem pd_X10_wordHere : yX10_wordHere.cls = RX10 ∧ yX10_wordHere.cls ≠ "java/lang/invoke/MethodHandle" ∧ yX10_wordHere.cls ≠ "java/lang/invoke/VarHandle" ∧ (parseMethodDescriptor yX10_wordHere.desc).map (fun d => d.parameters.length) = some 0 := ⟨rfl, by decide +kernel, by decide +kernel, by decide +kernel⟩
theorem pd_X10_wrong : yX10_wrong.cls = RX10 ∧ yX10_wrong.cls ≠ "java/lang/invoke/MethodHandle" ∧ yX10_wrong.cls ≠ "java/lang/invoke/VarHandle" ∧ (parseMethodDescriptor yX10_wrong.desc).map (fun d => d.parameters.length) = some 2 := ⟨rfl, by decide +kernel, by decide +kernel, by decide +kernel⟩
theorem pd_X10_yearsBy : yX10_yearsBy.cls = RX10 ∧ yX10_yearsBy.cls ≠ "java/lang/invoke/MethodHandle" ∧ yX10_yearsBy.cls ≠ "java/lang/invoke/VarHandle" ∧ (parseMethodDescriptor yX10_yearsBy.desc).map (fun d => d.parameters.length) = some 5 := ⟨rfl, by decide +kernel, by decide +kernel, by decide +kernel⟩
theorem pd_X1_clauseKind : yX1_clauseKind.cls = RX1 ∧ yX1_clauseKind.cls ≠ "java/lang/invoke/MethodHandle" ∧ yX1_clauseKind.cls ≠ "java/lang/invoke/VarHandle" ∧ (parseMethodDescriptor yX1_clauseKind.desc).map (fun d => d.parameters.length) = some 1 := ⟨rfl, by decide +kernel, by decide +kernel, by decide +kernel⟩
theorem pd_X1_clear : yX1_clear.cls = RX1 ∧ yX1_clear.cls ≠ "java/lang/invoke/MethodHandle" ∧ yX1_clear.cls ≠ "java/lang/invoke/VarHandle" ∧ (parseMethodDescriptor yX1_clear.desc).map (fun d => d.parameters.length) = some 0 := ⟨rfl, by decide +kernel, by decide +kernel, by decide +kernel⟩
theorem pd_X1_isFull : yX1_isFull.cls = RX1 ∧ yX1_isFull.cls ≠ "java/lang/invoke/MethodHandle" ∧ yX1_isFull.cls ≠ "java/lang/invoke/VarHandle" ∧ (parseMethodDescriptor yX1_isFull.desc).map (fun d => d.parameters.length) = some 1 := ⟨rfl, by decide +kernel, by decide +kernel, by decide +kernel⟩
theorem pd_X1_loud : yX1_loud.cls = RX1 ∧ yX1_loud.cls ≠ "java/lang/invoke/MethodHandle" ∧ yX1_loud.cls ≠ "java/lang/invoke/VarHandle" ∧ (parseMethodDescriptor yX1_loud.desc).map (fun d => d.parameters.length) = some 2 := ⟨rfl, by decide +kernel, by decide +kernel, by decide +kernel⟩
theorem pd_X1_readClause : yX1_readClause.cls = RX1 ∧ yX1_readClause.cls ≠ "java/lang/invoke/MethodHandle" ∧ yX1_readClause.cls ≠ "java/lang/invoke/VarHandle" ∧ (parseMethodDescriptor yX1_readClause.desc).map (fun d => d.parameters.length) = some 2 := ⟨rfl, by decide +kernel, by decide +kernel, by decide +kernel⟩
theorem pd_X1_readFrom : yX1_readFrom.cls = RX1 ∧ yX1_readFrom.cls ≠ "java/lang/invoke/MethodHandle" ∧ yX1_readFrom.cls ≠ "java/lang/invoke/VarHandle" ∧ (parseMethodDescriptor yX1_readFrom.desc).map (fun d => d.parameters.length) = some 1 := ⟨rfl, by decide +kernel, by decide +kernel, by decide +kernel⟩
theorem pd_X1_readNumbers : yX1_readNumbers.cls = RX1 ∧ yX1_readNumbers.cls ≠ "java/lang/invoke/MethodHandle" ∧ yX1_readNumbers.cls ≠ "java/lang/invoke/VarHandle" ∧ (parseMethodDescriptor yX1_readNumbers.desc).map (fun d => d.parameters.length) = some 2 := ⟨rfl, by decide +kernel, by decide +kernel, by decide +kernel⟩
theorem pd_X1_sleeps : yX1_sleeps.cls = RX1 ∧ yX1_sleeps.cls ≠ "java/lang/invoke/MethodHandle" ∧ yX1_sleeps.cls ≠ "java/lang/invoke/VarHandle" ∧ (parseMethodDescriptor yX1_sleeps.desc).map (fun d => d.parameters.length) = some 3 := ⟨rfl, by decide +kernel, by decide +kernel, by decide +kernel⟩
theorem pd_X2_add : yX2_add.cls = RX2 ∧ yX2_add.cls ≠ "java/lang/invoke/MethodHandle" ∧ yX2_add.cls ≠ "java/lang/invoke/VarHandle" ∧ (parseMethodDescriptor yX2_add.desc).map (fun d => d.parameters.length) = some 2 := ⟨rfl, by decide +kernel, by decide +kernel, by decide +kernel⟩
theorem pd_X2_choose : yX2_choose.cls = RX2 ∧ yX2_choose.cls ≠ "java/lang/invoke/MethodHandle" ∧ yX2_choose.cls ≠ "java/lang/invoke/VarHandle" ∧ (parseMethodDescriptor yX2_choose.desc).map (fun d => d.parameters.length) = some 1 := ⟨rfl, by decide +kernel, by decide +kernel, by decide +kernel⟩
theorem pd_X2_clear : yX2_clear.cls = RX2 ∧ yX2_clear.cls ≠ "java/lang/invoke/MethodHandle" ∧ yX2_clear.cls ≠ "java/lang/invoke/VarHandle" ∧ (parseMethodDescriptor yX2_clear.desc).map (fun d => d.parameters.length) = some 0 := ⟨rfl, by decide +kernel, by decide +kernel, by decide +kernel⟩
theorem pd_X3_take : yX3_take.cls = RX3 ∧ yX3_take.cls ≠ "java/lang/invoke/MethodHandle" ∧ yX3_take.cls ≠ "java/lang/invoke/VarHandle" ∧ (parseMethodDescriptor yX3_take.desc).map (fun d => d.parameters.length) = some 2 := ⟨rfl, by decide +kernel, by decide +kernel, by decide +kernel⟩
theorem pd_X4_done : yX4_done.cls = RX4 ∧ yX4_done.cls ≠ "java/lang/invoke/MethodHandle" ∧ yX4_done.cls ≠ "java/lang/invoke/VarHandle" ∧ (parseMethodDescriptor yX4_done.desc).map (fun d => d.parameters.length) = some 3 := ⟨rfl, by decide +kernel, by decide +kernel, by decide +kernel⟩
theorem pd_X4_emit : yX4_emit.cls = RX4 ∧ yX4_emit.cls ≠ "java/lang/invoke/MethodHandle" ∧ yX4_emit.cls ≠ "java/lang/invoke/VarHandle" ∧ (parseMethodDescriptor yX4_emit.desc).map (fun d => d.parameters.length) = some 1 := ⟨rfl, by decide +kernel, by decide +kernel, by decide +kernel⟩
theorem pd_X4_inputOf : yX4_inputOf.cls = RX4 ∧ yX4_inputOf.cls ≠ "java/lang/invoke/MethodHandle" ∧ yX4_inputOf.cls ≠ "java/lang/invoke/VarHandle" ∧ (parseMethodDescriptor yX4_inputOf.desc).map (fun d => d.parameters.length) = some 1 := ⟨rfl, by decide +kernel, by decide +kernel, by decide +kernel⟩
theorem pd_X4_readFrom : yX4_readFrom.cls = RX4 ∧ yX4_readFrom.cls ≠ "java/lang/invoke/MethodHandle" ∧ yX4_readFrom.cls ≠ "java/lang/invoke/VarHandle" ∧ (parseMethodDescriptor yX4_readFrom.desc).map (fun d => d.parameters.length) = some 1 := ⟨rfl, by decide +kernel, by decide +kernel, by decide +kernel⟩
theorem pd_X4_readProduct : yX4_readProduct.cls = RX4 ∧ yX4_readProduct.cls ≠ "java/lang/invoke/MethodHandle" ∧ yX4_readProduct.cls ≠ "java/lang/invoke/VarHandle" ∧ (parseMethodDescriptor yX4_readProduct.desc).map (fun d => d.parameters.length) = some 2 := ⟨rfl, by decide +kernel, by decide +kernel, by decide +kernel⟩
theorem pd_X4_readSum : yX4_readSum.cls = RX4 ∧ yX4_readSum.cls ≠ "java/lang/invoke/MethodHandle" ∧ yX4_readSum.cls ≠ "java/lang/invoke/VarHandle" ∧ (parseMethodDescriptor yX4_readSum.desc).map (fun d => d.parameters.length) = some 2 := ⟨rfl, by decide +kernel, by decide +kernel, by decide +kernel⟩
theorem pd_X4_readUnit : yX4_readUnit.cls = RX4 ∧ yX4_readUnit.cls ≠ "java/lang/invoke/MethodHandle" ∧ yX4_readUnit.cls ≠ "java/lang/invoke/VarHandle" ∧ (parseMethodDescriptor yX4_readUnit.desc).map (fun d => d.parameters.length) = some 2 := ⟨rfl, by decide +kernel, by decide +kernel, by decide +kernel⟩
theorem pd_X4_tenth : yX4_tenth.cls = RX4 ∧ yX4_tenth.cls ≠ "java/lang/invoke/MethodHandle" ∧ yX4_tenth.cls ≠ "java/lang/invoke/VarHandle" ∧ (parseMethodDescriptor yX4_tenth.desc).map (fun d => d.parameters.length) = some 0 := ⟨rfl, by decide +kernel, by decide +kernel, by decide +kernel⟩
theorem pd_X4_tolls : yX4_tolls.cls = RX4 ∧ yX4_tolls.cls ≠ "java/lang/invoke/MethodHandle" ∧ yX4_tolls.cls ≠ "java/lang/invoke/VarHandle" ∧ (parseMethodDescriptor yX4_tolls.desc).map (fun d => d.parameters.length) = some 7 := ⟨rfl, by decide +kernel, by decide +kernel, by decide +kernel⟩
theorem pd_X5_begin : yX5_begin.cls = RX5 ∧ yX5_begin.cls ≠ "java/lang/invoke/MethodHandle" ∧ yX5_begin.cls ≠ "java/lang/invoke/VarHandle" ∧ (parseMethodDescriptor yX5_begin.desc).map (fun d => d.parameters.length) = some 1 := ⟨rfl, by decide +kernel, by decide +kernel, by decide +kernel⟩
theorem pd_X5_gives : yX5_gives.cls = RX5 ∧ yX5_gives.cls ≠ "java/lang/invoke/MethodHandle" ∧ yX5_gives.cls ≠ "java/lang/invoke/VarHandle" ∧ (parseMethodDescriptor yX5_gives.desc).map (fun d => d.parameters.length) = some 2 := ⟨rfl, by decide +kernel, by decide +kernel, by decide +kernel⟩
theorem pd_X5_hangUp : yX5_hangUp.cls = RX5 ∧ yX5_hangUp.cls ≠ "java/lang/invoke/MethodHandle" ∧ yX5_hangUp.cls ≠ "java/lang/invoke/VarHandle" ∧ (parseMethodDescriptor yX5_hangUp.desc).map (fun d => d.parameters.length) = some 1 := ⟨rfl, by decide +kernel, by decide +kernel, by decide +kernel⟩
theorem pd_X5_pays : yX5_pays.cls = RX5 ∧ yX5_pays.cls ≠ "java/lang/invoke/MethodHandle" ∧ yX5_pays.cls ≠ "java/lang/invoke/VarHandle" ∧ (parseMethodDescriptor yX5_pays.desc).map (fun d => d.parameters.length) = some 1 := ⟨rfl, by decide +kernel, by decide +kernel, by decide +kernel⟩
theorem pd_X5_swaps : yX5_swaps.cls = RX5 ∧ yX5_swaps.cls ≠ "java/lang/invoke/MethodHandle" ∧ yX5_swaps.cls ≠ "java/lang/invoke/VarHandle" ∧ (parseMethodDescriptor yX5_swaps.desc).map (fun d => d.parameters.length) = some 2 := ⟨rfl, by decide +kernel, by decide +kernel, by decide +kernel⟩
theorem pd_X5_take : yX5_take.cls = RX5 ∧ yX5_take.cls ≠ "java/lang/invoke/MethodHandle" ∧ yX5_take.cls ≠ "java/lang/invoke/VarHandle" ∧ (parseMethodDescriptor yX5_take.desc).map (fun d => d.parameters.length) = some 1 := ⟨rfl, by decide +kernel, by decide +kernel, by decide +kernel⟩
theorem pd_X5_takeDown : yX5_takeDown.cls = RX5 ∧ yX5_takeDown.cls ≠ "java/lang/invoke/MethodHandle" ∧ yX5_takeDown.cls ≠ "java/lang/invoke/VarHandle" ∧ (parseMethodDescriptor yX5_takeDown.desc).map (fun d => d.parameters.length) = some 0 := ⟨rfl, by decide +kernel, by decide +kernel, by decide +kernel⟩
theorem pd_X5_turn : yX5_turn.cls = RX5 ∧ yX5_turn.cls ≠ "java/lang/invoke/MethodHandle" ∧ yX5_turn.cls ≠ "java/lang/invoke/VarHandle" ∧ (parseMethodDescriptor yX5_turn.desc).map (fun d => d.parameters.length) = some 3 := ⟨rfl, by decide +kernel, by decide +kernel, by decide +kernel⟩
theorem pd_X5_waxes : yX5_waxes.cls = RX5 ∧ yX5_waxes.cls ≠ "java/lang/invoke/MethodHandle" ∧ yX5_waxes.cls ≠ "java/lang/invoke/VarHandle" ∧ (parseMethodDescriptor yX5_waxes.desc).map (fun d => d.parameters.length) = some 0 := ⟨rfl, by decide +kernel, by decide +kernel, by decide +kernel⟩
theorem pd_X6_behind : yX6_behind.cls = RX6 ∧ yX6_behind.cls ≠ "java/lang/invoke/MethodHandle" ∧ yX6_behind.cls ≠ "java/lang/invoke/VarHandle" ∧ (parseMethodDescriptor yX6_behind.desc).map (fun d => d.parameters.length) = some 1 := ⟨rfl, by decide +kernel, by decide +kernel, by decide +kernel⟩
theorem pd_X6_readFrom : yX6_readFrom.cls = RX6 ∧ yX6_readFrom.cls ≠ "java/lang/invoke/MethodHandle" ∧ yX6_readFrom.cls ≠ "java/lang/invoke/VarHandle" ∧ (parseMethodDescriptor yX6_readFrom.desc).map (fun d => d.parameters.length) = some 2 := ⟨rfl, by decide +kernel, by decide +kernel, by decide +kernel⟩
theorem pd_X6_readNumbers : yX6_readNumbers.cls = RX6 ∧ yX6_readNumbers.cls ≠ "java/lang/invoke/MethodHandle" ∧ yX6_readNumbers.cls ≠ "java/lang/invoke/VarHandle" ∧ (parseMethodDescriptor yX6_readNumbers.desc).map (fun d => d.parameters.length) = some 4 := ⟨rfl, by decide +kernel, by decide +kernel, by decide +kernel⟩
theorem pd_X6_readRow : yX6_readRow.cls = RX6 ∧ yX6_readRow.cls ≠ "java/lang/invoke/MethodHandle" ∧ yX6_readRow.cls ≠ "java/lang/invoke/VarHandle" ∧ (parseMethodDescriptor yX6_readRow.desc).map (fun d => d.parameters.length) = some 3 := ⟨rfl, by decide +kernel, by decide +kernel, by decide +kernel⟩
theorem pd_X6_readStep : yX6_readStep.cls = RX6 ∧ yX6_readStep.cls ≠ "java/lang/invoke/MethodHandle" ∧ yX6_readStep.cls ≠ "java/lang/invoke/VarHandle" ∧ (parseMethodDescriptor yX6_readStep.desc).map (fun d => d.parameters.length) = some 3 := ⟨rfl, by decide +kernel, by decide +kernel, by decide +kernel⟩
theorem pd_X6_stepKind : yX6_stepKind.cls = RX6 ∧ yX6_stepKind.cls ≠ "java/lang/invoke/MethodHandle" ∧ yX6_stepKind.cls ≠ "java/lang/invoke/VarHandle" ∧ (parseMethodDescriptor yX6_stepKind.desc).map (fun d => d.parameters.length) = some 1 := ⟨rfl, by decide +kernel, by decide +kernel, by decide +kernel⟩
theorem pd_X7_append : yX7_append.cls = RX7 ∧ yX7_append.cls ≠ "java/lang/invoke/MethodHandle" ∧ yX7_append.cls ≠ "java/lang/invoke/VarHandle" ∧ (parseMethodDescriptor yX7_append.desc).map (fun d => d.parameters.length) = some 1 := ⟨rfl, by decide +kernel, by decide +kernel, by decide +kernel⟩
theorem pd_X7_fails : yX7_fails.cls = RX7 ∧ yX7_fails.cls ≠ "java/lang/invoke/MethodHandle" ∧ yX7_fails.cls ≠ "java/lang/invoke/VarHandle" ∧ (parseMethodDescriptor yX7_fails.desc).map (fun d => d.parameters.length) = some 2 := ⟨rfl, by decide +kernel, by decide +kernel, by decide +kernel⟩
theorem pd_X7_isDigit : yX7_isDigit.cls = RX7 ∧ yX7_isDigit.cls ≠ "java/lang/invoke/MethodHandle" ∧ yX7_isDigit.cls ≠ "java/lang/invoke/VarHandle" ∧ (parseMethodDescriptor yX7_isDigit.desc).map (fun d => d.parameters.length) = some 1 := ⟨rfl, by decide +kernel, by decide +kernel, by decide +kernel⟩
theorem pd_X7_isWord : yX7_isWord.cls = RX7 ∧ yX7_isWord.cls ≠ "java/lang/invoke/MethodHandle" ∧ yX7_isWord.cls ≠ "java/lang/invoke/VarHandle" ∧ (parseMethodDescriptor yX7_isWord.desc).map (fun d => d.parameters.length) = some 1 := ⟨rfl, by decide +kernel, by decide +kernel, by decide +kernel⟩
theorem pd_X7_number : yX7_number.cls = RX7 ∧ yX7_number.cls ≠ "java/lang/invoke/MethodHandle" ∧ yX7_number.cls ≠ "java/lang/invoke/VarHandle" ∧ (parseMethodDescriptor yX7_number.desc).map (fun d => d.parameters.length) = some 2 := ⟨rfl, by decide +kernel, by decide +kernel, by decide +kernel⟩
theorem pd_X7_open : yX7_open.cls = RX7 ∧ yX7_open.cls ≠ "java/lang/invoke/MethodHandle" ∧ yX7_open.cls ≠ "java/lang/invoke/VarHandle" ∧ (parseMethodDescriptor yX7_open.desc).map (fun d => d.parameters.length) = some 1 := ⟨rfl, by decide +kernel, by decide +kernel, by decide +kernel⟩
theorem pd_X7_sign : yX7_sign.cls = RX7 ∧ yX7_sign.cls ≠ "java/lang/invoke/MethodHandle" ∧ yX7_sign.cls ≠ "java/lang/invoke/VarHandle" ∧ (parseMethodDescriptor yX7_sign.desc).map (fun d => d.parameters.length) = some 0 := ⟨rfl, by decide +kernel, by decide +kernel, by decide +kernel⟩
theorem pd_X7_takes : yX7_takes.cls = RX7 ∧ yX7_takes.cls ≠ "java/lang/invoke/MethodHandle" ∧ yX7_takes.cls ≠ "java/lang/invoke/VarHandle" ∧ (parseMethodDescriptor yX7_takes.desc).map (fun d => d.parameters.length) = some 1 := ⟨rfl, by decide +kernel, by decide +kernel, by decide +kernel⟩
theorem pd_X7_word : yX7_word.cls = RX7 ∧ yX7_word.cls ≠ "java/lang/invoke/MethodHandle" ∧ yX7_word.cls ≠ "java/lang/invoke/VarHandle" ∧ (parseMethodDescriptor yX7_word.desc).map (fun d => d.parameters.length) = some 0 := ⟨rfl, by decide +kernel, by decide +kernel, by decide +kernel⟩
theorem pd_X8_pop : yX8_pop.cls = RX8 ∧ yX8_pop.cls ≠ "java/lang/invoke/MethodHandle" ∧ yX8_pop.cls ≠ "java/lang/invoke/VarHandle" ∧ (parseMethodDescriptor yX8_pop.desc).map (fun d => d.parameters.length) = some 1 := ⟨rfl, by decide +kernel, by decide +kernel, by decide +kernel⟩
theorem pd_X8_push : yX8_push.cls = RX8 ∧ yX8_push.cls ≠ "java/lang/invoke/MethodHandle" ∧ yX8_push.cls ≠ "java/lang/invoke/VarHandle" ∧ (parseMethodDescriptor yX8_push.desc).map (fun d => d.parameters.length) = some 1 := ⟨rfl, by decide +kernel, by decide +kernel, by decide +kernel⟩
theorem pd_X8_take : yX8_take.cls = RX8 ∧ yX8_take.cls ≠ "java/lang/invoke/MethodHandle" ∧ yX8_take.cls ≠ "java/lang/invoke/VarHandle" ∧ (parseMethodDescriptor yX8_take.desc).map (fun d => d.parameters.length) = some 1 := ⟨rfl, by decide +kernel, by decide +kernel, by decide +kernel⟩
theorem pd_X9_abbey : yX9_abbey.cls = RX9 ∧ yX9_abbey.cls ≠ "java/lang/invoke/MethodHandle" ∧ yX9_abbey.cls ≠ "java/lang/invoke/VarHandle" ∧ (parseMethodDescriptor yX9_abbey.desc).map (fun d => d.parameters.length) = some 1 := ⟨rfl, by decide +kernel, by decide +kernel, by decide +kernel⟩
theorem pd_X9_ahead : yX9_ahead.cls = RX9 ∧ yX9_ahead.cls ≠ "java/lang/invoke/MethodHandle" ∧ yX9_ahead.cls ≠ "java/lang/invoke/VarHandle" ∧ (parseMethodDescriptor yX9_ahead.desc).map (fun d => d.parameters.length) = some 2 := ⟨rfl, by decide +kernel, by decide +kernel, by decide +kernel⟩
theorem pd_X9_at : yX9_at.cls = RX9 ∧ yX9_at.cls ≠ "java/lang/invoke/MethodHandle" ∧ yX9_at.cls ≠ "java/lang/invoke/VarHandle" ∧ (parseMethodDescriptor yX9_at.desc).map (fun d => d.parameters.length) = some 2 := ⟨rfl, by decide +kernel, by decide +kernel, by decide +kernel⟩
theorem pd_X9_bears : yX9_bears.cls = RX9 ∧ yX9_bears.cls ≠ "java/lang/invoke/MethodHandle" ∧ yX9_bears.cls ≠ "java/lang/invoke/VarHandle" ∧ (parseMethodDescriptor yX9_bears.desc).map (fun d => d.parameters.length) = some 2 := ⟨rfl, by decide +kernel, by decide +kernel, by decide +kernel⟩
theorem pd_X9_bed : yX9_bed.cls = RX9 ∧ yX9_bed.cls ≠ "java/lang/invoke/MethodHandle" ∧ yX9_bed.cls ≠ "java/lang/invoke/VarHandle" ∧ (parseMethodDescriptor yX9_bed.desc).map (fun d => d.parameters.length) = some 2 := ⟨rfl, by decide +kernel, by decide +kernel, by decide +kernel⟩
theorem pd_X9_beds : yX9_beds.cls = RX9 ∧ yX9_beds.cls ≠ "java/lang/invoke/MethodHandle" ∧ yX9_beds.cls ≠ "java/lang/invoke/VarHandle" ∧ (parseMethodDescriptor yX9_beds.desc).map (fun d => d.parameters.length) = some 1 := ⟨rfl, by decide +kernel, by decide +kernel, by decide +kernel⟩
theorem pd_X9_beginAnew : yX9_beginAnew.cls = RX9 ∧ yX9_beginAnew.cls ≠ "java/lang/invoke/MethodHandle" ∧ yX9_beginAnew.cls ≠ "java/lang/invoke/VarHandle" ∧ (parseMethodDescriptor yX9_beginAnew.desc).map (fun d => d.parameters.length) = some 0 := ⟨rfl, by decide +kernel, by decide +kernel, by decide +kernel⟩
theorem pd_X9_best : yX9_best.cls = RX9 ∧ yX9_best.cls ≠ "java/lang/invoke/MethodHandle" ∧ yX9_best.cls ≠ "java/lang/invoke/VarHandle" ∧ (parseMethodDescriptor yX9_best.desc).map (fun d => d.parameters.length) = some 3 := ⟨rfl, by decide +kernel, by decide +kernel, by decide +kernel⟩
theorem pd_X9_bidsAsDigits : yX9_bidsAsDigits.cls = RX9 ∧ yX9_bidsAsDigits.cls ≠ "java/lang/invoke/MethodHandle" ∧ yX9_bidsAsDigits.cls ≠ "java/lang/invoke/VarHandle" ∧ (parseMethodDescriptor yX9_bidsAsDigits.desc).map (fun d => d.parameters.length) = some 0 := ⟨rfl, by decide +kernel, by decide +kernel, by decide +kernel⟩
theorem pd_X9_book : yX9_book.cls = RX9 ∧ yX9_book.cls ≠ "java/lang/invoke/MethodHandle" ∧ yX9_book.cls ≠ "java/lang/invoke/VarHandle" ∧ (parseMethodDescriptor yX9_book.desc).map (fun d => d.parameters.length) = some 1 := ⟨rfl, by decide +kernel, by decide +kernel, by decide +kernel⟩
theorem pd_X9_cell : yX9_cell.cls = RX9 ∧ yX9_cell.cls ≠ "java/lang/invoke/MethodHandle" ∧ yX9_cell.cls ≠ "java/lang/invoke/VarHandle" ∧ (parseMethodDescriptor yX9_cell.desc).map (fun d => d.parameters.length) = some 1 := ⟨rfl, by decide +kernel, by decide +kernel, by decide +kernel⟩
theorem pd_X9_choices : yX9_choices.cls = RX9 ∧ yX9_choices.cls ≠ "java/lang/invoke/MethodHandle" ∧ yX9_choices.cls ≠ "java/lang/invoke/VarHandle" ∧ (parseMethodDescriptor yX9_choices.desc).map (fun d => d.parameters.length) = some 2 := ⟨rfl, by decide +kernel, by decide +kernel, by decide +kernel⟩
theorem pd_X9_count : yX9_count.cls = RX9 ∧ yX9_count.cls ≠ "java/lang/invoke/MethodHandle" ∧ yX9_count.cls ≠ "java/lang/invoke/VarHandle" ∧ (parseMethodDescriptor yX9_count.desc).map (fun d => d.parameters.length) = some 1 := ⟨rfl, by decide +kernel, by decide +kernel, by decide +kernel⟩
theorem pd_X9_doStep : yX9_doStep.cls = RX9 ∧ yX9_doStep.cls ≠ "java/lang/invoke/MethodHandle" ∧ yX9_doStep.cls ≠ "java/lang/invoke/VarHandle" ∧ (parseMethodDescriptor yX9_doStep.desc).map (fun d => d.parameters.length) = some 3 := ⟨rfl, by decide +kernel, by decide +kernel, by decide +kernel⟩
theorem pd_X9_dullWays : yX9_dullWays.cls = RX9 ∧ yX9_dullWays.cls ≠ "java/lang/invoke/MethodHandle" ∧ yX9_dullWays.cls ≠ "java/lang/invoke/VarHandle" ∧ (parseMethodDescriptor yX9_dullWays.desc).map (fun d => d.parameters.length) = some 4 := ⟨rfl, by decide +kernel, by decide +kernel, by decide +kernel⟩
theorem pd_X9_findBeds : yX9_findBeds.cls = RX9 ∧ yX9_findBeds.cls ≠ "java/lang/invoke/MethodHandle" ∧ yX9_findBeds.cls ≠ "java/lang/invoke/VarHandle" ∧ (parseMethodDescriptor yX9_findBeds.desc).map (fun d => d.parameters.length) = some 1 := ⟨rfl, by decide +kernel, by decide +kernel, by decide +kernel⟩
theorem pd_X9_findFits : yX9_findFits.cls = RX9 ∧ yX9_findFits.cls ≠ "java/lang/invoke/MethodHandle" ∧ yX9_findFits.cls ≠ "java/lang/invoke/VarHandle" ∧ (parseMethodDescriptor yX9_findFits.desc).map (fun d => d.parameters.length) = some 0 := ⟨rfl, by decide +kernel, by decide +kernel, by decide +kernel⟩
theorem pd_X9_fits : yX9_fits.cls = RX9 ∧ yX9_fits.cls ≠ "java/lang/invoke/MethodHandle" ∧ yX9_fits.cls ≠ "java/lang/invoke/VarHandle" ∧ (parseMethodDescriptor yX9_fits.desc).map (fun d => d.parameters.length) = some 1 := ⟨rfl, by decide +kernel, by decide +kernel, by decide +kernel⟩
theorem pd_X9_grows : yX9_grows.cls = RX9 ∧ yX9_grows.cls ≠ "java/lang/invoke/MethodHandle" ∧ yX9_grows.cls ≠ "java/lang/invoke/VarHandle" ∧ (parseMethodDescriptor yX9_grows.desc).map (fun d => d.parameters.length) = some 1 := ⟨rfl, by decide +kernel, by decide +kernel, by decide +kernel⟩
theorem pd_X9_had : yX9_had.cls = RX9 ∧ yX9_had.cls ≠ "java/lang/invoke/MethodHandle" ∧ yX9_had.cls ≠ "java/lang/invoke/VarHandle" ∧ (parseMethodDescriptor yX9_had.desc).map (fun d => d.parameters.length) = some 2 := ⟨rfl, by decide +kernel, by decide +kernel, by decide +kernel⟩
theorem pd_X9_hadTogether : yX9_hadTogether.cls = RX9 ∧ yX9_hadTogether.cls ≠ "java/lang/invoke/MethodHandle" ∧ yX9_hadTogether.cls ≠ "java/lang/invoke/VarHandle" ∧ (parseMethodDescriptor yX9_hadTogether.desc).map (fun d => d.parameters.length) = some 1 := ⟨rfl, by decide +kernel, by decide +kernel, by decide +kernel⟩
theorem pd_X9_heir : yX9_heir.cls = RX9 ∧ yX9_heir.cls ≠ "java/lang/invoke/MethodHandle" ∧ yX9_heir.cls ≠ "java/lang/invoke/VarHandle" ∧ (parseMethodDescriptor yX9_heir.desc).map (fun d => d.parameters.length) = some 1 := ⟨rfl, by decide +kernel, by decide +kernel, by decide +kernel⟩
theorem pd_X9_heirs : yX9_heirs.cls = RX9 ∧ yX9_heirs.cls ≠ "java/lang/invoke/MethodHandle" ∧ yX9_heirs.cls ≠ "java/lang/invoke/VarHandle" ∧ (parseMethodDescriptor yX9_heirs.desc).map (fun d => d.parameters.length) = some 2 := ⟨rfl, by decide +kernel, by decide +kernel, by decide +kernel⟩
theorem pd_X9_hush : yX9_hush.cls = RX9 ∧ yX9_hush.cls ≠ "java/lang/invoke/MethodHandle" ∧ yX9_hush.cls ≠ "java/lang/invoke/VarHandle" ∧ (parseMethodDescriptor yX9_hush.desc).map (fun d => d.parameters.length) = some 1 := ⟨rfl, by decide +kernel, by decide +kernel, by decide +kernel⟩
theorem pd_X9_isRight : yX9_isRight.cls = RX9 ∧ yX9_isRight.cls ≠ "java/lang/invoke/MethodHandle" ∧ yX9_isRight.cls ≠ "java/lang/invoke/VarHandle" ∧ (parseMethodDescriptor yX9_isRight.desc).map (fun d => d.parameters.length) = some 2 := ⟨rfl, by decide +kernel, by decide +kernel, by decide +kernel⟩
theorem pd_X9_law : yX9_law.cls = RX9 ∧ yX9_law.cls ≠ "java/lang/invoke/MethodHandle" ∧ yX9_law.cls ≠ "java/lang/invoke/VarHandle" ∧ (parseMethodDescriptor yX9_law.desc).map (fun d => d.parameters.length) = some 1 := ⟨rfl, by decide +kernel, by decide +kernel, by decide +kernel⟩
theorem pd_X9_leastBed : yX9_leastBed.cls = RX9 ∧ yX9_leastBed.cls ≠ "java/lang/invoke/MethodHandle" ∧ yX9_leastBed.cls ≠ "java/lang/invoke/VarHandle" ∧ (parseMethodDescriptor yX9_leastBed.desc).map (fun d => d.parameters.length) = some 3 := ⟨rfl, by decide +kernel, by decide +kernel, by decide +kernel⟩
theorem pd_X9_level : yX9_level.cls = RX9 ∧ yX9_level.cls ≠ "java/lang/invoke/MethodHandle" ∧ yX9_level.cls ≠ "java/lang/invoke/VarHandle" ∧ (parseMethodDescriptor yX9_level.desc).map (fun d => d.parameters.length) = some 1 := ⟨rfl, by decide +kernel, by decide +kernel, by decide +kernel⟩
theorem pd_X9_loudest : yX9_loudest.cls = RX9 ∧ yX9_loudest.cls ≠ "java/lang/invoke/MethodHandle" ∧ yX9_loudest.cls ≠ "java/lang/invoke/VarHandle" ∧ (parseMethodDescriptor yX9_loudest.desc).map (fun d => d.parameters.length) = some 1 := ⟨rfl, by decide +kernel, by decide +kernel, by decide +kernel⟩
theorem pd_X9_many : yX9_many.cls = RX9 ∧ yX9_many.cls ≠ "java/lang/invoke/MethodHandle" ∧ yX9_many.cls ≠ "java/lang/invoke/VarHandle" ∧ (parseMethodDescriptor yX9_many.desc).map (fun d => d.parameters.length) = some 1 := ⟨rfl, by decide +kernel, by decide +kernel, by decide +kernel⟩
theorem pd_X9_mistaken : yX9_mistaken.cls = RX9 ∧ yX9_mistaken.cls ≠ "java/lang/invoke/MethodHandle" ∧ yX9_mistaken.cls ≠ "java/lang/invoke/VarHandle" ∧ (parseMethodDescriptor yX9_mistaken.desc).map (fun d => d.parameters.length) = some 6 := ⟨rfl, by decide +kernel, by decide +kernel, by decide +kernel⟩
theorem pd_X9_monk : yX9_monk.cls = RX9 ∧ yX9_monk.cls ≠ "java/lang/invoke/MethodHandle" ∧ yX9_monk.cls ≠ "java/lang/invoke/VarHandle" ∧ (parseMethodDescriptor yX9_monk.desc).map (fun d => d.parameters.length) = some 2 := ⟨rfl, by decide +kernel, by decide +kernel, by decide +kernel⟩
theorem pd_X9_needArgument : yX9_needArgument.cls = RX9 ∧ yX9_needArgument.cls ≠ "java/lang/invoke/MethodHandle" ∧ yX9_needArgument.cls ≠ "java/lang/invoke/VarHandle" ∧ (parseMethodDescriptor yX9_needArgument.desc).map (fun d => d.parameters.length) = some 1 := ⟨rfl, by decide +kernel, by decide +kernel, by decide +kernel⟩
theorem pd_X9_needOne : yX9_needOne.cls = RX9 ∧ yX9_needOne.cls ≠ "java/lang/invoke/MethodHandle" ∧ yX9_needOne.cls ≠ "java/lang/invoke/VarHandle" ∧ (parseMethodDescriptor yX9_needOne.desc).map (fun d => d.parameters.length) = some 2 := ⟨rfl, by decide +kernel, by decide +kernel, by decide +kernel⟩
theorem pd_X9_needReceipt : yX9_needReceipt.cls = RX9 ∧ yX9_needReceipt.cls ≠ "java/lang/invoke/MethodHandle" ∧ yX9_needReceipt.cls ≠ "java/lang/invoke/VarHandle" ∧ (parseMethodDescriptor yX9_needReceipt.desc).map (fun d => d.parameters.length) = some 3 := ⟨rfl, by decide +kernel, by decide +kernel, by decide +kernel⟩
theorem pd_X9_needYears : yX9_needYears.cls = RX9 ∧ yX9_needYears.cls ≠ "java/lang/invoke/MethodHandle" ∧ yX9_needYears.cls ≠ "java/lang/invoke/VarHandle" ∧ (parseMethodDescriptor yX9_needYears.desc).map (fun d => d.parameters.length) = some 4 := ⟨rfl, by decide +kernel, by decide +kernel, by decide +kernel⟩
theorem pd_X9_nextSeed : yX9_nextSeed.cls = RX9 ∧ yX9_nextSeed.cls ≠ "java/lang/invoke/MethodHandle" ∧ yX9_nextSeed.cls ≠ "java/lang/invoke/VarHandle" ∧ (parseMethodDescriptor yX9_nextSeed.desc).map (fun d => d.parameters.length) = some 1 := ⟨rfl, by decide +kernel, by decide +kernel, by decide +kernel⟩
theorem pd_X9_noise : yX9_noise.cls = RX9 ∧ yX9_noise.cls ≠ "java/lang/invoke/MethodHandle" ∧ yX9_noise.cls ≠ "java/lang/invoke/VarHandle" ∧ (parseMethodDescriptor yX9_noise.desc).map (fun d => d.parameters.length) = some 2 := ⟨rfl, by decide +kernel, by decide +kernel, by decide +kernel⟩
theorem pd_X9_passNight : yX9_passNight.cls = RX9 ∧ yX9_passNight.cls ≠ "java/lang/invoke/MethodHandle" ∧ yX9_passNight.cls ≠ "java/lang/invoke/VarHandle" ∧ (parseMethodDescriptor yX9_passNight.desc).map (fun d => d.parameters.length) = some 2 := ⟨rfl, by decide +kernel, by decide +kernel, by decide +kernel⟩
theorem pd_X9_plan : yX9_plan.cls = RX9 ∧ yX9_plan.cls ≠ "java/lang/invoke/MethodHandle" ∧ yX9_plan.cls ≠ "java/lang/invoke/VarHandle" ∧ (parseMethodDescriptor yX9_plan.desc).map (fun d => d.parameters.length) = some 4 := ⟨rfl, by decide +kernel, by decide +kernel, by decide +kernel⟩
theorem pd_X9_power : yX9_power.cls = RX9 ∧ yX9_power.cls ≠ "java/lang/invoke/MethodHandle" ∧ yX9_power.cls ≠ "java/lang/invoke/VarHandle" ∧ (parseMethodDescriptor yX9_power.desc).map (fun d => d.parameters.length) = some 2 := ⟨rfl, by decide +kernel, by decide +kernel, by decide +kernel⟩
theorem pd_X9_put : yX9_put.cls = RX9 ∧ yX9_put.cls ≠ "java/lang/invoke/MethodHandle" ∧ yX9_put.cls ≠ "java/lang/invoke/VarHandle" ∧ (parseMethodDescriptor yX9_put.desc).map (fun d => d.parameters.length) = some 3 := ⟨rfl, by decide +kernel, by decide +kernel, by decide +kernel⟩
theorem pd_X9_restsBy : yX9_restsBy.cls = RX9 ∧ yX9_restsBy.cls ≠ "java/lang/invoke/MethodHandle" ∧ yX9_restsBy.cls ≠ "java/lang/invoke/VarHandle" ∧ (parseMethodDescriptor yX9_restsBy.desc).map (fun d => d.parameters.length) = some 2 := ⟨rfl, by decide +kernel, by decide +kernel, by decide +kernel⟩
theorem pd_X9_runSteps : yX9_runSteps.cls = RX9 ∧ yX9_runSteps.cls ≠ "java/lang/invoke/MethodHandle" ∧ yX9_runSteps.cls ≠ "java/lang/invoke/VarHandle" ∧ (parseMethodDescriptor yX9_runSteps.desc).map (fun d => d.parameters.length) = some 3 := ⟨rfl, by decide +kernel, by decide +kernel, by decide +kernel⟩
theorem pd_X9_runYears : yX9_runYears.cls = RX9 ∧ yX9_runYears.cls ≠ "java/lang/invoke/MethodHandle" ∧ yX9_runYears.cls ≠ "java/lang/invoke/VarHandle" ∧ (parseMethodDescriptor yX9_runYears.desc).map (fun d => d.parameters.length) = some 5 := ⟨rfl, by decide +kernel, by decide +kernel, by decide +kernel⟩
theorem pd_X9_setBids : yX9_setBids.cls = RX9 ∧ yX9_setBids.cls ≠ "java/lang/invoke/MethodHandle" ∧ yX9_setBids.cls ≠ "java/lang/invoke/VarHandle" ∧ (parseMethodDescriptor yX9_setBids.desc).map (fun d => d.parameters.length) = some 2 := ⟨rfl, by decide +kernel, by decide +kernel, by decide +kernel⟩
theorem pd_X9_sixteenth : yX9_sixteenth.cls = RX9 ∧ yX9_sixteenth.cls ≠ "java/lang/invoke/MethodHandle" ∧ yX9_sixteenth.cls ≠ "java/lang/invoke/VarHandle" ∧ (parseMethodDescriptor yX9_sixteenth.desc).map (fun d => d.parameters.length) = some 1 := ⟨rfl, by decide +kernel, by decide +kernel, by decide +kernel⟩
theorem pd_X9_sleepWith : yX9_sleepWith.cls = RX9 ∧ yX9_sleepWith.cls ≠ "java/lang/invoke/MethodHandle" ∧ yX9_sleepWith.cls ≠ "java/lang/invoke/VarHandle" ∧ (parseMethodDescriptor yX9_sleepWith.desc).map (fun d => d.parameters.length) = some 4 := ⟨rfl, by decide +kernel, by decide +kernel, by decide +kernel⟩
theorem pd_X9_sleepers : yX9_sleepers.cls = RX9 ∧ yX9_sleepers.cls ≠ "java/lang/invoke/MethodHandle" ∧ yX9_sleepers.cls ≠ "java/lang/invoke/VarHandle" ∧ (parseMethodDescriptor yX9_sleepers.desc).map (fun d => d.parameters.length) = some 1 := ⟨rfl, by decide +kernel, by decide +kernel, by decide +kernel⟩
theorem pd_X9_span : yX9_span.cls = RX9 ∧ yX9_span.cls ≠ "java/lang/invoke/MethodHandle" ∧ yX9_span.cls ≠ "java/lang/invoke/VarHandle" ∧ (parseMethodDescriptor yX9_span.desc).map (fun d => d.parameters.length) = some 7 := ⟨rfl, by decide +kernel, by decide +kernel, by decide +kernel⟩
theorem pd_X9_staysQuiet : yX9_staysQuiet.cls = RX9 ∧ yX9_staysQuiet.cls ≠ "java/lang/invoke/MethodHandle" ∧ yX9_staysQuiet.cls ≠ "java/lang/invoke/VarHandle" ∧ (parseMethodDescriptor yX9_staysQuiet.desc).map (fun d => d.parameters.length) = some 4 := ⟨rfl, by decide +kernel, by decide +kernel, by decide +kernel⟩
theorem pd_X9_strokesOf : yX9_strokesOf.cls = RX9 ∧ yX9_strokesOf.cls ≠ "java/lang/invoke/MethodHandle" ∧ yX9_strokesOf.cls ≠ "java/lang/invoke/VarHandle" ∧ (parseMethodDescriptor yX9_strokesOf.desc).map (fun d => d.parameters.length) = some 2 := ⟨rfl, by decide +kernel, by decide +kernel, by decide +kernel⟩
theorem pd_X9_tensAsDigits : yX9_tensAsDigits.cls = RX9 ∧ yX9_tensAsDigits.cls ≠ "java/lang/invoke/MethodHandle" ∧ yX9_tensAsDigits.cls ≠ "java/lang/invoke/VarHandle" ∧ (parseMethodDescriptor yX9_tensAsDigits.desc).map (fun d => d.parameters.length) = some 2 := ⟨rfl, by decide +kernel, by decide +kernel, by decide +kernel⟩
theorem pd_X9_tensOf : yX9_tensOf.cls = RX9 ∧ yX9_tensOf.cls ≠ "java/lang/invoke/MethodHandle" ∧ yX9_tensOf.cls ≠ "java/lang/invoke/VarHandle" ∧ (parseMethodDescriptor yX9_tensOf.desc).map (fun d => d.parameters.length) = some 3 := ⟨rfl, by decide +kernel, by decide +kernel, by decide +kernel⟩
theorem pd_X9_tensTogether : yX9_tensTogether.cls = RX9 ∧ yX9_tensTogether.cls ≠ "java/lang/invoke/MethodHandle" ∧ yX9_tensTogether.cls ≠ "java/lang/invoke/VarHandle" ∧ (parseMethodDescriptor yX9_tensTogether.desc).map (fun d => d.parameters.length) = some 2 := ⟨rfl, by decide +kernel, by decide +kernel, by decide +kernel⟩
theorem pd_X9_told : yX9_told.cls = RX9 ∧ yX9_told.cls ≠ "java/lang/invoke/MethodHandle" ∧ yX9_told.cls ≠ "java/lang/invoke/VarHandle" ∧ (parseMethodDescriptor yX9_told.desc).map (fun d => d.parameters.length) = some 1 := ⟨rfl, by decide +kernel, by decide +kernel, by decide +kernel⟩
theorem pd_X9_village : yX9_village.cls = RX9 ∧ yX9_village.cls ≠ "java/lang/invoke/MethodHandle" ∧ yX9_village.cls ≠ "java/lang/invoke/VarHandle" ∧ (parseMethodDescriptor yX9_village.desc).map (fun d => d.parameters.length) = some 2 := ⟨rfl, by decide +kernel, by decide +kernel, by decide +kernel⟩
theorem pd_X9_wakes : yX9_wakes.cls = RX9 ∧ yX9_wakes.cls ≠ "java/lang/invoke/MethodHandle" ∧ yX9_wakes.cls ≠ "java/lang/invoke/VarHandle" ∧ (parseMethodDescriptor yX9_wakes.desc).map (fun d => d.parameters.length) = some 3 := ⟨rfl, by decide +kernel, by decide +kernel, by decide +kernel⟩
theorem pd_X9_watch : yX9_watch.cls = RX9 ∧ yX9_watch.cls ≠ "java/lang/invoke/MethodHandle" ∧ yX9_watch.cls ≠ "java/lang/invoke/VarHandle" ∧ (parseMethodDescriptor yX9_watch.desc).map (fun d => d.parameters.length) = some 2 := ⟨rfl, by decide +kernel, by decide +kernel, by decide +kernel⟩
theorem pd_X9_work : yX9_work.cls = RX9 ∧ yX9_work.cls ≠ "java/lang/invoke/MethodHandle" ∧ yX9_work.cls ≠ "java/lang/invoke/VarHandle" ∧ (parseMethodDescriptor yX9_work.desc).map (fun d => d.parameters.length) = some 1 := ⟨rfl, by decide +kernel, by decide +kernel, by decide +kernel⟩
theorem pd_X9_would : yX9_would.cls = RX9 ∧ yX9_would.cls ≠ "java/lang/invoke/MethodHandle" ∧ yX9_would.cls ≠ "java/lang/invoke/VarHandle" ∧ (parseMethodDescriptor yX9_would.desc).map (fun d => d.parameters.length) = some 7 := ⟨rfl, by decide +kernel, by decide +kernel, by decide +kernel⟩
theorem pd_X9_years : yX9_years.cls = RX9 ∧ yX9_years.cls ≠ "java/lang/invoke/MethodHandle" ∧ yX9_years.cls ≠ "java/lang/invoke/VarHandle" ∧ (parseMethodDescriptor yX9_years.desc).map (fun d => d.parameters.length) = some 6 := ⟨rfl, by decide +kernel, by decide +kernel, by decide +kernel⟩
