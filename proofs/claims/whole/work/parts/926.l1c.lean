theorem dX9_span_0 : decode cX9_span 0 = .ok (.aload_n 0, 1) := by decide +kernel
theorem dX9_span_1 : decode cX9_span 1 = .ok (.iload_n 3, 1) := by decide +kernel
theorem dX9_span_2 : decode cX9_span 2 = .ok (.iload 4, 2) := by decide +kernel
theorem dX9_span_4 : decode cX9_span 4 = .ok (.iload 5, 2) := by decide +kernel
theorem dX9_span_6 : decode cX9_span 6 = .ok (.iload 6, 2) := by decide +kernel
theorem dX9_span_8 : decode cX9_span 8 = .ok (.invokevirtual 282, 3) := by decide +kernel
theorem dX9_span_11 : decode cX9_span 11 = .ok (.aload_n 0, 1) := by decide +kernel
theorem dX9_span_12 : decode cX9_span 12 = .ok (.iload_n 2, 1) := by decide +kernel
theorem dX9_span_13 : decode cX9_span 13 = .ok (.iconst 1, 1) := by decide +kernel
theorem dX9_span_14 : decode cX9_span 14 = .ok (.if_icmp .lt 24, 3) := by decide +kernel
theorem dX9_span_17 : decode cX9_span 17 = .ok (.iload_n 2, 1) := by decide +kernel
theorem dX9_span_18 : decode cX9_span 18 = .ok (.bipush 20, 2) := by decide +kernel
theorem dX9_span_20 : decode cX9_span 20 = .ok (.if_icmp .gt 18, 3) := by decide +kernel
theorem dX9_span_23 : decode cX9_span 23 = .ok (.iload 7, 2) := by decide +kernel
theorem dX9_span_25 : decode cX9_span 25 = .ok (.ifCond .lt 13, 3) := by decide +kernel
theorem dX9_span_28 : decode cX9_span 28 = .ok (.iload 7, 2) := by decide +kernel
theorem dX9_span_30 : decode cX9_span 30 = .ok (.iconst 2, 1) := by decide +kernel
theorem dX9_span_31 : decode cX9_span 31 = .ok (.if_icmp .gt 7, 3) := by decide +kernel
theorem dX9_span_34 : decode cX9_span 34 = .ok (.iconst 1, 1) := by decide +kernel
theorem dX9_span_35 : decode cX9_span 35 = .ok (.goto 4, 3) := by decide +kernel
theorem dX9_span_38 : decode cX9_span 38 = .ok (.iconst 0, 1) := by decide +kernel
theorem dX9_span_39 : decode cX9_span 39 = .ok (.invokevirtual 128, 3) := by decide +kernel
theorem dX9_span_42 : decode cX9_span 42 = .ok (.ldc 253, 2) := by decide +kernel
theorem dX9_span_44 : decode cX9_span 44 = .ok (.istore 8, 2) := by decide +kernel
theorem dX9_span_46 : decode cX9_span 46 = .ok (.iconst 0, 1) := by decide +kernel
theorem dX9_span_47 : decode cX9_span 47 = .ok (.istore 9, 2) := by decide +kernel
theorem dX9_span_49 : decode cX9_span 49 = .ok (.iconst 0, 1) := by decide +kernel
theorem dX9_span_50 : decode cX9_span 50 = .ok (.istore 10, 2) := by decide +kernel
theorem dX9_span_52 : decode cX9_span 52 = .ok (.iconst 0, 1) := by decide +kernel
theorem dX9_span_53 : decode cX9_span 53 = .ok (.istore 11, 2) := by decide +kernel
theorem dX9_span_55 : decode cX9_span 55 = .ok (.iload 11, 2) := by decide +kernel
theorem dX9_span_57 : decode cX9_span 57 = .ok (.iload_n 2, 1) := by decide +kernel
theorem dX9_span_58 : decode cX9_span 58 = .ok (.if_icmp .ge 66, 3) := by decide +kernel
theorem dX9_span_61 : decode cX9_span 61 = .ok (.aload_n 0, 1) := by decide +kernel
theorem dX9_span_62 : decode cX9_span 62 = .ok (.iload_n 1, 1) := by decide +kernel
theorem dX9_span_63 : decode cX9_span 63 = .ok (.iload 11, 2) := by decide +kernel
theorem dX9_span_65 : decode cX9_span 65 = .ok (.iadd, 1) := by decide +kernel
theorem dX9_span_66 : decode cX9_span 66 = .ok (.iload_n 3, 1) := by decide +kernel
theorem dX9_span_67 : decode cX9_span 67 = .ok (.iload 4, 2) := by decide +kernel
theorem dX9_span_69 : decode cX9_span 69 = .ok (.iload 5, 2) := by decide +kernel
theorem dX9_span_71 : decode cX9_span 71 = .ok (.iload 6, 2) := by decide +kernel
theorem dX9_span_73 : decode cX9_span 73 = .ok (.invokevirtual 286, 3) := by decide +kernel
theorem dX9_span_76 : decode cX9_span 76 = .ok (.pop, 1) := by decide +kernel
theorem dX9_span_77 : decode cX9_span 77 = .ok (.iload 8, 2) := by decide +kernel
theorem dX9_span_79 : decode cX9_span 79 = .ok (.aload_n 0, 1) := by decide +kernel
theorem dX9_span_80 : decode cX9_span 80 = .ok (.getfield 60, 3) := by decide +kernel
theorem dX9_span_83 : decode cX9_span 83 = .ok (.getfield 174, 3) := by decide +kernel
theorem dX9_span_86 : decode cX9_span 86 = .ok (.invokestatic 290, 3) := by decide +kernel
theorem dX9_span_89 : decode cX9_span 89 = .ok (.istore 8, 2) := by decide +kernel
theorem dX9_span_91 : decode cX9_span 91 = .ok (.iload 9, 2) := by decide +kernel
theorem dX9_span_93 : decode cX9_span 93 = .ok (.aload_n 0, 1) := by decide +kernel
theorem dX9_span_94 : decode cX9_span 94 = .ok (.getfield 60, 3) := by decide +kernel
theorem dX9_span_97 : decode cX9_span 97 = .ok (.getfield 174, 3) := by decide +kernel
theorem dX9_span_100 : decode cX9_span 100 = .ok (.invokestatic 295, 3) := by decide +kernel
theorem dX9_span_103 : decode cX9_span 103 = .ok (.istore 9, 2) := by decide +kernel
theorem dX9_span_105 : decode cX9_span 105 = .ok (.aload_n 0, 1) := by decide +kernel
theorem dX9_span_106 : decode cX9_span 106 = .ok (.getfield 60, 3) := by decide +kernel
theorem dX9_span_109 : decode cX9_span 109 = .ok (.getfield 174, 3) := by decide +kernel
theorem dX9_span_112 : decode cX9_span 112 = .ok (.ifCond .ne 6, 3) := by decide +kernel
theorem dX9_span_115 : decode cX9_span 115 = .ok (.iinc 10 1, 3) := by decide +kernel
theorem dX9_span_118 : decode cX9_span 118 = .ok (.iinc 11 1, 3) := by decide +kernel
theorem dX9_span_121 : decode cX9_span 121 = .ok (.goto (-66), 3) := by decide +kernel
theorem dX9_span_124 : decode cX9_span 124 = .ok (.iload 7, 2) := by decide +kernel
theorem dX9_span_126 : decode cX9_span 126 = .ok (.lookupswitch 32 #[(0, 26), (1, 29)], 26) := by decide +kernel
theorem dX9_span_152 : decode cX9_span 152 = .ok (.iload 8, 2) := by decide +kernel
theorem dX9_span_154 : decode cX9_span 154 = .ok (.ireturn, 1) := by decide +kernel
theorem dX9_span_155 : decode cX9_span 155 = .ok (.iload 9, 2) := by decide +kernel
theorem dX9_span_157 : decode cX9_span 157 = .ok (.ireturn, 1) := by decide +kernel
theorem dX9_span_158 : decode cX9_span 158 = .ok (.iload 10, 2) := by decide +kernel
theorem dX9_span_160 : decode cX9_span 160 = .ok (.ireturn, 1) := by decide +kernel
abbrev mt_X9_span : AxM := (RX9, cX9_span, 12, (some .int), false, [])
theorem L1_X9_span_118 {g : AxG} {l : Launch} (hl0 : l.stackTraces = false) {res : AxT Int32} (N : Nat) (K55 : Nat → Int32 → Int32 → Int32 → Int32 → Int32 → Int32 → Int32 → Int32 → Int32 → Int32 → Int32 → AxS → Option (AxT Int32)) (hK55 : ∀ (v0 : Nat) (v1 : Int32) (v2 : Int32) (v3 : Int32) (v4 : Int32) (v5 : Int32) (v6 : Int32) (v7 : Int32) (v8 : Int32) (v9 : Int32) (v10 : Int32) (v11 : Int32) (S : AxS), K55 v0 v1 v2 v3 v4 v5 v6 v7 v8 v9 v10 v11 S = some res → AW g l (axRm (10) (axCs (axOI res)) (6 * axCs (axOI res))) mt_X9_span (axMQ g (axCs (axOI res)) (6 * axCs (axOI res)) (axOI res)) 0 0 S 55 [(0, .ref v0), (1, .int v1), (2, .int v2), (3, .int v3), (4, .int v4), (5, .int v5), (6, .int v6), (7, .int v7), (8, .int v8), (9, .int v9), (10, .int v10), (11, .int v11)] []) (v0 : Nat) (v1 : Int32) (v2 : Int32) (v3 : Int32) (v4 : Int32) (v5 : Int32) (v6 : Int32) (v7 : Int32) (v8 : Int32) (v9 : Int32) (v10 : Int32) (v11 : Int32) (S : AxS) (h : F_X9_span_118 N K55 v0 v1 v2 v3 v4 v5 v6 v7 v8 v9 v10 v11 S = some res) : AW g l (axRm (10) (axCs (axOI res)) (6 * axCs (axOI res))) mt_X9_span (axMQ g (axCs (axOI res)) (6 * axCs (axOI res)) (axOI res)) 0 0 S 118 [(0, .ref v0), (1, .int v1), (2, .int v2), (3, .int v3), (4, .int v4), (5, .int v5), (6, .int v6), (7, .int v7), (8, .int v8), (9, .int v9), (10, .int v10), (11, .int v11)] [] := by
  unfold F_X9_span_118 at h
  refine aw_iinc 11 [(11, .int (v11 + 1)), (0, .ref v0), (1, .int v1), (2, .int v2), (3, .int v3), (4, .int v4), (5, .int v5), (6, .int v6), (7, .int v7), (8, .int v8), (9, .int v9), (10, .int v10)] (v11 + 1) dX9_span_118 rfl rfl rfl rfl ?_
  refine aw_goto 55 dX9_span_121 (by decide) ?_
  refine aw_env [(0, .ref v0), (1, .int v1), (2, .int v2), (3, .int v3), (4, .int v4), (5, .int v5), (6, .int v6), (7, .int v7), (8, .int v8), (9, .int v9), (10, .int v10), (11, .int (v11 + 1))] [1, 2, 3, 4, 5, 6, 7, 8, 9, 10, 11, 0] rfl ?_
  exact hK55 v0 v1 v2 v3 v4 v5 v6 v7 v8 v9 v10 (v11 + 1) S h
theorem L1_X9_span_55b {g : AxG} {l : Launch} (hl0 : l.stackTraces = false) {res : AxT Int32} (N : Nat) (K55 : Nat → Int32 → Int32 → Int32 → Int32 → Int32 → Int32 → Int32 → Int32 → Int32 → Int32 → Int32 → AxS → Option (AxT Int32)) (hK55 : ∀ (v0 : Nat) (v1 : Int32) (v2 : Int32) (v3 : Int32) (v4 : Int32) (v5 : Int32) (v6 : Int32) (v7 : Int32) (v8 : Int32) (v9 : Int32) (v10 : Int32) (v11 : Int32) (S : AxS), K55 v0 v1 v2 v3 v4 v5 v6 v7 v8 v9 v10 v11 S = some res → AW g l (axRm (10) (axCs (axOI res)) (6 * axCs (axOI res))) mt_X9_span (axMQ g (axCs (axOI res)) (6 * axCs (axOI res)) (axOI res)) 0 0 S 55 [(0, .ref v0), (1, .int v1), (2, .int v2), (3, .int v3), (4, .int v4), (5, .int v5), (6, .int v6), (7, .int v7), (8, .int v8), (9, .int v9), (10, .int v10), (11, .int v11)] []) (v0 : Nat) (v1 : Int32) (v2 : Int32) (v3 : Int32) (v4 : Int32) (v5 : Int32) (v6 : Int32) (v7 : Int32) (v8 : Int32) (v9 : Int32) (v10 : Int32) (v11 : Int32) (S : AxS) (h : F_X9_span_55b N K55 v0 v1 v2 v3 v4 v5 v6 v7 v8 v9 v10 v11 S = some res) : AW g l (axRm (10) (axCs (axOI res)) (6 * axCs (axOI res))) mt_X9_span (axMQ g (axCs (axOI res)) (6 * axCs (axOI res)) (axOI res)) 0 0 S 55 [(0, .ref v0), (1, .int v1), (2, .int v2), (3, .int v3), (4, .int v4), (5, .int v5), (6, .int v6), (7, .int v7), (8, .int v8), (9, .int v9), (10, .int v10), (11, .int v11)] [] := by
  unfold F_X9_span_55b at h
  refine aw_iload 11 dX9_span_55 rfl ?_
  refine aw_iload_n 2 dX9_span_57 rfl rfl ?_
  refine aw_icmp_ge 124 dX9_span_58 (by decide) h (fun h => ?_) (fun h => ?_)
  · refine aw_iload 7 dX9_span_124 rfl ?_
    refine aw_case 0 h (fun h => ?_) (fun c1 h => ?_)
    · refine aw_lsw 152 (off := 26) dX9_span_126 (by decide) (by decide) (by decide) ?_
      refine aw_iload 8 dX9_span_152 rfl ?_
      exact aw_iretT dX9_span_154 rfl h
    refine aw_case 1 h (fun h => ?_) (fun c2 h => ?_)
    · refine aw_lsw 155 (off := 29) dX9_span_126 (by decide) (by decide) (by decide) ?_
      refine aw_iload 9 dX9_span_155 rfl ?_
      exact aw_iretT dX9_span_157 rfl h
    refine aw_lsw 158 (off := 32) dX9_span_126 (by decide) (by show Op.lookupswitch.offset [(0, 26), (1, 29)] 32 _ = _; rw [lv_osw c1 (by decide), lv_osw c2 (by decide)]; rfl) (by decide) ?_
    refine aw_iload 10 dX9_span_158 rfl ?_
    exact aw_iretT dX9_span_160 rfl h
  · refine aw_aload_n 0 dX9_span_61 rfl rfl ?_
    refine aw_iload_n 1 dX9_span_62 rfl rfl ?_
    refine aw_iload 11 dX9_span_63 rfl ?_
    refine aw_iadd dX9_span_65 ?_
    refine aw_iload_n 3 dX9_span_66 rfl rfl ?_
    refine aw_iload 4 dX9_span_67 rfl ?_
    refine aw_iload 5 dX9_span_69 rfl ?_
    refine aw_iload 6 dX9_span_71 rfl ?_
    obtain ⟨hL3, h⟩ := ax_is_spec h
    refine aw_doneI (rest := []) h (fun r9 S9 hF => aw_runV (As := [.int (v1 + v11), .int v3, .int v4, .int v5, .int v6]) (rest := []) (L1_X9_runYears N hF) axc9 hL3 wd_1248 wd_1245 wd_1247 wd_34 wd_87 pd_X9_runYears rfl (ax_rm (by omega) rfl) ax_hf0 (Nat.le_of_ble_eq_true rfl) rfl dX9_span_73) (fun x5 T4 h => ?_)
    refine aw_pop rfl dX9_span_76 ?_
    refine aw_iload 8 dX9_span_77 rfl ?_
    refine aw_aload_n 0 dX9_span_79 rfl rfl ?_
    refine aw_getR axc9 9 rfl rfl wd_462 dX9_span_80 h (fun a6 h => ?_)
    refine aw_getI axc5 0 rfl rfl wd_293 dX9_span_83 h (fun x7 h => ?_)
    refine aw_doneI (rest := []) h (fun r9 S9 hF => aw_runS (As := [.int v8, .int x7]) (rest := []) (L1_J9_min_7cf53 N hF) wd_563 wd_565 wd_562 wd_106 pd_J9_min_7cf53.2 rfl (ax_rm (by omega) rfl) ax_hf0 (Nat.le_of_ble_eq_true rfl) rfl dX9_span_86) (fun x9 T8 h => ?_)
    refine aw_istore [(8, .int x9), (0, .ref v0), (1, .int v1), (2, .int v2), (3, .int v3), (4, .int v4), (5, .int v5), (6, .int v6), (7, .int v7), (9, .int v9), (10, .int v10), (11, .int v11)] dX9_span_89 rfl rfl ?_
    refine aw_iload 9 dX9_span_91 rfl ?_
    refine aw_aload_n 1 dX9_span_93 rfl rfl ?_
    refine aw_getR axc9 9 rfl rfl wd_462 dX9_span_94 h (fun a10 h => ?_)
    refine aw_getI axc5 0 rfl rfl wd_293 dX9_span_97 h (fun x11 h => ?_)
    refine aw_doneI (rest := []) h (fun r9 S9 hF => aw_runS (As := [.int v9, .int x11]) (rest := []) (L1_J9_max_7cf53 N hF) wd_552 wd_550 wd_551 wd_106 pd_J9_max_7cf53.2 rfl (ax_rm (by omega) rfl) ax_hf0 (Nat.le_of_ble_eq_true rfl) rfl dX9_span_100) (fun x13 T12 h => ?_)
    refine aw_istore [(9, .int x13), (8, .int x9), (0, .ref v0), (1, .int v1), (2, .int v2), (3, .int v3), (4, .int v4), (5, .int v5), (6, .int v6), (7, .int v7), (10, .int v10), (11, .int v11)] dX9_span_103 rfl rfl ?_
    refine aw_aload_n 2 dX9_span_105 rfl rfl ?_
    refine aw_getR axc9 9 rfl rfl wd_462 dX9_span_106 h (fun a14 h => ?_)
    refine aw_getI axc5 0 rfl rfl wd_293 dX9_span_109 h (fun x15 h => ?_)
    refine aw_if_ne 118 dX9_span_112 (by decide) h (fun h => ?_) (fun h => ?_)
    · refine aw_env [(0, .ref v0), (1, .int v1), (2, .int v2), (3, .int v3), (4, .int v4), (5, .int v5), (6, .int v6), (7, .int v7), (8, .int x9), (9, .int x13), (10, .int v10), (11, .int v11)] [2, 3, 4, 5, 6, 7, 8, 9, 1, 0, 10, 11] rfl ?_
      exact L1_X9_span_118 hl0 N K55 hK55 v0 v1 v2 v3 v4 v5 v6 v7 x9 x13 v10 v11 T12 h
    · refine aw_iinc 10 [(10, .int (v10 + 1)), (9, .int x13), (8, .int x9), (0, .ref v0), (1, .int v1), (2, .int v2), (3, .int v3), (4, .int v4), (5, .int v5), (6, .int v6), (7, .int v7), (11, .int v11)] (v10 + 1) dX9_span_115 rfl rfl rfl rfl ?_
      refine aw_env [(0, .ref v0), (1, .int v1), (2, .int v2), (3, .int v3), (4, .int v4), (5, .int v5), (6, .int v6), (7, .int v7), (8, .int x9), (9, .int x13), (10, .int (v10 + 1)), (11, .int v11)] [3, 4, 5, 6, 7, 8, 9, 10, 2, 1, 0, 11] rfl ?_
      exact L1_X9_span_118 hl0 N K55 hK55 v0 v1 v2 v3 v4 v5 v6 v7 x9 x13 (v10 + 1) v11 T12 h
theorem L1_X9_span_55 {g : AxG} {l : Launch} (hl0 : l.stackTraces = false) {res : AxT Int32} (N : Nat)  : ∀ (n : Nat) (v0 : Nat) (v1 : Int32) (v2 : Int32) (v3 : Int32) (v4 : Int32) (v5 : Int32) (v6 : Int32) (v7 : Int32) (v8 : Int32) (v9 : Int32) (v10 : Int32) (v11 : Int32) (S : AxS), F_X9_span_55 N  n v0 v1 v2 v3 v4 v5 v6 v7 v8 v9 v10 v11 S = some res → AW g l (axRm (10) (axCs (axOI res)) (6 * axCs (axOI res))) mt_X9_span (axMQ g (axCs (axOI res)) (6 * axCs (axOI res)) (axOI res)) 0 0 S 55 [(0, .ref v0), (1, .int v1), (2, .int v2), (3, .int v3), (4, .int v4), (5, .int v5), (6, .int v6), (7, .int v7), (8, .int v8), (9, .int v9), (10, .int v10), (11, .int v11)] [] := by
  intro n
  induction n with
  | zero => intro v0 v1 v2 v3 v4 v5 v6 v7 v8 v9 v10 v11 S h; cases h
  | succ n ih => intro v0 v1 v2 v3 v4 v5 v6 v7 v8 v9 v10 v11 S h; exact L1_X9_span_55b hl0 N (F_X9_span_55 N  n) ih v0 v1 v2 v3 v4 v5 v6 v7 v8 v9 v10 v11 S h
theorem L1_X9_span_39 {g : AxG} {l : Launch} (hl0 : l.stackTraces = false) {res : AxT Int32} (N : Nat)  (v0 : Nat) (v1 : Int32) (v2 : Int32) (v3 : Int32) (v4 : Int32) (v5 : Int32) (v6 : Int32) (v7 : Int32) (w0 : Int32) (w1 : Nat) (S : AxS) (h : F_X9_span_39 N  v0 v1 v2 v3 v4 v5 v6 v7 w0 w1 S = some res) : AW g l (axRm (10) (axCs (axOI res)) (6 * axCs (axOI res))) mt_X9_span (axMQ g (axCs (axOI res)) (6 * axCs (axOI res)) (axOI res)) 0 0 S 39 [(0, .ref v0), (1, .int v1), (2, .int v2), (3, .int v3), (4, .int v4), (5, .int v5), (6, .int v6), (7, .int v7)] [.int w0, .ref w1] := by
  unfold F_X9_span_39 at h
  obtain ⟨hL1, h⟩ := ax_is_spec h
  refine aw_thV (ob := axOI) (rest := []) (fun _ _ => rfl) rfl h (fun u9 hF hu => aw_runV (As := [.int w0]) (rest := []) (L1_X9_needArgument hl0 N hF) axc9 hL1 wd_604 wd_601 wd_603 wd_3 wd_87 pd_X9_needArgument rfl (ax_rm (by omega) rfl) (ax_hfV (fun _ _ => rfl) hu) (Nat.le_of_ble_eq_true rfl) rfl dX9_span_39) (fun T2 h => ?_)
  refine aw_ldcI wd_1020 dX9_span_42 ?_
  refine aw_istore [(8, .int 99999), (0, .ref v0), (1, .int v1), (2, .int v2), (3, .int v3), (4, .int v4), (5, .int v5), (6, .int v6), (7, .int v7)] dX9_span_44 rfl rfl ?_
  refine aw_iconst 0 dX9_span_46 rfl ?_
  refine aw_istore [(9, .int 0), (8, .int 99999), (0, .ref v0), (1, .int v1), (2, .int v2), (3, .int v3), (4, .int v4), (5, .int v5), (6, .int v6), (7, .int v7)] dX9_span_47 rfl rfl ?_
  refine aw_iconst 0 dX9_span_49 rfl ?_
  refine aw_istore [(10, .int 0), (9, .int 0), (8, .int 99999), (0, .ref v0), (1, .int v1), (2, .int v2), (3, .int v3), (4, .int v4), (5, .int v5), (6, .int v6), (7, .int v7)] dX9_span_50 rfl rfl ?_
  refine aw_iconst 0 dX9_span_52 rfl ?_
  refine aw_istore [(11, .int 0), (10, .int 0), (9, .int 0), (8, .int 99999), (0, .ref v0), (1, .int v1), (2, .int v2), (3, .int v3), (4, .int v4), (5, .int v5), (6, .int v6), (7, .int v7)] dX9_span_53 rfl rfl ?_
  refine aw_env [(0, .ref v0), (1, .int v1), (2, .int v2), (3, .int v3), (4, .int v4), (5, .int v5), (6, .int v6), (7, .int v7), (8, .int 99999), (9, .int 0), (10, .int 0), (11, .int 0)] [4, 5, 6, 7, 8, 9, 10, 11, 3, 2, 1, 0] rfl ?_
  exact L1_X9_span_55 hl0 N  N v0 v1 v2 v3 v4 v5 v6 v7 99999 0 0 0 T2 h
theorem L1_X9_span_38 {g : AxG} {l : Launch} (hl0 : l.stackTraces = false) {res : AxT Int32} (N : Nat)  (v0 : Nat) (v1 : Int32) (v2 : Int32) (v3 : Int32) (v4 : Int32) (v5 : Int32) (v6 : Int32) (v7 : Int32) (w0 : Nat) (S : AxS) (h : F_X9_span_38 N  v0 v1 v2 v3 v4 v5 v6 v7 w0 S = some res) : AW g l (axRm (10) (axCs (axOI res)) (6 * axCs (axOI res))) mt_X9_span (axMQ g (axCs (axOI res)) (6 * axCs (axOI res)) (axOI res)) 0 0 S 38 [(0, .ref v0), (1, .int v1), (2, .int v2), (3, .int v3), (4, .int v4), (5, .int v5), (6, .int v6), (7, .int v7)] [.ref w0] := by
  unfold F_X9_span_38 at h
  refine aw_iconst 0 dX9_span_38 rfl ?_
  refine aw_env [(0, .ref v0), (1, .int v1), (2, .int v2), (3, .int v3), (4, .int v4), (5, .int v5), (6, .int v6), (7, .int v7)] [0, 1, 2, 3, 4, 5, 6, 7] rfl ?_
  exact L1_X9_span_39 hl0 N  v0 v1 v2 v3 v4 v5 v6 v7 0 w0 S h
theorem L1_X9_span {g : AxG} {l : Launch} (hl0 : l.stackTraces = false) (N : Nat) {v0 : Nat} {v1 : Int32} {v2 : Int32} {v3 : Int32} {v4 : Int32} {v5 : Int32} {v6 : Int32} {v7 : Int32} {S : AxS} {res : AxT Int32} (h : F_X9_span N v0 v1 v2 v3 v4 v5 v6 v7 S = some res) : AxMet g l yX9_span cX9_span 12 (some .int) (10) (axCs (axOI res)) (6 * axCs (axOI res)) [.ref v0, .int v1, .int v2, .int v3, .int v4, .int v5, .int v6, .int v7] S (axOI res) := by
  refine ax_met (own := RX9) (ini := false) (by decide +kernel) rfl (fun h => nomatch h) rfl ?_
  show AW g l (axRm (10) (axCs (axOI res)) (6 * axCs (axOI res))) mt_X9_span (axMQ g (axCs (axOI res)) (6 * axCs (axOI res)) (axOI res)) 0 0 S 0 [(0, .ref v0), (1, .int v1), (2, .int v2), (3, .int v3), (4, .int v4), (5, .int v5), (6, .int v6), (7, .int v7)] []
  unfold F_X9_span at h
  refine aw_aload_n 0 dX9_span_0 rfl rfl ?_
  refine aw_iload_n 3 dX9_span_1 rfl rfl ?_
  refine aw_iload 4 dX9_span_2 rfl ?_
  refine aw_iload 5 dX9_span_4 rfl ?_
  refine aw_iload 6 dX9_span_6 rfl ?_
  obtain ⟨hL1, h⟩ := ax_is_spec h
  refine aw_thV (ob := axOI) (rest := []) (fun _ _ => rfl) rfl h (fun u9 hF hu => aw_runV (As := [.int v3, .int v4, .int v5, .int v6]) (rest := []) (L1_X9_needYears hl0 N hF) axc9 hL1 wd_1244 wd_1241 wd_1243 wd_33 wd_87 pd_X9_needYears rfl (ax_rm (by omega) rfl) (ax_hfV (fun _ _ => rfl) hu) (Nat.le_of_ble_eq_true rfl) rfl dX9_span_8) (fun T2 h => ?_)
  refine aw_aload_n 0 dX9_span_11 rfl rfl ?_
  refine aw_iload_n 2 dX9_span_12 rfl rfl ?_
  refine aw_iconst 1 dX9_span_13 rfl ?_
  refine aw_icmp_lt 38 dX9_span_14 (by decide) h (fun h => ?_) (fun h => ?_)
  · refine aw_env [(0, .ref v0), (1, .int v1), (2, .int v2), (3, .int v3), (4, .int v4), (5, .int v5), (6, .int v6), (7, .int v7)] [0, 1, 2, 3, 4, 5, 6, 7] rfl ?_
    exact L1_X9_span_38 hl0 N  v0 v1 v2 v3 v4 v5 v6 v7 v0 T2 h
  · refine aw_iload_n 2 dX9_span_17 rfl rfl ?_
    refine aw_bipush 20 dX9_span_18 (by decide) ?_
    refine aw_icmp_gt 38 dX9_span_20 (by decide) h (fun h => ?_) (fun h => ?_)
    · refine aw_env [(0, .ref v0), (1, .int v1), (2, .int v2), (3, .int v3), (4, .int v4), (5, .int v5), (6, .int v6), (7, .int v7)] [0, 1, 2, 3, 4, 5, 6, 7] rfl ?_
      exact L1_X9_span_38 hl0 N  v0 v1 v2 v3 v4 v5 v6 v7 v0 T2 h
    · refine aw_iload 7 dX9_span_23 rfl ?_
      refine aw_if_lt 38 dX9_span_25 (by decide) h (fun h => ?_) (fun h => ?_)
      · refine aw_env [(0, .ref v0), (1, .int v1), (2, .int v2), (3, .int v3), (4, .int v4), (5, .int v5), (6, .int v6), (7, .int v7)] [0, 1, 2, 3, 4, 5, 6, 7] rfl ?_
        exact L1_X9_span_38 hl0 N  v0 v1 v2 v3 v4 v5 v6 v7 v0 T2 h
      · refine aw_iload 7 dX9_span_28 rfl ?_
        refine aw_iconst 2 dX9_span_30 rfl ?_
        refine aw_icmp_gt 38 dX9_span_31 (by decide) h (fun h => ?_) (fun h => ?_)
        · refine aw_env [(0, .ref v0), (1, .int v1), (2, .int v2), (3, .int v3), (4, .int v4), (5, .int v5), (6, .int v6), (7, .int v7)] [0, 1, 2, 3, 4, 5, 6, 7] rfl ?_
          exact L1_X9_span_38 hl0 N  v0 v1 v2 v3 v4 v5 v6 v7 v0 T2 h
        · refine aw_iconst 1 dX9_span_34 rfl ?_
          refine aw_goto 39 dX9_span_35 (by decide) ?_
          refine aw_env [(0, .ref v0), (1, .int v1), (2, .int v2), (3, .int v3), (4, .int v4), (5, .int v5), (6, .int v6), (7, .int v7)] [0, 1, 2, 3, 4, 5, 6, 7] rfl ?_
          exact L1_X9_span_39 hl0 N  v0 v1 v2 v3 v4 v5 v6 v7 1 v0 T2 h

theorem dX9_isRight_0 : decode cX9_isRight 0 = .ok (.aload_n 0, 1) := by decide +kernel
theorem dX9_isRight_1 : decode cX9_isRight 1 = .ok (.getfield 60, 3) := by decide +kernel
theorem dX9_isRight_4 : decode cX9_isRight 4 = .ok (.aload_n 0, 1) := by decide +kernel
theorem dX9_isRight_5 : decode cX9_isRight 5 = .ok (.getfield 19, 3) := by decide +kernel
theorem dX9_isRight_8 : decode cX9_isRight 8 = .ok (.invokevirtual 107, 3) := by decide +kernel
theorem dX9_isRight_11 : decode cX9_isRight 11 = .ok (.aload_n 0, 1) := by decide +kernel
theorem dX9_isRight_12 : decode cX9_isRight 12 = .ok (.getfield 60, 3) := by decide +kernel
theorem dX9_isRight_15 : decode cX9_isRight 15 = .ok (.iload_n 1, 1) := by decide +kernel
theorem dX9_isRight_16 : decode cX9_isRight 16 = .ok (.putfield 174, 3) := by decide +kernel
theorem dX9_isRight_19 : decode cX9_isRight 19 = .ok (.iconst 0, 1) := by decide +kernel
theorem dX9_isRight_20 : decode cX9_isRight 20 = .ok (.istore_n 3, 1) := by decide +kernel
theorem dX9_isRight_21 : decode cX9_isRight 21 = .ok (.iload_n 3, 1) := by decide +kernel
theorem dX9_isRight_22 : decode cX9_isRight 22 = .ok (.bipush 60, 2) := by decide +kernel
theorem dX9_isRight_24 : decode cX9_isRight 24 = .ok (.if_icmp .ge 75, 3) := by decide +kernel
theorem dX9_isRight_27 : decode cX9_isRight 27 = .ok (.aload_n 0, 1) := by decide +kernel
theorem dX9_isRight_28 : decode cX9_isRight 28 = .ok (.aload_n 0, 1) := by decide +kernel
theorem dX9_isRight_29 : decode cX9_isRight 29 = .ok (.getfield 60, 3) := by decide +kernel
theorem dX9_isRight_32 : decode cX9_isRight 32 = .ok (.iconst 0, 1) := by decide +kernel
theorem dX9_isRight_33 : decode cX9_isRight 33 = .ok (.invokevirtual 230, 3) := by decide +kernel
theorem dX9_isRight_36 : decode cX9_isRight 36 = .ok (.istore 4, 2) := by decide +kernel
theorem dX9_isRight_38 : decode cX9_isRight 38 = .ok (.aload_n 0, 1) := by decide +kernel
theorem dX9_isRight_39 : decode cX9_isRight 39 = .ok (.getfield 39, 3) := by decide +kernel
theorem dX9_isRight_42 : decode cX9_isRight 42 = .ok (.getfield 441, 3) := by decide +kernel
theorem dX9_isRight_45 : decode cX9_isRight 45 = .ok (.iload_n 3, 1) := by decide +kernel
theorem dX9_isRight_46 : decode cX9_isRight 46 = .ok (.invokestatic 223, 3) := by decide +kernel
theorem dX9_isRight_49 : decode cX9_isRight 49 = .ok (.istore 5, 2) := by decide +kernel
theorem dX9_isRight_51 : decode cX9_isRight 51 = .ok (.iload 5, 2) := by decide +kernel
theorem dX9_isRight_53 : decode cX9_isRight 53 = .ok (.iconst (-1), 1) := by decide +kernel
theorem dX9_isRight_54 : decode cX9_isRight 54 = .ok (.if_icmp .eq 12, 3) := by decide +kernel
theorem dX9_isRight_57 : decode cX9_isRight 57 = .ok (.iload 5, 2) := by decide +kernel
theorem dX9_isRight_59 : decode cX9_isRight 59 = .ok (.iload 4, 2) := by decide +kernel
theorem dX9_isRight_61 : decode cX9_isRight 61 = .ok (.if_icmp .eq 5, 3) := by decide +kernel
theorem dX9_isRight_64 : decode cX9_isRight 64 = .ok (.iconst 0, 1) := by decide +kernel
theorem dX9_isRight_65 : decode cX9_isRight 65 = .ok (.ireturn, 1) := by decide +kernel
theorem dX9_isRight_66 : decode cX9_isRight 66 = .ok (.aload_n 0, 1) := by decide +kernel
theorem dX9_isRight_67 : decode cX9_isRight 67 = .ok (.getfield 79, 3) := by decide +kernel
theorem dX9_isRight_70 : decode cX9_isRight 70 = .ok (.getfield 444, 3) := by decide +kernel
theorem dX9_isRight_73 : decode cX9_isRight 73 = .ok (.iload_n 3, 1) := by decide +kernel
theorem dX9_isRight_74 : decode cX9_isRight 74 = .ok (.iload 4, 2) := by decide +kernel
theorem dX9_isRight_76 : decode cX9_isRight 76 = .ok (.invokestatic 380, 3) := by decide +kernel
theorem dX9_isRight_79 : decode cX9_isRight 79 = .ok (.aload_n 0, 1) := by decide +kernel
theorem dX9_isRight_80 : decode cX9_isRight 80 = .ok (.getfield 60, 3) := by decide +kernel
theorem dX9_isRight_83 : decode cX9_isRight 83 = .ok (.iload 4, 2) := by decide +kernel
theorem dX9_isRight_85 : decode cX9_isRight 85 = .ok (.aload_n 0, 1) := by decide +kernel
theorem dX9_isRight_86 : decode cX9_isRight 86 = .ok (.getfield 19, 3) := by decide +kernel
theorem dX9_isRight_89 : decode cX9_isRight 89 = .ok (.iload_n 2, 1) := by decide +kernel
theorem dX9_isRight_90 : decode cX9_isRight 90 = .ok (.invokevirtual 387, 3) := by decide +kernel
theorem dX9_isRight_93 : decode cX9_isRight 93 = .ok (.iinc 3 1, 3) := by decide +kernel
theorem dX9_isRight_96 : decode cX9_isRight 96 = .ok (.goto (-75), 3) := by decide +kernel
theorem dX9_isRight_99 : decode cX9_isRight 99 = .ok (.iconst 1, 1) := by decide +kernel
theorem dX9_isRight_100 : decode cX9_isRight 100 = .ok (.ireturn, 1) := by decide +kernel
abbrev mt_X9_isRight : AxM := (RX9, cX9_isRight, 6, (some .boolean), false, [])
theorem L1_X9_isRight_66 {g : AxG} {l : Launch} {r9 : Int32} {S9 : AxS} (N : Nat) (K21 : Nat → Int32 → Int32 → AxS → Option (Int32 × AxS)) (hK21 : ∀ (v0 : Nat) (v2 : Int32) (v3 : Int32) (S : AxS), K21 v0 v2 v3 S = some ((r9, S9)) → AW g l (axRm (4) 0 0) mt_X9_isRight (axMQ g 0 0 (.inl (some (.int r9)), S9)) 0 0 S 21 [(0, .ref v0), (2, .int v2), (3, .int v3)] []) (v0 : Nat) (v2 : Int32) (v3 : Int32) (v4 : Int32) (S : AxS) (h : F_X9_isRight_66 N K21 v0 v2 v3 v4 S = some ((r9, S9))) : AW g l (axRm (4) 0 0) mt_X9_isRight (axMQ g 0 0 (.inl (some (.int r9)), S9)) 0 0 S 66 [(0, .ref v0), (2, .int v2), (3, .int v3), (4, .int v4)] [] := by
  unfold F_X9_isRight_66 at h
  refine aw_aload_n 0 dX9_isRight_66 rfl rfl ?_
  refine aw_getR axc9 16 rfl rfl wd_469 dX9_isRight_67 h (fun a1 h => ?_)
  refine aw_getR axc2 7 rfl rfl wd_390 dX9_isRight_70 h (fun a2 h => ?_)
  refine aw_iload_n 2 dX9_isRight_73 rfl rfl ?_
  refine aw_iload 3 dX9_isRight_74 rfl ?_
  refine aw_doneV (rest := []) h (fun S9 hF => aw_runS (As := [.ref a2, .int v3, .int v4]) (rest := []) (L1_X9_put N hF) wd_443 wd_918 wd_442 wd_87 pd_X9_put.2 rfl (ax_rm (by omega) rfl) ax_hf0 (Nat.le_of_ble_eq_true rfl) rfl dX9_isRight_76) (fun T3 h => ?_)
  refine aw_aload_n 0 dX9_isRight_79 rfl rfl ?_
  refine aw_getR axc9 9 rfl rfl wd_462 dX9_isRight_80 h (fun a5 h => ?_)
  refine aw_iload 3 dX9_isRight_83 rfl ?_
  refine aw_aload_n 0 dX9_isRight_85 rfl rfl ?_
  refine aw_getR axc9 1 rfl rfl wd_454 dX9_isRight_86 h (fun a6 h => ?_)
  refine aw_iload_n 1 dX9_isRight_89 rfl rfl ?_
  obtain ⟨hL7, h⟩ := ax_is_spec h
  refine aw_doneV (rest := []) h (fun S9 hF => aw_runV (As := [.int v4, .ref a6, .int v2]) (rest := []) (L1_X5_turn N hF) axc5 hL7 wd_922 wd_919 wd_920 wd_921 wd_93 pd_X5_turn rfl (ax_rm (by omega) rfl) ax_hf0 (Nat.le_of_ble_eq_true rfl) rfl dX9_isRight_90) (fun T8 h => ?_)
  refine aw_iinc 2 [(3, .int (v3 + 1)), (0, .ref v0), (2, .int v2), (4, .int v4)] (v3 + 1) dX9_isRight_93 rfl rfl rfl rfl ?_
  refine aw_goto 21 dX9_isRight_96 (by decide) ?_
  refine aw_env [(0, .ref v0), (2, .int v2), (3, .int (v3 + 1))] [1, 2, 0] rfl ?_
  exact hK21 v0 v2 (v3 + 1) T8 h
theorem L1_X9_isRight_21b {g : AxG} {l : Launch} {r9 : Int32} {S9 : AxS} (N : Nat) (K21 : Nat → Int32 → Int32 → AxS → Option (Int32 × AxS)) (hK21 : ∀ (v0 : Nat) (v2 : Int32) (v3 : Int32) (S : AxS), K21 v0 v2 v3 S = some ((r9, S9)) → AW g l (axRm (4) 0 0) mt_X9_isRight (axMQ g 0 0 (.inl (some (.int r9)), S9)) 0 0 S 21 [(0, .ref v0), (2, .int v2), (3, .int v3)] []) (v0 : Nat) (v2 : Int32) (v3 : Int32) (S : AxS) (h : F_X9_isRight_21b N K21 v0 v2 v3 S = some ((r9, S9))) : AW g l (axRm (4) 0 0) mt_X9_isRight (axMQ g 0 0 (.inl (some (.int r9)), S9)) 0 0 S 21 [(0, .ref v0), (2, .int v2), (3, .int v3)] [] := by
  unfold F_X9_isRight_21b at h
  refine aw_iload_n 2 dX9_isRight_21 rfl rfl ?_
  refine aw_bipush 60 dX9_isRight_22 (by decide) ?_
  refine aw_icmp_ge 99 dX9_isRight_24 (by decide) h (fun h => ?_) (fun h => ?_)
  · refine aw_iconst 1 dX9_isRight_99 rfl ?_
    exact aw_zret dX9_isRight_100 rfl (Nat.le_refl _) (Nat.le_refl _) h
  · refine aw_aload_n 0 dX9_isRight_27 rfl rfl ?_
    refine aw_aload_n 0 dX9_isRight_28 rfl rfl ?_
    refine aw_getR axc9 9 rfl rfl wd_462 dX9_isRight_29 h (fun a1 h => ?_)
    refine aw_iconst 0 dX9_isRight_32 rfl ?_
    obtain ⟨hL2, h⟩ := ax_is_spec h
    refine aw_doneI (rest := []) h (fun r9 S9 hF => aw_runV (As := [.ref a1, .int 0]) (rest := []) (L1_X9_strokesOf N hF) axc9 hL2 wd_549 wd_546 wd_548 wd_2 wd_87 pd_X9_strokesOf rfl (ax_rm (by omega) rfl) ax_hf0 (Nat.le_of_ble_eq_true rfl) rfl dX9_isRight_33) (fun x4 T3 h => ?_)
    refine aw_istore [(4, .int x4), (0, .ref v0), (2, .int v2), (3, .int v3)] dX9_isRight_36 rfl rfl ?_
    refine aw_aload_n 1 dX9_isRight_38 rfl rfl ?_
    refine aw_getR axc9 5 rfl rfl wd_458 dX9_isRight_39 h (fun a5 h => ?_)
    refine aw_getR axc0 0 rfl rfl wd_249 dX9_isRight_42 h (fun a6 h => ?_)
    refine aw_iload_n 3 dX9_isRight_45 rfl rfl ?_
    refine aw_doneI (rest := []) h (fun r9 S9 hF => aw_runS (As := [.ref a6, .int v3]) (rest := []) (L1_X9_at N hF) wd_541 wd_874 wd_540 wd_87 pd_X9_at.2 rfl (ax_rm (by omega) rfl) ax_hf0 (Nat.le_of_ble_eq_true rfl) rfl dX9_isRight_46) (fun x8 T7 h => ?_)
    refine aw_istore [(5, .int x8), (4, .int x4), (0, .ref v0), (2, .int v2), (3, .int v3)] dX9_isRight_49 rfl rfl ?_
    refine aw_iload 0 dX9_isRight_51 rfl ?_
    refine aw_iconst (-1) dX9_isRight_53 rfl ?_
    refine aw_icmp_eq 66 dX9_isRight_54 (by decide) h (fun h => ?_) (fun h => ?_)
    · refine aw_env [(0, .ref v0), (2, .int v2), (3, .int v3), (4, .int x4)] [2, 3, 4, 1] rfl ?_
      exact L1_X9_isRight_66 N K21 hK21 v0 v2 v3 x4 T7 h
    · refine aw_iload 0 dX9_isRight_57 rfl ?_
      refine aw_iload 1 dX9_isRight_59 rfl ?_
      refine aw_icmp_eq 66 dX9_isRight_61 (by decide) h (fun h => ?_) (fun h => ?_)
      · refine aw_env [(0, .ref v0), (2, .int v2), (3, .int v3), (4, .int x4)] [2, 3, 4, 1] rfl ?_
        exact L1_X9_isRight_66 N K21 hK21 v0 v2 v3 x4 T7 h
      · refine aw_iconst 0 dX9_isRight_64 rfl ?_
        exact aw_zret dX9_isRight_65 rfl (Nat.le_refl _) (Nat.le_refl _) h
theorem L1_X9_isRight_21 {g : AxG} {l : Launch} {r9 : Int32} {S9 : AxS} (N : Nat)  : ∀ (n : Nat) (v0 : Nat) (v2 : Int32) (v3 : Int32) (S : AxS), F_X9_isRight_21 N  n v0 v2 v3 S = some ((r9, S9)) → AW g l (axRm (4) 0 0) mt_X9_isRight (axMQ g 0 0 (.inl (some (.int r9)), S9)) 0 0 S 21 [(0, .ref v0), (2, .int v2), (3, .int v3)] [] := by
  intro n
  induction n with
  | zero => intro v0 v2 v3 S h; cases h
  | succ n ih => intro v0 v2 v3 S h; exact L1_X9_isRight_21b N (F_X9_isRight_21 N  n) ih v0 v2 v3 S h
theorem L1_X9_isRight {g : AxG} {l : Launch} (N : Nat) {v0 : Nat} {v1 : Int32} {v2 : Int32} {S : AxS} {r9 : Int32} {S9 : AxS} (h : F_X9_isRight N v0 v1 v2 S = some ((r9, S9))) : AxMet g l yX9_isRight cX9_isRight 6 (some .boolean) (4) 0 0 [.ref v0, .int v1, .int v2] S ((.inl (some (.int r9)), S9)) := by
  refine ax_met (own := RX9) (ini := false) (by decide +kernel) rfl (fun h => nomatch h) rfl ?_
  show AW g l (axRm (4) 0 0) mt_X9_isRight (axMQ g 0 0 (.inl (some (.int r9)), S9)) 0 0 S 0 [(0, .ref v0), (1, .int v1), (2, .int v2)] []
  unfold F_X9_isRight at h
  refine aw_aload_n 0 dX9_isRight_0 rfl rfl ?_
  refine aw_getR axc9 9 rfl rfl wd_462 dX9_isRight_1 h (fun a1 h => ?_)
  refine aw_aload_n 0 dX9_isRight_4 rfl rfl ?_
  refine aw_getR axc9 1 rfl rfl wd_454 dX9_isRight_5 h (fun a2 h => ?_)
  obtain ⟨hL3, h⟩ := ax_is_spec h
  refine aw_doneV (rest := []) h (fun S9 hF => aw_runV (As := [.ref a2]) (rest := []) (L1_X5_begin N hF) axc5 hL3 wd_451 wd_448 wd_449 wd_450 wd_93 pd_X5_begin rfl (ax_rm (by omega) rfl) ax_hf0 (Nat.le_of_ble_eq_true rfl) rfl dX9_isRight_8) (fun T4 h => ?_)
  refine aw_aload_n 0 dX9_isRight_11 rfl rfl ?_
  refine aw_getR axc9 9 rfl rfl wd_462 dX9_isRight_12 h (fun a6 h => ?_)
  refine aw_iload_n 1 dX9_isRight_15 rfl rfl ?_
  refine aw_putI axc5 0 rfl rfl wd_293 rfl rfl rfl dX9_isRight_16 h (fun T7 h => ?_)
  refine aw_iconst 0 dX9_isRight_19 rfl ?_
  refine aw_istore_n 3 [(3, .int 0), (0, .ref v0), (1, .int v1), (2, .int v2)] dX9_isRight_20 rfl rfl rfl ?_
  refine aw_env [(0, .ref v0), (2, .int v2), (3, .int 0)] [1, 3, 0] rfl ?_
  exact L1_X9_isRight_21 N  N v0 v2 0 T7 h

theorem dX9_findFits_0 : decode cX9_findFits 0 = .ok (.aload_n 0, 1) := by decide +kernel
theorem dX9_findFits_1 : decode cX9_findFits 1 = .ok (.getfield 79, 3) := by decide +kernel
theorem dX9_findFits_4 : decode cX9_findFits 4 = .ok (.getfield 103, 3) := by decide +kernel
theorem dX9_findFits_7 : decode cX9_findFits 7 = .ok (.ifCond .eq 4, 3) := by decide +kernel
theorem dX9_findFits_10 : decode cX9_findFits 10 = .ok (.return_, 1) := by decide +kernel
theorem dX9_findFits_11 : decode cX9_findFits 11 = .ok (.aload_n 0, 1) := by decide +kernel
theorem dX9_findFits_12 : decode cX9_findFits 12 = .ok (.getfield 79, 3) := by decide +kernel
theorem dX9_findFits_15 : decode cX9_findFits 15 = .ok (.invokevirtual 430, 3) := by decide +kernel
theorem dX9_findFits_18 : decode cX9_findFits 18 = .ok (.iconst 0, 1) := by decide +kernel
theorem dX9_findFits_19 : decode cX9_findFits 19 = .ok (.istore_n 1, 1) := by decide +kernel
theorem dX9_findFits_20 : decode cX9_findFits 20 = .ok (.iload_n 1, 1) := by decide +kernel
theorem dX9_findFits_21 : decode cX9_findFits 21 = .ok (.sipush 200, 3) := by decide +kernel
theorem dX9_findFits_24 : decode cX9_findFits 24 = .ok (.if_icmp .ge 62, 3) := by decide +kernel
theorem dX9_findFits_27 : decode cX9_findFits 27 = .ok (.iconst 0, 1) := by decide +kernel
theorem dX9_findFits_28 : decode cX9_findFits 28 = .ok (.istore_n 2, 1) := by decide +kernel
theorem dX9_findFits_29 : decode cX9_findFits 29 = .ok (.iconst 0, 1) := by decide +kernel
theorem dX9_findFits_30 : decode cX9_findFits 30 = .ok (.istore_n 3, 1) := by decide +kernel
theorem dX9_findFits_31 : decode cX9_findFits 31 = .ok (.iload_n 3, 1) := by decide +kernel
theorem dX9_findFits_32 : decode cX9_findFits 32 = .ok (.bipush 21, 2) := by decide +kernel
theorem dX9_findFits_34 : decode cX9_findFits 34 = .ok (.if_icmp .ge 29, 3) := by decide +kernel
theorem dX9_findFits_37 : decode cX9_findFits 37 = .ok (.aload_n 0, 1) := by decide +kernel
theorem dX9_findFits_38 : decode cX9_findFits 38 = .ok (.iload_n 1, 1) := by decide +kernel
theorem dX9_findFits_39 : decode cX9_findFits 39 = .ok (.iload_n 3, 1) := by decide +kernel
theorem dX9_findFits_40 : decode cX9_findFits 40 = .ok (.invokevirtual 431, 3) := by decide +kernel
theorem dX9_findFits_43 : decode cX9_findFits 43 = .ok (.ifCond .eq 14, 3) := by decide +kernel
theorem dX9_findFits_46 : decode cX9_findFits 46 = .ok (.iconst 1, 1) := by decide +kernel
theorem dX9_findFits_47 : decode cX9_findFits 47 = .ok (.istore_n 2, 1) := by decide +kernel
theorem dX9_findFits_48 : decode cX9_findFits 48 = .ok (.aload_n 0, 1) := by decide +kernel
theorem dX9_findFits_49 : decode cX9_findFits 49 = .ok (.getfield 79, 3) := by decide +kernel
theorem dX9_findFits_52 : decode cX9_findFits 52 = .ok (.iload_n 1, 1) := by decide +kernel
theorem dX9_findFits_53 : decode cX9_findFits 53 = .ok (.iload_n 3, 1) := by decide +kernel
theorem dX9_findFits_54 : decode cX9_findFits 54 = .ok (.invokevirtual 434, 3) := by decide +kernel
theorem dX9_findFits_57 : decode cX9_findFits 57 = .ok (.iinc 3 1, 3) := by decide +kernel
theorem dX9_findFits_60 : decode cX9_findFits 60 = .ok (.goto (-29), 3) := by decide +kernel
theorem dX9_findFits_63 : decode cX9_findFits 63 = .ok (.iload_n 2, 1) := by decide +kernel
theorem dX9_findFits_64 : decode cX9_findFits 64 = .ok (.ifCond .eq 16, 3) := by decide +kernel
theorem dX9_findFits_67 : decode cX9_findFits 67 = .ok (.aload_n 0, 1) := by decide +kernel
theorem dX9_findFits_68 : decode cX9_findFits 68 = .ok (.getfield 79, 3) := by decide +kernel
theorem dX9_findFits_71 : decode cX9_findFits 71 = .ok (.dup, 1) := by decide +kernel
theorem dX9_findFits_72 : decode cX9_findFits 72 = .ok (.getfield 308, 3) := by decide +kernel
theorem dX9_findFits_75 : decode cX9_findFits 75 = .ok (.iconst 1, 1) := by decide +kernel
theorem dX9_findFits_76 : decode cX9_findFits 76 = .ok (.iadd, 1) := by decide +kernel
theorem dX9_findFits_77 : decode cX9_findFits 77 = .ok (.putfield 308, 3) := by decide +kernel
theorem dX9_findFits_80 : decode cX9_findFits 80 = .ok (.iinc 1 1, 3) := by decide +kernel
theorem dX9_findFits_83 : decode cX9_findFits 83 = .ok (.goto (-63), 3) := by decide +kernel
theorem dX9_findFits_86 : decode cX9_findFits 86 = .ok (.aload_n 0, 1) := by decide +kernel
theorem dX9_findFits_87 : decode cX9_findFits 87 = .ok (.getfield 79, 3) := by decide +kernel
theorem dX9_findFits_90 : decode cX9_findFits 90 = .ok (.aload_n 0, 1) := by decide +kernel
theorem dX9_findFits_91 : decode cX9_findFits 91 = .ok (.getfield 39, 3) := by decide +kernel
theorem dX9_findFits_94 : decode cX9_findFits 94 = .ok (.invokevirtual 437, 3) := by decide +kernel
theorem dX9_findFits_97 : decode cX9_findFits 97 = .ok (.aload_n 0, 1) := by decide +kernel
theorem dX9_findFits_98 : decode cX9_findFits 98 = .ok (.getfield 79, 3) := by decide +kernel
theorem dX9_findFits_101 : decode cX9_findFits 101 = .ok (.iconst 1, 1) := by decide +kernel
theorem dX9_findFits_102 : decode cX9_findFits 102 = .ok (.putfield 103, 3) := by decide +kernel
theorem dX9_findFits_105 : decode cX9_findFits 105 = .ok (.return_, 1) := by decide +kernel
abbrev mt_X9_findFits : AxM := (RX9, cX9_findFits, 4, none, false, [])
theorem L1_X9_findFits_80 {g : AxG} {l : Launch} {S9 : AxS} (N : Nat) (K20 : Nat → Int32 → AxS → Option (AxS)) (hK20 : ∀ (v0 : Nat) (v1 : Int32) (S : AxS), K20 v0 v1 S = some S9 → AW g l (axRm (5) 0 0) mt_X9_findFits (axMQ g 0 0 (.inl none, S9)) 0 0 S 20 [(0, .ref v0), (1, .int v1)] []) (v0 : Nat) (v1 : Int32) (S : AxS) (h : F_X9_findFits_80 N K20 v0 v1 S = some S9) : AW g l (axRm (5) 0 0) mt_X9_findFits (axMQ g 0 0 (.inl none, S9)) 0 0 S 80 [(0, .ref v0), (1, .int v1)] [] := by
  unfold F_X9_findFits_80 at h
  refine aw_iinc 1 [(1, .int (v1 + 1)), (0, .ref v0)] (v1 + 1) dX9_findFits_80 rfl rfl rfl rfl ?_
  refine aw_goto 20 dX9_findFits_83 (by decide) ?_
  refine aw_env [(0, .ref v0), (1, .int (v1 + 1))] [1, 0] rfl ?_
  exact hK20 v0 (v1 + 1) S h
theorem L1_X9_findFits_57 {g : AxG} {l : Launch} {S9 : AxS} (N : Nat) (K31 : Nat → Int32 → Int32 → Int32 → AxS → Option (AxS)) (hK31 : ∀ (v0 : Nat) (v1 : Int32) (v2 : Int32) (v3 : Int32) (S : AxS), K31 v0 v1 v2 v3 S = some S9 → AW g l (axRm (5) 0 0) mt_X9_findFits (axMQ g 0 0 (.inl none, S9)) 0 0 S 31 [(0, .ref v0), (1, .int v1), (2, .int v2), (3, .int v3)] []) (v0 : Nat) (v1 : Int32) (v2 : Int32) (v3 : Int32) (S : AxS) (h : F_X9_findFits_57 N K31 v0 v1 v2 v3 S = some S9) : AW g l (axRm (5) 0 0) mt_X9_findFits (axMQ g 0 0 (.inl none, S9)) 0 0 S 57 [(0, .ref v0), (1, .int v1), (2, .int v2), (3, .int v3)] [] := by
  unfold F_X9_findFits_57 at h
  refine aw_iinc 3 [(3, .int (v3 + 1)), (0, .ref v0), (1, .int v1), (2, .int v2)] (v3 + 1) dX9_findFits_57 rfl rfl rfl rfl ?_
  refine aw_goto 31 dX9_findFits_60 (by decide) ?_
  refine aw_env [(0, .ref v0), (1, .int v1), (2, .int v2), (3, .int (v3 + 1))] [1, 2, 3, 0] rfl ?_
  exact hK31 v0 v1 v2 (v3 + 1) S h
theorem L1_X9_findFits_31b {g : AxG} {l : Launch} {S9 : AxS} (N : Nat) (K20 : Nat → Int32 → AxS → Option (AxS)) (hK20 : ∀ (v0 : Nat) (v1 : Int32) (S : AxS), K20 v0 v1 S = some S9 → AW g l (axRm (5) 0 0) mt_X9_findFits (axMQ g 0 0 (.inl none, S9)) 0 0 S 20 [(0, .ref v0), (1, .int v1)] []) (K31 : Nat → Int32 → Int32 → Int32 → AxS → Option (AxS)) (hK31 : ∀ (v0 : Nat) (v1 : Int32) (v2 : Int32) (v3 : Int32) (S : AxS), K31 v0 v1 v2 v3 S = some S9 → AW g l (axRm (5) 0 0) mt_X9_findFits (axMQ g 0 0 (.inl none, S9)) 0 0 S 31 [(0, .ref v0), (1, .int v1), (2, .int v2), (3, .int v3)] []) (v0 : Nat) (v1 : Int32) (v2 : Int32) (v3 : Int32) (S : AxS) (h : F_X9_findFits_31b N K20 K31 v0 v1 v2 v3 S = some S9) : AW g l (axRm (5) 0 0) mt_X9_findFits (axMQ g 0 0 (.inl none, S9)) 0 0 S 31 [(0, .ref v0), (1, .int v1), (2, .int v2), (3, .int v3)] [] := by
  unfold F_X9_findFits_31b at h
  refine aw_iload_n 3 dX9_findFits_31 rfl rfl ?_
  refine aw_bipush 21 dX9_findFits_32 (by decide) ?_
  refine aw_icmp_ge 63 dX9_findFits_34 (by decide) h (fun h => ?_) (fun h => ?_)
  · refine aw_iload_n 2 dX9_findFits_63 rfl rfl ?_
    refine aw_if_eq 80 dX9_findFits_64 (by decide) h (fun h => ?_) (fun h => ?_)
    · refine aw_env [(0, .ref v0), (1, .int v1)] [0, 1] rfl ?_
      exact L1_X9_findFits_80 N K20 hK20 v0 v1 S h
    · refine aw_aload_n 0 dX9_findFits_67 rfl rfl ?_
      refine aw_getR axc9 16 rfl rfl wd_469 dX9_findFits_68 h (fun a1 h => ?_)
      refine aw_dup rfl dX9_findFits_71 ?_
      refine aw_getI axc2 4 rfl rfl wd_384 dX9_findFits_72 h (fun x2 h => ?_)
      refine aw_iconst 1 dX9_findFits_75 rfl ?_
      refine aw_iadd dX9_findFits_76 ?_
      refine aw_putI axc2 4 rfl rfl wd_384 rfl rfl rfl dX9_findFits_77 h (fun T3 h => ?_)
      refine aw_env [(0, .ref v0), (1, .int v1)] [0, 1] rfl ?_
      exact L1_X9_findFits_80 N K20 hK20 v0 v1 T3 h
  · refine aw_aload_n 0 dX9_findFits_37 rfl rfl ?_
    refine aw_iload_n 1 dX9_findFits_38 rfl rfl ?_
    refine aw_iload_n 3 dX9_findFits_39 rfl rfl ?_
    obtain ⟨hL4, h⟩ := ax_is_spec h
    refine aw_doneI (rest := []) h (fun r9 S9 hF => aw_runV (As := [.int v1, .int v3]) (rest := []) (L1_X9_isRight N hF) axc9 hL4 wd_1087 wd_1084 wd_1086 wd_23 wd_87 pd_X9_isRight rfl (ax_rm (by omega) rfl) ax_hf0 (Nat.le_of_ble_eq_true rfl) rfl dX9_findFits_40) (fun x6 T5 h => ?_)
    refine aw_if_eq 57 dX9_findFits_43 (by decide) h (fun h => ?_) (fun h => ?_)
    · refine aw_env [(0, .ref v0), (1, .int v1), (2, .int v2), (3, .int v3)] [0, 1, 2, 3] rfl ?_
      exact L1_X9_findFits_57 N K31 hK31 v0 v1 v2 v3 T5 h
    · refine aw_iconst 1 dX9_findFits_46 rfl ?_
      refine aw_istore_n 2 [(2, .int 1), (0, .ref v0), (1, .int v1), (3, .int v3)] dX9_findFits_47 rfl rfl rfl ?_
      refine aw_aload_n 1 dX9_findFits_48 rfl rfl ?_
      refine aw_getR axc9 16 rfl rfl wd_469 dX9_findFits_49 h (fun a7 h => ?_)
      refine aw_iload_n 2 dX9_findFits_52 rfl rfl ?_
      refine aw_iload_n 3 dX9_findFits_53 rfl rfl ?_
      obtain ⟨hL8, h⟩ := ax_is_spec h
      refine aw_doneV (rest := []) h (fun S9 hF => aw_runV (As := [.int v1, .int v3]) (rest := []) (L1_X2_add N hF) axc2 hL8 wd_1091 wd_1088 wd_1089 wd_1090 wd_95 pd_X2_add rfl (ax_rm (by omega) rfl) ax_hf0 (Nat.le_of_ble_eq_true rfl) rfl dX9_findFits_54) (fun T9 h => ?_)
      refine aw_env [(0, .ref v0), (1, .int v1), (2, .int 1), (3, .int v3)] [1, 2, 0, 3] rfl ?_
      exact L1_X9_findFits_57 N K31 hK31 v0 v1 1 v3 T9 h
theorem L1_X9_findFits_31 {g : AxG} {l : Launch} {S9 : AxS} (N : Nat) (K20 : Nat → Int32 → AxS → Option (AxS)) (hK20 : ∀ (v0 : Nat) (v1 : Int32) (S : AxS), K20 v0 v1 S = some S9 → AW g l (axRm (5) 0 0) mt_X9_findFits (axMQ g 0 0 (.inl none, S9)) 0 0 S 20 [(0, .ref v0), (1, .int v1)] []) : ∀ (n : Nat) (v0 : Nat) (v1 : Int32) (v2 : Int32) (v3 : Int32) (S : AxS), F_X9_findFits_31 N K20 n v0 v1 v2 v3 S = some S9 → AW g l (axRm (5) 0 0) mt_X9_findFits (axMQ g 0 0 (.inl none, S9)) 0 0 S 31 [(0, .ref v0), (1, .int v1), (2, .int v2), (3, .int v3)] [] := by
  intro n
  induction n with
  | zero => intro v0 v1 v2 v3 S h; cases h
  | succ n ih => intro v0 v1 v2 v3 S h; exact L1_X9_findFits_31b N K20 hK20 (F_X9_findFits_31 N K20 n) ih v0 v1 v2 v3 S h
theorem L1_X9_findFits_20b {g : AxG} {l : Launch} {S9 : AxS} (N : Nat) (K20 : Nat → Int32 → AxS → Option (AxS)) (hK20 : ∀ (v0 : Nat) (v1 : Int32) (S : AxS), K20 v0 v1 S = some S9 → AW g l (axRm (5) 0 0) mt_X9_findFits (axMQ g 0 0 (.inl none, S9)) 0 0 S 20 [(0, .ref v0), (1, .int v1)] []) (v0 : Nat) (v1 : Int32) (S : AxS) (h : F_X9_findFits_20b N K20 v0 v1 S = some S9) : AW g l (axRm (5) 0 0) mt_X9_findFits (axMQ g 0 0 (.inl none, S9)) 0 0 S 20 [(0, .ref v0), (1, .int v1)] [] := by
  unfold F_X9_findFits_20b at h
  refine aw_iload_n 1 dX9_findFits_20 rfl rfl ?_
  refine aw_sipush 200 dX9_findFits_21 (by decide) ?_
  refine aw_icmp_ge 86 dX9_findFits_24 (by decide) h (fun h => ?_) (fun h => ?_)
  · refine aw_aload_n 0 dX9_findFits_86 rfl rfl ?_
    refine aw_getR axc9 16 rfl rfl wd_469 dX9_findFits_87 h (fun a1 h => ?_)
    refine aw_aload_n 0 dX9_findFits_90 rfl rfl ?_
    refine aw_getR axc9 5 rfl rfl wd_458 dX9_findFits_91 h (fun a2 h => ?_)
    obtain ⟨hL3, h⟩ := ax_is_spec h
    refine aw_doneV (rest := []) h (fun S9 hF => aw_runV (As := [.ref a2]) (rest := []) (L1_X2_choose N hF) axc2 hL3 wd_1097 wd_1094 wd_1095 wd_1096 wd_95 pd_X2_choose rfl (ax_rm (by omega) rfl) ax_hf0 (Nat.le_of_ble_eq_true rfl) rfl dX9_findFits_94) (fun T4 h => ?_)
    refine aw_aload_n 0 dX9_findFits_97 rfl rfl ?_
    refine aw_getR axc9 16 rfl rfl wd_469 dX9_findFits_98 h (fun a6 h => ?_)
    refine aw_iconst 1 dX9_findFits_101 rfl ?_
    refine aw_putI axc2 0 rfl rfl wd_376 rfl rfl rfl dX9_findFits_102 h (fun T7 h => ?_)
    exact aw_vret dX9_findFits_105 rfl (Nat.le_refl _) (Nat.le_refl _) h
  · refine aw_iconst 0 dX9_findFits_27 rfl ?_
    refine aw_istore_n 2 [(2, .int 0), (0, .ref v0), (1, .int v1)] dX9_findFits_28 rfl rfl rfl ?_
    refine aw_iconst 0 dX9_findFits_29 rfl ?_
    refine aw_istore_n 3 [(3, .int 0), (2, .int 0), (0, .ref v0), (1, .int v1)] dX9_findFits_30 rfl rfl rfl ?_
    refine aw_env [(0, .ref v0), (1, .int v1), (2, .int 0), (3, .int 0)] [2, 3, 1, 0] rfl ?_
    exact L1_X9_findFits_31 N K20 hK20 N v0 v1 0 0 S h
theorem L1_X9_findFits_20 {g : AxG} {l : Launch} {S9 : AxS} (N : Nat)  : ∀ (n : Nat) (v0 : Nat) (v1 : Int32) (S : AxS), F_X9_findFits_20 N  n v0 v1 S = some S9 → AW g l (axRm (5) 0 0) mt_X9_findFits (axMQ g 0 0 (.inl none, S9)) 0 0 S 20 [(0, .ref v0), (1, .int v1)] [] := by
  intro n
  induction n with
  | zero => intro v0 v1 S h; cases h
  | succ n ih => intro v0 v1 S h; exact L1_X9_findFits_20b N (F_X9_findFits_20 N  n) ih v0 v1 S h
theorem L1_X9_findFits {g : AxG} {l : Launch} (N : Nat) {v0 : Nat} {S : AxS} {S9 : AxS} (h : F_X9_findFits N v0 S = some S9) : AxMet g l yX9_findFits cX9_findFits 4 none (5) 0 0 [.ref v0] S ((.inl none, S9)) := by
  refine ax_met (own := RX9) (ini := false) (by decide +kernel) rfl (fun h => nomatch h) rfl ?_
  show AW g l (axRm (5) 0 0) mt_X9_findFits (axMQ g 0 0 (.inl none, S9)) 0 0 S 0 [(0, .ref v0)] []
  unfold F_X9_findFits at h
  refine aw_aload_n 0 dX9_findFits_0 rfl rfl ?_
  refine aw_getR axc9 16 rfl rfl wd_469 dX9_findFits_1 h (fun a1 h => ?_)
  refine aw_getI axc2 0 rfl rfl wd_376 dX9_findFits_4 h (fun x2 h => ?_)
  refine aw_if_eq 11 dX9_findFits_7 (by decide) h (fun h => ?_) (fun h => ?_)
  · refine aw_aload_n 0 dX9_findFits_11 rfl rfl ?_
    refine aw_getR axc9 16 rfl rfl wd_469 dX9_findFits_12 h (fun a3 h => ?_)
    obtain ⟨hL4, h⟩ := ax_is_spec h
    refine aw_doneV (rest := []) h (fun S9 hF => aw_runV (As := []) (rest := []) (L1_X2_clear N hF) axc2 hL4 wd_1083 wd_1080 wd_1081 wd_1082 wd_95 pd_X2_clear rfl (ax_rm (by omega) rfl) ax_hf0 (Nat.le_of_ble_eq_true rfl) rfl dX9_findFits_15) (fun T5 h => ?_)
    refine aw_iconst 0 dX9_findFits_18 rfl ?_
    refine aw_istore_n 1 [(1, .int 0), (0, .ref v0)] dX9_findFits_19 rfl rfl rfl ?_
    refine aw_env [(0, .ref v0), (1, .int 0)] [1, 0] rfl ?_
    exact L1_X9_findFits_20 N  N v0 0 T5 h
  · exact aw_vret dX9_findFits_10 rfl (Nat.le_refl _) (Nat.le_refl _) h

theorem dX9_fits_0 : decode cX9_fits 0 = .ok (.aload_n 0, 1) := by decide +kernel
theorem dX9_fits_1 : decode cX9_fits 1 = .ok (.iload_n 1, 1) := by decide +kernel
theorem dX9_fits_2 : decode cX9_fits 2 = .ok (.ifCond .lt 12, 3) := by decide +kernel
theorem dX9_fits_5 : decode cX9_fits 5 = .ok (.iload_n 1, 1) := by decide +kernel
theorem dX9_fits_6 : decode cX9_fits 6 = .ok (.iconst 3, 1) := by decide +kernel
theorem dX9_fits_7 : decode cX9_fits 7 = .ok (.if_icmp .gt 7, 3) := by decide +kernel
theorem dX9_fits_10 : decode cX9_fits 10 = .ok (.iconst 1, 1) := by decide +kernel
theorem dX9_fits_11 : decode cX9_fits 11 = .ok (.goto 4, 3) := by decide +kernel
theorem dX9_fits_14 : decode cX9_fits 14 = .ok (.iconst 0, 1) := by decide +kernel
theorem dX9_fits_15 : decode cX9_fits 15 = .ok (.invokevirtual 128, 3) := by decide +kernel
theorem dX9_fits_18 : decode cX9_fits 18 = .ok (.aload_n 0, 1) := by decide +kernel
theorem dX9_fits_19 : decode cX9_fits 19 = .ok (.invokevirtual 298, 3) := by decide +kernel
theorem dX9_fits_22 : decode cX9_fits 22 = .ok (.iload_n 1, 1) := by decide +kernel
theorem dX9_fits_23 : decode cX9_fits 23 = .ok (.tableswitch 49 0 2 #[25, 33, 41], 25) := by decide +kernel
theorem dX9_fits_48 : decode cX9_fits 48 = .ok (.aload_n 0, 1) := by decide +kernel
theorem dX9_fits_49 : decode cX9_fits 49 = .ok (.getfield 79, 3) := by decide +kernel
theorem dX9_fits_52 : decode cX9_fits 52 = .ok (.getfield 301, 3) := by decide +kernel
theorem dX9_fits_55 : decode cX9_fits 55 = .ok (.ireturn, 1) := by decide +kernel
theorem dX9_fits_56 : decode cX9_fits 56 = .ok (.aload_n 0, 1) := by decide +kernel
theorem dX9_fits_57 : decode cX9_fits 57 = .ok (.getfield 79, 3) := by decide +kernel
theorem dX9_fits_60 : decode cX9_fits 60 = .ok (.getfield 302, 3) := by decide +kernel
theorem dX9_fits_63 : decode cX9_fits 63 = .ok (.ireturn, 1) := by decide +kernel
theorem dX9_fits_64 : decode cX9_fits 64 = .ok (.aload_n 0, 1) := by decide +kernel
theorem dX9_fits_65 : decode cX9_fits 65 = .ok (.getfield 79, 3) := by decide +kernel
theorem dX9_fits_68 : decode cX9_fits 68 = .ok (.getfield 305, 3) := by decide +kernel
theorem dX9_fits_71 : decode cX9_fits 71 = .ok (.ireturn, 1) := by decide +kernel
theorem dX9_fits_72 : decode cX9_fits 72 = .ok (.aload_n 0, 1) := by decide +kernel
theorem dX9_fits_73 : decode cX9_fits 73 = .ok (.getfield 79, 3) := by decide +kernel
theorem dX9_fits_76 : decode cX9_fits 76 = .ok (.getfield 308, 3) := by decide +kernel
theorem dX9_fits_79 : decode cX9_fits 79 = .ok (.ireturn, 1) := by decide +kernel
abbrev mt_X9_fits : AxM := (RX9, cX9_fits, 2, (some .int), false, [])
theorem L1_X9_fits_15 {g : AxG} {l : Launch} (hl0 : l.stackTraces = false) {res : AxT Int32} (N : Nat)  (v0 : Nat) (v1 : Int32) (w0 : Int32) (w1 : Nat) (S : AxS) (h : F_X9_fits_15 N  v0 v1 w0 w1 S = some res) : AW g l (axRm (9) (axCs (axOI res)) (6 * axCs (axOI res))) mt_X9_fits (axMQ g (axCs (axOI res)) (6 * axCs (axOI res)) (axOI res)) 0 0 S 15 [(0, .ref v0), (1, .int v1)] [.int w0, .ref w1] := by
  unfold F_X9_fits_15 at h
  obtain ⟨hL1, h⟩ := ax_is_spec h
  refine aw_thV (ob := axOI) (rest := []) (fun _ _ => rfl) rfl h (fun u9 hF hu => aw_runV (As := [.int w0]) (rest := []) (L1_X9_needArgument hl0 N hF) axc9 hL1 wd_604 wd_601 wd_603 wd_3 wd_87 pd_X9_needArgument rfl (ax_rm (by omega) rfl) (ax_hfV (fun _ _ => rfl) hu) (Nat.le_of_ble_eq_true rfl) rfl dX9_fits_15) (fun T2 h => ?_)
  refine aw_aload_n 0 dX9_fits_18 rfl rfl ?_
  obtain ⟨hL4, h⟩ := ax_is_spec h
  refine aw_doneV (rest := []) h (fun S9 hF => aw_runV (As := []) (rest := []) (L1_X9_findFits N hF) axc9 hL4 wd_1079 wd_1076 wd_1078 wd_22 wd_87 pd_X9_findFits rfl (ax_rm (by omega) rfl) ax_hf0 (Nat.le_of_ble_eq_true rfl) rfl dX9_fits_19) (fun T5 h => ?_)
  refine aw_iload_n 1 dX9_fits_22 rfl rfl ?_
  refine aw_case 0 h (fun h => ?_) (fun c9 h => ?_)
  · refine aw_tswIn 48 (off := 25) dX9_fits_23 (by decide) (by decide) (by decide) (by decide) ?_
    refine aw_aload_n 0 dX9_fits_48 rfl rfl ?_
    refine aw_getR axc9 16 rfl rfl wd_469 dX9_fits_49 h (fun a7 h => ?_)
    refine aw_getI axc2 1 rfl rfl wd_378 dX9_fits_52 h (fun x8 h => ?_)
    exact aw_iretT dX9_fits_55 rfl h
  refine aw_case 1 h (fun h => ?_) (fun c12 h => ?_)
  · refine aw_tswIn 56 (off := 33) dX9_fits_23 (by decide) (by decide) (by decide) (by decide) ?_
    refine aw_aload_n 0 dX9_fits_56 rfl rfl ?_
    refine aw_getR axc9 16 rfl rfl wd_469 dX9_fits_57 h (fun a10 h => ?_)
    refine aw_getI axc2 2 rfl rfl wd_380 dX9_fits_60 h (fun x11 h => ?_)
    exact aw_iretT dX9_fits_63 rfl h
  refine aw_case 2 h (fun h => ?_) (fun c15 h => ?_)
  · refine aw_tswIn 64 (off := 41) dX9_fits_23 (by decide) (by decide) (by decide) (by decide) ?_
    refine aw_aload_n 0 dX9_fits_64 rfl rfl ?_
    refine aw_getR axc9 16 rfl rfl wd_469 dX9_fits_65 h (fun a13 h => ?_)
    refine aw_getI axc2 3 rfl rfl wd_382 dX9_fits_68 h (fun x14 h => ?_)
    exact aw_iretT dX9_fits_71 rfl h
  refine aw_tswOut 72 dX9_fits_23 (by have q0 := ax_i32ne c9 (v := 0) (i := 0) (by decide); have q1 := ax_i32ne c12 (v := 1) (i := 1) (by decide); have q2 := ax_i32ne c15 (v := 2) (i := 2) (by decide); omega) (by decide) ?_
  refine aw_aload_n 0 dX9_fits_72 rfl rfl ?_
  refine aw_getR axc9 16 rfl rfl wd_469 dX9_fits_73 h (fun a16 h => ?_)
  refine aw_getI axc2 4 rfl rfl wd_384 dX9_fits_76 h (fun x17 h => ?_)
  exact aw_iretT dX9_fits_79 rfl h
theorem L1_X9_fits_14 {g : AxG} {l : Launch} (hl0 : l.stackTraces = false) {res : AxT Int32} (N : Nat)  (v0 : Nat) (v1 : Int32) (w0 : Nat) (S : AxS) (h : F_X9_fits_14 N  v0 v1 w0 S = some res) : AW g l (axRm (9) (axCs (axOI res)) (6 * axCs (axOI res))) mt_X9_fits (axMQ g (axCs (axOI res)) (6 * axCs (axOI res)) (axOI res)) 0 0 S 14 [(0, .ref v0), (1, .int v1)] [.ref w0] := by
  unfold F_X9_fits_14 at h
  refine aw_iconst 0 dX9_fits_14 rfl ?_
  refine aw_env [(0, .ref v0), (1, .int v1)] [0, 1] rfl ?_
  exact L1_X9_fits_15 hl0 N  v0 v1 0 w0 S h
theorem L1_X9_fits {g : AxG} {l : Launch} (hl0 : l.stackTraces = false) (N : Nat) {v0 : Nat} {v1 : Int32} {S : AxS} {res : AxT Int32} (h : F_X9_fits N v0 v1 S = some res) : AxMet g l yX9_fits cX9_fits 2 (some .int) (9) (axCs (axOI res)) (6 * axCs (axOI res)) [.ref v0, .int v1] S (axOI res) := by
  refine ax_met (own := RX9) (ini := false) (by decide +kernel) rfl (fun h => nomatch h) rfl ?_
  show AW g l (axRm (9) (axCs (axOI res)) (6 * axCs (axOI res))) mt_X9_fits (axMQ g (axCs (axOI res)) (6 * axCs (axOI res)) (axOI res)) 0 0 S 0 [(0, .ref v0), (1, .int v1)] []
  unfold F_X9_fits at h
  refine aw_aload_n 0 dX9_fits_0 rfl rfl ?_
  refine aw_iload_n 1 dX9_fits_1 rfl rfl ?_
  refine aw_if_lt 14 dX9_fits_2 (by decide) h (fun h => ?_) (fun h => ?_)
  · refine aw_env [(0, .ref v0), (1, .int v1)] [0, 1] rfl ?_
    exact L1_X9_fits_14 hl0 N  v0 v1 v0 S h
  · refine aw_iload_n 1 dX9_fits_5 rfl rfl ?_
    refine aw_iconst 3 dX9_fits_6 rfl ?_
    refine aw_icmp_gt 14 dX9_fits_7 (by decide) h (fun h => ?_) (fun h => ?_)
    · refine aw_env [(0, .ref v0), (1, .int v1)] [0, 1] rfl ?_
      exact L1_X9_fits_14 hl0 N  v0 v1 v0 S h
    · refine aw_iconst 1 dX9_fits_10 rfl ?_
      refine aw_goto 15 dX9_fits_11 (by decide) ?_
      refine aw_env [(0, .ref v0), (1, .int v1)] [0, 1] rfl ?_
      exact L1_X9_fits_15 hl0 N  v0 v1 1 v0 S h

theorem dX9_count_0 : decode cX9_count 0 = .ok (.aload_n 0, 1) := by decide +kernel
theorem dX9_count_1 : decode cX9_count 1 = .ok (.iload_n 1, 1) := by decide +kernel
theorem dX9_count_2 : decode cX9_count 2 = .ok (.ifCond .lt 12, 3) := by decide +kernel
theorem dX9_count_5 : decode cX9_count 5 = .ok (.iload_n 1, 1) := by decide +kernel
theorem dX9_count_6 : decode cX9_count 6 = .ok (.iconst 1, 1) := by decide +kernel
theorem dX9_count_7 : decode cX9_count 7 = .ok (.if_icmp .gt 7, 3) := by decide +kernel
theorem dX9_count_10 : decode cX9_count 10 = .ok (.iconst 1, 1) := by decide +kernel
theorem dX9_count_11 : decode cX9_count 11 = .ok (.goto 4, 3) := by decide +kernel
theorem dX9_count_14 : decode cX9_count 14 = .ok (.iconst 0, 1) := by decide +kernel
theorem dX9_count_15 : decode cX9_count 15 = .ok (.invokevirtual 128, 3) := by decide +kernel
theorem dX9_count_18 : decode cX9_count 18 = .ok (.aload_n 0, 1) := by decide +kernel
theorem dX9_count_19 : decode cX9_count 19 = .ok (.invokevirtual 298, 3) := by decide +kernel
theorem dX9_count_22 : decode cX9_count 22 = .ok (.iload_n 1, 1) := by decide +kernel
theorem dX9_count_23 : decode cX9_count 23 = .ok (.ifCond .ne 13, 3) := by decide +kernel
theorem dX9_count_26 : decode cX9_count 26 = .ok (.aload_n 0, 1) := by decide +kernel
theorem dX9_count_27 : decode cX9_count 27 = .ok (.getfield 79, 3) := by decide +kernel
theorem dX9_count_30 : decode cX9_count 30 = .ok (.getfield 311, 3) := by decide +kernel
theorem dX9_count_33 : decode cX9_count 33 = .ok (.goto 10, 3) := by decide +kernel
theorem dX9_count_36 : decode cX9_count 36 = .ok (.aload_n 0, 1) := by decide +kernel
theorem dX9_count_37 : decode cX9_count 37 = .ok (.getfield 79, 3) := by decide +kernel
theorem dX9_count_40 : decode cX9_count 40 = .ok (.getfield 312, 3) := by decide +kernel
theorem dX9_count_43 : decode cX9_count 43 = .ok (.ireturn, 1) := by decide +kernel
abbrev mt_X9_count : AxM := (RX9, cX9_count, 2, (some .int), false, [])
theorem L1_X9_count_15 {g : AxG} {l : Launch} (hl0 : l.stackTraces = false) {res : AxT Int32} (N : Nat)  (v0 : Nat) (v1 : Int32) (w0 : Int32) (w1 : Nat) (S : AxS) (h : F_X9_count_15 N  v0 v1 w0 w1 S = some res) : AW g l (axRm (9) (axCs (axOI res)) (6 * axCs (axOI res))) mt_X9_count (axMQ g (axCs (axOI res)) (6 * axCs (axOI res)) (axOI res)) 0 0 S 15 [(0, .ref v0), (1, .int v1)] [.int w0, .ref w1] := by
  unfold F_X9_count_15 at h
  obtain ⟨hL1, h⟩ := ax_is_spec h
  refine aw_thV (ob := axOI) (rest := []) (fun _ _ => rfl) rfl h (fun u9 hF hu => aw_runV (As := [.int w0]) (rest := []) (L1_X9_needArgument hl0 N hF) axc9 hL1 wd_604 wd_601 wd_603 wd_3 wd_87 pd_X9_needArgument rfl (ax_rm (by omega) rfl) (ax_hfV (fun _ _ => rfl) hu) (Nat.le_of_ble_eq_true rfl) rfl dX9_count_15) (fun T2 h => ?_)
  refine aw_aload_n 0 dX9_count_18 rfl rfl ?_
  obtain ⟨hL4, h⟩ := ax_is_spec h
  refine aw_doneV (rest := []) h (fun S9 hF => aw_runV (As := []) (rest := []) (L1_X9_findFits N hF) axc9 hL4 wd_1079 wd_1076 wd_1078 wd_22 wd_87 pd_X9_findFits rfl (ax_rm (by omega) rfl) ax_hf0 (Nat.le_of_ble_eq_true rfl) rfl dX9_count_19) (fun T5 h => ?_)
  refine aw_iload_n 1 dX9_count_22 rfl rfl ?_
  refine aw_if_ne 36 dX9_count_23 (by decide) h (fun h => ?_) (fun h => ?_)
  · refine aw_aload_n 0 dX9_count_36 rfl rfl ?_
    refine aw_getR axc9 16 rfl rfl wd_469 dX9_count_37 h (fun a7 h => ?_)
    refine aw_getI axc2 6 rfl rfl wd_388 dX9_count_40 h (fun x8 h => ?_)
    exact aw_iretT dX9_count_43 rfl h
  · refine aw_aload_n 0 dX9_count_26 rfl rfl ?_
    refine aw_getR axc9 16 rfl rfl wd_469 dX9_count_27 h (fun a9 h => ?_)
    refine aw_getI axc2 5 rfl rfl wd_386 dX9_count_30 h (fun x10 h => ?_)
    refine aw_goto 43 dX9_count_33 (by decide) ?_
    exact aw_iretT dX9_count_43 rfl h
theorem L1_X9_count_14 {g : AxG} {l : Launch} (hl0 : l.stackTraces = false) {res : AxT Int32} (N : Nat)  (v0 : Nat) (v1 : Int32) (w0 : Nat) (S : AxS) (h : F_X9_count_14 N  v0 v1 w0 S = some res) : AW g l (axRm (9) (axCs (axOI res)) (6 * axCs (axOI res))) mt_X9_count (axMQ g (axCs (axOI res)) (6 * axCs (axOI res)) (axOI res)) 0 0 S 14 [(0, .ref v0), (1, .int v1)] [.ref w0] := by
  unfold F_X9_count_14 at h
  refine aw_iconst 0 dX9_count_14 rfl ?_
  refine aw_env [(0, .ref v0), (1, .int v1)] [0, 1] rfl ?_
  exact L1_X9_count_15 hl0 N  v0 v1 0 w0 S h
theorem L1_X9_count {g : AxG} {l : Launch} (hl0 : l.stackTraces = false) (N : Nat) {v0 : Nat} {v1 : Int32} {S : AxS} {res : AxT Int32} (h : F_X9_count N v0 v1 S = some res) : AxMet g l yX9_count cX9_count 2 (some .int) (9) (axCs (axOI res)) (6 * axCs (axOI res)) [.ref v0, .int v1] S (axOI res) := by
  refine ax_met (own := RX9) (ini := false) (by decide +kernel) rfl (fun h => nomatch h) rfl ?_
  show AW g l (axRm (9) (axCs (axOI res)) (6 * axCs (axOI res))) mt_X9_count (axMQ g (axCs (axOI res)) (6 * axCs (axOI res)) (axOI res)) 0 0 S 0 [(0, .ref v0), (1, .int v1)] []
  unfold F_X9_count at h
  refine aw_aload_n 0 dX9_count_0 rfl rfl ?_
  refine aw_iload_n 1 dX9_count_1 rfl rfl ?_
  refine aw_if_lt 14 dX9_count_2 (by decide) h (fun h => ?_) (fun h => ?_)
  · refine aw_env [(0, .ref v0), (1, .int v1)] [0, 1] rfl ?_
    exact L1_X9_count_14 hl0 N  v0 v1 v0 S h
  · refine aw_iload_n 1 dX9_count_5 rfl rfl ?_
    refine aw_iconst 1 dX9_count_6 rfl ?_
    refine aw_icmp_gt 14 dX9_count_7 (by decide) h (fun h => ?_) (fun h => ?_)
    · refine aw_env [(0, .ref v0), (1, .int v1)] [0, 1] rfl ?_
      exact L1_X9_count_14 hl0 N  v0 v1 v0 S h
    · refine aw_iconst 1 dX9_count_10 rfl ?_
      refine aw_goto 15 dX9_count_11 (by decide) ?_
      refine aw_env [(0, .ref v0), (1, .int v1)] [0, 1] rfl ?_
      exact L1_X9_count_15 hl0 N  v0 v1 1 v0 S h

theorem dX9_needReceipt_0 : decode cX9_needReceipt 0 = .ok (.aload_n 0, 1) := by decide +kernel
theorem dX9_needReceipt_1 : decode cX9_needReceipt 1 = .ok (.iload_n 1, 1) := by decide +kernel
theorem dX9_needReceipt_2 : decode cX9_needReceipt 2 = .ok (.ifCond .lt 33, 3) := by decide +kernel
theorem dX9_needReceipt_5 : decode cX9_needReceipt 5 = .ok (.iload_n 1, 1) := by decide +kernel
theorem dX9_needReceipt_6 : decode cX9_needReceipt 6 = .ok (.bipush 8, 2) := by decide +kernel
theorem dX9_needReceipt_8 : decode cX9_needReceipt 8 = .ok (.if_icmp .gt 27, 3) := by decide +kernel
theorem dX9_needReceipt_11 : decode cX9_needReceipt 11 = .ok (.iload_n 2, 1) := by decide +kernel
theorem dX9_needReceipt_12 : decode cX9_needReceipt 12 = .ok (.ifCond .lt 23, 3) := by decide +kernel
theorem dX9_needReceipt_15 : decode cX9_needReceipt 15 = .ok (.iload_n 2, 1) := by decide +kernel
theorem dX9_needReceipt_16 : decode cX9_needReceipt 16 = .ok (.bipush 16, 2) := by decide +kernel
theorem dX9_needReceipt_18 : decode cX9_needReceipt 18 = .ok (.if_icmp .gt 17, 3) := by decide +kernel
theorem dX9_needReceipt_21 : decode cX9_needReceipt 21 = .ok (.iload_n 3, 1) := by decide +kernel
theorem dX9_needReceipt_22 : decode cX9_needReceipt 22 = .ok (.ifCond .lt 13, 3) := by decide +kernel
theorem dX9_needReceipt_25 : decode cX9_needReceipt 25 = .ok (.iload_n 3, 1) := by decide +kernel
theorem dX9_needReceipt_26 : decode cX9_needReceipt 26 = .ok (.bipush 16, 2) := by decide +kernel
theorem dX9_needReceipt_28 : decode cX9_needReceipt 28 = .ok (.if_icmp .gt 7, 3) := by decide +kernel
theorem dX9_needReceipt_31 : decode cX9_needReceipt 31 = .ok (.iconst 1, 1) := by decide +kernel
theorem dX9_needReceipt_32 : decode cX9_needReceipt 32 = .ok (.goto 4, 3) := by decide +kernel
theorem dX9_needReceipt_35 : decode cX9_needReceipt 35 = .ok (.iconst 0, 1) := by decide +kernel
theorem dX9_needReceipt_36 : decode cX9_needReceipt 36 = .ok (.invokevirtual 128, 3) := by decide +kernel
theorem dX9_needReceipt_39 : decode cX9_needReceipt 39 = .ok (.return_, 1) := by decide +kernel
abbrev mt_X9_needReceipt : AxM := (RX9, cX9_needReceipt, 4, none, false, [])
theorem L1_X9_needReceipt_36 {g : AxG} {l : Launch} (hl0 : l.stackTraces = false) {res : AxT Unit} (N : Nat)  (w0 : Int32) (w1 : Nat) (S : AxS) (h : F_X9_needReceipt_36 N  w0 w1 S = some res) : AW g l (axRm (9) (axCs (axOV res)) (6 * axCs (axOV res))) mt_X9_needReceipt (axMQ g (axCs (axOV res)) (6 * axCs (axOV res)) (axOV res)) 0 0 S 36 [] [.int w0, .ref w1] := by
  unfold F_X9_needReceipt_36 at h
  obtain ⟨hL1, h⟩ := ax_is_spec h
  refine aw_thV (ob := axOV) (rest := []) (fun _ _ => rfl) rfl h (fun u9 hF hu => aw_runV (As := [.int w0]) (rest := []) (L1_X9_needArgument hl0 N hF) axc9 hL1 wd_604 wd_601 wd_603 wd_3 wd_87 pd_X9_needArgument rfl (ax_rm (by omega) rfl) (ax_hfV (fun _ _ => rfl) hu) (Nat.le_of_ble_eq_true rfl) rfl dX9_needReceipt_36) (fun T2 h => ?_)
  exact aw_vretT dX9_needReceipt_39 rfl h
theorem L1_X9_needReceipt_35 {g : AxG} {l : Launch} (hl0 : l.stackTraces = false) {res : AxT Unit} (N : Nat)  (w0 : Nat) (S : AxS) (h : F_X9_needReceipt_35 N  w0 S = some res) : AW g l (axRm (9) (axCs (axOV res)) (6 * axCs (axOV res))) mt_X9_needReceipt (axMQ g (axCs (axOV res)) (6 * axCs (axOV res)) (axOV res)) 0 0 S 35 [] [.ref w0] := by
  unfold F_X9_needReceipt_35 at h
  refine aw_iconst 0 dX9_needReceipt_35 rfl ?_
  refine aw_env [] [] rfl ?_
  exact L1_X9_needReceipt_36 hl0 N  0 w0 S h
theorem L1_X9_needReceipt {g : AxG} {l : Launch} (hl0 : l.stackTraces = false) (N : Nat) {v0 : Nat} {v1 : Int32} {v2 : Int32} {v3 : Int32} {S : AxS} {res : AxT Unit} (h : F_X9_needReceipt N v0 v1 v2 v3 S = some res) : AxMet g l yX9_needReceipt cX9_needReceipt 4 none (9) (axCs (axOV res)) (6 * axCs (axOV res)) [.ref v0, .int v1, .int v2, .int v3] S (axOV res) := by
  refine ax_met (own := RX9) (ini := false) (by decide +kernel) rfl (fun h => nomatch h) rfl ?_
  show AW g l (axRm (9) (axCs (axOV res)) (6 * axCs (axOV res))) mt_X9_needReceipt (axMQ g (axCs (axOV res)) (6 * axCs (axOV res)) (axOV res)) 0 0 S 0 [(0, .ref v0), (1, .int v1), (2, .int v2), (3, .int v3)] []
  unfold F_X9_needReceipt at h
  refine aw_aload_n 0 dX9_needReceipt_0 rfl rfl ?_
  refine aw_iload_n 1 dX9_needReceipt_1 rfl rfl ?_
  refine aw_if_lt 35 dX9_needReceipt_2 (by decide) h (fun h => ?_) (fun h => ?_)
  · refine aw_env [] [] rfl ?_
    exact L1_X9_needReceipt_35 hl0 N  v0 S h
  · refine aw_iload_n 1 dX9_needReceipt_5 rfl rfl ?_
    refine aw_bipush 8 dX9_needReceipt_6 (by decide) ?_
    refine aw_icmp_gt 35 dX9_needReceipt_8 (by decide) h (fun h => ?_) (fun h => ?_)
    · refine aw_env [] [] rfl ?_
      exact L1_X9_needReceipt_35 hl0 N  v0 S h
    · refine aw_iload_n 2 dX9_needReceipt_11 rfl rfl ?_
      refine aw_if_lt 35 dX9_needReceipt_12 (by decide) h (fun h => ?_) (fun h => ?_)
      · refine aw_env [] [] rfl ?_
        exact L1_X9_needReceipt_35 hl0 N  v0 S h
      · refine aw_iload_n 2 dX9_needReceipt_15 rfl rfl ?_
        refine aw_bipush 16 dX9_needReceipt_16 (by decide) ?_
        refine aw_icmp_gt 35 dX9_needReceipt_18 (by decide) h (fun h => ?_) (fun h => ?_)
        · refine aw_env [] [] rfl ?_
          exact L1_X9_needReceipt_35 hl0 N  v0 S h
        · refine aw_iload_n 3 dX9_needReceipt_21 rfl rfl ?_
          refine aw_if_lt 35 dX9_needReceipt_22 (by decide) h (fun h => ?_) (fun h => ?_)
          · refine aw_env [] [] rfl ?_
            exact L1_X9_needReceipt_35 hl0 N  v0 S h
          · refine aw_iload_n 3 dX9_needReceipt_25 rfl rfl ?_
            refine aw_bipush 16 dX9_needReceipt_26 (by decide) ?_
            refine aw_icmp_gt 35 dX9_needReceipt_28 (by decide) h (fun h => ?_) (fun h => ?_)
            · refine aw_env [] [] rfl ?_
              exact L1_X9_needReceipt_35 hl0 N  v0 S h
            · refine aw_iconst 1 dX9_needReceipt_31 rfl ?_
              refine aw_goto 36 dX9_needReceipt_32 (by decide) ?_
              refine aw_env [] [] rfl ?_
              exact L1_X9_needReceipt_36 hl0 N  1 v0 S h

theorem dX9_choices_0 : decode cX9_choices 0 = .ok (.lconst 1, 1) := by decide +kernel
theorem dX9_choices_1 : decode cX9_choices 1 = .ok (.lstore_n 2, 1) := by decide +kernel
theorem dX9_choices_2 : decode cX9_choices 2 = .ok (.iconst 1, 1) := by decide +kernel
theorem dX9_choices_3 : decode cX9_choices 3 = .ok (.istore 4, 2) := by decide +kernel
theorem dX9_choices_5 : decode cX9_choices 5 = .ok (.iload 4, 2) := by decide +kernel
theorem dX9_choices_7 : decode cX9_choices 7 = .ok (.iload_n 1, 1) := by decide +kernel
theorem dX9_choices_8 : decode cX9_choices 8 = .ok (.if_icmp .gt 23, 3) := by decide +kernel
theorem dX9_choices_11 : decode cX9_choices 11 = .ok (.lload_n 2, 1) := by decide +kernel
theorem dX9_choices_12 : decode cX9_choices 12 = .ok (.iload_n 0, 1) := by decide +kernel
theorem dX9_choices_13 : decode cX9_choices 13 = .ok (.iconst 1, 1) := by decide +kernel
theorem dX9_choices_14 : decode cX9_choices 14 = .ok (.iadd, 1) := by decide +kernel
theorem dX9_choices_15 : decode cX9_choices 15 = .ok (.iload 4, 2) := by decide +kernel
theorem dX9_choices_17 : decode cX9_choices 17 = .ok (.isub, 1) := by decide +kernel
theorem dX9_choices_18 : decode cX9_choices 18 = .ok (.i2l, 1) := by decide +kernel
theorem dX9_choices_19 : decode cX9_choices 19 = .ok (.lmul, 1) := by decide +kernel
theorem dX9_choices_20 : decode cX9_choices 20 = .ok (.iload 4, 2) := by decide +kernel
theorem dX9_choices_22 : decode cX9_choices 22 = .ok (.i2l, 1) := by decide +kernel
theorem dX9_choices_23 : decode cX9_choices 23 = .ok (.ldiv, 1) := by decide +kernel
theorem dX9_choices_24 : decode cX9_choices 24 = .ok (.lstore_n 2, 1) := by decide +kernel
theorem dX9_choices_25 : decode cX9_choices 25 = .ok (.iinc 4 1, 3) := by decide +kernel
theorem dX9_choices_28 : decode cX9_choices 28 = .ok (.goto (-23), 3) := by decide +kernel
theorem dX9_choices_31 : decode cX9_choices 31 = .ok (.lload_n 2, 1) := by decide +kernel
theorem dX9_choices_32 : decode cX9_choices 32 = .ok (.lreturn, 1) := by decide +kernel
abbrev mt_X9_choices : AxM := (RX9, cX9_choices, 5, (some .long), false, [])
theorem L1_X9_choices_5b {g : AxG} {l : Launch} {r9 : Int64} {S9 : AxS} (N : Nat) (K5 : Int32 → Int32 → Int64 → Int32 → AxS → Option (Int64 × AxS)) (hK5 : ∀ (v0 : Int32) (v1 : Int32) (v2 : Int64) (v4 : Int32) (S : AxS), K5 v0 v1 v2 v4 S = some ((r9, S9)) → AW g l (axRm (0) 0 0) mt_X9_choices (axMQ g 0 0 (.inl (some (.long r9)), S9)) 0 0 S 5 [(0, .int v0), (1, .int v1), (2, .long v2), (4, .int v4)] []) (v0 : Int32) (v1 : Int32) (v2 : Int64) (v4 : Int32) (S : AxS) (h : F_X9_choices_5b N K5 v0 v1 v2 v4 S = some ((r9, S9))) : AW g l (axRm (0) 0 0) mt_X9_choices (axMQ g 0 0 (.inl (some (.long r9)), S9)) 0 0 S 5 [(0, .int v0), (1, .int v1), (2, .long v2), (4, .int v4)] [] := by
  unfold F_X9_choices_5b at h
  refine aw_iload 3 dX9_choices_5 rfl ?_
  refine aw_iload_n 1 dX9_choices_7 rfl rfl ?_
  refine aw_icmp_gt 31 dX9_choices_8 (by decide) h (fun h => ?_) (fun h => ?_)
  · refine aw_lload_n 2 dX9_choices_31 rfl rfl ?_
    exact aw_lret dX9_choices_32 rfl (Nat.le_refl _) (Nat.le_refl _) h
  · refine aw_lload_n 2 dX9_choices_11 rfl rfl ?_
    refine aw_iload_n 0 dX9_choices_12 rfl rfl ?_
    refine aw_iconst 1 dX9_choices_13 rfl ?_
    refine aw_iadd dX9_choices_14 ?_
    refine aw_iload 3 dX9_choices_15 rfl ?_
    refine aw_isub dX9_choices_17 ?_
    refine aw_i2l dX9_choices_18 ?_
    refine aw_lmul dX9_choices_19 ?_
    refine aw_iload 3 dX9_choices_20 rfl ?_
    refine aw_i2l dX9_choices_22 ?_
    refine aw_ldiv dX9_choices_23 h (fun h => ?_)
    refine aw_lstore_n 2 [(2, .long ((v2 * (Int32.toInt64 ((v0 + 1) - v4))) / (Int32.toInt64 v4))), (0, .int v0), (1, .int v1), (4, .int v4)] dX9_choices_24 rfl rfl rfl ?_
    refine aw_iinc 3 [(4, .int (v4 + 1)), (2, .long ((v2 * (Int32.toInt64 ((v0 + 1) - v4))) / (Int32.toInt64 v4))), (0, .int v0), (1, .int v1)] (v4 + 1) dX9_choices_25 rfl rfl rfl rfl ?_
    refine aw_goto 5 dX9_choices_28 (by decide) ?_
    refine aw_env [(0, .int v0), (1, .int v1), (2, .long ((v2 * (Int32.toInt64 ((v0 + 1) - v4))) / (Int32.toInt64 v4))), (4, .int (v4 + 1))] [2, 3, 1, 0] rfl ?_
    exact hK5 v0 v1 ((v2 * (Int32.toInt64 ((v0 + 1) - v4))) / (Int32.toInt64 v4)) (v4 + 1) S h
theorem L1_X9_choices_5 {g : AxG} {l : Launch} {r9 : Int64} {S9 : AxS} (N : Nat)  : ∀ (n : Nat) (v0 : Int32) (v1 : Int32) (v2 : Int64) (v4 : Int32) (S : AxS), F_X9_choices_5 N  n v0 v1 v2 v4 S = some ((r9, S9)) → AW g l (axRm (0) 0 0) mt_X9_choices (axMQ g 0 0 (.inl (some (.long r9)), S9)) 0 0 S 5 [(0, .int v0), (1, .int v1), (2, .long v2), (4, .int v4)] [] := by
  intro n
  induction n with
  | zero => intro v0 v1 v2 v4 S h; cases h
  | succ n ih => intro v0 v1 v2 v4 S h; exact L1_X9_choices_5b N (F_X9_choices_5 N  n) ih v0 v1 v2 v4 S h
theorem L1_X9_choices {g : AxG} {l : Launch} (N : Nat) {v0 : Int32} {v1 : Int32} {S : AxS} {r9 : Int64} {S9 : AxS} (h : F_X9_choices N v0 v1 S = some ((r9, S9))) : AxMet g l yX9_choices cX9_choices 5 (some .long) (0) 0 0 [.int v0, .int v1] S ((.inl (some (.long r9)), S9)) := by
  refine ax_met (own := RX9) (ini := false) (by decide +kernel) rfl (fun h => nomatch h) rfl ?_
  show AW g l (axRm (0) 0 0) mt_X9_choices (axMQ g 0 0 (.inl (some (.long r9)), S9)) 0 0 S 0 [(0, .int v0), (1, .int v1)] []
  unfold F_X9_choices at h
  refine aw_lconst 1 dX9_choices_0 rfl ?_
  refine aw_lstore_n 2 [(2, .long 1), (0, .int v0), (1, .int v1)] dX9_choices_1 rfl rfl rfl ?_
  refine aw_iconst 1 dX9_choices_2 rfl ?_
  refine aw_istore [(4, .int 1), (2, .long 1), (0, .int v0), (1, .int v1)] dX9_choices_3 rfl rfl ?_
  refine aw_env [(0, .int v0), (1, .int v1), (2, .long 1), (4, .int 1)] [2, 3, 1, 0] rfl ?_
  exact L1_X9_choices_5 N  N v0 v1 1 1 S h

theorem dX9_power_0 : decode cX9_power 0 = .ok (.lconst 1, 1) := by decide +kernel
theorem dX9_power_1 : decode cX9_power 1 = .ok (.lstore_n 2, 1) := by decide +kernel
theorem dX9_power_2 : decode cX9_power 2 = .ok (.iconst 0, 1) := by decide +kernel
theorem dX9_power_3 : decode cX9_power 3 = .ok (.istore 4, 2) := by decide +kernel
theorem dX9_power_5 : decode cX9_power 5 = .ok (.iload 4, 2) := by decide +kernel
theorem dX9_power_7 : decode cX9_power 7 = .ok (.iload_n 1, 1) := by decide +kernel
theorem dX9_power_8 : decode cX9_power 8 = .ok (.if_icmp .ge 14, 3) := by decide +kernel
theorem dX9_power_11 : decode cX9_power 11 = .ok (.lload_n 2, 1) := by decide +kernel
theorem dX9_power_12 : decode cX9_power 12 = .ok (.iload_n 0, 1) := by decide +kernel
theorem dX9_power_13 : decode cX9_power 13 = .ok (.i2l, 1) := by decide +kernel
theorem dX9_power_14 : decode cX9_power 14 = .ok (.lmul, 1) := by decide +kernel
theorem dX9_power_15 : decode cX9_power 15 = .ok (.lstore_n 2, 1) := by decide +kernel
theorem dX9_power_16 : decode cX9_power 16 = .ok (.iinc 4 1, 3) := by decide +kernel
theorem dX9_power_19 : decode cX9_power 19 = .ok (.goto (-14), 3) := by decide +kernel
theorem dX9_power_22 : decode cX9_power 22 = .ok (.lload_n 2, 1) := by decide +kernel
theorem dX9_power_23 : decode cX9_power 23 = .ok (.lreturn, 1) := by decide +kernel
abbrev mt_X9_power : AxM := (RX9, cX9_power, 5, (some .long), false, [])
theorem L1_X9_power_5b {g : AxG} {l : Launch} {r9 : Int64} {S9 : AxS} (N : Nat) (K5 : Int32 → Int32 → Int64 → Int32 → AxS → Option (Int64 × AxS)) (hK5 : ∀ (v0 : Int32) (v1 : Int32) (v2 : Int64) (v4 : Int32) (S : AxS), K5 v0 v1 v2 v4 S = some ((r9, S9)) → AW g l (axRm (0) 0 0) mt_X9_power (axMQ g 0 0 (.inl (some (.long r9)), S9)) 0 0 S 5 [(0, .int v0), (1, .int v1), (2, .long v2), (4, .int v4)] []) (v0 : Int32) (v1 : Int32) (v2 : Int64) (v4 : Int32) (S : AxS) (h : F_X9_power_5b N K5 v0 v1 v2 v4 S = some ((r9, S9))) : AW g l (axRm (0) 0 0) mt_X9_power (axMQ g 0 0 (.inl (some (.long r9)), S9)) 0 0 S 5 [(0, .int v0), (1, .int v1), (2, .long v2), (4, .int v4)] [] := by
  unfold F_X9_power_5b at h
  refine aw_iload 3 dX9_power_5 rfl ?_
  refine aw_iload_n 1 dX9_power_7 rfl rfl ?_
  refine aw_icmp_ge 22 dX9_power_8 (by decide) h (fun h => ?_) (fun h => ?_)
  · refine aw_lload_n 2 dX9_power_22 rfl rfl ?_
    exact aw_lret dX9_power_23 rfl (Nat.le_refl _) (Nat.le_refl _) h
  · refine aw_lload_n 2 dX9_power_11 rfl rfl ?_
    refine aw_iload_n 0 dX9_power_12 rfl rfl ?_
    refine aw_i2l dX9_power_13 ?_
    refine aw_lmul dX9_power_14 ?_
    refine aw_lstore_n 2 [(2, .long (v2 * (Int32.toInt64 v0))), (0, .int v0), (1, .int v1), (4, .int v4)] dX9_power_15 rfl rfl rfl ?_
    refine aw_iinc 3 [(4, .int (v4 + 1)), (2, .long (v2 * (Int32.toInt64 v0))), (0, .int v0), (1, .int v1)] (v4 + 1) dX9_power_16 rfl rfl rfl rfl ?_
    refine aw_goto 5 dX9_power_19 (by decide) ?_
    refine aw_env [(0, .int v0), (1, .int v1), (2, .long (v2 * (Int32.toInt64 v0))), (4, .int (v4 + 1))] [2, 3, 1, 0] rfl ?_
    exact hK5 v0 v1 (v2 * (Int32.toInt64 v0)) (v4 + 1) S h
theorem L1_X9_power_5 {g : AxG} {l : Launch} {r9 : Int64} {S9 : AxS} (N : Nat)  : ∀ (n : Nat) (v0 : Int32) (v1 : Int32) (v2 : Int64) (v4 : Int32) (S : AxS), F_X9_power_5 N  n v0 v1 v2 v4 S = some ((r9, S9)) → AW g l (axRm (0) 0 0) mt_X9_power (axMQ g 0 0 (.inl (some (.long r9)), S9)) 0 0 S 5 [(0, .int v0), (1, .int v1), (2, .long v2), (4, .int v4)] [] := by
  intro n
  induction n with
  | zero => intro v0 v1 v2 v4 S h; cases h
  | succ n ih => intro v0 v1 v2 v4 S h; exact L1_X9_power_5b N (F_X9_power_5 N  n) ih v0 v1 v2 v4 S h
theorem L1_X9_power {g : AxG} {l : Launch} (N : Nat) {v0 : Int32} {v1 : Int32} {S : AxS} {r9 : Int64} {S9 : AxS} (h : F_X9_power N v0 v1 S = some ((r9, S9))) : AxMet g l yX9_power cX9_power 5 (some .long) (0) 0 0 [.int v0, .int v1] S ((.inl (some (.long r9)), S9)) := by
  refine ax_met (own := RX9) (ini := false) (by decide +kernel) rfl (fun h => nomatch h) rfl ?_
  show AW g l (axRm (0) 0 0) mt_X9_power (axMQ g 0 0 (.inl (some (.long r9)), S9)) 0 0 S 0 [(0, .int v0), (1, .int v1)] []
  unfold F_X9_power at h
  refine aw_lconst 1 dX9_power_0 rfl ?_
  refine aw_lstore_n 2 [(2, .long 1), (0, .int v0), (1, .int v1)] dX9_power_1 rfl rfl rfl ?_
  refine aw_iconst 0 dX9_power_2 rfl ?_
  refine aw_istore [(4, .int 0), (2, .long 1), (0, .int v0), (1, .int v1)] dX9_power_3 rfl rfl ?_
  refine aw_env [(0, .int v0), (1, .int v1), (2, .long 1), (4, .int 0)] [2, 3, 1, 0] rfl ?_
  exact L1_X9_power_5 N  N v0 v1 1 0 S h

theorem dX9_dullWays_0 : decode cX9_dullWays 0 = .ok (.lconst 0, 1) := by decide +kernel
theorem dX9_dullWays_1 : decode cX9_dullWays 1 = .ok (.lstore 4, 2) := by decide +kernel
theorem dX9_dullWays_3 : decode cX9_dullWays 3 = .ok (.iload_n 2, 1) := by decide +kernel
theorem dX9_dullWays_4 : decode cX9_dullWays 4 = .ok (.istore 6, 2) := by decide +kernel
theorem dX9_dullWays_6 : decode cX9_dullWays 6 = .ok (.iload 6, 2) := by decide +kernel
theorem dX9_dullWays_8 : decode cX9_dullWays 8 = .ok (.iload_n 3, 1) := by decide +kernel
theorem dX9_dullWays_9 : decode cX9_dullWays 9 = .ok (.if_icmp .ge 39, 3) := by decide +kernel
theorem dX9_dullWays_12 : decode cX9_dullWays 12 = .ok (.lload 4, 2) := by decide +kernel
theorem dX9_dullWays_14 : decode cX9_dullWays 14 = .ok (.iload_n 0, 1) := by decide +kernel
theorem dX9_dullWays_15 : decode cX9_dullWays 15 = .ok (.iload 6, 2) := by decide +kernel
theorem dX9_dullWays_17 : decode cX9_dullWays 17 = .ok (.invokestatic 447, 3) := by decide +kernel
theorem dX9_dullWays_20 : decode cX9_dullWays 20 = .ok (.iload_n 1, 1) := by decide +kernel
theorem dX9_dullWays_21 : decode cX9_dullWays 21 = .ok (.iload 6, 2) := by decide +kernel
theorem dX9_dullWays_23 : decode cX9_dullWays 23 = .ok (.invokestatic 322, 3) := by decide +kernel
theorem dX9_dullWays_26 : decode cX9_dullWays 26 = .ok (.lmul, 1) := by decide +kernel
theorem dX9_dullWays_27 : decode cX9_dullWays 27 = .ok (.bipush 16, 2) := by decide +kernel
theorem dX9_dullWays_29 : decode cX9_dullWays 29 = .ok (.iload_n 1, 1) := by decide +kernel
theorem dX9_dullWays_30 : decode cX9_dullWays 30 = .ok (.isub, 1) := by decide +kernel
theorem dX9_dullWays_31 : decode cX9_dullWays 31 = .ok (.iload_n 0, 1) := by decide +kernel
theorem dX9_dullWays_32 : decode cX9_dullWays 32 = .ok (.iload 6, 2) := by decide +kernel
theorem dX9_dullWays_34 : decode cX9_dullWays 34 = .ok (.isub, 1) := by decide +kernel
theorem dX9_dullWays_35 : decode cX9_dullWays 35 = .ok (.invokestatic 322, 3) := by decide +kernel
theorem dX9_dullWays_38 : decode cX9_dullWays 38 = .ok (.lmul, 1) := by decide +kernel
theorem dX9_dullWays_39 : decode cX9_dullWays 39 = .ok (.ladd, 1) := by decide +kernel
theorem dX9_dullWays_40 : decode cX9_dullWays 40 = .ok (.lstore 4, 2) := by decide +kernel
theorem dX9_dullWays_42 : decode cX9_dullWays 42 = .ok (.iinc 6 1, 3) := by decide +kernel
theorem dX9_dullWays_45 : decode cX9_dullWays 45 = .ok (.goto (-39), 3) := by decide +kernel
theorem dX9_dullWays_48 : decode cX9_dullWays 48 = .ok (.lload 4, 2) := by decide +kernel
theorem dX9_dullWays_50 : decode cX9_dullWays 50 = .ok (.lreturn, 1) := by decide +kernel
abbrev mt_X9_dullWays : AxM := (RX9, cX9_dullWays, 7, (some .long), false, [])
theorem L1_X9_dullWays_6b {g : AxG} {l : Launch} {r9 : Int64} {S9 : AxS} (N : Nat) (K6 : Int32 → Int32 → Int32 → Int64 → Int32 → AxS → Option (Int64 × AxS)) (hK6 : ∀ (v0 : Int32) (v1 : Int32) (v3 : Int32) (v4 : Int64) (v6 : Int32) (S : AxS), K6 v0 v1 v3 v4 v6 S = some ((r9, S9)) → AW g l (axRm (1) 0 0) mt_X9_dullWays (axMQ g 0 0 (.inl (some (.long r9)), S9)) 0 0 S 6 [(0, .int v0), (1, .int v1), (3, .int v3), (4, .long v4), (6, .int v6)] []) (v0 : Int32) (v1 : Int32) (v3 : Int32) (v4 : Int64) (v6 : Int32) (S : AxS) (h : F_X9_dullWays_6b N K6 v0 v1 v3 v4 v6 S = some ((r9, S9))) : AW g l (axRm (1) 0 0) mt_X9_dullWays (axMQ g 0 0 (.inl (some (.long r9)), S9)) 0 0 S 6 [(0, .int v0), (1, .int v1), (3, .int v3), (4, .long v4), (6, .int v6)] [] := by
  unfold F_X9_dullWays_6b at h
  refine aw_iload 4 dX9_dullWays_6 rfl ?_
  refine aw_iload_n 2 dX9_dullWays_8 rfl rfl ?_
  refine aw_icmp_ge 48 dX9_dullWays_9 (by decide) h (fun h => ?_) (fun h => ?_)
  · refine aw_lload 3 dX9_dullWays_48 rfl ?_
    exact aw_lret dX9_dullWays_50 rfl (Nat.le_refl _) (Nat.le_refl _) h
  · refine aw_lload 3 dX9_dullWays_12 rfl ?_
    refine aw_iload_n 0 dX9_dullWays_14 rfl rfl ?_
    refine aw_iload 4 dX9_dullWays_15 rfl ?_
    refine aw_doneL (rest := [.long v4]) h (fun r9 S9 hF => aw_runS (As := [.int v0, .int v6]) (rest := [.long v4]) (L1_X9_choices N hF) wd_1122 wd_1120 wd_1121 wd_87 pd_X9_choices.2 rfl (ax_rm (by omega) rfl) ax_hf0 (Nat.le_of_ble_eq_true rfl) rfl dX9_dullWays_17) (fun x2 T1 h => ?_)
    refine aw_iload_n 1 dX9_dullWays_20 rfl rfl ?_
    refine aw_iload 4 dX9_dullWays_21 rfl ?_
    refine aw_doneL (rest := [.long x2, .long v4]) h (fun r9 S9 hF => aw_runS (As := [.int v1, .int v6]) (rest := [.long x2, .long v4]) (L1_X9_power N hF) wd_1125 wd_1123 wd_1124 wd_87 pd_X9_power.2 rfl (ax_rm (by omega) rfl) ax_hf0 (Nat.le_of_ble_eq_true rfl) rfl dX9_dullWays_23) (fun x4 T3 h => ?_)
    refine aw_lmul dX9_dullWays_26 ?_
    refine aw_bipush 16 dX9_dullWays_27 (by decide) ?_
    refine aw_iload_n 1 dX9_dullWays_29 rfl rfl ?_
    refine aw_isub dX9_dullWays_30 ?_
    refine aw_iload_n 0 dX9_dullWays_31 rfl rfl ?_
    refine aw_iload 4 dX9_dullWays_32 rfl ?_
    refine aw_isub dX9_dullWays_34 ?_
    refine aw_doneL (rest := [.long (x2 * x4), .long v4]) h (fun r9 S9 hF => aw_runS (As := [.int (16 - v1), .int (v0 - v6)]) (rest := [.long (x2 * x4), .long v4]) (L1_X9_power N hF) wd_1125 wd_1123 wd_1124 wd_87 pd_X9_power.2 rfl (ax_rm (by omega) rfl) ax_hf0 (Nat.le_of_ble_eq_true rfl) rfl dX9_dullWays_35) (fun x6 T5 h => ?_)
    refine aw_lmul dX9_dullWays_38 ?_
    refine aw_ladd dX9_dullWays_39 ?_
    refine aw_lstore [(4, .long (v4 + ((x2 * x4) * x6))), (0, .int v0), (1, .int v1), (3, .int v3), (6, .int v6)] dX9_dullWays_40 rfl rfl ?_
    refine aw_iinc 4 [(6, .int (v6 + 1)), (4, .long (v4 + ((x2 * x4) * x6))), (0, .int v0), (1, .int v1), (3, .int v3)] (v6 + 1) dX9_dullWays_42 rfl rfl rfl rfl ?_
    refine aw_goto 6 dX9_dullWays_45 (by decide) ?_
    refine aw_env [(0, .int v0), (1, .int v1), (3, .int v3), (4, .long (v4 + ((x2 * x4) * x6))), (6, .int (v6 + 1))] [2, 3, 4, 1, 0] rfl ?_
    exact hK6 v0 v1 v3 (v4 + ((x2 * x4) * x6)) (v6 + 1) T5 h
theorem L1_X9_dullWays_6 {g : AxG} {l : Launch} {r9 : Int64} {S9 : AxS} (N : Nat)  : ∀ (n : Nat) (v0 : Int32) (v1 : Int32) (v3 : Int32) (v4 : Int64) (v6 : Int32) (S : AxS), F_X9_dullWays_6 N  n v0 v1 v3 v4 v6 S = some ((r9, S9)) → AW g l (axRm (1) 0 0) mt_X9_dullWays (axMQ g 0 0 (.inl (some (.long r9)), S9)) 0 0 S 6 [(0, .int v0), (1, .int v1), (3, .int v3), (4, .long v4), (6, .int v6)] [] := by
  intro n
  induction n with
  | zero => intro v0 v1 v3 v4 v6 S h; cases h
  | succ n ih => intro v0 v1 v3 v4 v6 S h; exact L1_X9_dullWays_6b N (F_X9_dullWays_6 N  n) ih v0 v1 v3 v4 v6 S h
theorem L1_X9_dullWays {g : AxG} {l : Launch} (N : Nat) {v0 : Int32} {v1 : Int32} {v2 : Int32} {v3 : Int32} {S : AxS} {r9 : Int64} {S9 : AxS} (h : F_X9_dullWays N v0 v1 v2 v3 S = some ((r9, S9))) : AxMet g l yX9_dullWays cX9_dullWays 7 (some .long) (1) 0 0 [.int v0, .int v1, .int v2, .int v3] S ((.inl (some (.long r9)), S9)) := by
  refine ax_met (own := RX9) (ini := false) (by decide +kernel) rfl (fun h => nomatch h) rfl ?_
  show AW g l (axRm (1) 0 0) mt_X9_dullWays (axMQ g 0 0 (.inl (some (.long r9)), S9)) 0 0 S 0 [(0, .int v0), (1, .int v1), (2, .int v2), (3, .int v3)] []
  unfold F_X9_dullWays at h
  refine aw_lconst 0 dX9_dullWays_0 rfl ?_
  refine aw_lstore [(4, .long 0), (0, .int v0), (1, .int v1), (2, .int v2), (3, .int v3)] dX9_dullWays_1 rfl rfl ?_
  refine aw_iload_n 3 dX9_dullWays_3 rfl rfl ?_
  refine aw_istore [(6, .int v2), (4, .long 0), (0, .int v0), (1, .int v1), (2, .int v2), (3, .int v3)] dX9_dullWays_4 rfl rfl ?_
  refine aw_env [(0, .int v0), (1, .int v1), (3, .int v3), (4, .long 0), (6, .int v2)] [2, 3, 5, 1, 0] rfl ?_
  exact L1_X9_dullWays_6 N  N v0 v1 v3 0 v2 S h

theorem dX9_mistaken_0 : decode cX9_mistaken 0 = .ok (.aload_n 0, 1) := by decide +kernel
theorem dX9_mistaken_1 : decode cX9_mistaken 1 = .ok (.iload_n 1, 1) := by decide +kernel
theorem dX9_mistaken_2 : decode cX9_mistaken 2 = .ok (.iload_n 2, 1) := by decide +kernel
theorem dX9_mistaken_3 : decode cX9_mistaken 3 = .ok (.iload_n 3, 1) := by decide +kernel
theorem dX9_mistaken_4 : decode cX9_mistaken 4 = .ok (.invokevirtual 315, 3) := by decide +kernel
theorem dX9_mistaken_7 : decode cX9_mistaken 7 = .ok (.aload_n 0, 1) := by decide +kernel
theorem dX9_mistaken_8 : decode cX9_mistaken 8 = .ok (.iload 4, 2) := by decide +kernel
theorem dX9_mistaken_10 : decode cX9_mistaken 10 = .ok (.ifCond .lt 15, 3) := by decide +kernel
theorem dX9_mistaken_13 : decode cX9_mistaken 13 = .ok (.iload 4, 2) := by decide +kernel
theorem dX9_mistaken_15 : decode cX9_mistaken 15 = .ok (.iload_n 1, 1) := by decide +kernel
theorem dX9_mistaken_16 : decode cX9_mistaken 16 = .ok (.iconst 1, 1) := by decide +kernel
theorem dX9_mistaken_17 : decode cX9_mistaken 17 = .ok (.iadd, 1) := by decide +kernel
theorem dX9_mistaken_18 : decode cX9_mistaken 18 = .ok (.if_icmp .gt 7, 3) := by decide +kernel
theorem dX9_mistaken_21 : decode cX9_mistaken 21 = .ok (.iconst 1, 1) := by decide +kernel
theorem dX9_mistaken_22 : decode cX9_mistaken 22 = .ok (.goto 4, 3) := by decide +kernel
theorem dX9_mistaken_25 : decode cX9_mistaken 25 = .ok (.iconst 0, 1) := by decide +kernel
theorem dX9_mistaken_26 : decode cX9_mistaken 26 = .ok (.invokevirtual 128, 3) := by decide +kernel
theorem dX9_mistaken_29 : decode cX9_mistaken 29 = .ok (.aload_n 0, 1) := by decide +kernel
theorem dX9_mistaken_30 : decode cX9_mistaken 30 = .ok (.iload 5, 2) := by decide +kernel
theorem dX9_mistaken_32 : decode cX9_mistaken 32 = .ok (.ifCond .lt 24, 3) := by decide +kernel
theorem dX9_mistaken_35 : decode cX9_mistaken 35 = .ok (.iload 5, 2) := by decide +kernel
theorem dX9_mistaken_37 : decode cX9_mistaken 37 = .ok (.iconst 1, 1) := by decide +kernel
theorem dX9_mistaken_38 : decode cX9_mistaken 38 = .ok (.if_icmp .gt 18, 3) := by decide +kernel
theorem dX9_mistaken_41 : decode cX9_mistaken 41 = .ok (.iload 6, 2) := by decide +kernel
theorem dX9_mistaken_43 : decode cX9_mistaken 43 = .ok (.ifCond .lt 13, 3) := by decide +kernel
theorem dX9_mistaken_46 : decode cX9_mistaken 46 = .ok (.iload 6, 2) := by decide +kernel
theorem dX9_mistaken_48 : decode cX9_mistaken 48 = .ok (.iconst 1, 1) := by decide +kernel
theorem dX9_mistaken_49 : decode cX9_mistaken 49 = .ok (.if_icmp .gt 7, 3) := by decide +kernel
theorem dX9_mistaken_52 : decode cX9_mistaken 52 = .ok (.iconst 1, 1) := by decide +kernel
theorem dX9_mistaken_53 : decode cX9_mistaken 53 = .ok (.goto 4, 3) := by decide +kernel
theorem dX9_mistaken_56 : decode cX9_mistaken 56 = .ok (.iconst 0, 1) := by decide +kernel
theorem dX9_mistaken_57 : decode cX9_mistaken 57 = .ok (.invokevirtual 128, 3) := by decide +kernel
theorem dX9_mistaken_60 : decode cX9_mistaken 60 = .ok (.iload 5, 2) := by decide +kernel
theorem dX9_mistaken_62 : decode cX9_mistaken 62 = .ok (.ifCond .ne 14, 3) := by decide +kernel
theorem dX9_mistaken_65 : decode cX9_mistaken 65 = .ok (.iload_n 1, 1) := by decide +kernel
theorem dX9_mistaken_66 : decode cX9_mistaken 66 = .ok (.iload_n 3, 1) := by decide +kernel
theorem dX9_mistaken_67 : decode cX9_mistaken 67 = .ok (.iconst 0, 1) := by decide +kernel
theorem dX9_mistaken_68 : decode cX9_mistaken 68 = .ok (.iload 4, 2) := by decide +kernel
theorem dX9_mistaken_70 : decode cX9_mistaken 70 = .ok (.invokestatic 318, 3) := by decide +kernel
theorem dX9_mistaken_73 : decode cX9_mistaken 73 = .ok (.goto 13, 3) := by decide +kernel
theorem dX9_mistaken_76 : decode cX9_mistaken 76 = .ok (.iload_n 1, 1) := by decide +kernel
theorem dX9_mistaken_77 : decode cX9_mistaken 77 = .ok (.iload_n 2, 1) := by decide +kernel
theorem dX9_mistaken_78 : decode cX9_mistaken 78 = .ok (.iload 4, 2) := by decide +kernel
theorem dX9_mistaken_80 : decode cX9_mistaken 80 = .ok (.iload_n 1, 1) := by decide +kernel
theorem dX9_mistaken_81 : decode cX9_mistaken 81 = .ok (.iconst 1, 1) := by decide +kernel
theorem dX9_mistaken_82 : decode cX9_mistaken 82 = .ok (.iadd, 1) := by decide +kernel
theorem dX9_mistaken_83 : decode cX9_mistaken 83 = .ok (.invokestatic 318, 3) := by decide +kernel
theorem dX9_mistaken_86 : decode cX9_mistaken 86 = .ok (.lstore 7, 2) := by decide +kernel
theorem dX9_mistaken_88 : decode cX9_mistaken 88 = .ok (.bipush 16, 2) := by decide +kernel
theorem dX9_mistaken_90 : decode cX9_mistaken 90 = .ok (.iload_n 1, 1) := by decide +kernel
theorem dX9_mistaken_91 : decode cX9_mistaken 91 = .ok (.invokestatic 322, 3) := by decide +kernel
theorem dX9_mistaken_94 : decode cX9_mistaken 94 = .ok (.lstore 9, 2) := by decide +kernel
theorem dX9_mistaken_96 : decode cX9_mistaken 96 = .ok (.iconst 0, 1) := by decide +kernel
theorem dX9_mistaken_97 : decode cX9_mistaken 97 = .ok (.istore 11, 2) := by decide +kernel
theorem dX9_mistaken_99 : decode cX9_mistaken 99 = .ok (.iload 11, 2) := by decide +kernel
theorem dX9_mistaken_101 : decode cX9_mistaken 101 = .ok (.bipush 32, 2) := by decide +kernel
theorem dX9_mistaken_103 : decode cX9_mistaken 103 = .ok (.if_icmp .ge 43, 3) := by decide +kernel
theorem dX9_mistaken_106 : decode cX9_mistaken 106 = .ok (.lload 9, 2) := by decide +kernel
theorem dX9_mistaken_108 : decode cX9_mistaken 108 = .ok (.lconst 1, 1) := by decide +kernel
theorem dX9_mistaken_109 : decode cX9_mistaken 109 = .ok (.lcmp, 1) := by decide +kernel
theorem dX9_mistaken_110 : decode cX9_mistaken 110 = .ok (.ifCond .le 36, 3) := by decide +kernel
theorem dX9_mistaken_113 : decode cX9_mistaken 113 = .ok (.lload 7, 2) := by decide +kernel
theorem dX9_mistaken_115 : decode cX9_mistaken 115 = .ok (.ldc2_w 326, 3) := by decide +kernel
theorem dX9_mistaken_118 : decode cX9_mistaken 118 = .ok (.lrem, 1) := by decide +kernel
theorem dX9_mistaken_119 : decode cX9_mistaken 119 = .ok (.lconst 0, 1) := by decide +kernel
theorem dX9_mistaken_120 : decode cX9_mistaken 120 = .ok (.lcmp, 1) := by decide +kernel
theorem dX9_mistaken_121 : decode cX9_mistaken 121 = .ok (.ifCond .ne 25, 3) := by decide +kernel
theorem dX9_mistaken_124 : decode cX9_mistaken 124 = .ok (.lload 7, 2) := by decide +kernel
theorem dX9_mistaken_126 : decode cX9_mistaken 126 = .ok (.ldc2_w 326, 3) := by decide +kernel
theorem dX9_mistaken_129 : decode cX9_mistaken 129 = .ok (.ldiv, 1) := by decide +kernel
theorem dX9_mistaken_130 : decode cX9_mistaken 130 = .ok (.lstore 7, 2) := by decide +kernel
theorem dX9_mistaken_132 : decode cX9_mistaken 132 = .ok (.lload 9, 2) := by decide +kernel
theorem dX9_mistaken_134 : decode cX9_mistaken 134 = .ok (.ldc2_w 326, 3) := by decide +kernel
theorem dX9_mistaken_137 : decode cX9_mistaken 137 = .ok (.ldiv, 1) := by decide +kernel
theorem dX9_mistaken_138 : decode cX9_mistaken 138 = .ok (.lstore 9, 2) := by decide +kernel
theorem dX9_mistaken_140 : decode cX9_mistaken 140 = .ok (.iinc 11 1, 3) := by decide +kernel
theorem dX9_mistaken_143 : decode cX9_mistaken 143 = .ok (.goto (-44), 3) := by decide +kernel
theorem dX9_mistaken_146 : decode cX9_mistaken 146 = .ok (.iload 6, 2) := by decide +kernel
theorem dX9_mistaken_148 : decode cX9_mistaken 148 = .ok (.ifCond .ne 8, 3) := by decide +kernel
theorem dX9_mistaken_151 : decode cX9_mistaken 151 = .ok (.lload 7, 2) := by decide +kernel
theorem dX9_mistaken_153 : decode cX9_mistaken 153 = .ok (.goto 5, 3) := by decide +kernel
theorem dX9_mistaken_156 : decode cX9_mistaken 156 = .ok (.lload 9, 2) := by decide +kernel
theorem dX9_mistaken_158 : decode cX9_mistaken 158 = .ok (.lreturn, 1) := by decide +kernel
abbrev mt_X9_mistaken : AxM := (RX9, cX9_mistaken, 12, (some .long), false, [])
theorem L1_X9_mistaken_146 {g : AxG} {l : Launch} (hl0 : l.stackTraces = false) {res : AxT Int64} (N : Nat)  (v6 : Int32) (v7 : Int64) (v9 : Int64) (S : AxS) (h : F_X9_mistaken_146 N  v6 v7 v9 S = some res) : AW g l (axRm (10) (axCs (axOL res)) (6 * axCs (axOL res))) mt_X9_mistaken (axMQ g (axCs (axOL res)) (6 * axCs (axOL res)) (axOL res)) 0 0 S 146 [(6, .int v6), (7, .long v7), (9, .long v9)] [] := by
  unfold F_X9_mistaken_146 at h
  refine aw_iload 0 dX9_mistaken_146 rfl ?_
  refine aw_if_ne 156 dX9_mistaken_148 (by decide) h (fun h => ?_) (fun h => ?_)
  · refine aw_lload 2 dX9_mistaken_156 rfl ?_
    exact aw_lretT dX9_mistaken_158 rfl h
  · refine aw_lload 1 dX9_mistaken_151 rfl ?_
    refine aw_goto 158 dX9_mistaken_153 (by decide) ?_
    exact aw_lretT dX9_mistaken_158 rfl h
theorem L1_X9_mistaken_99b {g : AxG} {l : Launch} (hl0 : l.stackTraces = false) {res : AxT Int64} (N : Nat) (K99 : Int32 → Int64 → Int64 → Int32 → AxS → Option (AxT Int64)) (hK99 : ∀ (v6 : Int32) (v7 : Int64) (v9 : Int64) (v11 : Int32) (S : AxS), K99 v6 v7 v9 v11 S = some res → AW g l (axRm (10) (axCs (axOL res)) (6 * axCs (axOL res))) mt_X9_mistaken (axMQ g (axCs (axOL res)) (6 * axCs (axOL res)) (axOL res)) 0 0 S 99 [(6, .int v6), (7, .long v7), (9, .long v9), (11, .int v11)] []) (v6 : Int32) (v7 : Int64) (v9 : Int64) (v11 : Int32) (S : AxS) (h : F_X9_mistaken_99b N K99 v6 v7 v9 v11 S = some res) : AW g l (axRm (10) (axCs (axOL res)) (6 * axCs (axOL res))) mt_X9_mistaken (axMQ g (axCs (axOL res)) (6 * axCs (axOL res)) (axOL res)) 0 0 S 99 [(6, .int v6), (7, .long v7), (9, .long v9), (11, .int v11)] [] := by
  unfold F_X9_mistaken_99b at h
  refine aw_iload 3 dX9_mistaken_99 rfl ?_
  refine aw_bipush 32 dX9_mistaken_101 (by decide) ?_
  refine aw_icmp_ge 146 dX9_mistaken_103 (by decide) h (fun h => ?_) (fun h => ?_)
  · refine aw_env [(6, .int v6), (7, .long v7), (9, .long v9)] [0, 1, 2] rfl ?_
    exact L1_X9_mistaken_146 hl0 N  v6 v7 v9 S h
  · refine aw_lload 2 dX9_mistaken_106 rfl ?_
    refine aw_lconst 1 dX9_mistaken_108 rfl ?_
    refine aw_lcmp dX9_mistaken_109 ?_
    refine aw_if_le 146 dX9_mistaken_110 (by decide) h (fun h => ?_) (fun h => ?_)
    · refine aw_env [(6, .int v6), (7, .long v7), (9, .long v9)] [0, 1, 2] rfl ?_
      exact L1_X9_mistaken_146 hl0 N  v6 v7 v9 S h
    · refine aw_lload 1 dX9_mistaken_113 rfl ?_
      refine aw_ldc2 wd_1126 dX9_mistaken_115 ?_
      refine aw_lrem dX9_mistaken_118 h (fun h => ?_)
      refine aw_lconst 0 dX9_mistaken_119 rfl ?_
      refine aw_lcmp dX9_mistaken_120 ?_
      refine aw_if_ne 146 dX9_mistaken_121 (by decide) h (fun h => ?_) (fun h => ?_)
      · refine aw_env [(6, .int v6), (7, .long v7), (9, .long v9)] [0, 1, 2] rfl ?_
        exact L1_X9_mistaken_146 hl0 N  v6 v7 v9 S h
      · refine aw_lload 1 dX9_mistaken_124 rfl ?_
        refine aw_ldc2 wd_1126 dX9_mistaken_126 ?_
        refine aw_ldiv dX9_mistaken_129 h (fun h => ?_)
        refine aw_lstore [(7, .long (v7 / 2)), (6, .int v6), (9, .long v9), (11, .int v11)] dX9_mistaken_130 rfl rfl ?_
        refine aw_lload 2 dX9_mistaken_132 rfl ?_
        refine aw_ldc2 wd_1126 dX9_mistaken_134 ?_
        refine aw_ldiv dX9_mistaken_137 h (fun h => ?_)
        refine aw_lstore [(9, .long (v9 / 2)), (7, .long (v7 / 2)), (6, .int v6), (11, .int v11)] dX9_mistaken_138 rfl rfl ?_
        refine aw_iinc 3 [(11, .int (v11 + 1)), (9, .long (v9 / 2)), (7, .long (v7 / 2)), (6, .int v6)] (v11 + 1) dX9_mistaken_140 rfl rfl rfl rfl ?_
        refine aw_goto 99 dX9_mistaken_143 (by decide) ?_
        refine aw_env [(6, .int v6), (7, .long (v7 / 2)), (9, .long (v9 / 2)), (11, .int (v11 + 1))] [3, 2, 1, 0] rfl ?_
        exact hK99 v6 (v7 / 2) (v9 / 2) (v11 + 1) S h
theorem L1_X9_mistaken_99 {g : AxG} {l : Launch} (hl0 : l.stackTraces = false) {res : AxT Int64} (N : Nat)  : ∀ (n : Nat) (v6 : Int32) (v7 : Int64) (v9 : Int64) (v11 : Int32) (S : AxS), F_X9_mistaken_99 N  n v6 v7 v9 v11 S = some res → AW g l (axRm (10) (axCs (axOL res)) (6 * axCs (axOL res))) mt_X9_mistaken (axMQ g (axCs (axOL res)) (6 * axCs (axOL res)) (axOL res)) 0 0 S 99 [(6, .int v6), (7, .long v7), (9, .long v9), (11, .int v11)] [] := by
  intro n
  induction n with
  | zero => intro v6 v7 v9 v11 S h; cases h
  | succ n ih => intro v6 v7 v9 v11 S h; exact L1_X9_mistaken_99b hl0 N (F_X9_mistaken_99 N  n) ih v6 v7 v9 v11 S h
theorem L1_X9_mistaken_86 {g : AxG} {l : Launch} (hl0 : l.stackTraces = false) {res : AxT Int64} (N : Nat)  (v1 : Int32) (v6 : Int32) (w0 : Int64) (S : AxS) (h : F_X9_mistaken_86 N  v1 v6 w0 S = some res) : AW g l (axRm (10) (axCs (axOL res)) (6 * axCs (axOL res))) mt_X9_mistaken (axMQ g (axCs (axOL res)) (6 * axCs (axOL res)) (axOL res)) 0 0 S 86 [(1, .int v1), (6, .int v6)] [.long w0] := by
  unfold F_X9_mistaken_86 at h
  refine aw_lstore [(7, .long w0), (1, .int v1), (6, .int v6)] dX9_mistaken_86 rfl rfl ?_
  refine aw_bipush 16 dX9_mistaken_88 (by decide) ?_
  refine aw_iload_n 1 dX9_mistaken_90 rfl rfl ?_
  refine aw_doneL (rest := []) h (fun r9 S9 hF => aw_runS (As := [.int 16, .int v1]) (rest := []) (L1_X9_power N hF) wd_1125 wd_1123 wd_1124 wd_87 pd_X9_power.2 rfl (ax_rm (by omega) rfl) ax_hf0 (Nat.le_of_ble_eq_true rfl) rfl dX9_mistaken_91) (fun x2 T1 h => ?_)
  refine aw_lstore [(9, .long x2), (7, .long w0), (1, .int v1), (6, .int v6)] dX9_mistaken_94 rfl rfl ?_
  refine aw_iconst 0 dX9_mistaken_96 rfl ?_
  refine aw_istore [(11, .int 0), (9, .long x2), (7, .long w0), (1, .int v1), (6, .int v6)] dX9_mistaken_97 rfl rfl ?_
  refine aw_env [(6, .int v6), (7, .long w0), (9, .long x2), (11, .int 0)] [4, 2, 1, 0] rfl ?_
  exact L1_X9_mistaken_99 hl0 N  N v6 w0 x2 0 T1 h
theorem L1_X9_mistaken_57 {g : AxG} {l : Launch} (hl0 : l.stackTraces = false) {res : AxT Int64} (N : Nat)  (v1 : Int32) (v2 : Int32) (v3 : Int32) (v4 : Int32) (v5 : Int32) (v6 : Int32) (w0 : Int32) (w1 : Nat) (S : AxS) (h : F_X9_mistaken_57 N  v1 v2 v3 v4 v5 v6 w0 w1 S = some res) : AW g l (axRm (10) (axCs (axOL res)) (6 * axCs (axOL res))) mt_X9_mistaken (axMQ g (axCs (axOL res)) (6 * axCs (axOL res)) (axOL res)) 0 0 S 57 [(1, .int v1), (2, .int v2), (3, .int v3), (4, .int v4), (5, .int v5), (6, .int v6)] [.int w0, .ref w1] := by
  unfold F_X9_mistaken_57 at h
  obtain ⟨hL1, h⟩ := ax_is_spec h
  refine aw_thV (ob := axOL) (rest := []) (fun _ _ => rfl) rfl h (fun u9 hF hu => aw_runV (As := [.int w0]) (rest := []) (L1_X9_needArgument hl0 N hF) axc9 hL1 wd_604 wd_601 wd_603 wd_3 wd_87 pd_X9_needArgument rfl (ax_rm (by omega) rfl) (ax_hfV (fun _ _ => rfl) hu) (Nat.le_of_ble_eq_true rfl) rfl dX9_mistaken_57) (fun T2 h => ?_)
  refine aw_iload 4 dX9_mistaken_60 rfl ?_
  refine aw_if_ne 76 dX9_mistaken_62 (by decide) h (fun h => ?_) (fun h => ?_)
  · refine aw_iload_n 0 dX9_mistaken_76 rfl rfl ?_
    refine aw_iload_n 1 dX9_mistaken_77 rfl rfl ?_
    refine aw_iload 3 dX9_mistaken_78 rfl ?_
    refine aw_iload_n 0 dX9_mistaken_80 rfl rfl ?_
    refine aw_iconst 1 dX9_mistaken_81 rfl ?_
    refine aw_iadd dX9_mistaken_82 ?_
    refine aw_doneL (rest := []) h (fun r9 S9 hF => aw_runS (As := [.int v1, .int v2, .int v4, .int (v1 + 1)]) (rest := []) (L1_X9_dullWays N hF) wd_1119 wd_1117 wd_1118 wd_87 pd_X9_dullWays.2 rfl (ax_rm (by omega) rfl) ax_hf0 (Nat.le_of_ble_eq_true rfl) rfl dX9_mistaken_83) (fun x5 T4 h => ?_)
    refine aw_env [(1, .int v1), (6, .int v6)] [0, 5] rfl ?_
    exact L1_X9_mistaken_86 hl0 N  v1 v6 x5 T4 h
  · refine aw_iload_n 0 dX9_mistaken_65 rfl rfl ?_
    refine aw_iload_n 2 dX9_mistaken_66 rfl rfl ?_
    refine aw_iconst 0 dX9_mistaken_67 rfl ?_
    refine aw_iload 3 dX9_mistaken_68 rfl ?_
    refine aw_doneL (rest := []) h (fun r9 S9 hF => aw_runS (As := [.int v1, .int v3, .int 0, .int v4]) (rest := []) (L1_X9_dullWays N hF) wd_1119 wd_1117 wd_1118 wd_87 pd_X9_dullWays.2 rfl (ax_rm (by omega) rfl) ax_hf0 (Nat.le_of_ble_eq_true rfl) rfl dX9_mistaken_70) (fun x7 T6 h => ?_)
    refine aw_goto 86 dX9_mistaken_73 (by decide) ?_
    refine aw_env [(1, .int v1), (6, .int v6)] [0, 5] rfl ?_
    exact L1_X9_mistaken_86 hl0 N  v1 v6 x7 T6 h
theorem L1_X9_mistaken_56 {g : AxG} {l : Launch} (hl0 : l.stackTraces = false) {res : AxT Int64} (N : Nat)  (v1 : Int32) (v2 : Int32) (v3 : Int32) (v4 : Int32) (v5 : Int32) (v6 : Int32) (w0 : Nat) (S : AxS) (h : F_X9_mistaken_56 N  v1 v2 v3 v4 v5 v6 w0 S = some res) : AW g l (axRm (10) (axCs (axOL res)) (6 * axCs (axOL res))) mt_X9_mistaken (axMQ g (axCs (axOL res)) (6 * axCs (axOL res)) (axOL res)) 0 0 S 56 [(1, .int v1), (2, .int v2), (3, .int v3), (4, .int v4), (5, .int v5), (6, .int v6)] [.ref w0] := by
  unfold F_X9_mistaken_56 at h
  refine aw_iconst 0 dX9_mistaken_56 rfl ?_
  refine aw_env [(1, .int v1), (2, .int v2), (3, .int v3), (4, .int v4), (5, .int v5), (6, .int v6)] [0, 1, 2, 3, 4, 5] rfl ?_
  exact L1_X9_mistaken_57 hl0 N  v1 v2 v3 v4 v5 v6 0 w0 S h
theorem L1_X9_mistaken_26 {g : AxG} {l : Launch} (hl0 : l.stackTraces = false) {res : AxT Int64} (N : Nat)  (v0 : Nat) (v1 : Int32) (v2 : Int32) (v3 : Int32) (v4 : Int32) (v5 : Int32) (v6 : Int32) (w0 : Int32) (w1 : Nat) (S : AxS) (h : F_X9_mistaken_26 N  v0 v1 v2 v3 v4 v5 v6 w0 w1 S = some res) : AW g l (axRm (10) (axCs (axOL res)) (6 * axCs (axOL res))) mt_X9_mistaken (axMQ g (axCs (axOL res)) (6 * axCs (axOL res)) (axOL res)) 0 0 S 26 [(0, .ref v0), (1, .int v1), (2, .int v2), (3, .int v3), (4, .int v4), (5, .int v5), (6, .int v6)] [.int w0, .ref w1] := by
  unfold F_X9_mistaken_26 at h
  obtain ⟨hL1, h⟩ := ax_is_spec h
  refine aw_thV (ob := axOL) (rest := []) (fun _ _ => rfl) rfl h (fun u9 hF hu => aw_runV (As := [.int w0]) (rest := []) (L1_X9_needArgument hl0 N hF) axc9 hL1 wd_604 wd_601 wd_603 wd_3 wd_87 pd_X9_needArgument rfl (ax_rm (by omega) rfl) (ax_hfV (fun _ _ => rfl) hu) (Nat.le_of_ble_eq_true rfl) rfl dX9_mistaken_26) (fun T2 h => ?_)
  refine aw_aload_n 0 dX9_mistaken_29 rfl rfl ?_
  refine aw_iload 5 dX9_mistaken_30 rfl ?_
  refine aw_if_lt 56 dX9_mistaken_32 (by decide) h (fun h => ?_) (fun h => ?_)
  · refine aw_env [(1, .int v1), (2, .int v2), (3, .int v3), (4, .int v4), (5, .int v5), (6, .int v6)] [1, 2, 3, 4, 5, 6] rfl ?_
    exact L1_X9_mistaken_56 hl0 N  v1 v2 v3 v4 v5 v6 v0 T2 h
  · refine aw_iload 5 dX9_mistaken_35 rfl ?_
    refine aw_iconst 1 dX9_mistaken_37 rfl ?_
    refine aw_icmp_gt 56 dX9_mistaken_38 (by decide) h (fun h => ?_) (fun h => ?_)
    · refine aw_env [(1, .int v1), (2, .int v2), (3, .int v3), (4, .int v4), (5, .int v5), (6, .int v6)] [1, 2, 3, 4, 5, 6] rfl ?_
      exact L1_X9_mistaken_56 hl0 N  v1 v2 v3 v4 v5 v6 v0 T2 h
    · refine aw_iload 6 dX9_mistaken_41 rfl ?_
      refine aw_if_lt 56 dX9_mistaken_43 (by decide) h (fun h => ?_) (fun h => ?_)
      · refine aw_env [(1, .int v1), (2, .int v2), (3, .int v3), (4, .int v4), (5, .int v5), (6, .int v6)] [1, 2, 3, 4, 5, 6] rfl ?_
        exact L1_X9_mistaken_56 hl0 N  v1 v2 v3 v4 v5 v6 v0 T2 h
      · refine aw_iload 6 dX9_mistaken_46 rfl ?_
        refine aw_iconst 1 dX9_mistaken_48 rfl ?_
        refine aw_icmp_gt 56 dX9_mistaken_49 (by decide) h (fun h => ?_) (fun h => ?_)
        · refine aw_env [(1, .int v1), (2, .int v2), (3, .int v3), (4, .int v4), (5, .int v5), (6, .int v6)] [1, 2, 3, 4, 5, 6] rfl ?_
          exact L1_X9_mistaken_56 hl0 N  v1 v2 v3 v4 v5 v6 v0 T2 h
        · refine aw_iconst 1 dX9_mistaken_52 rfl ?_
          refine aw_goto 57 dX9_mistaken_53 (by decide) ?_
          refine aw_env [(1, .int v1), (2, .int v2), (3, .int v3), (4, .int v4), (5, .int v5), (6, .int v6)] [1, 2, 3, 4, 5, 6] rfl ?_
          exact L1_X9_mistaken_57 hl0 N  v1 v2 v3 v4 v5 v6 1 v0 T2 h
theorem L1_X9_mistaken_25 {g : AxG} {l : Launch} (hl0 : l.stackTraces = false) {res : AxT Int64} (N : Nat)  (v0 : Nat) (v1 : Int32) (v2 : Int32) (v3 : Int32) (v4 : Int32) (v5 : Int32) (v6 : Int32) (w0 : Nat) (S : AxS) (h : F_X9_mistaken_25 N  v0 v1 v2 v3 v4 v5 v6 w0 S = some res) : AW g l (axRm (10) (axCs (axOL res)) (6 * axCs (axOL res))) mt_X9_mistaken (axMQ g (axCs (axOL res)) (6 * axCs (axOL res)) (axOL res)) 0 0 S 25 [(0, .ref v0), (1, .int v1), (2, .int v2), (3, .int v3), (4, .int v4), (5, .int v5), (6, .int v6)] [.ref w0] := by
  unfold F_X9_mistaken_25 at h
  refine aw_iconst 0 dX9_mistaken_25 rfl ?_
  refine aw_env [(0, .ref v0), (1, .int v1), (2, .int v2), (3, .int v3), (4, .int v4), (5, .int v5), (6, .int v6)] [0, 1, 2, 3, 4, 5, 6] rfl ?_
  exact L1_X9_mistaken_26 hl0 N  v0 v1 v2 v3 v4 v5 v6 0 w0 S h
theorem L1_X9_mistaken {g : AxG} {l : Launch} (hl0 : l.stackTraces = false) (N : Nat) {v0 : Nat} {v1 : Int32} {v2 : Int32} {v3 : Int32} {v4 : Int32} {v5 : Int32} {v6 : Int32} {S : AxS} {res : AxT Int64} (h : F_X9_mistaken N v0 v1 v2 v3 v4 v5 v6 S = some res) : AxMet g l yX9_mistaken cX9_mistaken 12 (some .long) (10) (axCs (axOL res)) (6 * axCs (axOL res)) [.ref v0, .int v1, .int v2, .int v3, .int v4, .int v5, .int v6] S (axOL res) := by
  refine ax_met (own := RX9) (ini := false) (by decide +kernel) rfl (fun h => nomatch h) rfl ?_
  show AW g l (axRm (10) (axCs (axOL res)) (6 * axCs (axOL res))) mt_X9_mistaken (axMQ g (axCs (axOL res)) (6 * axCs (axOL res)) (axOL res)) 0 0 S 0 [(0, .ref v0), (1, .int v1), (2, .int v2), (3, .int v3), (4, .int v4), (5, .int v5), (6, .int v6)] []
  unfold F_X9_mistaken at h
  refine aw_aload_n 0 dX9_mistaken_0 rfl rfl ?_
  refine aw_iload_n 1 dX9_mistaken_1 rfl rfl ?_
  refine aw_iload_n 2 dX9_mistaken_2 rfl rfl ?_
  refine aw_iload_n 3 dX9_mistaken_3 rfl rfl ?_
  obtain ⟨hL1, h⟩ := ax_is_spec h
  refine aw_thV (ob := axOL) (rest := []) (fun _ _ => rfl) rfl h (fun u9 hF hu => aw_runV (As := [.int v1, .int v2, .int v3]) (rest := []) (L1_X9_needReceipt hl0 N hF) axc9 hL1 wd_1116 wd_1113 wd_1115 wd_24 wd_87 pd_X9_needReceipt rfl (ax_rm (by omega) rfl) (ax_hfV (fun _ _ => rfl) hu) (Nat.le_of_ble_eq_true rfl) rfl dX9_mistaken_4) (fun T2 h => ?_)
  refine aw_aload_n 0 dX9_mistaken_7 rfl rfl ?_
  refine aw_iload 4 dX9_mistaken_8 rfl ?_
  refine aw_if_lt 25 dX9_mistaken_10 (by decide) h (fun h => ?_) (fun h => ?_)
  · refine aw_env [(0, .ref v0), (1, .int v1), (2, .int v2), (3, .int v3), (4, .int v4), (5, .int v5), (6, .int v6)] [0, 1, 2, 3, 4, 5, 6] rfl ?_
    exact L1_X9_mistaken_25 hl0 N  v0 v1 v2 v3 v4 v5 v6 v0 T2 h
  · refine aw_iload 4 dX9_mistaken_13 rfl ?_
    refine aw_iload_n 1 dX9_mistaken_15 rfl rfl ?_
    refine aw_iconst 1 dX9_mistaken_16 rfl ?_
    refine aw_iadd dX9_mistaken_17 ?_
    refine aw_icmp_gt 25 dX9_mistaken_18 (by decide) h (fun h => ?_) (fun h => ?_)
    · refine aw_env [(0, .ref v0), (1, .int v1), (2, .int v2), (3, .int v3), (4, .int v4), (5, .int v5), (6, .int v6)] [0, 1, 2, 3, 4, 5, 6] rfl ?_
      exact L1_X9_mistaken_25 hl0 N  v0 v1 v2 v3 v4 v5 v6 v0 T2 h
    · refine aw_iconst 1 dX9_mistaken_21 rfl ?_
      refine aw_goto 26 dX9_mistaken_22 (by decide) ?_
      refine aw_env [(0, .ref v0), (1, .int v1), (2, .int v2), (3, .int v3), (4, .int v4), (5, .int v5), (6, .int v6)] [0, 1, 2, 3, 4, 5, 6] rfl ?_
      exact L1_X9_mistaken_26 hl0 N  v0 v1 v2 v3 v4 v5 v6 1 v0 T2 h

theorem dX9_best_0 : decode cX9_best 0 = .ok (.aload_n 0, 1) := by decide +kernel
theorem dX9_best_1 : decode cX9_best 1 = .ok (.iload_n 1, 1) := by decide +kernel
theorem dX9_best_2 : decode cX9_best 2 = .ok (.iload_n 2, 1) := by decide +kernel
theorem dX9_best_3 : decode cX9_best 3 = .ok (.iload_n 3, 1) := by decide +kernel
theorem dX9_best_4 : decode cX9_best 4 = .ok (.invokevirtual 315, 3) := by decide +kernel
theorem dX9_best_7 : decode cX9_best 7 = .ok (.iconst 0, 1) := by decide +kernel
theorem dX9_best_8 : decode cX9_best 8 = .ok (.istore 4, 2) := by decide +kernel
theorem dX9_best_10 : decode cX9_best 10 = .ok (.ldc2_w 328, 3) := by decide +kernel
theorem dX9_best_13 : decode cX9_best 13 = .ok (.lstore 5, 2) := by decide +kernel
theorem dX9_best_15 : decode cX9_best 15 = .ok (.iconst 0, 1) := by decide +kernel
theorem dX9_best_16 : decode cX9_best 16 = .ok (.istore 7, 2) := by decide +kernel
theorem dX9_best_18 : decode cX9_best 18 = .ok (.iload 7, 2) := by decide +kernel
theorem dX9_best_20 : decode cX9_best 20 = .ok (.iload_n 1, 1) := by decide +kernel
theorem dX9_best_21 : decode cX9_best 21 = .ok (.iconst 1, 1) := by decide +kernel
theorem dX9_best_22 : decode cX9_best 22 = .ok (.iadd, 1) := by decide +kernel
theorem dX9_best_23 : decode cX9_best 23 = .ok (.if_icmp .gt 55, 3) := by decide +kernel
theorem dX9_best_26 : decode cX9_best 26 = .ok (.iload_n 1, 1) := by decide +kernel
theorem dX9_best_27 : decode cX9_best 27 = .ok (.iload_n 3, 1) := by decide +kernel
theorem dX9_best_28 : decode cX9_best 28 = .ok (.iconst 0, 1) := by decide +kernel
theorem dX9_best_29 : decode cX9_best 29 = .ok (.iload 7, 2) := by decide +kernel
theorem dX9_best_31 : decode cX9_best 31 = .ok (.invokestatic 318, 3) := by decide +kernel
theorem dX9_best_34 : decode cX9_best 34 = .ok (.iload_n 1, 1) := by decide +kernel
theorem dX9_best_35 : decode cX9_best 35 = .ok (.iload_n 2, 1) := by decide +kernel
theorem dX9_best_36 : decode cX9_best 36 = .ok (.iload 7, 2) := by decide +kernel
theorem dX9_best_38 : decode cX9_best 38 = .ok (.iload_n 1, 1) := by decide +kernel
theorem dX9_best_39 : decode cX9_best 39 = .ok (.iconst 1, 1) := by decide +kernel
theorem dX9_best_40 : decode cX9_best 40 = .ok (.iadd, 1) := by decide +kernel
theorem dX9_best_41 : decode cX9_best 41 = .ok (.invokestatic 318, 3) := by decide +kernel
theorem dX9_best_44 : decode cX9_best 44 = .ok (.ladd, 1) := by decide +kernel
theorem dX9_best_45 : decode cX9_best 45 = .ok (.lstore 8, 2) := by decide +kernel
theorem dX9_best_47 : decode cX9_best 47 = .ok (.lload 5, 2) := by decide +kernel
theorem dX9_best_49 : decode cX9_best 49 = .ok (.ldc2_w 328, 3) := by decide +kernel
theorem dX9_best_52 : decode cX9_best 52 = .ok (.lcmp, 1) := by decide +kernel
theorem dX9_best_53 : decode cX9_best 53 = .ok (.ifCond .eq 11, 3) := by decide +kernel
theorem dX9_best_56 : decode cX9_best 56 = .ok (.lload 8, 2) := by decide +kernel
theorem dX9_best_58 : decode cX9_best 58 = .ok (.lload 5, 2) := by decide +kernel
theorem dX9_best_60 : decode cX9_best 60 = .ok (.lcmp, 1) := by decide +kernel
theorem dX9_best_61 : decode cX9_best 61 = .ok (.ifCond .ge 11, 3) := by decide +kernel
theorem dX9_best_64 : decode cX9_best 64 = .ok (.lload 8, 2) := by decide +kernel
theorem dX9_best_66 : decode cX9_best 66 = .ok (.lstore 5, 2) := by decide +kernel
theorem dX9_best_68 : decode cX9_best 68 = .ok (.iload 7, 2) := by decide +kernel
theorem dX9_best_70 : decode cX9_best 70 = .ok (.istore 4, 2) := by decide +kernel
theorem dX9_best_72 : decode cX9_best 72 = .ok (.iinc 7 1, 3) := by decide +kernel
theorem dX9_best_75 : decode cX9_best 75 = .ok (.goto (-57), 3) := by decide +kernel
theorem dX9_best_78 : decode cX9_best 78 = .ok (.iload 4, 2) := by decide +kernel
theorem dX9_best_80 : decode cX9_best 80 = .ok (.ireturn, 1) := by decide +kernel
abbrev mt_X9_best : AxM := (RX9, cX9_best, 10, (some .int), false, [])
theorem L1_X9_best_72 {g : AxG} {l : Launch} (hl0 : l.stackTraces = false) {res : AxT Int32} (N : Nat) (K18 : Int32 → Int32 → Int32 → Int32 → Int64 → Int32 → AxS → Option (AxT Int32)) (hK18 : ∀ (v1 : Int32) (v2 : Int32) (v3 : Int32) (v4 : Int32) (v5 : Int64) (v7 : Int32) (S : AxS), K18 v1 v2 v3 v4 v5 v7 S = some res → AW g l (axRm (10) (axCs (axOI res)) (6 * axCs (axOI res))) mt_X9_best (axMQ g (axCs (axOI res)) (6 * axCs (axOI res)) (axOI res)) 0 0 S 18 [(1, .int v1), (2, .int v2), (3, .int v3), (4, .int v4), (5, .long v5), (7, .int v7)] []) (v1 : Int32) (v2 : Int32) (v3 : Int32) (v4 : Int32) (v5 : Int64) (v7 : Int32) (S : AxS) (h : F_X9_best_72 N K18 v1 v2 v3 v4 v5 v7 S = some res) : AW g l (axRm (10) (axCs (axOI res)) (6 * axCs (axOI res))) mt_X9_best (axMQ g (axCs (axOI res)) (6 * axCs (axOI res)) (axOI res)) 0 0 S 72 [(1, .int v1), (2, .int v2), (3, .int v3), (4, .int v4), (5, .long v5), (7, .int v7)] [] := by
  unfold F_X9_best_72 at h
  refine aw_iinc 5 [(7, .int (v7 + 1)), (1, .int v1), (2, .int v2), (3, .int v3), (4, .int v4), (5, .long v5)] (v7 + 1) dX9_best_72 rfl rfl rfl rfl ?_
  refine aw_goto 18 dX9_best_75 (by decide) ?_
  refine aw_env [(1, .int v1), (2, .int v2), (3, .int v3), (4, .int v4), (5, .long v5), (7, .int (v7 + 1))] [1, 2, 3, 4, 5, 0] rfl ?_
  exact hK18 v1 v2 v3 v4 v5 (v7 + 1) S h
theorem L1_X9_best_64 {g : AxG} {l : Launch} (hl0 : l.stackTraces = false) {res : AxT Int32} (N : Nat) (K18 : Int32 → Int32 → Int32 → Int32 → Int64 → Int32 → AxS → Option (AxT Int32)) (hK18 : ∀ (v1 : Int32) (v2 : Int32) (v3 : Int32) (v4 : Int32) (v5 : Int64) (v7 : Int32) (S : AxS), K18 v1 v2 v3 v4 v5 v7 S = some res → AW g l (axRm (10) (axCs (axOI res)) (6 * axCs (axOI res))) mt_X9_best (axMQ g (axCs (axOI res)) (6 * axCs (axOI res)) (axOI res)) 0 0 S 18 [(1, .int v1), (2, .int v2), (3, .int v3), (4, .int v4), (5, .long v5), (7, .int v7)] []) (v1 : Int32) (v2 : Int32) (v3 : Int32) (v7 : Int32) (v8 : Int64) (S : AxS) (h : F_X9_best_64 N K18 v1 v2 v3 v7 v8 S = some res) : AW g l (axRm (10) (axCs (axOI res)) (6 * axCs (axOI res))) mt_X9_best (axMQ g (axCs (axOI res)) (6 * axCs (axOI res)) (axOI res)) 0 0 S 64 [(1, .int v1), (2, .int v2), (3, .int v3), (7, .int v7), (8, .long v8)] [] := by
  unfold F_X9_best_64 at h
  refine aw_lload 4 dX9_best_64 rfl ?_
  refine aw_lstore [(5, .long v8), (1, .int v1), (2, .int v2), (3, .int v3), (7, .int v7), (8, .long v8)] dX9_best_66 rfl rfl ?_
  refine aw_iload 4 dX9_best_68 rfl ?_
  refine aw_istore [(4, .int v7), (5, .long v8), (1, .int v1), (2, .int v2), (3, .int v3), (7, .int v7), (8, .long v8)] dX9_best_70 rfl rfl ?_
  refine aw_env [(1, .int v1), (2, .int v2), (3, .int v3), (4, .int v7), (5, .long v8), (7, .int v7)] [2, 3, 4, 0, 1, 5] rfl ?_
  exact L1_X9_best_72 hl0 N K18 hK18 v1 v2 v3 v7 v8 v7 S h
theorem L1_X9_best_18b {g : AxG} {l : Launch} (hl0 : l.stackTraces = false) {res : AxT Int32} (N : Nat) (K18 : Int32 → Int32 → Int32 → Int32 → Int64 → Int32 → AxS → Option (AxT Int32)) (hK18 : ∀ (v1 : Int32) (v2 : Int32) (v3 : Int32) (v4 : Int32) (v5 : Int64) (v7 : Int32) (S : AxS), K18 v1 v2 v3 v4 v5 v7 S = some res → AW g l (axRm (10) (axCs (axOI res)) (6 * axCs (axOI res))) mt_X9_best (axMQ g (axCs (axOI res)) (6 * axCs (axOI res)) (axOI res)) 0 0 S 18 [(1, .int v1), (2, .int v2), (3, .int v3), (4, .int v4), (5, .long v5), (7, .int v7)] []) (v1 : Int32) (v2 : Int32) (v3 : Int32) (v4 : Int32) (v5 : Int64) (v7 : Int32) (S : AxS) (h : F_X9_best_18b N K18 v1 v2 v3 v4 v5 v7 S = some res) : AW g l (axRm (10) (axCs (axOI res)) (6 * axCs (axOI res))) mt_X9_best (axMQ g (axCs (axOI res)) (6 * axCs (axOI res)) (axOI res)) 0 0 S 18 [(1, .int v1), (2, .int v2), (3, .int v3), (4, .int v4), (5, .long v5), (7, .int v7)] [] := by
  unfold F_X9_best_18b at h
  refine aw_iload 5 dX9_best_18 rfl ?_
  refine aw_iload_n 0 dX9_best_20 rfl rfl ?_
  refine aw_iconst 1 dX9_best_21 rfl ?_
  refine aw_iadd dX9_best_22 ?_
  refine aw_icmp_gt 78 dX9_best_23 (by decide) h (fun h => ?_) (fun h => ?_)
  · refine aw_iload 3 dX9_best_78 rfl ?_
    exact aw_iretT dX9_best_80 rfl h
  · refine aw_iload_n 0 dX9_best_26 rfl rfl ?_
    refine aw_iload_n 2 dX9_best_27 rfl rfl ?_
    refine aw_iconst 0 dX9_best_28 rfl ?_
    refine aw_iload 5 dX9_best_29 rfl ?_
    refine aw_doneL (rest := []) h (fun r9 S9 hF => aw_runS (As := [.int v1, .int v3, .int 0, .int v7]) (rest := []) (L1_X9_dullWays N hF) wd_1119 wd_1117 wd_1118 wd_87 pd_X9_dullWays.2 rfl (ax_rm (by omega) rfl) ax_hf0 (Nat.le_of_ble_eq_true rfl) rfl dX9_best_31) (fun x2 T1 h => ?_)
    refine aw_iload_n 0 dX9_best_34 rfl rfl ?_
    refine aw_iload_n 1 dX9_best_35 rfl rfl ?_
    refine aw_iload 5 dX9_best_36 rfl ?_
    refine aw_iload_n 0 dX9_best_38 rfl rfl ?_
    refine aw_iconst 1 dX9_best_39 rfl ?_
    refine aw_iadd dX9_best_40 ?_
    refine aw_doneL (rest := [.long x2]) h (fun r9 S9 hF => aw_runS (As := [.int v1, .int v2, .int v7, .int (v1 + 1)]) (rest := [.long x2]) (L1_X9_dullWays N hF) wd_1119 wd_1117 wd_1118 wd_87 pd_X9_dullWays.2 rfl (ax_rm (by omega) rfl) ax_hf0 (Nat.le_of_ble_eq_true rfl) rfl dX9_best_41) (fun x4 T3 h => ?_)
    refine aw_ladd dX9_best_44 ?_
    refine aw_lstore [(8, .long (x2 + x4)), (1, .int v1), (2, .int v2), (3, .int v3), (4, .int v4), (5, .long v5), (7, .int v7)] dX9_best_45 rfl rfl ?_
    refine aw_lload 5 dX9_best_47 rfl ?_
    refine aw_ldc2 wd_1134 dX9_best_49 ?_
    refine aw_lcmp dX9_best_52 ?_
    refine aw_if_eq 64 dX9_best_53 (by decide) h (fun h => ?_) (fun h => ?_)
    · refine aw_env [(1, .int v1), (2, .int v2), (3, .int v3), (7, .int v7), (8, .long (x2 + x4))] [1, 2, 3, 6, 0] rfl ?_
      exact L1_X9_best_64 hl0 N K18 hK18 v1 v2 v3 v7 (x2 + x4) T3 h
    · refine aw_lload 0 dX9_best_56 rfl ?_
      refine aw_lload 5 dX9_best_58 rfl ?_
      refine aw_lcmp dX9_best_60 ?_
      refine aw_if_ge 72 dX9_best_61 (by decide) h (fun h => ?_) (fun h => ?_)
      · refine aw_env [(1, .int v1), (2, .int v2), (3, .int v3), (4, .int v4), (5, .long v5), (7, .int v7)] [1, 2, 3, 4, 5, 6] rfl ?_
        exact L1_X9_best_72 hl0 N K18 hK18 v1 v2 v3 v4 v5 v7 T3 h
      · refine aw_env [(1, .int v1), (2, .int v2), (3, .int v3), (7, .int v7), (8, .long (x2 + x4))] [1, 2, 3, 6, 0] rfl ?_
        exact L1_X9_best_64 hl0 N K18 hK18 v1 v2 v3 v7 (x2 + x4) T3 h
theorem L1_X9_best_18 {g : AxG} {l : Launch} (hl0 : l.stackTraces = false) {res : AxT Int32} (N : Nat)  : ∀ (n : Nat) (v1 : Int32) (v2 : Int32) (v3 : Int32) (v4 : Int32) (v5 : Int64) (v7 : Int32) (S : AxS), F_X9_best_18 N  n v1 v2 v3 v4 v5 v7 S = some res → AW g l (axRm (10) (axCs (axOI res)) (6 * axCs (axOI res))) mt_X9_best (axMQ g (axCs (axOI res)) (6 * axCs (axOI res)) (axOI res)) 0 0 S 18 [(1, .int v1), (2, .int v2), (3, .int v3), (4, .int v4), (5, .long v5), (7, .int v7)] [] := by
  intro n
  induction n with
  | zero => intro v1 v2 v3 v4 v5 v7 S h; cases h
  | succ n ih => intro v1 v2 v3 v4 v5 v7 S h; exact L1_X9_best_18b hl0 N (F_X9_best_18 N  n) ih v1 v2 v3 v4 v5 v7 S h
theorem L1_X9_best {g : AxG} {l : Launch} (hl0 : l.stackTraces = false) (N : Nat) {v0 : Nat} {v1 : Int32} {v2 : Int32} {v3 : Int32} {S : AxS} {res : AxT Int32} (h : F_X9_best N v0 v1 v2 v3 S = some res) : AxMet g l yX9_best cX9_best 10 (some .int) (10) (axCs (axOI res)) (6 * axCs (axOI res)) [.ref v0, .int v1, .int v2, .int v3] S (axOI res) := by
  refine ax_met (own := RX9) (ini := false) (by decide +kernel) rfl (fun h => nomatch h) rfl ?_
  show AW g l (axRm (10) (axCs (axOI res)) (6 * axCs (axOI res))) mt_X9_best (axMQ g (axCs (axOI res)) (6 * axCs (axOI res)) (axOI res)) 0 0 S 0 [(0, .ref v0), (1, .int v1), (2, .int v2), (3, .int v3)] []
  unfold F_X9_best at h
  refine aw_aload_n 0 dX9_best_0 rfl rfl ?_
  refine aw_iload_n 1 dX9_best_1 rfl rfl ?_
  refine aw_iload_n 2 dX9_best_2 rfl rfl ?_
  refine aw_iload_n 3 dX9_best_3 rfl rfl ?_
  obtain ⟨hL1, h⟩ := ax_is_spec h
  refine aw_thV (ob := axOI) (rest := []) (fun _ _ => rfl) rfl h (fun u9 hF hu => aw_runV (As := [.int v1, .int v2, .int v3]) (rest := []) (L1_X9_needReceipt hl0 N hF) axc9 hL1 wd_1116 wd_1113 wd_1115 wd_24 wd_87 pd_X9_needReceipt rfl (ax_rm (by omega) rfl) (ax_hfV (fun _ _ => rfl) hu) (Nat.le_of_ble_eq_true rfl) rfl dX9_best_4) (fun T2 h => ?_)
  refine aw_iconst 0 dX9_best_7 rfl ?_
  refine aw_istore [(4, .int 0), (0, .ref v0), (1, .int v1), (2, .int v2), (3, .int v3)] dX9_best_8 rfl rfl ?_
  refine aw_ldc2 wd_1134 dX9_best_10 ?_
  refine aw_lstore [(5, .long ((-1))), (4, .int 0), (0, .ref v0), (1, .int v1), (2, .int v2), (3, .int v3)] dX9_best_13 rfl rfl ?_
  refine aw_iconst 0 dX9_best_15 rfl ?_
  refine aw_istore [(7, .int 0), (5, .long ((-1))), (4, .int 0), (0, .ref v0), (1, .int v1), (2, .int v2), (3, .int v3)] dX9_best_16 rfl rfl ?_
  refine aw_env [(1, .int v1), (2, .int v2), (3, .int v3), (4, .int 0), (5, .long ((-1))), (7, .int 0)] [4, 5, 6, 2, 1, 0] rfl ?_
  exact L1_X9_best_18 hl0 N  N v1 v2 v3 0 ((-1)) 0 T2 h

theorem dJ6_bitCount_0f7a4_0 : decode cJ6_bitCount_0f7a4 0 = .ok (.iload_n 0, 1) := by decide +kernel
theorem dJ6_bitCount_0f7a4_1 : decode cJ6_bitCount_0f7a4 1 = .ok (.iload_n 0, 1) := by decide +kernel
theorem dJ6_bitCount_0f7a4_2 : decode cJ6_bitCount_0f7a4 2 = .ok (.iconst 1, 1) := by decide +kernel
theorem dJ6_bitCount_0f7a4_3 : decode cJ6_bitCount_0f7a4 3 = .ok (.iushr, 1) := by decide +kernel
theorem dJ6_bitCount_0f7a4_4 : decode cJ6_bitCount_0f7a4 4 = .ok (.ldc_w 265, 3) := by decide +kernel
theorem dJ6_bitCount_0f7a4_7 : decode cJ6_bitCount_0f7a4 7 = .ok (.iand, 1) := by decide +kernel
theorem dJ6_bitCount_0f7a4_8 : decode cJ6_bitCount_0f7a4 8 = .ok (.isub, 1) := by decide +kernel
theorem dJ6_bitCount_0f7a4_9 : decode cJ6_bitCount_0f7a4 9 = .ok (.istore_n 0, 1) := by decide +kernel
theorem dJ6_bitCount_0f7a4_10 : decode cJ6_bitCount_0f7a4 10 = .ok (.iload_n 0, 1) := by decide +kernel
theorem dJ6_bitCount_0f7a4_11 : decode cJ6_bitCount_0f7a4 11 = .ok (.ldc_w 266, 3) := by decide +kernel
theorem dJ6_bitCount_0f7a4_14 : decode cJ6_bitCount_0f7a4 14 = .ok (.iand, 1) := by decide +kernel
theorem dJ6_bitCount_0f7a4_15 : decode cJ6_bitCount_0f7a4 15 = .ok (.iload_n 0, 1) := by decide +kernel
theorem dJ6_bitCount_0f7a4_16 : decode cJ6_bitCount_0f7a4 16 = .ok (.iconst 2, 1) := by decide +kernel
theorem dJ6_bitCount_0f7a4_17 : decode cJ6_bitCount_0f7a4 17 = .ok (.iushr, 1) := by decide +kernel
theorem dJ6_bitCount_0f7a4_18 : decode cJ6_bitCount_0f7a4 18 = .ok (.ldc_w 266, 3) := by decide +kernel
theorem dJ6_bitCount_0f7a4_21 : decode cJ6_bitCount_0f7a4 21 = .ok (.iand, 1) := by decide +kernel
theorem dJ6_bitCount_0f7a4_22 : decode cJ6_bitCount_0f7a4 22 = .ok (.iadd, 1) := by decide +kernel
theorem dJ6_bitCount_0f7a4_23 : decode cJ6_bitCount_0f7a4 23 = .ok (.istore_n 0, 1) := by decide +kernel
theorem dJ6_bitCount_0f7a4_24 : decode cJ6_bitCount_0f7a4 24 = .ok (.iload_n 0, 1) := by decide +kernel
theorem dJ6_bitCount_0f7a4_25 : decode cJ6_bitCount_0f7a4 25 = .ok (.iload_n 0, 1) := by decide +kernel
theorem dJ6_bitCount_0f7a4_26 : decode cJ6_bitCount_0f7a4 26 = .ok (.iconst 4, 1) := by decide +kernel
theorem dJ6_bitCount_0f7a4_27 : decode cJ6_bitCount_0f7a4 27 = .ok (.iushr, 1) := by decide +kernel
theorem dJ6_bitCount_0f7a4_28 : decode cJ6_bitCount_0f7a4 28 = .ok (.iadd, 1) := by decide +kernel
theorem dJ6_bitCount_0f7a4_29 : decode cJ6_bitCount_0f7a4 29 = .ok (.ldc_w 267, 3) := by decide +kernel
theorem dJ6_bitCount_0f7a4_32 : decode cJ6_bitCount_0f7a4 32 = .ok (.iand, 1) := by decide +kernel
theorem dJ6_bitCount_0f7a4_33 : decode cJ6_bitCount_0f7a4 33 = .ok (.istore_n 0, 1) := by decide +kernel
theorem dJ6_bitCount_0f7a4_34 : decode cJ6_bitCount_0f7a4 34 = .ok (.iload_n 0, 1) := by decide +kernel
theorem dJ6_bitCount_0f7a4_35 : decode cJ6_bitCount_0f7a4 35 = .ok (.iload_n 0, 1) := by decide +kernel
theorem dJ6_bitCount_0f7a4_36 : decode cJ6_bitCount_0f7a4 36 = .ok (.bipush 8, 2) := by decide +kernel
theorem dJ6_bitCount_0f7a4_38 : decode cJ6_bitCount_0f7a4 38 = .ok (.iushr, 1) := by decide +kernel
theorem dJ6_bitCount_0f7a4_39 : decode cJ6_bitCount_0f7a4 39 = .ok (.iadd, 1) := by decide +kernel
theorem dJ6_bitCount_0f7a4_40 : decode cJ6_bitCount_0f7a4 40 = .ok (.istore_n 0, 1) := by decide +kernel
theorem dJ6_bitCount_0f7a4_41 : decode cJ6_bitCount_0f7a4 41 = .ok (.iload_n 0, 1) := by decide +kernel
theorem dJ6_bitCount_0f7a4_42 : decode cJ6_bitCount_0f7a4 42 = .ok (.iload_n 0, 1) := by decide +kernel
theorem dJ6_bitCount_0f7a4_43 : decode cJ6_bitCount_0f7a4 43 = .ok (.bipush 16, 2) := by decide +kernel
theorem dJ6_bitCount_0f7a4_45 : decode cJ6_bitCount_0f7a4 45 = .ok (.iushr, 1) := by decide +kernel
theorem dJ6_bitCount_0f7a4_46 : decode cJ6_bitCount_0f7a4 46 = .ok (.iadd, 1) := by decide +kernel
theorem dJ6_bitCount_0f7a4_47 : decode cJ6_bitCount_0f7a4 47 = .ok (.istore_n 0, 1) := by decide +kernel
theorem dJ6_bitCount_0f7a4_48 : decode cJ6_bitCount_0f7a4 48 = .ok (.iload_n 0, 1) := by decide +kernel
theorem dJ6_bitCount_0f7a4_49 : decode cJ6_bitCount_0f7a4 49 = .ok (.bipush 63, 2) := by decide +kernel
theorem dJ6_bitCount_0f7a4_51 : decode cJ6_bitCount_0f7a4 51 = .ok (.iand, 1) := by decide +kernel
theorem dJ6_bitCount_0f7a4_52 : decode cJ6_bitCount_0f7a4 52 = .ok (.ireturn, 1) := by decide +kernel
abbrev mt_J6_bitCount_0f7a4 : AxM := (RJ6, cJ6_bitCount_0f7a4, 1, (some .int), false, [])
theorem L1_J6_bitCount_0f7a4 {g : AxG} {l : Launch} (N : Nat) {v0 : Int32} {S : AxS} {r9 : Int32} {S9 : AxS} (h : F_J6_bitCount_0f7a4 N v0 S = some ((r9, S9))) : AxMet g l yJ6_bitCount_0f7a4 cJ6_bitCount_0f7a4 1 (some .int) (0) 0 0 [.int v0] S ((.inl (some (.int r9)), S9)) := by
  refine ax_met (own := RJ6) (ini := false) (by decide +kernel) rfl (fun h => nomatch h) rfl ?_
  show AW g l (axRm (0) 0 0) mt_J6_bitCount_0f7a4 (axMQ g 0 0 (.inl (some (.int r9)), S9)) 0 0 S 0 [(0, .int v0)] []
  unfold F_J6_bitCount_0f7a4 at h
  refine aw_iload_n 0 dJ6_bitCount_0f7a4_0 rfl rfl ?_
  refine aw_iload_n 0 dJ6_bitCount_0f7a4_1 rfl rfl ?_
  refine aw_iconst 1 dJ6_bitCount_0f7a4_2 rfl ?_
  refine aw_iushr dJ6_bitCount_0f7a4_3 ?_
  refine aw_ldcwI wd_1149 dJ6_bitCount_0f7a4_4 ?_
  refine aw_iand dJ6_bitCount_0f7a4_7 ?_
  refine aw_isub dJ6_bitCount_0f7a4_8 ?_
  refine aw_istore_n 0 [(0, .int (v0 - ((axUshr v0 1) &&& 1431655765)))] dJ6_bitCount_0f7a4_9 rfl rfl rfl ?_
  refine aw_iload_n 0 dJ6_bitCount_0f7a4_10 rfl rfl ?_
  refine aw_ldcwI wd_1150 dJ6_bitCount_0f7a4_11 ?_
  refine aw_iand dJ6_bitCount_0f7a4_14 ?_
  refine aw_iload_n 0 dJ6_bitCount_0f7a4_15 rfl rfl ?_
  refine aw_iconst 2 dJ6_bitCount_0f7a4_16 rfl ?_
  refine aw_iushr dJ6_bitCount_0f7a4_17 ?_
  refine aw_ldcwI wd_1150 dJ6_bitCount_0f7a4_18 ?_
  refine aw_iand dJ6_bitCount_0f7a4_21 ?_
  refine aw_iadd dJ6_bitCount_0f7a4_22 ?_
  refine aw_istore_n 0 [(0, .int (((v0 - ((axUshr v0 1) &&& 1431655765)) &&& 858993459) + ((axUshr (v0 - ((axUshr v0 1) &&& 1431655765)) 2) &&& 858993459)))] dJ6_bitCount_0f7a4_23 rfl rfl rfl ?_
  refine aw_iload_n 0 dJ6_bitCount_0f7a4_24 rfl rfl ?_
  refine aw_iload_n 0 dJ6_bitCount_0f7a4_25 rfl rfl ?_
  refine aw_iconst 4 dJ6_bitCount_0f7a4_26 rfl ?_
  refine aw_iushr dJ6_bitCount_0f7a4_27 ?_
  refine aw_iadd dJ6_bitCount_0f7a4_28 ?_
  refine aw_ldcwI wd_1151 dJ6_bitCount_0f7a4_29 ?_
  refine aw_iand dJ6_bitCount_0f7a4_32 ?_
  refine aw_istore_n 0 [(0, .int (((((v0 - ((axUshr v0 1) &&& 1431655765)) &&& 858993459) + ((axUshr (v0 - ((axUshr v0 1) &&& 1431655765)) 2) &&& 858993459)) + (axUshr (((v0 - ((axUshr v0 1) &&& 1431655765)) &&& 858993459) + ((axUshr (v0 - ((axUshr v0 1) &&& 1431655765)) 2) &&& 858993459)) 4)) &&& 252645135))] dJ6_bitCount_0f7a4_33 rfl rfl rfl ?_
  refine aw_iload_n 0 dJ6_bitCount_0f7a4_34 rfl rfl ?_
  refine aw_iload_n 0 dJ6_bitCount_0f7a4_35 rfl rfl ?_
  refine aw_bipush 8 dJ6_bitCount_0f7a4_36 (by decide) ?_
  refine aw_iushr dJ6_bitCount_0f7a4_38 ?_
  refine aw_iadd dJ6_bitCount_0f7a4_39 ?_
  refine aw_istore_n 0 [(0, .int ((((((v0 - ((axUshr v0 1) &&& 1431655765)) &&& 858993459) + ((axUshr (v0 - ((axUshr v0 1) &&& 1431655765)) 2) &&& 858993459)) + (axUshr (((v0 - ((axUshr v0 1) &&& 1431655765)) &&& 858993459) + ((axUshr (v0 - ((axUshr v0 1) &&& 1431655765)) 2) &&& 858993459)) 4)) &&& 252645135) + (axUshr (((((v0 - ((axUshr v0 1) &&& 1431655765)) &&& 858993459) + ((axUshr (v0 - ((axUshr v0 1) &&& 1431655765)) 2) &&& 858993459)) + (axUshr (((v0 - ((axUshr v0 1) &&& 1431655765)) &&& 858993459) + ((axUshr (v0 - ((axUshr v0 1) &&& 1431655765)) 2) &&& 858993459)) 4)) &&& 252645135) 8)))] dJ6_bitCount_0f7a4_40 rfl rfl rfl ?_
  refine aw_iload_n 0 dJ6_bitCount_0f7a4_41 rfl rfl ?_
  refine aw_iload_n 0 dJ6_bitCount_0f7a4_42 rfl rfl ?_
  refine aw_bipush 16 dJ6_bitCount_0f7a4_43 (by decide) ?_
  refine aw_iushr dJ6_bitCount_0f7a4_45 ?_
  refine aw_iadd dJ6_bitCount_0f7a4_46 ?_
  refine aw_istore_n 0 [(0, .int (((((((v0 - ((axUshr v0 1) &&& 1431655765)) &&& 858993459) + ((axUshr (v0 - ((axUshr v0 1) &&& 1431655765)) 2) &&& 858993459)) + (axUshr (((v0 - ((axUshr v0 1) &&& 1431655765)) &&& 858993459) + ((axUshr (v0 - ((axUshr v0 1) &&& 1431655765)) 2) &&& 858993459)) 4)) &&& 252645135) + (axUshr (((((v0 - ((axUshr v0 1) &&& 1431655765)) &&& 858993459) + ((axUshr (v0 - ((axUshr v0 1) &&& 1431655765)) 2) &&& 858993459)) + (axUshr (((v0 - ((axUshr v0 1) &&& 1431655765)) &&& 858993459) + ((axUshr (v0 - ((axUshr v0 1) &&& 1431655765)) 2) &&& 858993459)) 4)) &&& 252645135) 8)) + (axUshr ((((((v0 - ((axUshr v0 1) &&& 1431655765)) &&& 858993459) + ((axUshr (v0 - ((axUshr v0 1) &&& 1431655765)) 2) &&& 858993459)) + (axUshr (((v0 - ((axUshr v0 1) &&& 1431655765)) &&& 858993459) + ((axUshr (v0 - ((axUshr v0 1) &&& 1431655765)) 2) &&& 858993459)) 4)) &&& 252645135) + (axUshr (((((v0 - ((axUshr v0 1) &&& 1431655765)) &&& 858993459) + ((axUshr (v0 - ((axUshr v0 1) &&& 1431655765)) 2) &&& 858993459)) + (axUshr (((v0 - ((axUshr v0 1) &&& 1431655765)) &&& 858993459) + ((axUshr (v0 - ((axUshr v0 1) &&& 1431655765)) 2) &&& 858993459)) 4)) &&& 252645135) 8)) 16)))] dJ6_bitCount_0f7a4_47 rfl rfl rfl ?_
  refine aw_iload_n 0 dJ6_bitCount_0f7a4_48 rfl rfl ?_
  refine aw_bipush 63 dJ6_bitCount_0f7a4_49 (by decide) ?_
  refine aw_iand dJ6_bitCount_0f7a4_51 ?_
  exact aw_iret dJ6_bitCount_0f7a4_52 rfl (Nat.le_refl _) (Nat.le_refl _) h

theorem dX9_sleepWith_0 : decode cX9_sleepWith 0 = .ok (.aload_n 0, 1) := by decide +kernel
theorem dX9_sleepWith_1 : decode cX9_sleepWith 1 = .ok (.getfield 19, 3) := by decide +kernel
theorem dX9_sleepWith_4 : decode cX9_sleepWith 4 = .ok (.iload_n 1, 1) := by decide +kernel
theorem dX9_sleepWith_5 : decode cX9_sleepWith 5 = .ok (.iload_n 2, 1) := by decide +kernel
theorem dX9_sleepWith_6 : decode cX9_sleepWith 6 = .ok (.iload 4, 2) := by decide +kernel
theorem dX9_sleepWith_8 : decode cX9_sleepWith 8 = .ok (.invokevirtual 348, 3) := by decide +kernel
theorem dX9_sleepWith_11 : decode cX9_sleepWith 11 = .ok (.ifCond .eq 7, 3) := by decide +kernel
theorem dX9_sleepWith_14 : decode cX9_sleepWith 14 = .ok (.iconst 1, 1) := by decide +kernel
theorem dX9_sleepWith_15 : decode cX9_sleepWith 15 = .ok (.goto 4, 3) := by decide +kernel
theorem dX9_sleepWith_18 : decode cX9_sleepWith 18 = .ok (.iconst 0, 1) := by decide +kernel
theorem dX9_sleepWith_19 : decode cX9_sleepWith 19 = .ok (.aload_n 0, 1) := by decide +kernel
theorem dX9_sleepWith_20 : decode cX9_sleepWith 20 = .ok (.getfield 87, 3) := by decide +kernel
theorem dX9_sleepWith_23 : decode cX9_sleepWith 23 = .ok (.iload_n 3, 1) := by decide +kernel
theorem dX9_sleepWith_24 : decode cX9_sleepWith 24 = .ok (.iconst 1, 1) := by decide +kernel
theorem dX9_sleepWith_25 : decode cX9_sleepWith 25 = .ok (.iload_n 2, 1) := by decide +kernel
theorem dX9_sleepWith_26 : decode cX9_sleepWith 26 = .ok (.ishl, 1) := by decide +kernel
theorem dX9_sleepWith_27 : decode cX9_sleepWith 27 = .ok (.ior, 1) := by decide +kernel
theorem dX9_sleepWith_28 : decode cX9_sleepWith 28 = .ok (.invokestatic 223, 3) := by decide +kernel
theorem dX9_sleepWith_31 : decode cX9_sleepWith 31 = .ok (.iadd, 1) := by decide +kernel
theorem dX9_sleepWith_32 : decode cX9_sleepWith 32 = .ok (.ireturn, 1) := by decide +kernel
abbrev mt_X9_sleepWith : AxM := (RX9, cX9_sleepWith, 5, (some .int), false, [])
theorem L1_X9_sleepWith_19 {g : AxG} {l : Launch} {r9 : Int32} {S9 : AxS} (N : Nat)  (v0 : Nat) (v2 : Int32) (v3 : Int32) (w0 : Int32) (S : AxS) (h : F_X9_sleepWith_19 N  v0 v2 v3 w0 S = some ((r9, S9))) : AW g l (axRm (3) 0 0) mt_X9_sleepWith (axMQ g 0 0 (.inl (some (.int r9)), S9)) 0 0 S 19 [(0, .ref v0), (2, .int v2), (3, .int v3)] [.int w0] := by
  unfold F_X9_sleepWith_19 at h
  refine aw_aload_n 0 dX9_sleepWith_19 rfl rfl ?_
  refine aw_getR axc9 18 rfl rfl wd_471 dX9_sleepWith_20 h (fun a1 h => ?_)
  refine aw_iload_n 2 dX9_sleepWith_23 rfl rfl ?_
  refine aw_iconst 1 dX9_sleepWith_24 rfl ?_
  refine aw_iload_n 1 dX9_sleepWith_25 rfl rfl ?_
  refine aw_ishl dX9_sleepWith_26 ?_
  refine aw_ior dX9_sleepWith_27 ?_
  refine aw_doneI (rest := [.int w0]) h (fun r9 S9 hF => aw_runS (As := [.ref a1, .int (v3 ||| (1 <<< (v2 &&& 31)))]) (rest := [.int w0]) (L1_X9_at N hF) wd_541 wd_874 wd_540 wd_87 pd_X9_at.2 rfl (ax_rm (by omega) rfl) ax_hf0 (Nat.le_of_ble_eq_true rfl) rfl dX9_sleepWith_28) (fun x3 T2 h => ?_)
  refine aw_iadd dX9_sleepWith_31 ?_
  exact aw_iret dX9_sleepWith_32 rfl (Nat.le_refl _) (Nat.le_refl _) h
theorem L1_X9_sleepWith {g : AxG} {l : Launch} (N : Nat) {v0 : Nat} {v1 : Int32} {v2 : Int32} {v3 : Int32} {v4 : Int32} {S : AxS} {r9 : Int32} {S9 : AxS} (h : F_X9_sleepWith N v0 v1 v2 v3 v4 S = some ((r9, S9))) : AxMet g l yX9_sleepWith cX9_sleepWith 5 (some .int) (3) 0 0 [.ref v0, .int v1, .int v2, .int v3, .int v4] S ((.inl (some (.int r9)), S9)) := by
  refine ax_met (own := RX9) (ini := false) (by decide +kernel) rfl (fun h => nomatch h) rfl ?_
  show AW g l (axRm (3) 0 0) mt_X9_sleepWith (axMQ g 0 0 (.inl (some (.int r9)), S9)) 0 0 S 0 [(0, .ref v0), (1, .int v1), (2, .int v2), (3, .int v3), (4, .int v4)] []
  unfold F_X9_sleepWith at h
  refine aw_aload_n 0 dX9_sleepWith_0 rfl rfl ?_
  refine aw_getR axc9 1 rfl rfl wd_454 dX9_sleepWith_1 h (fun a1 h => ?_)
  refine aw_iload_n 1 dX9_sleepWith_4 rfl rfl ?_
  refine aw_iload_n 2 dX9_sleepWith_5 rfl rfl ?_
  refine aw_iload 4 dX9_sleepWith_6 rfl ?_
  obtain ⟨hL2, h⟩ := ax_is_spec h
  refine aw_doneI (rest := []) h (fun r9 S9 hF => aw_runV (As := [.int v1, .int v2, .int v4]) (rest := []) (L1_X1_sleeps N hF) axc1 hL2 wd_1159 wd_1156 wd_1157 wd_1158 wd_89 pd_X1_sleeps rfl (ax_rm (by omega) rfl) ax_hf0 (Nat.le_of_ble_eq_true rfl) rfl dX9_sleepWith_8) (fun x4 T3 h => ?_)
  refine aw_if_eq 18 dX9_sleepWith_11 (by decide) h (fun h => ?_) (fun h => ?_)
  · refine aw_iconst 0 dX9_sleepWith_18 rfl ?_
    refine aw_env [(0, .ref v0), (2, .int v2), (3, .int v3)] [0, 2, 3] rfl ?_
    exact L1_X9_sleepWith_19 N  v0 v2 v3 0 T3 h
  · refine aw_iconst 1 dX9_sleepWith_14 rfl ?_
    refine aw_goto 19 dX9_sleepWith_15 (by decide) ?_
    refine aw_env [(0, .ref v0), (2, .int v2), (3, .int v3)] [0, 2, 3] rfl ?_
    exact L1_X9_sleepWith_19 N  v0 v2 v3 1 T3 h

theorem dX9_leastBed_0 : decode cX9_leastBed 0 = .ok (.iconst 0, 1) := by decide +kernel
theorem dX9_leastBed_1 : decode cX9_leastBed 1 = .ok (.istore 4, 2) := by decide +kernel
theorem dX9_leastBed_3 : decode cX9_leastBed 3 = .ok (.iload 4, 2) := by decide +kernel
theorem dX9_leastBed_5 : decode cX9_leastBed 5 = .ok (.aload_n 0, 1) := by decide +kernel
theorem dX9_leastBed_6 : decode cX9_leastBed 6 = .ok (.getfield 19, 3) := by decide +kernel
theorem dX9_leastBed_9 : decode cX9_leastBed 9 = .ok (.getfield 210, 3) := by decide +kernel
theorem dX9_leastBed_12 : decode cX9_leastBed 12 = .ok (.if_icmp .ge 41, 3) := by decide +kernel
theorem dX9_leastBed_15 : decode cX9_leastBed 15 = .ok (.iload_n 2, 1) := by decide +kernel
theorem dX9_leastBed_16 : decode cX9_leastBed 16 = .ok (.iload 4, 2) := by decide +kernel
theorem dX9_leastBed_18 : decode cX9_leastBed 18 = .ok (.ishr, 1) := by decide +kernel
theorem dX9_leastBed_19 : decode cX9_leastBed 19 = .ok (.iconst 1, 1) := by decide +kernel
theorem dX9_leastBed_20 : decode cX9_leastBed 20 = .ok (.iand, 1) := by decide +kernel
theorem dX9_leastBed_21 : decode cX9_leastBed 21 = .ok (.ifCond .ne 26, 3) := by decide +kernel
theorem dX9_leastBed_24 : decode cX9_leastBed 24 = .ok (.aload_n 0, 1) := by decide +kernel
theorem dX9_leastBed_25 : decode cX9_leastBed 25 = .ok (.iload_n 1, 1) := by decide +kernel
theorem dX9_leastBed_26 : decode cX9_leastBed 26 = .ok (.iload 4, 2) := by decide +kernel
theorem dX9_leastBed_28 : decode cX9_leastBed 28 = .ok (.iload_n 2, 1) := by decide +kernel
theorem dX9_leastBed_29 : decode cX9_leastBed 29 = .ok (.iload_n 3, 1) := by decide +kernel
theorem dX9_leastBed_30 : decode cX9_leastBed 30 = .ok (.invokevirtual 455, 3) := by decide +kernel
theorem dX9_leastBed_33 : decode cX9_leastBed 33 = .ok (.aload_n 0, 1) := by decide +kernel
theorem dX9_leastBed_34 : decode cX9_leastBed 34 = .ok (.getfield 87, 3) := by decide +kernel
theorem dX9_leastBed_37 : decode cX9_leastBed 37 = .ok (.iload_n 2, 1) := by decide +kernel
theorem dX9_leastBed_38 : decode cX9_leastBed 38 = .ok (.invokestatic 223, 3) := by decide +kernel
theorem dX9_leastBed_41 : decode cX9_leastBed 41 = .ok (.if_icmp .ne 6, 3) := by decide +kernel
theorem dX9_leastBed_44 : decode cX9_leastBed 44 = .ok (.iload 4, 2) := by decide +kernel
theorem dX9_leastBed_46 : decode cX9_leastBed 46 = .ok (.ireturn, 1) := by decide +kernel
theorem dX9_leastBed_47 : decode cX9_leastBed 47 = .ok (.iinc 4 1, 3) := by decide +kernel
theorem dX9_leastBed_50 : decode cX9_leastBed 50 = .ok (.goto (-47), 3) := by decide +kernel
theorem dX9_leastBed_53 : decode cX9_leastBed 53 = .ok (.iconst 0, 1) := by decide +kernel
theorem dX9_leastBed_54 : decode cX9_leastBed 54 = .ok (.ireturn, 1) := by decide +kernel
abbrev mt_X9_leastBed : AxM := (RX9, cX9_leastBed, 5, (some .int), false, [])
theorem L1_X9_leastBed_47 {g : AxG} {l : Launch} {r9 : Int32} {S9 : AxS} (N : Nat) (K3 : Nat → Int32 → Int32 → Int32 → Int32 → AxS → Option (Int32 × AxS)) (hK3 : ∀ (v0 : Nat) (v1 : Int32) (v2 : Int32) (v3 : Int32) (v4 : Int32) (S : AxS), K3 v0 v1 v2 v3 v4 S = some ((r9, S9)) → AW g l (axRm (4) 0 0) mt_X9_leastBed (axMQ g 0 0 (.inl (some (.int r9)), S9)) 0 0 S 3 [(0, .ref v0), (1, .int v1), (2, .int v2), (3, .int v3), (4, .int v4)] []) (v0 : Nat) (v1 : Int32) (v2 : Int32) (v3 : Int32) (v4 : Int32) (S : AxS) (h : F_X9_leastBed_47 N K3 v0 v1 v2 v3 v4 S = some ((r9, S9))) : AW g l (axRm (4) 0 0) mt_X9_leastBed (axMQ g 0 0 (.inl (some (.int r9)), S9)) 0 0 S 47 [(0, .ref v0), (1, .int v1), (2, .int v2), (3, .int v3), (4, .int v4)] [] := by
  unfold F_X9_leastBed_47 at h
  refine aw_iinc 4 [(4, .int (v4 + 1)), (0, .ref v0), (1, .int v1), (2, .int v2), (3, .int v3)] (v4 + 1) dX9_leastBed_47 rfl rfl rfl rfl ?_
  refine aw_goto 3 dX9_leastBed_50 (by decide) ?_
  refine aw_env [(0, .ref v0), (1, .int v1), (2, .int v2), (3, .int v3), (4, .int (v4 + 1))] [1, 2, 3, 4, 0] rfl ?_
  exact hK3 v0 v1 v2 v3 (v4 + 1) S h
theorem L1_X9_leastBed_3b {g : AxG} {l : Launch} {r9 : Int32} {S9 : AxS} (N : Nat) (K3 : Nat → Int32 → Int32 → Int32 → Int32 → AxS → Option (Int32 × AxS)) (hK3 : ∀ (v0 : Nat) (v1 : Int32) (v2 : Int32) (v3 : Int32) (v4 : Int32) (S : AxS), K3 v0 v1 v2 v3 v4 S = some ((r9, S9)) → AW g l (axRm (4) 0 0) mt_X9_leastBed (axMQ g 0 0 (.inl (some (.int r9)), S9)) 0 0 S 3 [(0, .ref v0), (1, .int v1), (2, .int v2), (3, .int v3), (4, .int v4)] []) (v0 : Nat) (v1 : Int32) (v2 : Int32) (v3 : Int32) (v4 : Int32) (S : AxS) (h : F_X9_leastBed_3b N K3 v0 v1 v2 v3 v4 S = some ((r9, S9))) : AW g l (axRm (4) 0 0) mt_X9_leastBed (axMQ g 0 0 (.inl (some (.int r9)), S9)) 0 0 S 3 [(0, .ref v0), (1, .int v1), (2, .int v2), (3, .int v3), (4, .int v4)] [] := by
  unfold F_X9_leastBed_3b at h
  refine aw_iload 4 dX9_leastBed_3 rfl ?_
  refine aw_aload_n 0 dX9_leastBed_5 rfl rfl ?_
  refine aw_getR axc9 1 rfl rfl wd_454 dX9_leastBed_6 h (fun a1 h => ?_)
  refine aw_getI axc1 4 rfl rfl wd_181 dX9_leastBed_9 h (fun x2 h => ?_)
  refine aw_icmp_ge 53 dX9_leastBed_12 (by decide) h (fun h => ?_) (fun h => ?_)
  · refine aw_iconst 0 dX9_leastBed_53 rfl ?_
    exact aw_iret dX9_leastBed_54 rfl (Nat.le_refl _) (Nat.le_refl _) h
  · refine aw_iload_n 2 dX9_leastBed_15 rfl rfl ?_
    refine aw_iload 4 dX9_leastBed_16 rfl ?_
    refine aw_ishr dX9_leastBed_18 ?_
    refine aw_iconst 1 dX9_leastBed_19 rfl ?_
    refine aw_iand dX9_leastBed_20 ?_
    refine aw_if_ne 47 dX9_leastBed_21 (by decide) h (fun h => ?_) (fun h => ?_)
    · refine aw_env [(0, .ref v0), (1, .int v1), (2, .int v2), (3, .int v3), (4, .int v4)] [0, 1, 2, 3, 4] rfl ?_
      exact L1_X9_leastBed_47 N K3 hK3 v0 v1 v2 v3 v4 S h
    · refine aw_aload_n 0 dX9_leastBed_24 rfl rfl ?_
      refine aw_iload_n 1 dX9_leastBed_25 rfl rfl ?_
      refine aw_iload 4 dX9_leastBed_26 rfl ?_
      refine aw_iload_n 2 dX9_leastBed_28 rfl rfl ?_
      refine aw_iload_n 3 dX9_leastBed_29 rfl rfl ?_
      obtain ⟨hL3, h⟩ := ax_is_spec h
      refine aw_doneI (rest := []) h (fun r9 S9 hF => aw_runV (As := [.int v1, .int v4, .int v2, .int v3]) (rest := []) (L1_X9_sleepWith N hF) axc9 hL3 wd_1155 wd_1152 wd_1154 wd_26 wd_87 pd_X9_sleepWith rfl (ax_rm (by omega) rfl) ax_hf0 (Nat.le_of_ble_eq_true rfl) rfl dX9_leastBed_30) (fun x5 T4 h => ?_)
      refine aw_aload_n 0 dX9_leastBed_33 rfl rfl ?_
      refine aw_getR axc9 18 rfl rfl wd_471 dX9_leastBed_34 h (fun a6 h => ?_)
      refine aw_iload_n 2 dX9_leastBed_37 rfl rfl ?_
      refine aw_doneI (rest := [.int x5]) h (fun r9 S9 hF => aw_runS (As := [.ref a6, .int v2]) (rest := [.int x5]) (L1_X9_at N hF) wd_541 wd_874 wd_540 wd_87 pd_X9_at.2 rfl (ax_rm (by omega) rfl) ax_hf0 (Nat.le_of_ble_eq_true rfl) rfl dX9_leastBed_38) (fun x8 T7 h => ?_)
      refine aw_icmp_ne 47 dX9_leastBed_41 (by decide) h (fun h => ?_) (fun h => ?_)
      · refine aw_env [(0, .ref v0), (1, .int v1), (2, .int v2), (3, .int v3), (4, .int v4)] [0, 1, 2, 3, 4] rfl ?_
        exact L1_X9_leastBed_47 N K3 hK3 v0 v1 v2 v3 v4 T7 h
      · refine aw_iload 4 dX9_leastBed_44 rfl ?_
        exact aw_iret dX9_leastBed_46 rfl (Nat.le_refl _) (Nat.le_refl _) h
theorem L1_X9_leastBed_3 {g : AxG} {l : Launch} {r9 : Int32} {S9 : AxS} (N : Nat)  : ∀ (n : Nat) (v0 : Nat) (v1 : Int32) (v2 : Int32) (v3 : Int32) (v4 : Int32) (S : AxS), F_X9_leastBed_3 N  n v0 v1 v2 v3 v4 S = some ((r9, S9)) → AW g l (axRm (4) 0 0) mt_X9_leastBed (axMQ g 0 0 (.inl (some (.int r9)), S9)) 0 0 S 3 [(0, .ref v0), (1, .int v1), (2, .int v2), (3, .int v3), (4, .int v4)] [] := by
  intro n
  induction n with
  | zero => intro v0 v1 v2 v3 v4 S h; cases h
  | succ n ih => intro v0 v1 v2 v3 v4 S h; exact L1_X9_leastBed_3b N (F_X9_leastBed_3 N  n) ih v0 v1 v2 v3 v4 S h
theorem L1_X9_leastBed {g : AxG} {l : Launch} (N : Nat) {v0 : Nat} {v1 : Int32} {v2 : Int32} {v3 : Int32} {S : AxS} {r9 : Int32} {S9 : AxS} (h : F_X9_leastBed N v0 v1 v2 v3 S = some ((r9, S9))) : AxMet g l yX9_leastBed cX9_leastBed 5 (some .int) (4) 0 0 [.ref v0, .int v1, .int v2, .int v3] S ((.inl (some (.int r9)), S9)) := by
  refine ax_met (own := RX9) (ini := false) (by decide +kernel) rfl (fun h => nomatch h) rfl ?_
  show AW g l (axRm (4) 0 0) mt_X9_leastBed (axMQ g 0 0 (.inl (some (.int r9)), S9)) 0 0 S 0 [(0, .ref v0), (1, .int v1), (2, .int v2), (3, .int v3)] []
  unfold F_X9_leastBed at h
  refine aw_iconst 0 dX9_leastBed_0 rfl ?_
  refine aw_istore [(4, .int 0), (0, .ref v0), (1, .int v1), (2, .int v2), (3, .int v3)] dX9_leastBed_1 rfl rfl ?_
  refine aw_env [(0, .ref v0), (1, .int v1), (2, .int v2), (3, .int v3), (4, .int 0)] [1, 2, 3, 4, 0] rfl ?_
  exact L1_X9_leastBed_3 N  N v0 v1 v2 v3 0 S h
