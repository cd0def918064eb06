theorem dX9_heir_0 : decode cX9_heir 0 = .ok (.aload_n 0, 1) := by decide +kernel
theorem dX9_heir_1 : decode cX9_heir 1 = .ok (.iload_n 1, 1) := by decide +kernel
theorem dX9_heir_2 : decode cX9_heir 2 = .ok (.aload_n 0, 1) := by decide +kernel
theorem dX9_heir_3 : decode cX9_heir 3 = .ok (.getfield 19, 3) := by decide +kernel
theorem dX9_heir_6 : decode cX9_heir 6 = .ok (.getfield 213, 3) := by decide +kernel
theorem dX9_heir_9 : decode cX9_heir 9 = .ok (.invokevirtual 216, 3) := by decide +kernel
theorem dX9_heir_12 : decode cX9_heir 12 = .ok (.aload_n 0, 1) := by decide +kernel
theorem dX9_heir_13 : decode cX9_heir 13 = .ok (.getfield 19, 3) := by decide +kernel
theorem dX9_heir_16 : decode cX9_heir 16 = .ok (.getfield 250, 3) := by decide +kernel
theorem dX9_heir_19 : decode cX9_heir 19 = .ok (.iload_n 1, 1) := by decide +kernel
theorem dX9_heir_20 : decode cX9_heir 20 = .ok (.invokestatic 223, 3) := by decide +kernel
theorem dX9_heir_23 : decode cX9_heir 23 = .ok (.ireturn, 1) := by decide +kernel
abbrev mt_X9_heir : AxM := (RX9, cX9_heir, 2, (some .int), false, [])
theorem L1_X9_heir {g : AxG} {l : Launch} (hl0 : l.stackTraces = false) (N : Nat) {v0 : Nat} {v1 : Int32} {S : AxS} {res : AxT Int32} (h : F_X9_heir N v0 v1 S = some res) : AxMet g l yX9_heir cX9_heir 2 (some .int) (9) (axCs (axOI res)) (6 * axCs (axOI res)) [.ref v0, .int v1] S (axOI res) := by
  refine ax_met (own := RX9) (ini := false) (by decide +kernel) rfl (fun h => nomatch h) rfl ?_
  show AW g l (axRm (9) (axCs (axOI res)) (6 * axCs (axOI res))) mt_X9_heir (axMQ g (axCs (axOI res)) (6 * axCs (axOI res)) (axOI res)) 0 0 S 0 [(0, .ref v0), (1, .int v1)] []
  unfold F_X9_heir at h
  refine aw_aload_n 0 dX9_heir_0 rfl rfl ?_
  refine aw_iload_n 1 dX9_heir_1 rfl rfl ?_
  refine aw_aload_n 0 dX9_heir_2 rfl rfl ?_
  refine aw_getR axc9 1 rfl rfl wd_454 dX9_heir_3 h (fun a1 h => ?_)
  refine aw_getI axc1 6 rfl rfl wd_186 dX9_heir_6 h (fun x2 h => ?_)
  obtain ⟨hL3, h⟩ := ax_is_spec h
  refine aw_thV (ob := axOI) (rest := []) (fun _ _ => rfl) rfl h (fun u9 hF hu => aw_runV (As := [.int v1, .int x2]) (rest := []) (L1_X9_needOne hl0 N hF) axc9 hL3 wd_975 wd_972 wd_974 wd_20 wd_87 pd_X9_needOne rfl (ax_rm (by omega) rfl) (ax_hfV (fun _ _ => rfl) hu) (Nat.le_of_ble_eq_true rfl) rfl dX9_heir_9) (fun T4 h => ?_)
  refine aw_aload_n 0 dX9_heir_12 rfl rfl ?_
  refine aw_getR axc9 1 rfl rfl wd_454 dX9_heir_13 h (fun a6 h => ?_)
  refine aw_getR axc1 11 rfl rfl wd_196 dX9_heir_16 h (fun a7 h => ?_)
  refine aw_iload_n 1 dX9_heir_19 rfl rfl ?_
  refine aw_doneI (rest := []) h (fun r9 S9 hF => aw_runS (As := [.ref a7, .int v1]) (rest := []) (L1_X9_at N hF) wd_541 wd_874 wd_540 wd_87 pd_X9_at.2 rfl (ax_rm (by omega) rfl) ax_hf0 (Nat.le_of_ble_eq_true rfl) rfl dX9_heir_20) (fun x9 T8 h => ?_)
  exact aw_iretT dX9_heir_23 rfl h

theorem dX9_strokes_0 : decode cX9_strokes 0 = .ok (.aload_n 0, 1) := by decide +kernel
theorem dX9_strokes_1 : decode cX9_strokes 1 = .ok (.aload_n 0, 1) := by decide +kernel
theorem dX9_strokes_2 : decode cX9_strokes 2 = .ok (.getfield 56, 3) := by decide +kernel
theorem dX9_strokes_5 : decode cX9_strokes 5 = .ok (.iconst 0, 1) := by decide +kernel
theorem dX9_strokes_6 : decode cX9_strokes 6 = .ok (.invokevirtual 230, 3) := by decide +kernel
theorem dX9_strokes_9 : decode cX9_strokes 9 = .ok (.ireturn, 1) := by decide +kernel
abbrev mt_X9_strokes : AxM := (RX9, cX9_strokes, 1, (some .int), false, [])
theorem L1_X9_strokes {g : AxG} {l : Launch} (N : Nat) {v0 : Nat} {S : AxS} {r9 : Int32} {S9 : AxS} (h : F_X9_strokes N v0 S = some ((r9, S9))) : AxMet g l yX9_strokes cX9_strokes 1 (some .int) (4) 0 0 [.ref v0] S ((.inl (some (.int r9)), S9)) := by
  refine ax_met (own := RX9) (ini := false) (by decide +kernel) rfl (fun h => nomatch h) rfl ?_
  show AW g l (axRm (4) 0 0) mt_X9_strokes (axMQ g 0 0 (.inl (some (.int r9)), S9)) 0 0 S 0 [(0, .ref v0)] []
  unfold F_X9_strokes at h
  refine aw_aload_n 0 dX9_strokes_0 rfl rfl ?_
  refine aw_aload_n 0 dX9_strokes_1 rfl rfl ?_
  refine aw_getR axc9 8 rfl rfl wd_461 dX9_strokes_2 h (fun a1 h => ?_)
  refine aw_iconst 0 dX9_strokes_5 rfl ?_
  obtain ⟨hL2, h⟩ := ax_is_spec h
  refine aw_doneI (rest := []) h (fun r9 S9 hF => aw_runV (As := [.ref a1, .int 0]) (rest := []) (L1_X9_strokesOf N hF) axc9 hL2 wd_549 wd_546 wd_548 wd_2 wd_87 pd_X9_strokesOf rfl (ax_rm (by omega) rfl) ax_hf0 (Nat.le_of_ble_eq_true rfl) rfl dX9_strokes_6) (fun x4 T3 h => ?_)
  exact aw_iret dX9_strokes_9 rfl (Nat.le_refl _) (Nat.le_refl _) h

theorem dX9_would_0 : decode cX9_would 0 = .ok (.aload_n 0, 1) := by decide +kernel
theorem dX9_would_1 : decode cX9_would 1 = .ok (.iload_n 1, 1) := by decide +kernel
theorem dX9_would_2 : decode cX9_would 2 = .ok (.ifCond .lt 24, 3) := by decide +kernel
theorem dX9_would_5 : decode cX9_would 5 = .ok (.iload_n 1, 1) := by decide +kernel
theorem dX9_would_6 : decode cX9_would 6 = .ok (.ldc 253, 2) := by decide +kernel
theorem dX9_would_8 : decode cX9_would 8 = .ok (.if_icmp .gt 18, 3) := by decide +kernel
theorem dX9_would_11 : decode cX9_would 11 = .ok (.iload_n 2, 1) := by decide +kernel
theorem dX9_would_12 : decode cX9_would 12 = .ok (.ifCond .lt 14, 3) := by decide +kernel
theorem dX9_would_15 : decode cX9_would 15 = .ok (.iload_n 2, 1) := by decide +kernel
theorem dX9_would_16 : decode cX9_would 16 = .ok (.sipush 999, 3) := by decide +kernel
theorem dX9_would_19 : decode cX9_would 19 = .ok (.if_icmp .gt 7, 3) := by decide +kernel
theorem dX9_would_22 : decode cX9_would 22 = .ok (.iconst 1, 1) := by decide +kernel
theorem dX9_would_23 : decode cX9_would 23 = .ok (.goto 4, 3) := by decide +kernel
theorem dX9_would_26 : decode cX9_would 26 = .ok (.iconst 0, 1) := by decide +kernel
theorem dX9_would_27 : decode cX9_would 27 = .ok (.invokevirtual 128, 3) := by decide +kernel
theorem dX9_would_30 : decode cX9_would 30 = .ok (.aload_n 0, 1) := by decide +kernel
theorem dX9_would_31 : decode cX9_would 31 = .ok (.iload_n 3, 1) := by decide +kernel
theorem dX9_would_32 : decode cX9_would 32 = .ok (.ifCond .lt 27, 3) := by decide +kernel
theorem dX9_would_35 : decode cX9_would 35 = .ok (.iload_n 3, 1) := by decide +kernel
theorem dX9_would_36 : decode cX9_would 36 = .ok (.sipush 999, 3) := by decide +kernel
theorem dX9_would_39 : decode cX9_would 39 = .ok (.if_icmp .gt 20, 3) := by decide +kernel
theorem dX9_would_42 : decode cX9_would 42 = .ok (.iload 4, 2) := by decide +kernel
theorem dX9_would_44 : decode cX9_would 44 = .ok (.ifCond .lt 15, 3) := by decide +kernel
theorem dX9_would_47 : decode cX9_would 47 = .ok (.iload 4, 2) := by decide +kernel
theorem dX9_would_49 : decode cX9_would 49 = .ok (.sipush 999, 3) := by decide +kernel
theorem dX9_would_52 : decode cX9_would 52 = .ok (.if_icmp .gt 7, 3) := by decide +kernel
theorem dX9_would_55 : decode cX9_would 55 = .ok (.iconst 1, 1) := by decide +kernel
theorem dX9_would_56 : decode cX9_would 56 = .ok (.goto 4, 3) := by decide +kernel
theorem dX9_would_59 : decode cX9_would 59 = .ok (.iconst 0, 1) := by decide +kernel
theorem dX9_would_60 : decode cX9_would 60 = .ok (.invokevirtual 128, 3) := by decide +kernel
theorem dX9_would_63 : decode cX9_would 63 = .ok (.aload_n 0, 1) := by decide +kernel
theorem dX9_would_64 : decode cX9_would 64 = .ok (.iload 5, 2) := by decide +kernel
theorem dX9_would_66 : decode cX9_would 66 = .ok (.ifCond .lt 24, 3) := by decide +kernel
theorem dX9_would_69 : decode cX9_would 69 = .ok (.iload 5, 2) := by decide +kernel
theorem dX9_would_71 : decode cX9_would 71 = .ok (.iconst 1, 1) := by decide +kernel
theorem dX9_would_72 : decode cX9_would 72 = .ok (.if_icmp .gt 18, 3) := by decide +kernel
theorem dX9_would_75 : decode cX9_would 75 = .ok (.iload 6, 2) := by decide +kernel
theorem dX9_would_77 : decode cX9_would 77 = .ok (.ifCond .lt 13, 3) := by decide +kernel
theorem dX9_would_80 : decode cX9_would 80 = .ok (.iload 6, 2) := by decide +kernel
theorem dX9_would_82 : decode cX9_would 82 = .ok (.iconst 1, 1) := by decide +kernel
theorem dX9_would_83 : decode cX9_would 83 = .ok (.if_icmp .gt 7, 3) := by decide +kernel
theorem dX9_would_86 : decode cX9_would 86 = .ok (.iconst 1, 1) := by decide +kernel
theorem dX9_would_87 : decode cX9_would 87 = .ok (.goto 4, 3) := by decide +kernel
theorem dX9_would_90 : decode cX9_would 90 = .ok (.iconst 0, 1) := by decide +kernel
theorem dX9_would_91 : decode cX9_would 91 = .ok (.invokevirtual 128, 3) := by decide +kernel
theorem dX9_would_94 : decode cX9_would 94 = .ok (.aload_n 0, 1) := by decide +kernel
theorem dX9_would_95 : decode cX9_would 95 = .ok (.iload 7, 2) := by decide +kernel
theorem dX9_would_97 : decode cX9_would 97 = .ok (.ifCond .lt 15, 3) := by decide +kernel
theorem dX9_would_100 : decode cX9_would 100 = .ok (.iload 7, 2) := by decide +kernel
theorem dX9_would_102 : decode cX9_would 102 = .ok (.sipush 9999, 3) := by decide +kernel
theorem dX9_would_105 : decode cX9_would 105 = .ok (.if_icmp .gt 7, 3) := by decide +kernel
theorem dX9_would_108 : decode cX9_would 108 = .ok (.iconst 1, 1) := by decide +kernel
theorem dX9_would_109 : decode cX9_would 109 = .ok (.goto 4, 3) := by decide +kernel
theorem dX9_would_112 : decode cX9_would 112 = .ok (.iconst 0, 1) := by decide +kernel
theorem dX9_would_113 : decode cX9_would 113 = .ok (.invokevirtual 128, 3) := by decide +kernel
theorem dX9_would_116 : decode cX9_would 116 = .ok (.aload_n 0, 1) := by decide +kernel
theorem dX9_would_117 : decode cX9_would 117 = .ok (.getfield 29, 3) := by decide +kernel
theorem dX9_would_120 : decode cX9_would 120 = .ok (.iload_n 1, 1) := by decide +kernel
theorem dX9_would_121 : decode cX9_would 121 = .ok (.iload_n 2, 1) := by decide +kernel
theorem dX9_would_122 : decode cX9_would 122 = .ok (.iload_n 3, 1) := by decide +kernel
theorem dX9_would_123 : decode cX9_would 123 = .ok (.iload 4, 2) := by decide +kernel
theorem dX9_would_125 : decode cX9_would 125 = .ok (.iload 5, 2) := by decide +kernel
theorem dX9_would_127 : decode cX9_would 127 = .ok (.iload 6, 2) := by decide +kernel
theorem dX9_would_129 : decode cX9_would 129 = .ok (.iload 7, 2) := by decide +kernel
theorem dX9_would_131 : decode cX9_would 131 = .ok (.invokevirtual 254, 3) := by decide +kernel
theorem dX9_would_134 : decode cX9_would 134 = .ok (.ireturn, 1) := by decide +kernel
abbrev mt_X9_would : AxM := (RX9, cX9_would, 8, (some .int), false, [])
theorem L1_X9_would_113 {g : AxG} {l : Launch} (hl0 : l.stackTraces = false) {res : AxT Int32} (N : Nat)  (v0 : Nat) (v1 : Int32) (v2 : Int32) (v3 : Int32) (v4 : Int32) (v5 : Int32) (v6 : Int32) (v7 : Int32) (w0 : Int32) (w1 : Nat) (S : AxS) (h : F_X9_would_113 N  v0 v1 v2 v3 v4 v5 v6 v7 w0 w1 S = some res) : AW g l (axRm (9) (axCs (axOI res)) (6 * axCs (axOI res))) mt_X9_would (axMQ g (axCs (axOI res)) (6 * axCs (axOI res)) (axOI res)) 0 0 S 113 [(0, .ref v0), (1, .int v1), (2, .int v2), (3, .int v3), (4, .int v4), (5, .int v5), (6, .int v6), (7, .int v7)] [.int w0, .ref w1] := by
  unfold F_X9_would_113 at h
  obtain ⟨hL1, h⟩ := ax_is_spec h
  refine aw_thV (ob := axOI) (rest := []) (fun _ _ => rfl) rfl h (fun u9 hF hu => aw_runV (As := [.int w0]) (rest := []) (L1_X9_needArgument hl0 N hF) axc9 hL1 wd_604 wd_601 wd_603 wd_3 wd_87 pd_X9_needArgument rfl (ax_rm (by omega) rfl) (ax_hfV (fun _ _ => rfl) hu) (Nat.le_of_ble_eq_true rfl) rfl dX9_would_113) (fun T2 h => ?_)
  refine aw_aload_n 0 dX9_would_116 rfl rfl ?_
  refine aw_getR axc9 3 rfl rfl wd_456 dX9_would_117 h (fun a4 h => ?_)
  refine aw_iload_n 1 dX9_would_120 rfl rfl ?_
  refine aw_iload_n 2 dX9_would_121 rfl rfl ?_
  refine aw_iload_n 3 dX9_would_122 rfl rfl ?_
  refine aw_iload 4 dX9_would_123 rfl ?_
  refine aw_iload 5 dX9_would_125 rfl ?_
  refine aw_iload 6 dX9_would_127 rfl ?_
  refine aw_iload 7 dX9_would_129 rfl ?_
  obtain ⟨hL5, h⟩ := ax_is_spec h
  refine aw_doneI (rest := []) h (fun r9 S9 hF => aw_runV (As := [.int v1, .int v2, .int v3, .int v4, .int v5, .int v6, .int v7]) (rest := []) (L1_X4_tolls N hF) axc4 hL5 wd_556 wd_553 wd_554 wd_555 wd_90 pd_X4_tolls rfl (ax_rm (by omega) rfl) ax_hf0 (Nat.le_of_ble_eq_true rfl) rfl dX9_would_131) (fun x7 T6 h => ?_)
  exact aw_iretT dX9_would_134 rfl h
theorem L1_X9_would_112 {g : AxG} {l : Launch} (hl0 : l.stackTraces = false) {res : AxT Int32} (N : Nat)  (v0 : Nat) (v1 : Int32) (v2 : Int32) (v3 : Int32) (v4 : Int32) (v5 : Int32) (v6 : Int32) (v7 : Int32) (w0 : Nat) (S : AxS) (h : F_X9_would_112 N  v0 v1 v2 v3 v4 v5 v6 v7 w0 S = some res) : AW g l (axRm (9) (axCs (axOI res)) (6 * axCs (axOI res))) mt_X9_would (axMQ g (axCs (axOI res)) (6 * axCs (axOI res)) (axOI res)) 0 0 S 112 [(0, .ref v0), (1, .int v1), (2, .int v2), (3, .int v3), (4, .int v4), (5, .int v5), (6, .int v6), (7, .int v7)] [.ref w0] := by
  unfold F_X9_would_112 at h
  refine aw_iconst 0 dX9_would_112 rfl ?_
  refine aw_env [(0, .ref v0), (1, .int v1), (2, .int v2), (3, .int v3), (4, .int v4), (5, .int v5), (6, .int v6), (7, .int v7)] [0, 1, 2, 3, 4, 5, 6, 7] rfl ?_
  exact L1_X9_would_113 hl0 N  v0 v1 v2 v3 v4 v5 v6 v7 0 w0 S h
theorem L1_X9_would_91 {g : AxG} {l : Launch} (hl0 : l.stackTraces = false) {res : AxT Int32} (N : Nat)  (v0 : Nat) (v1 : Int32) (v2 : Int32) (v3 : Int32) (v4 : Int32) (v5 : Int32) (v6 : Int32) (v7 : Int32) (w0 : Int32) (w1 : Nat) (S : AxS) (h : F_X9_would_91 N  v0 v1 v2 v3 v4 v5 v6 v7 w0 w1 S = some res) : AW g l (axRm (9) (axCs (axOI res)) (6 * axCs (axOI res))) mt_X9_would (axMQ g (axCs (axOI res)) (6 * axCs (axOI res)) (axOI res)) 0 0 S 91 [(0, .ref v0), (1, .int v1), (2, .int v2), (3, .int v3), (4, .int v4), (5, .int v5), (6, .int v6), (7, .int v7)] [.int w0, .ref w1] := by
  unfold F_X9_would_91 at h
  obtain ⟨hL1, h⟩ := ax_is_spec h
  refine aw_thV (ob := axOI) (rest := []) (fun _ _ => rfl) rfl h (fun u9 hF hu => aw_runV (As := [.int w0]) (rest := []) (L1_X9_needArgument hl0 N hF) axc9 hL1 wd_604 wd_601 wd_603 wd_3 wd_87 pd_X9_needArgument rfl (ax_rm (by omega) rfl) (ax_hfV (fun _ _ => rfl) hu) (Nat.le_of_ble_eq_true rfl) rfl dX9_would_91) (fun T2 h => ?_)
  refine aw_aload_n 0 dX9_would_94 rfl rfl ?_
  refine aw_iload 7 dX9_would_95 rfl ?_
  refine aw_if_lt 112 dX9_would_97 (by decide) h (fun h => ?_) (fun h => ?_)
  · refine aw_env [(0, .ref v0), (1, .int v1), (2, .int v2), (3, .int v3), (4, .int v4), (5, .int v5), (6, .int v6), (7, .int v7)] [0, 1, 2, 3, 4, 5, 6, 7] rfl ?_
    exact L1_X9_would_112 hl0 N  v0 v1 v2 v3 v4 v5 v6 v7 v0 T2 h
  · refine aw_iload 7 dX9_would_100 rfl ?_
    refine aw_sipush 9999 dX9_would_102 (by decide) ?_
    refine aw_icmp_gt 112 dX9_would_105 (by decide) h (fun h => ?_) (fun h => ?_)
    · refine aw_env [(0, .ref v0), (1, .int v1), (2, .int v2), (3, .int v3), (4, .int v4), (5, .int v5), (6, .int v6), (7, .int v7)] [0, 1, 2, 3, 4, 5, 6, 7] rfl ?_
      exact L1_X9_would_112 hl0 N  v0 v1 v2 v3 v4 v5 v6 v7 v0 T2 h
    · refine aw_iconst 1 dX9_would_108 rfl ?_
      refine aw_goto 113 dX9_would_109 (by decide) ?_
      refine aw_env [(0, .ref v0), (1, .int v1), (2, .int v2), (3, .int v3), (4, .int v4), (5, .int v5), (6, .int v6), (7, .int v7)] [0, 1, 2, 3, 4, 5, 6, 7] rfl ?_
      exact L1_X9_would_113 hl0 N  v0 v1 v2 v3 v4 v5 v6 v7 1 v0 T2 h
theorem L1_X9_would_90 {g : AxG} {l : Launch} (hl0 : l.stackTraces = false) {res : AxT Int32} (N : Nat)  (v0 : Nat) (v1 : Int32) (v2 : Int32) (v3 : Int32) (v4 : Int32) (v5 : Int32) (v6 : Int32) (v7 : Int32) (w0 : Nat) (S : AxS) (h : F_X9_would_90 N  v0 v1 v2 v3 v4 v5 v6 v7 w0 S = some res) : AW g l (axRm (9) (axCs (axOI res)) (6 * axCs (axOI res))) mt_X9_would (axMQ g (axCs (axOI res)) (6 * axCs (axOI res)) (axOI res)) 0 0 S 90 [(0, .ref v0), (1, .int v1), (2, .int v2), (3, .int v3), (4, .int v4), (5, .int v5), (6, .int v6), (7, .int v7)] [.ref w0] := by
  unfold F_X9_would_90 at h
  refine aw_iconst 0 dX9_would_90 rfl ?_
  refine aw_env [(0, .ref v0), (1, .int v1), (2, .int v2), (3, .int v3), (4, .int v4), (5, .int v5), (6, .int v6), (7, .int v7)] [0, 1, 2, 3, 4, 5, 6, 7] rfl ?_
  exact L1_X9_would_91 hl0 N  v0 v1 v2 v3 v4 v5 v6 v7 0 w0 S h
theorem L1_X9_would_60 {g : AxG} {l : Launch} (hl0 : l.stackTraces = false) {res : AxT Int32} (N : Nat)  (v0 : Nat) (v1 : Int32) (v2 : Int32) (v3 : Int32) (v4 : Int32) (v5 : Int32) (v6 : Int32) (v7 : Int32) (w0 : Int32) (w1 : Nat) (S : AxS) (h : F_X9_would_60 N  v0 v1 v2 v3 v4 v5 v6 v7 w0 w1 S = some res) : AW g l (axRm (9) (axCs (axOI res)) (6 * axCs (axOI res))) mt_X9_would (axMQ g (axCs (axOI res)) (6 * axCs (axOI res)) (axOI res)) 0 0 S 60 [(0, .ref v0), (1, .int v1), (2, .int v2), (3, .int v3), (4, .int v4), (5, .int v5), (6, .int v6), (7, .int v7)] [.int w0, .ref w1] := by
  unfold F_X9_would_60 at h
  obtain ⟨hL1, h⟩ := ax_is_spec h
  refine aw_thV (ob := axOI) (rest := []) (fun _ _ => rfl) rfl h (fun u9 hF hu => aw_runV (As := [.int w0]) (rest := []) (L1_X9_needArgument hl0 N hF) axc9 hL1 wd_604 wd_601 wd_603 wd_3 wd_87 pd_X9_needArgument rfl (ax_rm (by omega) rfl) (ax_hfV (fun _ _ => rfl) hu) (Nat.le_of_ble_eq_true rfl) rfl dX9_would_60) (fun T2 h => ?_)
  refine aw_aload_n 0 dX9_would_63 rfl rfl ?_
  refine aw_iload 5 dX9_would_64 rfl ?_
  refine aw_if_lt 90 dX9_would_66 (by decide) h (fun h => ?_) (fun h => ?_)
  · refine aw_env [(0, .ref v0), (1, .int v1), (2, .int v2), (3, .int v3), (4, .int v4), (5, .int v5), (6, .int v6), (7, .int v7)] [0, 1, 2, 3, 4, 5, 6, 7] rfl ?_
    exact L1_X9_would_90 hl0 N  v0 v1 v2 v3 v4 v5 v6 v7 v0 T2 h
  · refine aw_iload 5 dX9_would_69 rfl ?_
    refine aw_iconst 1 dX9_would_71 rfl ?_
    refine aw_icmp_gt 90 dX9_would_72 (by decide) h (fun h => ?_) (fun h => ?_)
    · refine aw_env [(0, .ref v0), (1, .int v1), (2, .int v2), (3, .int v3), (4, .int v4), (5, .int v5), (6, .int v6), (7, .int v7)] [0, 1, 2, 3, 4, 5, 6, 7] rfl ?_
      exact L1_X9_would_90 hl0 N  v0 v1 v2 v3 v4 v5 v6 v7 v0 T2 h
    · refine aw_iload 6 dX9_would_75 rfl ?_
      refine aw_if_lt 90 dX9_would_77 (by decide) h (fun h => ?_) (fun h => ?_)
      · refine aw_env [(0, .ref v0), (1, .int v1), (2, .int v2), (3, .int v3), (4, .int v4), (5, .int v5), (6, .int v6), (7, .int v7)] [0, 1, 2, 3, 4, 5, 6, 7] rfl ?_
        exact L1_X9_would_90 hl0 N  v0 v1 v2 v3 v4 v5 v6 v7 v0 T2 h
      · refine aw_iload 6 dX9_would_80 rfl ?_
        refine aw_iconst 1 dX9_would_82 rfl ?_
        refine aw_icmp_gt 90 dX9_would_83 (by decide) h (fun h => ?_) (fun h => ?_)
        · refine aw_env [(0, .ref v0), (1, .int v1), (2, .int v2), (3, .int v3), (4, .int v4), (5, .int v5), (6, .int v6), (7, .int v7)] [0, 1, 2, 3, 4, 5, 6, 7] rfl ?_
          exact L1_X9_would_90 hl0 N  v0 v1 v2 v3 v4 v5 v6 v7 v0 T2 h
        · refine aw_iconst 1 dX9_would_86 rfl ?_
          refine aw_goto 91 dX9_would_87 (by decide) ?_
          refine aw_env [(0, .ref v0), (1, .int v1), (2, .int v2), (3, .int v3), (4, .int v4), (5, .int v5), (6, .int v6), (7, .int v7)] [0, 1, 2, 3, 4, 5, 6, 7] rfl ?_
          exact L1_X9_would_91 hl0 N  v0 v1 v2 v3 v4 v5 v6 v7 1 v0 T2 h
theorem L1_X9_would_59 {g : AxG} {l : Launch} (hl0 : l.stackTraces = false) {res : AxT Int32} (N : Nat)  (v0 : Nat) (v1 : Int32) (v2 : Int32) (v3 : Int32) (v4 : Int32) (v5 : Int32) (v6 : Int32) (v7 : Int32) (w0 : Nat) (S : AxS) (h : F_X9_would_59 N  v0 v1 v2 v3 v4 v5 v6 v7 w0 S = some res) : AW g l (axRm (9) (axCs (axOI res)) (6 * axCs (axOI res))) mt_X9_would (axMQ g (axCs (axOI res)) (6 * axCs (axOI res)) (axOI res)) 0 0 S 59 [(0, .ref v0), (1, .int v1), (2, .int v2), (3, .int v3), (4, .int v4), (5, .int v5), (6, .int v6), (7, .int v7)] [.ref w0] := by
  unfold F_X9_would_59 at h
  refine aw_iconst 0 dX9_would_59 rfl ?_
  refine aw_env [(0, .ref v0), (1, .int v1), (2, .int v2), (3, .int v3), (4, .int v4), (5, .int v5), (6, .int v6), (7, .int v7)] [0, 1, 2, 3, 4, 5, 6, 7] rfl ?_
  exact L1_X9_would_60 hl0 N  v0 v1 v2 v3 v4 v5 v6 v7 0 w0 S h
theorem L1_X9_would_27 {g : AxG} {l : Launch} (hl0 : l.stackTraces = false) {res : AxT Int32} (N : Nat)  (v0 : Nat) (v1 : Int32) (v2 : Int32) (v3 : Int32) (v4 : Int32) (v5 : Int32) (v6 : Int32) (v7 : Int32) (w0 : Int32) (w1 : Nat) (S : AxS) (h : F_X9_would_27 N  v0 v1 v2 v3 v4 v5 v6 v7 w0 w1 S = some res) : AW g l (axRm (9) (axCs (axOI res)) (6 * axCs (axOI res))) mt_X9_would (axMQ g (axCs (axOI res)) (6 * axCs (axOI res)) (axOI res)) 0 0 S 27 [(0, .ref v0), (1, .int v1), (2, .int v2), (3, .int v3), (4, .int v4), (5, .int v5), (6, .int v6), (7, .int v7)] [.int w0, .ref w1] := by
  unfold F_X9_would_27 at h
  obtain ⟨hL1, h⟩ := ax_is_spec h
  refine aw_thV (ob := axOI) (rest := []) (fun _ _ => rfl) rfl h (fun u9 hF hu => aw_runV (As := [.int w0]) (rest := []) (L1_X9_needArgument hl0 N hF) axc9 hL1 wd_604 wd_601 wd_603 wd_3 wd_87 pd_X9_needArgument rfl (ax_rm (by omega) rfl) (ax_hfV (fun _ _ => rfl) hu) (Nat.le_of_ble_eq_true rfl) rfl dX9_would_27) (fun T2 h => ?_)
  refine aw_aload_n 0 dX9_would_30 rfl rfl ?_
  refine aw_iload_n 3 dX9_would_31 rfl rfl ?_
  refine aw_if_lt 59 dX9_would_32 (by decide) h (fun h => ?_) (fun h => ?_)
  · refine aw_env [(0, .ref v0), (1, .int v1), (2, .int v2), (3, .int v3), (4, .int v4), (5, .int v5), (6, .int v6), (7, .int v7)] [0, 1, 2, 3, 4, 5, 6, 7] rfl ?_
    exact L1_X9_would_59 hl0 N  v0 v1 v2 v3 v4 v5 v6 v7 v0 T2 h
  · refine aw_iload_n 3 dX9_would_35 rfl rfl ?_
    refine aw_sipush 999 dX9_would_36 (by decide) ?_
    refine aw_icmp_gt 59 dX9_would_39 (by decide) h (fun h => ?_) (fun h => ?_)
    · refine aw_env [(0, .ref v0), (1, .int v1), (2, .int v2), (3, .int v3), (4, .int v4), (5, .int v5), (6, .int v6), (7, .int v7)] [0, 1, 2, 3, 4, 5, 6, 7] rfl ?_
      exact L1_X9_would_59 hl0 N  v0 v1 v2 v3 v4 v5 v6 v7 v0 T2 h
    · refine aw_iload 4 dX9_would_42 rfl ?_
      refine aw_if_lt 59 dX9_would_44 (by decide) h (fun h => ?_) (fun h => ?_)
      · refine aw_env [(0, .ref v0), (1, .int v1), (2, .int v2), (3, .int v3), (4, .int v4), (5, .int v5), (6, .int v6), (7, .int v7)] [0, 1, 2, 3, 4, 5, 6, 7] rfl ?_
        exact L1_X9_would_59 hl0 N  v0 v1 v2 v3 v4 v5 v6 v7 v0 T2 h
      · refine aw_iload 4 dX9_would_47 rfl ?_
        refine aw_sipush 999 dX9_would_49 (by decide) ?_
        refine aw_icmp_gt 59 dX9_would_52 (by decide) h (fun h => ?_) (fun h => ?_)
        · refine aw_env [(0, .ref v0), (1, .int v1), (2, .int v2), (3, .int v3), (4, .int v4), (5, .int v5), (6, .int v6), (7, .int v7)] [0, 1, 2, 3, 4, 5, 6, 7] rfl ?_
          exact L1_X9_would_59 hl0 N  v0 v1 v2 v3 v4 v5 v6 v7 v0 T2 h
        · refine aw_iconst 1 dX9_would_55 rfl ?_
          refine aw_goto 60 dX9_would_56 (by decide) ?_
          refine aw_env [(0, .ref v0), (1, .int v1), (2, .int v2), (3, .int v3), (4, .int v4), (5, .int v5), (6, .int v6), (7, .int v7)] [0, 1, 2, 3, 4, 5, 6, 7] rfl ?_
          exact L1_X9_would_60 hl0 N  v0 v1 v2 v3 v4 v5 v6 v7 1 v0 T2 h
theorem L1_X9_would_26 {g : AxG} {l : Launch} (hl0 : l.stackTraces = false) {res : AxT Int32} (N : Nat)  (v0 : Nat) (v1 : Int32) (v2 : Int32) (v3 : Int32) (v4 : Int32) (v5 : Int32) (v6 : Int32) (v7 : Int32) (w0 : Nat) (S : AxS) (h : F_X9_would_26 N  v0 v1 v2 v3 v4 v5 v6 v7 w0 S = some res) : AW g l (axRm (9) (axCs (axOI res)) (6 * axCs (axOI res))) mt_X9_would (axMQ g (axCs (axOI res)) (6 * axCs (axOI res)) (axOI res)) 0 0 S 26 [(0, .ref v0), (1, .int v1), (2, .int v2), (3, .int v3), (4, .int v4), (5, .int v5), (6, .int v6), (7, .int v7)] [.ref w0] := by
  unfold F_X9_would_26 at h
  refine aw_iconst 0 dX9_would_26 rfl ?_
  refine aw_env [(0, .ref v0), (1, .int v1), (2, .int v2), (3, .int v3), (4, .int v4), (5, .int v5), (6, .int v6), (7, .int v7)] [0, 1, 2, 3, 4, 5, 6, 7] rfl ?_
  exact L1_X9_would_27 hl0 N  v0 v1 v2 v3 v4 v5 v6 v7 0 w0 S h
theorem L1_X9_would {g : AxG} {l : Launch} (hl0 : l.stackTraces = false) (N : Nat) {v0 : Nat} {v1 : Int32} {v2 : Int32} {v3 : Int32} {v4 : Int32} {v5 : Int32} {v6 : Int32} {v7 : Int32} {S : AxS} {res : AxT Int32} (h : F_X9_would N v0 v1 v2 v3 v4 v5 v6 v7 S = some res) : AxMet g l yX9_would cX9_would 8 (some .int) (9) (axCs (axOI res)) (6 * axCs (axOI res)) [.ref v0, .int v1, .int v2, .int v3, .int v4, .int v5, .int v6, .int v7] S (axOI res) := by
  refine ax_met (own := RX9) (ini := false) (by decide +kernel) rfl (fun h => nomatch h) rfl ?_
  show AW g l (axRm (9) (axCs (axOI res)) (6 * axCs (axOI res))) mt_X9_would (axMQ g (axCs (axOI res)) (6 * axCs (axOI res)) (axOI res)) 0 0 S 0 [(0, .ref v0), (1, .int v1), (2, .int v2), (3, .int v3), (4, .int v4), (5, .int v5), (6, .int v6), (7, .int v7)] []
  unfold F_X9_would at h
  refine aw_aload_n 0 dX9_would_0 rfl rfl ?_
  refine aw_iload_n 1 dX9_would_1 rfl rfl ?_
  refine aw_if_lt 26 dX9_would_2 (by decide) h (fun h => ?_) (fun h => ?_)
  · refine aw_env [(0, .ref v0), (1, .int v1), (2, .int v2), (3, .int v3), (4, .int v4), (5, .int v5), (6, .int v6), (7, .int v7)] [0, 1, 2, 3, 4, 5, 6, 7] rfl ?_
    exact L1_X9_would_26 hl0 N  v0 v1 v2 v3 v4 v5 v6 v7 v0 S h
  · refine aw_iload_n 1 dX9_would_5 rfl rfl ?_
    refine aw_ldcI wd_1020 dX9_would_6 ?_
    refine aw_icmp_gt 26 dX9_would_8 (by decide) h (fun h => ?_) (fun h => ?_)
    · refine aw_env [(0, .ref v0), (1, .int v1), (2, .int v2), (3, .int v3), (4, .int v4), (5, .int v5), (6, .int v6), (7, .int v7)] [0, 1, 2, 3, 4, 5, 6, 7] rfl ?_
      exact L1_X9_would_26 hl0 N  v0 v1 v2 v3 v4 v5 v6 v7 v0 S h
    · refine aw_iload_n 2 dX9_would_11 rfl rfl ?_
      refine aw_if_lt 26 dX9_would_12 (by decide) h (fun h => ?_) (fun h => ?_)
      · refine aw_env [(0, .ref v0), (1, .int v1), (2, .int v2), (3, .int v3), (4, .int v4), (5, .int v5), (6, .int v6), (7, .int v7)] [0, 1, 2, 3, 4, 5, 6, 7] rfl ?_
        exact L1_X9_would_26 hl0 N  v0 v1 v2 v3 v4 v5 v6 v7 v0 S h
      · refine aw_iload_n 2 dX9_would_15 rfl rfl ?_
        refine aw_sipush 999 dX9_would_16 (by decide) ?_
        refine aw_icmp_gt 26 dX9_would_19 (by decide) h (fun h => ?_) (fun h => ?_)
        · refine aw_env [(0, .ref v0), (1, .int v1), (2, .int v2), (3, .int v3), (4, .int v4), (5, .int v5), (6, .int v6), (7, .int v7)] [0, 1, 2, 3, 4, 5, 6, 7] rfl ?_
          exact L1_X9_would_26 hl0 N  v0 v1 v2 v3 v4 v5 v6 v7 v0 S h
        · refine aw_iconst 1 dX9_would_22 rfl ?_
          refine aw_goto 27 dX9_would_23 (by decide) ?_
          refine aw_env [(0, .ref v0), (1, .int v1), (2, .int v2), (3, .int v3), (4, .int v4), (5, .int v5), (6, .int v6), (7, .int v7)] [0, 1, 2, 3, 4, 5, 6, 7] rfl ?_
          exact L1_X9_would_27 hl0 N  v0 v1 v2 v3 v4 v5 v6 v7 1 v0 S h

theorem dX9_noise_0 : decode cX9_noise 0 = .ok (.aload_n 0, 1) := by decide +kernel
theorem dX9_noise_1 : decode cX9_noise 1 = .ok (.iload_n 1, 1) := by decide +kernel
theorem dX9_noise_2 : decode cX9_noise 2 = .ok (.aload_n 0, 1) := by decide +kernel
theorem dX9_noise_3 : decode cX9_noise 3 = .ok (.getfield 19, 3) := by decide +kernel
theorem dX9_noise_6 : decode cX9_noise 6 = .ok (.getfield 210, 3) := by decide +kernel
theorem dX9_noise_9 : decode cX9_noise 9 = .ok (.invokevirtual 216, 3) := by decide +kernel
theorem dX9_noise_12 : decode cX9_noise 12 = .ok (.aload_n 0, 1) := by decide +kernel
theorem dX9_noise_13 : decode cX9_noise 13 = .ok (.iload_n 2, 1) := by decide +kernel
theorem dX9_noise_14 : decode cX9_noise 14 = .ok (.ifCond .lt 14, 3) := by decide +kernel
theorem dX9_noise_17 : decode cX9_noise 17 = .ok (.iload_n 2, 1) := by decide +kernel
theorem dX9_noise_18 : decode cX9_noise 18 = .ok (.sipush 999, 3) := by decide +kernel
theorem dX9_noise_21 : decode cX9_noise 21 = .ok (.if_icmp .gt 7, 3) := by decide +kernel
theorem dX9_noise_24 : decode cX9_noise 24 = .ok (.iconst 1, 1) := by decide +kernel
theorem dX9_noise_25 : decode cX9_noise 25 = .ok (.goto 4, 3) := by decide +kernel
theorem dX9_noise_28 : decode cX9_noise 28 = .ok (.iconst 0, 1) := by decide +kernel
theorem dX9_noise_29 : decode cX9_noise 29 = .ok (.invokevirtual 128, 3) := by decide +kernel
theorem dX9_noise_32 : decode cX9_noise 32 = .ok (.aload_n 0, 1) := by decide +kernel
theorem dX9_noise_33 : decode cX9_noise 33 = .ok (.getfield 19, 3) := by decide +kernel
theorem dX9_noise_36 : decode cX9_noise 36 = .ok (.iload_n 1, 1) := by decide +kernel
theorem dX9_noise_37 : decode cX9_noise 37 = .ok (.iload_n 2, 1) := by decide +kernel
theorem dX9_noise_38 : decode cX9_noise 38 = .ok (.invokevirtual 258, 3) := by decide +kernel
theorem dX9_noise_41 : decode cX9_noise 41 = .ok (.ireturn, 1) := by decide +kernel
abbrev mt_X9_noise : AxM := (RX9, cX9_noise, 3, (some .int), false, [])
theorem L1_X9_noise_29 {g : AxG} {l : Launch} (hl0 : l.stackTraces = false) {res : AxT Int32} (N : Nat)  (v0 : Nat) (v1 : Int32) (v2 : Int32) (w0 : Int32) (w1 : Nat) (S : AxS) (h : F_X9_noise_29 N  v0 v1 v2 w0 w1 S = some res) : AW g l (axRm (9) (axCs (axOI res)) (6 * axCs (axOI res))) mt_X9_noise (axMQ g (axCs (axOI res)) (6 * axCs (axOI res)) (axOI res)) 0 0 S 29 [(0, .ref v0), (1, .int v1), (2, .int v2)] [.int w0, .ref w1] := by
  unfold F_X9_noise_29 at h
  obtain ⟨hL1, h⟩ := ax_is_spec h
  refine aw_thV (ob := axOI) (rest := []) (fun _ _ => rfl) rfl h (fun u9 hF hu => aw_runV (As := [.int w0]) (rest := []) (L1_X9_needArgument hl0 N hF) axc9 hL1 wd_604 wd_601 wd_603 wd_3 wd_87 pd_X9_needArgument rfl (ax_rm (by omega) rfl) (ax_hfV (fun _ _ => rfl) hu) (Nat.le_of_ble_eq_true rfl) rfl dX9_noise_29) (fun T2 h => ?_)
  refine aw_aload_n 0 dX9_noise_32 rfl rfl ?_
  refine aw_getR axc9 1 rfl rfl wd_454 dX9_noise_33 h (fun a4 h => ?_)
  refine aw_iload_n 1 dX9_noise_36 rfl rfl ?_
  refine aw_iload_n 2 dX9_noise_37 rfl rfl ?_
  obtain ⟨hL5, h⟩ := ax_is_spec h
  refine aw_doneI (rest := []) h (fun r9 S9 hF => aw_runV (As := [.int v1, .int v2]) (rest := []) (L1_X1_loud N hF) axc1 hL5 wd_916 wd_913 wd_914 wd_915 wd_89 pd_X1_loud rfl (ax_rm (by omega) rfl) ax_hf0 (Nat.le_of_ble_eq_true rfl) rfl dX9_noise_38) (fun x7 T6 h => ?_)
  exact aw_iretT dX9_noise_41 rfl h
theorem L1_X9_noise_28 {g : AxG} {l : Launch} (hl0 : l.stackTraces = false) {res : AxT Int32} (N : Nat)  (v0 : Nat) (v1 : Int32) (v2 : Int32) (w0 : Nat) (S : AxS) (h : F_X9_noise_28 N  v0 v1 v2 w0 S = some res) : AW g l (axRm (9) (axCs (axOI res)) (6 * axCs (axOI res))) mt_X9_noise (axMQ g (axCs (axOI res)) (6 * axCs (axOI res)) (axOI res)) 0 0 S 28 [(0, .ref v0), (1, .int v1), (2, .int v2)] [.ref w0] := by
  unfold F_X9_noise_28 at h
  refine aw_iconst 0 dX9_noise_28 rfl ?_
  refine aw_env [(0, .ref v0), (1, .int v1), (2, .int v2)] [0, 1, 2] rfl ?_
  exact L1_X9_noise_29 hl0 N  v0 v1 v2 0 w0 S h
theorem L1_X9_noise {g : AxG} {l : Launch} (hl0 : l.stackTraces = false) (N : Nat) {v0 : Nat} {v1 : Int32} {v2 : Int32} {S : AxS} {res : AxT Int32} (h : F_X9_noise N v0 v1 v2 S = some res) : AxMet g l yX9_noise cX9_noise 3 (some .int) (9) (axCs (axOI res)) (6 * axCs (axOI res)) [.ref v0, .int v1, .int v2] S (axOI res) := by
  refine ax_met (own := RX9) (ini := false) (by decide +kernel) rfl (fun h => nomatch h) rfl ?_
  show AW g l (axRm (9) (axCs (axOI res)) (6 * axCs (axOI res))) mt_X9_noise (axMQ g (axCs (axOI res)) (6 * axCs (axOI res)) (axOI res)) 0 0 S 0 [(0, .ref v0), (1, .int v1), (2, .int v2)] []
  unfold F_X9_noise at h
  refine aw_aload_n 0 dX9_noise_0 rfl rfl ?_
  refine aw_iload_n 1 dX9_noise_1 rfl rfl ?_
  refine aw_aload_n 0 dX9_noise_2 rfl rfl ?_
  refine aw_getR axc9 1 rfl rfl wd_454 dX9_noise_3 h (fun a1 h => ?_)
  refine aw_getI axc1 4 rfl rfl wd_181 dX9_noise_6 h (fun x2 h => ?_)
  obtain ⟨hL3, h⟩ := ax_is_spec h
  refine aw_thV (ob := axOI) (rest := []) (fun _ _ => rfl) rfl h (fun u9 hF hu => aw_runV (As := [.int v1, .int x2]) (rest := []) (L1_X9_needOne hl0 N hF) axc9 hL3 wd_975 wd_972 wd_974 wd_20 wd_87 pd_X9_needOne rfl (ax_rm (by omega) rfl) (ax_hfV (fun _ _ => rfl) hu) (Nat.le_of_ble_eq_true rfl) rfl dX9_noise_9) (fun T4 h => ?_)
  refine aw_aload_n 0 dX9_noise_12 rfl rfl ?_
  refine aw_iload_n 2 dX9_noise_13 rfl rfl ?_
  refine aw_if_lt 28 dX9_noise_14 (by decide) h (fun h => ?_) (fun h => ?_)
  · refine aw_env [(0, .ref v0), (1, .int v1), (2, .int v2)] [0, 1, 2] rfl ?_
    exact L1_X9_noise_28 hl0 N  v0 v1 v2 v0 T4 h
  · refine aw_iload_n 2 dX9_noise_17 rfl rfl ?_
    refine aw_sipush 999 dX9_noise_18 (by decide) ?_
    refine aw_icmp_gt 28 dX9_noise_21 (by decide) h (fun h => ?_) (fun h => ?_)
    · refine aw_env [(0, .ref v0), (1, .int v1), (2, .int v2)] [0, 1, 2] rfl ?_
      exact L1_X9_noise_28 hl0 N  v0 v1 v2 v0 T4 h
    · refine aw_iconst 1 dX9_noise_24 rfl ?_
      refine aw_goto 29 dX9_noise_25 (by decide) ?_
      refine aw_env [(0, .ref v0), (1, .int v1), (2, .int v2)] [0, 1, 2] rfl ?_
      exact L1_X9_noise_29 hl0 N  v0 v1 v2 1 v0 T4 h

theorem dX9_passNight_0 : decode cX9_passNight 0 = .ok (.aload_n 0, 1) := by decide +kernel
theorem dX9_passNight_1 : decode cX9_passNight 1 = .ok (.aload_n 1, 1) := by decide +kernel
theorem dX9_passNight_2 : decode cX9_passNight 2 = .ok (.iload_n 2, 1) := by decide +kernel
theorem dX9_passNight_3 : decode cX9_passNight 3 = .ok (.invokevirtual 230, 3) := by decide +kernel
theorem dX9_passNight_6 : decode cX9_passNight 6 = .ok (.istore_n 3, 1) := by decide +kernel
theorem dX9_passNight_7 : decode cX9_passNight 7 = .ok (.iconst 0, 1) := by decide +kernel
theorem dX9_passNight_8 : decode cX9_passNight 8 = .ok (.istore 4, 2) := by decide +kernel
theorem dX9_passNight_10 : decode cX9_passNight 10 = .ok (.iload 4, 2) := by decide +kernel
theorem dX9_passNight_12 : decode cX9_passNight 12 = .ok (.aload_n 0, 1) := by decide +kernel
theorem dX9_passNight_13 : decode cX9_passNight 13 = .ok (.getfield 19, 3) := by decide +kernel
theorem dX9_passNight_16 : decode cX9_passNight 16 = .ok (.getfield 142, 3) := by decide +kernel
theorem dX9_passNight_19 : decode cX9_passNight 19 = .ok (.if_icmp .ge 50, 3) := by decide +kernel
theorem dX9_passNight_22 : decode cX9_passNight 22 = .ok (.aload_n 0, 1) := by decide +kernel
theorem dX9_passNight_23 : decode cX9_passNight 23 = .ok (.aload_n 1, 1) := by decide +kernel
theorem dX9_passNight_24 : decode cX9_passNight 24 = .ok (.iload 4, 2) := by decide +kernel
theorem dX9_passNight_26 : decode cX9_passNight 26 = .ok (.iload_n 3, 1) := by decide +kernel
theorem dX9_passNight_27 : decode cX9_passNight 27 = .ok (.invokevirtual 234, 3) := by decide +kernel
theorem dX9_passNight_30 : decode cX9_passNight 30 = .ok (.ifCond .eq 33, 3) := by decide +kernel
theorem dX9_passNight_33 : decode cX9_passNight 33 = .ok (.aload_n 1, 1) := by decide +kernel
theorem dX9_passNight_34 : decode cX9_passNight 34 = .ok (.dup, 1) := by decide +kernel
theorem dX9_passNight_35 : decode cX9_passNight 35 = .ok (.getfield 201, 3) := by decide +kernel
theorem dX9_passNight_38 : decode cX9_passNight 38 = .ok (.iconst 1, 1) := by decide +kernel
theorem dX9_passNight_39 : decode cX9_passNight 39 = .ok (.iadd, 1) := by decide +kernel
theorem dX9_passNight_40 : decode cX9_passNight 40 = .ok (.putfield 201, 3) := by decide +kernel
theorem dX9_passNight_43 : decode cX9_passNight 43 = .ok (.aload_n 1, 1) := by decide +kernel
theorem dX9_passNight_44 : decode cX9_passNight 44 = .ok (.getfield 238, 3) := by decide +kernel
theorem dX9_passNight_47 : decode cX9_passNight 47 = .ok (.iload 4, 2) := by decide +kernel
theorem dX9_passNight_49 : decode cX9_passNight 49 = .ok (.aload_n 1, 1) := by decide +kernel
theorem dX9_passNight_50 : decode cX9_passNight 50 = .ok (.getfield 238, 3) := by decide +kernel
theorem dX9_passNight_53 : decode cX9_passNight 53 = .ok (.iload 4, 2) := by decide +kernel
theorem dX9_passNight_55 : decode cX9_passNight 55 = .ok (.invokestatic 223, 3) := by decide +kernel
theorem dX9_passNight_58 : decode cX9_passNight 58 = .ok (.iconst 1, 1) := by decide +kernel
theorem dX9_passNight_59 : decode cX9_passNight 59 = .ok (.iadd, 1) := by decide +kernel
theorem dX9_passNight_60 : decode cX9_passNight 60 = .ok (.invokestatic 380, 3) := by decide +kernel
theorem dX9_passNight_63 : decode cX9_passNight 63 = .ok (.iinc 4 1, 3) := by decide +kernel
theorem dX9_passNight_66 : decode cX9_passNight 66 = .ok (.goto (-56), 3) := by decide +kernel
theorem dX9_passNight_69 : decode cX9_passNight 69 = .ok (.aload_n 1, 1) := by decide +kernel
theorem dX9_passNight_70 : decode cX9_passNight 70 = .ok (.iload_n 3, 1) := by decide +kernel
theorem dX9_passNight_71 : decode cX9_passNight 71 = .ok (.aload_n 0, 1) := by decide +kernel
theorem dX9_passNight_72 : decode cX9_passNight 72 = .ok (.getfield 19, 3) := by decide +kernel
theorem dX9_passNight_75 : decode cX9_passNight 75 = .ok (.aload_n 0, 1) := by decide +kernel
theorem dX9_passNight_76 : decode cX9_passNight 76 = .ok (.getfield 19, 3) := by decide +kernel
theorem dX9_passNight_79 : decode cX9_passNight 79 = .ok (.getfield 384, 3) := by decide +kernel
theorem dX9_passNight_82 : decode cX9_passNight 82 = .ok (.invokevirtual 387, 3) := by decide +kernel
theorem dX9_passNight_85 : decode cX9_passNight 85 = .ok (.iload_n 3, 1) := by decide +kernel
theorem dX9_passNight_86 : decode cX9_passNight 86 = .ok (.ireturn, 1) := by decide +kernel
abbrev mt_X9_passNight : AxM := (RX9, cX9_passNight, 5, (some .int), false, [])
theorem L1_X9_passNight_63 {g : AxG} {l : Launch} {r9 : Int32} {S9 : AxS} (N : Nat) (K10 : Nat → Nat → Int32 → Int32 → AxS → Option (Int32 × AxS)) (hK10 : ∀ (v0 : Nat) (v1 : Nat) (v3 : Int32) (v4 : Int32) (S : AxS), K10 v0 v1 v3 v4 S = some ((r9, S9)) → AW g l (axRm (4) 0 0) mt_X9_passNight (axMQ g 0 0 (.inl (some (.int r9)), S9)) 0 0 S 10 [(0, .ref v0), (1, .ref v1), (3, .int v3), (4, .int v4)] []) (v0 : Nat) (v1 : Nat) (v3 : Int32) (v4 : Int32) (S : AxS) (h : F_X9_passNight_63 N K10 v0 v1 v3 v4 S = some ((r9, S9))) : AW g l (axRm (4) 0 0) mt_X9_passNight (axMQ g 0 0 (.inl (some (.int r9)), S9)) 0 0 S 63 [(0, .ref v0), (1, .ref v1), (3, .int v3), (4, .int v4)] [] := by
  unfold F_X9_passNight_63 at h
  refine aw_iinc 3 [(4, .int (v4 + 1)), (0, .ref v0), (1, .ref v1), (3, .int v3)] (v4 + 1) dX9_passNight_63 rfl rfl rfl rfl ?_
  refine aw_goto 10 dX9_passNight_66 (by decide) ?_
  refine aw_env [(0, .ref v0), (1, .ref v1), (3, .int v3), (4, .int (v4 + 1))] [1, 2, 3, 0] rfl ?_
  exact hK10 v0 v1 v3 (v4 + 1) S h
theorem L1_X9_passNight_10b {g : AxG} {l : Launch} {r9 : Int32} {S9 : AxS} (N : Nat) (K10 : Nat → Nat → Int32 → Int32 → AxS → Option (Int32 × AxS)) (hK10 : ∀ (v0 : Nat) (v1 : Nat) (v3 : Int32) (v4 : Int32) (S : AxS), K10 v0 v1 v3 v4 S = some ((r9, S9)) → AW g l (axRm (4) 0 0) mt_X9_passNight (axMQ g 0 0 (.inl (some (.int r9)), S9)) 0 0 S 10 [(0, .ref v0), (1, .ref v1), (3, .int v3), (4, .int v4)] []) (v0 : Nat) (v1 : Nat) (v3 : Int32) (v4 : Int32) (S : AxS) (h : F_X9_passNight_10b N K10 v0 v1 v3 v4 S = some ((r9, S9))) : AW g l (axRm (4) 0 0) mt_X9_passNight (axMQ g 0 0 (.inl (some (.int r9)), S9)) 0 0 S 10 [(0, .ref v0), (1, .ref v1), (3, .int v3), (4, .int v4)] [] := by
  unfold F_X9_passNight_10b at h
  refine aw_iload 3 dX9_passNight_10 rfl ?_
  refine aw_aload_n 0 dX9_passNight_12 rfl rfl ?_
  refine aw_getR axc9 1 rfl rfl wd_454 dX9_passNight_13 h (fun a1 h => ?_)
  refine aw_getI axc1 5 rfl rfl wd_183 dX9_passNight_16 h (fun x2 h => ?_)
  refine aw_icmp_ge 69 dX9_passNight_19 (by decide) h (fun h => ?_) (fun h => ?_)
  · refine aw_aload_n 1 dX9_passNight_69 rfl rfl ?_
    refine aw_iload_n 2 dX9_passNight_70 rfl rfl ?_
    refine aw_aload_n 0 dX9_passNight_71 rfl rfl ?_
    refine aw_getR axc9 1 rfl rfl wd_454 dX9_passNight_72 h (fun a3 h => ?_)
    refine aw_aload_n 0 dX9_passNight_75 rfl rfl ?_
    refine aw_getR axc9 1 rfl rfl wd_454 dX9_passNight_76 h (fun a4 h => ?_)
    refine aw_getI axc1 1 rfl rfl wd_174 dX9_passNight_79 h (fun x5 h => ?_)
    obtain ⟨hL6, h⟩ := ax_is_spec h
    refine aw_doneV (rest := []) h (fun S9 hF => aw_runV (As := [.int v3, .ref a3, .int x5]) (rest := []) (L1_X5_turn N hF) axc5 hL6 wd_922 wd_919 wd_920 wd_921 wd_93 pd_X5_turn rfl (ax_rm (by omega) rfl) ax_hf0 (Nat.le_of_ble_eq_true rfl) rfl dX9_passNight_82) (fun T7 h => ?_)
    refine aw_iload_n 2 dX9_passNight_85 rfl rfl ?_
    exact aw_iret dX9_passNight_86 rfl (Nat.le_refl _) (Nat.le_refl _) h
  · refine aw_aload_n 0 dX9_passNight_22 rfl rfl ?_
    refine aw_aload_n 1 dX9_passNight_23 rfl rfl ?_
    refine aw_iload 3 dX9_passNight_24 rfl ?_
    refine aw_iload_n 2 dX9_passNight_26 rfl rfl ?_
    obtain ⟨hL9, h⟩ := ax_is_spec h
    refine aw_doneI (rest := []) h (fun r9 S9 hF => aw_runV (As := [.ref v1, .int v4, .int v3]) (rest := []) (L1_X9_wakes N hF) axc9 hL9 wd_912 wd_909 wd_911 wd_17 wd_87 pd_X9_wakes rfl (ax_rm (by omega) rfl) ax_hf0 (Nat.le_of_ble_eq_true rfl) rfl dX9_passNight_27) (fun x11 T10 h => ?_)
    refine aw_if_eq 63 dX9_passNight_30 (by decide) h (fun h => ?_) (fun h => ?_)
    · refine aw_env [(0, .ref v0), (1, .ref v1), (3, .int v3), (4, .int v4)] [0, 1, 2, 3] rfl ?_
      exact L1_X9_passNight_63 N K10 hK10 v0 v1 v3 v4 T10 h
    · refine aw_aload_n 1 dX9_passNight_33 rfl rfl ?_
      refine aw_dup rfl dX9_passNight_34 ?_
      refine aw_getI axc5 11 rfl rfl wd_315 dX9_passNight_35 h (fun x12 h => ?_)
      refine aw_iconst 1 dX9_passNight_38 rfl ?_
      refine aw_iadd dX9_passNight_39 ?_
      refine aw_putI axc5 11 rfl rfl wd_315 rfl rfl rfl dX9_passNight_40 h (fun T13 h => ?_)
      refine aw_aload_n 1 dX9_passNight_43 rfl rfl ?_
      refine aw_getR axc5 13 rfl rfl wd_319 dX9_passNight_44 h (fun a14 h => ?_)
      refine aw_iload 3 dX9_passNight_47 rfl ?_
      refine aw_aload_n 1 dX9_passNight_49 rfl rfl ?_
      refine aw_getR axc5 13 rfl rfl wd_319 dX9_passNight_50 h (fun a15 h => ?_)
      refine aw_iload 3 dX9_passNight_53 rfl ?_
      refine aw_doneI (rest := [.int v4, .ref a14]) h (fun r9 S9 hF => aw_runS (As := [.ref a15, .int v4]) (rest := [.int v4, .ref a14]) (L1_X9_at N hF) wd_541 wd_874 wd_540 wd_87 pd_X9_at.2 rfl (ax_rm (by omega) rfl) ax_hf0 (Nat.le_of_ble_eq_true rfl) rfl dX9_passNight_55) (fun x17 T16 h => ?_)
      refine aw_iconst 1 dX9_passNight_58 rfl ?_
      refine aw_iadd dX9_passNight_59 ?_
      refine aw_doneV (rest := []) h (fun S9 hF => aw_runS (As := [.ref a14, .int v4, .int (x17 + 1)]) (rest := []) (L1_X9_put N hF) wd_443 wd_918 wd_442 wd_87 pd_X9_put.2 rfl (ax_rm (by omega) rfl) ax_hf0 (Nat.le_of_ble_eq_true rfl) rfl dX9_passNight_60) (fun T18 h => ?_)
      refine aw_env [(0, .ref v0), (1, .ref v1), (3, .int v3), (4, .int v4)] [0, 1, 2, 3] rfl ?_
      exact L1_X9_passNight_63 N K10 hK10 v0 v1 v3 v4 T18 h
theorem L1_X9_passNight_10 {g : AxG} {l : Launch} {r9 : Int32} {S9 : AxS} (N : Nat)  : ∀ (n : Nat) (v0 : Nat) (v1 : Nat) (v3 : Int32) (v4 : Int32) (S : AxS), F_X9_passNight_10 N  n v0 v1 v3 v4 S = some ((r9, S9)) → AW g l (axRm (4) 0 0) mt_X9_passNight (axMQ g 0 0 (.inl (some (.int r9)), S9)) 0 0 S 10 [(0, .ref v0), (1, .ref v1), (3, .int v3), (4, .int v4)] [] := by
  intro n
  induction n with
  | zero => intro v0 v1 v3 v4 S h; cases h
  | succ n ih => intro v0 v1 v3 v4 S h; exact L1_X9_passNight_10b N (F_X9_passNight_10 N  n) ih v0 v1 v3 v4 S h
theorem L1_X9_passNight {g : AxG} {l : Launch} (N : Nat) {v0 : Nat} {v1 : Nat} {v2 : Int32} {S : AxS} {r9 : Int32} {S9 : AxS} (h : F_X9_passNight N v0 v1 v2 S = some ((r9, S9))) : AxMet g l yX9_passNight cX9_passNight 5 (some .int) (4) 0 0 [.ref v0, .ref v1, .int v2] S ((.inl (some (.int r9)), S9)) := by
  refine ax_met (own := RX9) (ini := false) (by decide +kernel) rfl (fun h => nomatch h) rfl ?_
  show AW g l (axRm (4) 0 0) mt_X9_passNight (axMQ g 0 0 (.inl (some (.int r9)), S9)) 0 0 S 0 [(0, .ref v0), (1, .ref v1), (2, .int v2)] []
  unfold F_X9_passNight at h
  refine aw_aload_n 0 dX9_passNight_0 rfl rfl ?_
  refine aw_aload_n 1 dX9_passNight_1 rfl rfl ?_
  refine aw_iload_n 2 dX9_passNight_2 rfl rfl ?_
  obtain ⟨hL1, h⟩ := ax_is_spec h
  refine aw_doneI (rest := []) h (fun r9 S9 hF => aw_runV (As := [.ref v1, .int v2]) (rest := []) (L1_X9_strokesOf N hF) axc9 hL1 wd_549 wd_546 wd_548 wd_2 wd_87 pd_X9_strokesOf rfl (ax_rm (by omega) rfl) ax_hf0 (Nat.le_of_ble_eq_true rfl) rfl dX9_passNight_3) (fun x3 T2 h => ?_)
  refine aw_istore_n 3 [(3, .int x3), (0, .ref v0), (1, .ref v1), (2, .int v2)] dX9_passNight_6 rfl rfl rfl ?_
  refine aw_iconst 0 dX9_passNight_7 rfl ?_
  refine aw_istore [(4, .int 0), (3, .int x3), (0, .ref v0), (1, .ref v1), (2, .int v2)] dX9_passNight_8 rfl rfl ?_
  refine aw_env [(0, .ref v0), (1, .ref v1), (3, .int x3), (4, .int 0)] [2, 3, 1, 0] rfl ?_
  exact L1_X9_passNight_10 N  N v0 v1 x3 0 T2 h

theorem dX9_ahead_0 : decode cX9_ahead 0 = .ok (.aload_n 0, 1) := by decide +kernel
theorem dX9_ahead_1 : decode cX9_ahead 1 = .ok (.iload_n 1, 1) := by decide +kernel
theorem dX9_ahead_2 : decode cX9_ahead 2 = .ok (.ifCond .lt 22, 3) := by decide +kernel
theorem dX9_ahead_5 : decode cX9_ahead 5 = .ok (.iload_n 1, 1) := by decide +kernel
theorem dX9_ahead_6 : decode cX9_ahead 6 = .ok (.bipush 60, 2) := by decide +kernel
theorem dX9_ahead_8 : decode cX9_ahead 8 = .ok (.if_icmp .gt 16, 3) := by decide +kernel
theorem dX9_ahead_11 : decode cX9_ahead 11 = .ok (.iload_n 2, 1) := by decide +kernel
theorem dX9_ahead_12 : decode cX9_ahead 12 = .ok (.ifCond .lt 12, 3) := by decide +kernel
theorem dX9_ahead_15 : decode cX9_ahead 15 = .ok (.iload_n 2, 1) := by decide +kernel
theorem dX9_ahead_16 : decode cX9_ahead 16 = .ok (.iconst 3, 1) := by decide +kernel
theorem dX9_ahead_17 : decode cX9_ahead 17 = .ok (.if_icmp .gt 7, 3) := by decide +kernel
theorem dX9_ahead_20 : decode cX9_ahead 20 = .ok (.iconst 1, 1) := by decide +kernel
theorem dX9_ahead_21 : decode cX9_ahead 21 = .ok (.goto 4, 3) := by decide +kernel
theorem dX9_ahead_24 : decode cX9_ahead 24 = .ok (.iconst 0, 1) := by decide +kernel
theorem dX9_ahead_25 : decode cX9_ahead 25 = .ok (.invokevirtual 128, 3) := by decide +kernel
theorem dX9_ahead_28 : decode cX9_ahead 28 = .ok (.aload_n 0, 1) := by decide +kernel
theorem dX9_ahead_29 : decode cX9_ahead 29 = .ok (.getfield 60, 3) := by decide +kernel
theorem dX9_ahead_32 : decode cX9_ahead 32 = .ok (.aload_n 0, 1) := by decide +kernel
theorem dX9_ahead_33 : decode cX9_ahead 33 = .ok (.getfield 56, 3) := by decide +kernel
theorem dX9_ahead_36 : decode cX9_ahead 36 = .ok (.invokevirtual 262, 3) := by decide +kernel
theorem dX9_ahead_39 : decode cX9_ahead 39 = .ok (.iconst 0, 1) := by decide +kernel
theorem dX9_ahead_40 : decode cX9_ahead 40 = .ok (.istore_n 3, 1) := by decide +kernel
theorem dX9_ahead_41 : decode cX9_ahead 41 = .ok (.iconst 0, 1) := by decide +kernel
theorem dX9_ahead_42 : decode cX9_ahead 42 = .ok (.istore 4, 2) := by decide +kernel
theorem dX9_ahead_44 : decode cX9_ahead 44 = .ok (.iload 4, 2) := by decide +kernel
theorem dX9_ahead_46 : decode cX9_ahead 46 = .ok (.iload_n 1, 1) := by decide +kernel
theorem dX9_ahead_47 : decode cX9_ahead 47 = .ok (.if_icmp .ge 24, 3) := by decide +kernel
theorem dX9_ahead_50 : decode cX9_ahead 50 = .ok (.aload_n 0, 1) := by decide +kernel
theorem dX9_ahead_51 : decode cX9_ahead 51 = .ok (.aload_n 0, 1) := by decide +kernel
theorem dX9_ahead_52 : decode cX9_ahead 52 = .ok (.getfield 60, 3) := by decide +kernel
theorem dX9_ahead_55 : decode cX9_ahead 55 = .ok (.iconst 0, 1) := by decide +kernel
theorem dX9_ahead_56 : decode cX9_ahead 56 = .ok (.invokevirtual 265, 3) := by decide +kernel
theorem dX9_ahead_59 : decode cX9_ahead 59 = .ok (.ifCond .ne 6, 3) := by decide +kernel
theorem dX9_ahead_62 : decode cX9_ahead 62 = .ok (.iinc 3 1, 3) := by decide +kernel
theorem dX9_ahead_65 : decode cX9_ahead 65 = .ok (.iinc 4 1, 3) := by decide +kernel
theorem dX9_ahead_68 : decode cX9_ahead 68 = .ok (.goto (-24), 3) := by decide +kernel
theorem dX9_ahead_71 : decode cX9_ahead 71 = .ok (.iload_n 2, 1) := by decide +kernel
theorem dX9_ahead_72 : decode cX9_ahead 72 = .ok (.tableswitch 68 0 2 #[28, 44, 52], 28) := by decide +kernel
theorem dX9_ahead_100 : decode cX9_ahead 100 = .ok (.aload_n 0, 1) := by decide +kernel
theorem dX9_ahead_101 : decode cX9_ahead 101 = .ok (.getfield 60, 3) := by decide +kernel
theorem dX9_ahead_104 : decode cX9_ahead 104 = .ok (.getfield 198, 3) := by decide +kernel
theorem dX9_ahead_107 : decode cX9_ahead 107 = .ok (.aload_n 0, 1) := by decide +kernel
theorem dX9_ahead_108 : decode cX9_ahead 108 = .ok (.getfield 56, 3) := by decide +kernel
theorem dX9_ahead_111 : decode cX9_ahead 111 = .ok (.getfield 198, 3) := by decide +kernel
theorem dX9_ahead_114 : decode cX9_ahead 114 = .ok (.isub, 1) := by decide +kernel
theorem dX9_ahead_115 : decode cX9_ahead 115 = .ok (.ireturn, 1) := by decide +kernel
theorem dX9_ahead_116 : decode cX9_ahead 116 = .ok (.aload_n 0, 1) := by decide +kernel
theorem dX9_ahead_117 : decode cX9_ahead 117 = .ok (.getfield 60, 3) := by decide +kernel
theorem dX9_ahead_120 : decode cX9_ahead 120 = .ok (.getfield 174, 3) := by decide +kernel
theorem dX9_ahead_123 : decode cX9_ahead 123 = .ok (.ireturn, 1) := by decide +kernel
theorem dX9_ahead_124 : decode cX9_ahead 124 = .ok (.aload_n 0, 1) := by decide +kernel
theorem dX9_ahead_125 : decode cX9_ahead 125 = .ok (.getfield 60, 3) := by decide +kernel
theorem dX9_ahead_128 : decode cX9_ahead 128 = .ok (.getfield 201, 3) := by decide +kernel
theorem dX9_ahead_131 : decode cX9_ahead 131 = .ok (.aload_n 0, 1) := by decide +kernel
theorem dX9_ahead_132 : decode cX9_ahead 132 = .ok (.getfield 56, 3) := by decide +kernel
theorem dX9_ahead_135 : decode cX9_ahead 135 = .ok (.getfield 201, 3) := by decide +kernel
theorem dX9_ahead_138 : decode cX9_ahead 138 = .ok (.isub, 1) := by decide +kernel
theorem dX9_ahead_139 : decode cX9_ahead 139 = .ok (.ireturn, 1) := by decide +kernel
theorem dX9_ahead_140 : decode cX9_ahead 140 = .ok (.iload_n 3, 1) := by decide +kernel
theorem dX9_ahead_141 : decode cX9_ahead 141 = .ok (.ireturn, 1) := by decide +kernel
abbrev mt_X9_ahead : AxM := (RX9, cX9_ahead, 5, (some .int), false, [])
theorem L1_X9_ahead_65 {g : AxG} {l : Launch} (hl0 : l.stackTraces = false) {res : AxT Int32} (N : Nat) (K44 : Nat → Int32 → Int32 → Int32 → Int32 → AxS → Option (AxT Int32)) (hK44 : ∀ (v0 : Nat) (v1 : Int32) (v2 : Int32) (v3 : Int32) (v4 : Int32) (S : AxS), K44 v0 v1 v2 v3 v4 S = some res → AW g l (axRm (9) (axCs (axOI res)) (6 * axCs (axOI res))) mt_X9_ahead (axMQ g (axCs (axOI res)) (6 * axCs (axOI res)) (axOI res)) 0 0 S 44 [(0, .ref v0), (1, .int v1), (2, .int v2), (3, .int v3), (4, .int v4)] []) (v0 : Nat) (v1 : Int32) (v2 : Int32) (v3 : Int32) (v4 : Int32) (S : AxS) (h : F_X9_ahead_65 N K44 v0 v1 v2 v3 v4 S = some res) : AW g l (axRm (9) (axCs (axOI res)) (6 * axCs (axOI res))) mt_X9_ahead (axMQ g (axCs (axOI res)) (6 * axCs (axOI res)) (axOI res)) 0 0 S 65 [(0, .ref v0), (1, .int v1), (2, .int v2), (3, .int v3), (4, .int v4)] [] := by
  unfold F_X9_ahead_65 at h
  refine aw_iinc 4 [(4, .int (v4 + 1)), (0, .ref v0), (1, .int v1), (2, .int v2), (3, .int v3)] (v4 + 1) dX9_ahead_65 rfl rfl rfl rfl ?_
  refine aw_goto 44 dX9_ahead_68 (by decide) ?_
  refine aw_env [(0, .ref v0), (1, .int v1), (2, .int v2), (3, .int v3), (4, .int (v4 + 1))] [1, 2, 3, 4, 0] rfl ?_
  exact hK44 v0 v1 v2 v3 (v4 + 1) S h
theorem L1_X9_ahead_44b {g : AxG} {l : Launch} (hl0 : l.stackTraces = false) {res : AxT Int32} (N : Nat) (K44 : Nat → Int32 → Int32 → Int32 → Int32 → AxS → Option (AxT Int32)) (hK44 : ∀ (v0 : Nat) (v1 : Int32) (v2 : Int32) (v3 : Int32) (v4 : Int32) (S : AxS), K44 v0 v1 v2 v3 v4 S = some res → AW g l (axRm (9) (axCs (axOI res)) (6 * axCs (axOI res))) mt_X9_ahead (axMQ g (axCs (axOI res)) (6 * axCs (axOI res)) (axOI res)) 0 0 S 44 [(0, .ref v0), (1, .int v1), (2, .int v2), (3, .int v3), (4, .int v4)] []) (v0 : Nat) (v1 : Int32) (v2 : Int32) (v3 : Int32) (v4 : Int32) (S : AxS) (h : F_X9_ahead_44b N K44 v0 v1 v2 v3 v4 S = some res) : AW g l (axRm (9) (axCs (axOI res)) (6 * axCs (axOI res))) mt_X9_ahead (axMQ g (axCs (axOI res)) (6 * axCs (axOI res)) (axOI res)) 0 0 S 44 [(0, .ref v0), (1, .int v1), (2, .int v2), (3, .int v3), (4, .int v4)] [] := by
  unfold F_X9_ahead_44b at h
  refine aw_iload 4 dX9_ahead_44 rfl ?_
  refine aw_iload_n 1 dX9_ahead_46 rfl rfl ?_
  refine aw_icmp_ge 71 dX9_ahead_47 (by decide) h (fun h => ?_) (fun h => ?_)
  · refine aw_iload_n 2 dX9_ahead_71 rfl rfl ?_
    refine aw_case 0 h (fun h => ?_) (fun c5 h => ?_)
    · refine aw_tswIn 100 (off := 28) dX9_ahead_72 (by decide) (by decide) (by decide) (by decide) ?_
      refine aw_aload_n 0 dX9_ahead_100 rfl rfl ?_
      refine aw_getR axc9 9 rfl rfl wd_462 dX9_ahead_101 h (fun a1 h => ?_)
      refine aw_getI axc5 10 rfl rfl wd_313 dX9_ahead_104 h (fun x2 h => ?_)
      refine aw_aload_n 0 dX9_ahead_107 rfl rfl ?_
      refine aw_getR axc9 8 rfl rfl wd_461 dX9_ahead_108 h (fun a3 h => ?_)
      refine aw_getI axc5 10 rfl rfl wd_313 dX9_ahead_111 h (fun x4 h => ?_)
      refine aw_isub dX9_ahead_114 ?_
      exact aw_iretT dX9_ahead_115 rfl h
    refine aw_case 1 h (fun h => ?_) (fun c8 h => ?_)
    · refine aw_tswIn 116 (off := 44) dX9_ahead_72 (by decide) (by decide) (by decide) (by decide) ?_
      refine aw_aload_n 0 dX9_ahead_116 rfl rfl ?_
      refine aw_getR axc9 9 rfl rfl wd_462 dX9_ahead_117 h (fun a6 h => ?_)
      refine aw_getI axc5 0 rfl rfl wd_293 dX9_ahead_120 h (fun x7 h => ?_)
      exact aw_iretT dX9_ahead_123 rfl h
    refine aw_case 2 h (fun h => ?_) (fun c13 h => ?_)
    · refine aw_tswIn 124 (off := 52) dX9_ahead_72 (by decide) (by decide) (by decide) (by decide) ?_
      refine aw_aload_n 0 dX9_ahead_124 rfl rfl ?_
      refine aw_getR axc9 9 rfl rfl wd_462 dX9_ahead_125 h (fun a9 h => ?_)
      refine aw_getI axc5 11 rfl rfl wd_315 dX9_ahead_128 h (fun x10 h => ?_)
      refine aw_aload_n 0 dX9_ahead_131 rfl rfl ?_
      refine aw_getR axc9 8 rfl rfl wd_461 dX9_ahead_132 h (fun a11 h => ?_)
      refine aw_getI axc5 11 rfl rfl wd_315 dX9_ahead_135 h (fun x12 h => ?_)
      refine aw_isub dX9_ahead_138 ?_
      exact aw_iretT dX9_ahead_139 rfl h
    refine aw_tswOut 140 dX9_ahead_72 (by have q0 := ax_i32ne c5 (v := 0) (i := 0) (by decide); have q1 := ax_i32ne c8 (v := 1) (i := 1) (by decide); have q2 := ax_i32ne c13 (v := 2) (i := 2) (by decide); omega) (by decide) ?_
    refine aw_iload_n 3 dX9_ahead_140 rfl rfl ?_
    exact aw_iretT dX9_ahead_141 rfl h
  · refine aw_aload_n 0 dX9_ahead_50 rfl rfl ?_
    refine aw_aload_n 0 dX9_ahead_51 rfl rfl ?_
    refine aw_getR axc9 9 rfl rfl wd_462 dX9_ahead_52 h (fun a14 h => ?_)
    refine aw_iconst 0 dX9_ahead_55 rfl ?_
    obtain ⟨hL15, h⟩ := ax_is_spec h
    refine aw_doneI (rest := []) h (fun r9 S9 hF => aw_runV (As := [.ref a14, .int 0]) (rest := []) (L1_X9_passNight N hF) axc9 hL15 wd_908 wd_905 wd_907 wd_16 wd_87 pd_X9_passNight rfl (ax_rm (by omega) rfl) ax_hf0 (Nat.le_of_ble_eq_true rfl) rfl dX9_ahead_56) (fun x17 T16 h => ?_)
    refine aw_if_ne 65 dX9_ahead_59 (by decide) h (fun h => ?_) (fun h => ?_)
    · refine aw_env [(0, .ref v0), (1, .int v1), (2, .int v2), (3, .int v3), (4, .int v4)] [0, 1, 2, 3, 4] rfl ?_
      exact L1_X9_ahead_65 hl0 N K44 hK44 v0 v1 v2 v3 v4 T16 h
    · refine aw_iinc 3 [(3, .int (v3 + 1)), (0, .ref v0), (1, .int v1), (2, .int v2), (4, .int v4)] (v3 + 1) dX9_ahead_62 rfl rfl rfl rfl ?_
      refine aw_env [(0, .ref v0), (1, .int v1), (2, .int v2), (3, .int (v3 + 1)), (4, .int v4)] [1, 2, 3, 0, 4] rfl ?_
      exact L1_X9_ahead_65 hl0 N K44 hK44 v0 v1 v2 (v3 + 1) v4 T16 h
theorem L1_X9_ahead_44 {g : AxG} {l : Launch} (hl0 : l.stackTraces = false) {res : AxT Int32} (N : Nat)  : ∀ (n : Nat) (v0 : Nat) (v1 : Int32) (v2 : Int32) (v3 : Int32) (v4 : Int32) (S : AxS), F_X9_ahead_44 N  n v0 v1 v2 v3 v4 S = some res → AW g l (axRm (9) (axCs (axOI res)) (6 * axCs (axOI res))) mt_X9_ahead (axMQ g (axCs (axOI res)) (6 * axCs (axOI res)) (axOI res)) 0 0 S 44 [(0, .ref v0), (1, .int v1), (2, .int v2), (3, .int v3), (4, .int v4)] [] := by
  intro n
  induction n with
  | zero => intro v0 v1 v2 v3 v4 S h; cases h
  | succ n ih => intro v0 v1 v2 v3 v4 S h; exact L1_X9_ahead_44b hl0 N (F_X9_ahead_44 N  n) ih v0 v1 v2 v3 v4 S h
theorem L1_X9_ahead_25 {g : AxG} {l : Launch} (hl0 : l.stackTraces = false) {res : AxT Int32} (N : Nat)  (v0 : Nat) (v1 : Int32) (v2 : Int32) (w0 : Int32) (w1 : Nat) (S : AxS) (h : F_X9_ahead_25 N  v0 v1 v2 w0 w1 S = some res) : AW g l (axRm (9) (axCs (axOI res)) (6 * axCs (axOI res))) mt_X9_ahead (axMQ g (axCs (axOI res)) (6 * axCs (axOI res)) (axOI res)) 0 0 S 25 [(0, .ref v0), (1, .int v1), (2, .int v2)] [.int w0, .ref w1] := by
  unfold F_X9_ahead_25 at h
  obtain ⟨hL1, h⟩ := ax_is_spec h
  refine aw_thV (ob := axOI) (rest := []) (fun _ _ => rfl) rfl h (fun u9 hF hu => aw_runV (As := [.int w0]) (rest := []) (L1_X9_needArgument hl0 N hF) axc9 hL1 wd_604 wd_601 wd_603 wd_3 wd_87 pd_X9_needArgument rfl (ax_rm (by omega) rfl) (ax_hfV (fun _ _ => rfl) hu) (Nat.le_of_ble_eq_true rfl) rfl dX9_ahead_25) (fun T2 h => ?_)
  refine aw_aload_n 0 dX9_ahead_28 rfl rfl ?_
  refine aw_getR axc9 9 rfl rfl wd_462 dX9_ahead_29 h (fun a4 h => ?_)
  refine aw_aload_n 0 dX9_ahead_32 rfl rfl ?_
  refine aw_getR axc9 8 rfl rfl wd_461 dX9_ahead_33 h (fun a5 h => ?_)
  obtain ⟨hL6, h⟩ := ax_is_spec h
  refine aw_doneV (rest := []) h (fun S9 hF => aw_runV (As := [.ref a5]) (rest := []) (L1_X5_take N hF) axc5 hL6 wd_538 wd_583 wd_536 wd_537 wd_93 pd_X5_take rfl (ax_rm (by omega) rfl) ax_hf0 (Nat.le_of_ble_eq_true rfl) rfl dX9_ahead_36) (fun T7 h => ?_)
  refine aw_iconst 0 dX9_ahead_39 rfl ?_
  refine aw_istore_n 3 [(3, .int 0), (0, .ref v0), (1, .int v1), (2, .int v2)] dX9_ahead_40 rfl rfl rfl ?_
  refine aw_iconst 0 dX9_ahead_41 rfl ?_
  refine aw_istore [(4, .int 0), (3, .int 0), (0, .ref v0), (1, .int v1), (2, .int v2)] dX9_ahead_42 rfl rfl ?_
  refine aw_env [(0, .ref v0), (1, .int v1), (2, .int v2), (3, .int 0), (4, .int 0)] [2, 3, 4, 1, 0] rfl ?_
  exact L1_X9_ahead_44 hl0 N  N v0 v1 v2 0 0 T7 h
theorem L1_X9_ahead_24 {g : AxG} {l : Launch} (hl0 : l.stackTraces = false) {res : AxT Int32} (N : Nat)  (v0 : Nat) (v1 : Int32) (v2 : Int32) (w0 : Nat) (S : AxS) (h : F_X9_ahead_24 N  v0 v1 v2 w0 S = some res) : AW g l (axRm (9) (axCs (axOI res)) (6 * axCs (axOI res))) mt_X9_ahead (axMQ g (axCs (axOI res)) (6 * axCs (axOI res)) (axOI res)) 0 0 S 24 [(0, .ref v0), (1, .int v1), (2, .int v2)] [.ref w0] := by
  unfold F_X9_ahead_24 at h
  refine aw_iconst 0 dX9_ahead_24 rfl ?_
  refine aw_env [(0, .ref v0), (1, .int v1), (2, .int v2)] [0, 1, 2] rfl ?_
  exact L1_X9_ahead_25 hl0 N  v0 v1 v2 0 w0 S h
theorem L1_X9_ahead {g : AxG} {l : Launch} (hl0 : l.stackTraces = false) (N : Nat) {v0 : Nat} {v1 : Int32} {v2 : Int32} {S : AxS} {res : AxT Int32} (h : F_X9_ahead N v0 v1 v2 S = some res) : AxMet g l yX9_ahead cX9_ahead 5 (some .int) (9) (axCs (axOI res)) (6 * axCs (axOI res)) [.ref v0, .int v1, .int v2] S (axOI res) := by
  refine ax_met (own := RX9) (ini := false) (by decide +kernel) rfl (fun h => nomatch h) rfl ?_
  show AW g l (axRm (9) (axCs (axOI res)) (6 * axCs (axOI res))) mt_X9_ahead (axMQ g (axCs (axOI res)) (6 * axCs (axOI res)) (axOI res)) 0 0 S 0 [(0, .ref v0), (1, .int v1), (2, .int v2)] []
  unfold F_X9_ahead at h
  refine aw_aload_n 0 dX9_ahead_0 rfl rfl ?_
  refine aw_iload_n 1 dX9_ahead_1 rfl rfl ?_
  refine aw_if_lt 24 dX9_ahead_2 (by decide) h (fun h => ?_) (fun h => ?_)
  · refine aw_env [(0, .ref v0), (1, .int v1), (2, .int v2)] [0, 1, 2] rfl ?_
    exact L1_X9_ahead_24 hl0 N  v0 v1 v2 v0 S h
  · refine aw_iload_n 1 dX9_ahead_5 rfl rfl ?_
    refine aw_bipush 60 dX9_ahead_6 (by decide) ?_
    refine aw_icmp_gt 24 dX9_ahead_8 (by decide) h (fun h => ?_) (fun h => ?_)
    · refine aw_env [(0, .ref v0), (1, .int v1), (2, .int v2)] [0, 1, 2] rfl ?_
      exact L1_X9_ahead_24 hl0 N  v0 v1 v2 v0 S h
    · refine aw_iload_n 2 dX9_ahead_11 rfl rfl ?_
      refine aw_if_lt 24 dX9_ahead_12 (by decide) h (fun h => ?_) (fun h => ?_)
      · refine aw_env [(0, .ref v0), (1, .int v1), (2, .int v2)] [0, 1, 2] rfl ?_
        exact L1_X9_ahead_24 hl0 N  v0 v1 v2 v0 S h
      · refine aw_iload_n 2 dX9_ahead_15 rfl rfl ?_
        refine aw_iconst 3 dX9_ahead_16 rfl ?_
        refine aw_icmp_gt 24 dX9_ahead_17 (by decide) h (fun h => ?_) (fun h => ?_)
        · refine aw_env [(0, .ref v0), (1, .int v1), (2, .int v2)] [0, 1, 2] rfl ?_
          exact L1_X9_ahead_24 hl0 N  v0 v1 v2 v0 S h
        · refine aw_iconst 1 dX9_ahead_20 rfl ?_
          refine aw_goto 25 dX9_ahead_21 (by decide) ?_
          refine aw_env [(0, .ref v0), (1, .int v1), (2, .int v2)] [0, 1, 2] rfl ?_
          exact L1_X9_ahead_25 hl0 N  v0 v1 v2 1 v0 S h

theorem dX9_loudest_0 : decode cX9_loudest 0 = .ok (.aload_n 0, 1) := by decide +kernel
theorem dX9_loudest_1 : decode cX9_loudest 1 = .ok (.iload_n 1, 1) := by decide +kernel
theorem dX9_loudest_2 : decode cX9_loudest 2 = .ok (.ifCond .lt 12, 3) := by decide +kernel
theorem dX9_loudest_5 : decode cX9_loudest 5 = .ok (.iload_n 1, 1) := by decide +kernel
theorem dX9_loudest_6 : decode cX9_loudest 6 = .ok (.iconst 1, 1) := by decide +kernel
theorem dX9_loudest_7 : decode cX9_loudest 7 = .ok (.if_icmp .gt 7, 3) := by decide +kernel
theorem dX9_loudest_10 : decode cX9_loudest 10 = .ok (.iconst 1, 1) := by decide +kernel
theorem dX9_loudest_11 : decode cX9_loudest 11 = .ok (.goto 4, 3) := by decide +kernel
theorem dX9_loudest_14 : decode cX9_loudest 14 = .ok (.iconst 0, 1) := by decide +kernel
theorem dX9_loudest_15 : decode cX9_loudest 15 = .ok (.invokevirtual 128, 3) := by decide +kernel
theorem dX9_loudest_18 : decode cX9_loudest 18 = .ok (.aload_n 0, 1) := by decide +kernel
theorem dX9_loudest_19 : decode cX9_loudest 19 = .ok (.getfield 60, 3) := by decide +kernel
theorem dX9_loudest_22 : decode cX9_loudest 22 = .ok (.aload_n 0, 1) := by decide +kernel
theorem dX9_loudest_23 : decode cX9_loudest 23 = .ok (.getfield 56, 3) := by decide +kernel
theorem dX9_loudest_26 : decode cX9_loudest 26 = .ok (.invokevirtual 262, 3) := by decide +kernel
theorem dX9_loudest_29 : decode cX9_loudest 29 = .ok (.iconst (-1), 1) := by decide +kernel
theorem dX9_loudest_30 : decode cX9_loudest 30 = .ok (.istore_n 2, 1) := by decide +kernel
theorem dX9_loudest_31 : decode cX9_loudest 31 = .ok (.iconst 0, 1) := by decide +kernel
theorem dX9_loudest_32 : decode cX9_loudest 32 = .ok (.istore_n 3, 1) := by decide +kernel
theorem dX9_loudest_33 : decode cX9_loudest 33 = .ok (.iconst 0, 1) := by decide +kernel
theorem dX9_loudest_34 : decode cX9_loudest 34 = .ok (.istore 4, 2) := by decide +kernel
theorem dX9_loudest_36 : decode cX9_loudest 36 = .ok (.iload 4, 2) := by decide +kernel
theorem dX9_loudest_38 : decode cX9_loudest 38 = .ok (.bipush 60, 2) := by decide +kernel
theorem dX9_loudest_40 : decode cX9_loudest 40 = .ok (.if_icmp .ge 32, 3) := by decide +kernel
theorem dX9_loudest_43 : decode cX9_loudest 43 = .ok (.aload_n 0, 1) := by decide +kernel
theorem dX9_loudest_44 : decode cX9_loudest 44 = .ok (.aload_n 0, 1) := by decide +kernel
theorem dX9_loudest_45 : decode cX9_loudest 45 = .ok (.getfield 60, 3) := by decide +kernel
theorem dX9_loudest_48 : decode cX9_loudest 48 = .ok (.iconst 0, 1) := by decide +kernel
theorem dX9_loudest_49 : decode cX9_loudest 49 = .ok (.invokevirtual 265, 3) := by decide +kernel
theorem dX9_loudest_52 : decode cX9_loudest 52 = .ok (.istore 5, 2) := by decide +kernel
theorem dX9_loudest_54 : decode cX9_loudest 54 = .ok (.iload 5, 2) := by decide +kernel
theorem dX9_loudest_56 : decode cX9_loudest 56 = .ok (.iload_n 2, 1) := by decide +kernel
theorem dX9_loudest_57 : decode cX9_loudest 57 = .ok (.if_icmp .le 9, 3) := by decide +kernel
theorem dX9_loudest_60 : decode cX9_loudest 60 = .ok (.iload 5, 2) := by decide +kernel
theorem dX9_loudest_62 : decode cX9_loudest 62 = .ok (.istore_n 2, 1) := by decide +kernel
theorem dX9_loudest_63 : decode cX9_loudest 63 = .ok (.iload 4, 2) := by decide +kernel
theorem dX9_loudest_65 : decode cX9_loudest 65 = .ok (.istore_n 3, 1) := by decide +kernel
theorem dX9_loudest_66 : decode cX9_loudest 66 = .ok (.iinc 4 1, 3) := by decide +kernel
theorem dX9_loudest_69 : decode cX9_loudest 69 = .ok (.goto (-33), 3) := by decide +kernel
theorem dX9_loudest_72 : decode cX9_loudest 72 = .ok (.iload_n 1, 1) := by decide +kernel
theorem dX9_loudest_73 : decode cX9_loudest 73 = .ok (.ifCond .ne 7, 3) := by decide +kernel
theorem dX9_loudest_76 : decode cX9_loudest 76 = .ok (.iload_n 3, 1) := by decide +kernel
theorem dX9_loudest_77 : decode cX9_loudest 77 = .ok (.goto 4, 3) := by decide +kernel
theorem dX9_loudest_80 : decode cX9_loudest 80 = .ok (.iload_n 2, 1) := by decide +kernel
theorem dX9_loudest_81 : decode cX9_loudest 81 = .ok (.ireturn, 1) := by decide +kernel
abbrev mt_X9_loudest : AxM := (RX9, cX9_loudest, 6, (some .int), false, [])
theorem L1_X9_loudest_66 {g : AxG} {l : Launch} (hl0 : l.stackTraces = false) {res : AxT Int32} (N : Nat) (K36 : Nat → Int32 → Int32 → Int32 → Int32 → AxS → Option (AxT Int32)) (hK36 : ∀ (v0 : Nat) (v1 : Int32) (v2 : Int32) (v3 : Int32) (v4 : Int32) (S : AxS), K36 v0 v1 v2 v3 v4 S = some res → AW g l (axRm (9) (axCs (axOI res)) (6 * axCs (axOI res))) mt_X9_loudest (axMQ g (axCs (axOI res)) (6 * axCs (axOI res)) (axOI res)) 0 0 S 36 [(0, .ref v0), (1, .int v1), (2, .int v2), (3, .int v3), (4, .int v4)] []) (v0 : Nat) (v1 : Int32) (v2 : Int32) (v3 : Int32) (v4 : Int32) (S : AxS) (h : F_X9_loudest_66 N K36 v0 v1 v2 v3 v4 S = some res) : AW g l (axRm (9) (axCs (axOI res)) (6 * axCs (axOI res))) mt_X9_loudest (axMQ g (axCs (axOI res)) (6 * axCs (axOI res)) (axOI res)) 0 0 S 66 [(0, .ref v0), (1, .int v1), (2, .int v2), (3, .int v3), (4, .int v4)] [] := by
  unfold F_X9_loudest_66 at h
  refine aw_iinc 4 [(4, .int (v4 + 1)), (0, .ref v0), (1, .int v1), (2, .int v2), (3, .int v3)] (v4 + 1) dX9_loudest_66 rfl rfl rfl rfl ?_
  refine aw_goto 36 dX9_loudest_69 (by decide) ?_
  refine aw_env [(0, .ref v0), (1, .int v1), (2, .int v2), (3, .int v3), (4, .int (v4 + 1))] [1, 2, 3, 4, 0] rfl ?_
  exact hK36 v0 v1 v2 v3 (v4 + 1) S h
theorem L1_X9_loudest_36b {g : AxG} {l : Launch} (hl0 : l.stackTraces = false) {res : AxT Int32} (N : Nat) (K36 : Nat → Int32 → Int32 → Int32 → Int32 → AxS → Option (AxT Int32)) (hK36 : ∀ (v0 : Nat) (v1 : Int32) (v2 : Int32) (v3 : Int32) (v4 : Int32) (S : AxS), K36 v0 v1 v2 v3 v4 S = some res → AW g l (axRm (9) (axCs (axOI res)) (6 * axCs (axOI res))) mt_X9_loudest (axMQ g (axCs (axOI res)) (6 * axCs (axOI res)) (axOI res)) 0 0 S 36 [(0, .ref v0), (1, .int v1), (2, .int v2), (3, .int v3), (4, .int v4)] []) (v0 : Nat) (v1 : Int32) (v2 : Int32) (v3 : Int32) (v4 : Int32) (S : AxS) (h : F_X9_loudest_36b N K36 v0 v1 v2 v3 v4 S = some res) : AW g l (axRm (9) (axCs (axOI res)) (6 * axCs (axOI res))) mt_X9_loudest (axMQ g (axCs (axOI res)) (6 * axCs (axOI res)) (axOI res)) 0 0 S 36 [(0, .ref v0), (1, .int v1), (2, .int v2), (3, .int v3), (4, .int v4)] [] := by
  unfold F_X9_loudest_36b at h
  refine aw_iload 4 dX9_loudest_36 rfl ?_
  refine aw_bipush 60 dX9_loudest_38 (by decide) ?_
  refine aw_icmp_ge 72 dX9_loudest_40 (by decide) h (fun h => ?_) (fun h => ?_)
  · refine aw_iload_n 1 dX9_loudest_72 rfl rfl ?_
    refine aw_if_ne 80 dX9_loudest_73 (by decide) h (fun h => ?_) (fun h => ?_)
    · refine aw_iload_n 2 dX9_loudest_80 rfl rfl ?_
      exact aw_iretT dX9_loudest_81 rfl h
    · refine aw_iload_n 3 dX9_loudest_76 rfl rfl ?_
      refine aw_goto 81 dX9_loudest_77 (by decide) ?_
      exact aw_iretT dX9_loudest_81 rfl h
  · refine aw_aload_n 0 dX9_loudest_43 rfl rfl ?_
    refine aw_aload_n 0 dX9_loudest_44 rfl rfl ?_
    refine aw_getR axc9 9 rfl rfl wd_462 dX9_loudest_45 h (fun a1 h => ?_)
    refine aw_iconst 0 dX9_loudest_48 rfl ?_
    obtain ⟨hL2, h⟩ := ax_is_spec h
    refine aw_doneI (rest := []) h (fun r9 S9 hF => aw_runV (As := [.ref a1, .int 0]) (rest := []) (L1_X9_passNight N hF) axc9 hL2 wd_908 wd_905 wd_907 wd_16 wd_87 pd_X9_passNight rfl (ax_rm (by omega) rfl) ax_hf0 (Nat.le_of_ble_eq_true rfl) rfl dX9_loudest_49) (fun x4 T3 h => ?_)
    refine aw_istore [(5, .int x4), (0, .ref v0), (1, .int v1), (2, .int v2), (3, .int v3), (4, .int v4)] dX9_loudest_52 rfl rfl ?_
    refine aw_iload 0 dX9_loudest_54 rfl ?_
    refine aw_iload_n 3 dX9_loudest_56 rfl rfl ?_
    refine aw_icmp_le 66 dX9_loudest_57 (by decide) h (fun h => ?_) (fun h => ?_)
    · refine aw_env [(0, .ref v0), (1, .int v1), (2, .int v2), (3, .int v3), (4, .int v4)] [1, 2, 3, 4, 5] rfl ?_
      exact L1_X9_loudest_66 hl0 N K36 hK36 v0 v1 v2 v3 v4 T3 h
    · refine aw_iload 0 dX9_loudest_60 rfl ?_
      refine aw_istore_n 2 [(2, .int x4), (5, .int x4), (0, .ref v0), (1, .int v1), (3, .int v3), (4, .int v4)] dX9_loudest_62 rfl rfl rfl ?_
      refine aw_iload 5 dX9_loudest_63 rfl ?_
      refine aw_istore_n 3 [(3, .int v4), (2, .int x4), (5, .int x4), (0, .ref v0), (1, .int v1), (4, .int v4)] dX9_loudest_65 rfl rfl rfl ?_
      refine aw_env [(0, .ref v0), (1, .int v1), (2, .int x4), (3, .int v4), (4, .int v4)] [3, 4, 1, 0, 5] rfl ?_
      exact L1_X9_loudest_66 hl0 N K36 hK36 v0 v1 x4 v4 v4 T3 h
theorem L1_X9_loudest_36 {g : AxG} {l : Launch} (hl0 : l.stackTraces = false) {res : AxT Int32} (N : Nat)  : ∀ (n : Nat) (v0 : Nat) (v1 : Int32) (v2 : Int32) (v3 : Int32) (v4 : Int32) (S : AxS), F_X9_loudest_36 N  n v0 v1 v2 v3 v4 S = some res → AW g l (axRm (9) (axCs (axOI res)) (6 * axCs (axOI res))) mt_X9_loudest (axMQ g (axCs (axOI res)) (6 * axCs (axOI res)) (axOI res)) 0 0 S 36 [(0, .ref v0), (1, .int v1), (2, .int v2), (3, .int v3), (4, .int v4)] [] := by
  intro n
  induction n with
  | zero => intro v0 v1 v2 v3 v4 S h; cases h
  | succ n ih => intro v0 v1 v2 v3 v4 S h; exact L1_X9_loudest_36b hl0 N (F_X9_loudest_36 N  n) ih v0 v1 v2 v3 v4 S h
theorem L1_X9_loudest_15 {g : AxG} {l : Launch} (hl0 : l.stackTraces = false) {res : AxT Int32} (N : Nat)  (v0 : Nat) (v1 : Int32) (w0 : Int32) (w1 : Nat) (S : AxS) (h : F_X9_loudest_15 N  v0 v1 w0 w1 S = some res) : AW g l (axRm (9) (axCs (axOI res)) (6 * axCs (axOI res))) mt_X9_loudest (axMQ g (axCs (axOI res)) (6 * axCs (axOI res)) (axOI res)) 0 0 S 15 [(0, .ref v0), (1, .int v1)] [.int w0, .ref w1] := by
  unfold F_X9_loudest_15 at h
  obtain ⟨hL1, h⟩ := ax_is_spec h
  refine aw_thV (ob := axOI) (rest := []) (fun _ _ => rfl) rfl h (fun u9 hF hu => aw_runV (As := [.int w0]) (rest := []) (L1_X9_needArgument hl0 N hF) axc9 hL1 wd_604 wd_601 wd_603 wd_3 wd_87 pd_X9_needArgument rfl (ax_rm (by omega) rfl) (ax_hfV (fun _ _ => rfl) hu) (Nat.le_of_ble_eq_true rfl) rfl dX9_loudest_15) (fun T2 h => ?_)
  refine aw_aload_n 0 dX9_loudest_18 rfl rfl ?_
  refine aw_getR axc9 9 rfl rfl wd_462 dX9_loudest_19 h (fun a4 h => ?_)
  refine aw_aload_n 0 dX9_loudest_22 rfl rfl ?_
  refine aw_getR axc9 8 rfl rfl wd_461 dX9_loudest_23 h (fun a5 h => ?_)
  obtain ⟨hL6, h⟩ := ax_is_spec h
  refine aw_doneV (rest := []) h (fun S9 hF => aw_runV (As := [.ref a5]) (rest := []) (L1_X5_take N hF) axc5 hL6 wd_538 wd_583 wd_536 wd_537 wd_93 pd_X5_take rfl (ax_rm (by omega) rfl) ax_hf0 (Nat.le_of_ble_eq_true rfl) rfl dX9_loudest_26) (fun T7 h => ?_)
  refine aw_iconst (-1) dX9_loudest_29 rfl ?_
  refine aw_istore_n 2 [(2, .int ((-1))), (0, .ref v0), (1, .int v1)] dX9_loudest_30 rfl rfl rfl ?_
  refine aw_iconst 0 dX9_loudest_31 rfl ?_
  refine aw_istore_n 3 [(3, .int 0), (2, .int ((-1))), (0, .ref v0), (1, .int v1)] dX9_loudest_32 rfl rfl rfl ?_
  refine aw_iconst 0 dX9_loudest_33 rfl ?_
  refine aw_istore [(4, .int 0), (3, .int 0), (2, .int ((-1))), (0, .ref v0), (1, .int v1)] dX9_loudest_34 rfl rfl ?_
  refine aw_env [(0, .ref v0), (1, .int v1), (2, .int ((-1))), (3, .int 0), (4, .int 0)] [3, 4, 2, 1, 0] rfl ?_
  exact L1_X9_loudest_36 hl0 N  N v0 v1 ((-1)) 0 0 T7 h
theorem L1_X9_loudest_14 {g : AxG} {l : Launch} (hl0 : l.stackTraces = false) {res : AxT Int32} (N : Nat)  (v0 : Nat) (v1 : Int32) (w0 : Nat) (S : AxS) (h : F_X9_loudest_14 N  v0 v1 w0 S = some res) : AW g l (axRm (9) (axCs (axOI res)) (6 * axCs (axOI res))) mt_X9_loudest (axMQ g (axCs (axOI res)) (6 * axCs (axOI res)) (axOI res)) 0 0 S 14 [(0, .ref v0), (1, .int v1)] [.ref w0] := by
  unfold F_X9_loudest_14 at h
  refine aw_iconst 0 dX9_loudest_14 rfl ?_
  refine aw_env [(0, .ref v0), (1, .int v1)] [0, 1] rfl ?_
  exact L1_X9_loudest_15 hl0 N  v0 v1 0 w0 S h
theorem L1_X9_loudest {g : AxG} {l : Launch} (hl0 : l.stackTraces = false) (N : Nat) {v0 : Nat} {v1 : Int32} {S : AxS} {res : AxT Int32} (h : F_X9_loudest N v0 v1 S = some res) : AxMet g l yX9_loudest cX9_loudest 6 (some .int) (9) (axCs (axOI res)) (6 * axCs (axOI res)) [.ref v0, .int v1] S (axOI res) := by
  refine ax_met (own := RX9) (ini := false) (by decide +kernel) rfl (fun h => nomatch h) rfl ?_
  show AW g l (axRm (9) (axCs (axOI res)) (6 * axCs (axOI res))) mt_X9_loudest (axMQ g (axCs (axOI res)) (6 * axCs (axOI res)) (axOI res)) 0 0 S 0 [(0, .ref v0), (1, .int v1)] []
  unfold F_X9_loudest at h
  refine aw_aload_n 0 dX9_loudest_0 rfl rfl ?_
  refine aw_iload_n 1 dX9_loudest_1 rfl rfl ?_
  refine aw_if_lt 14 dX9_loudest_2 (by decide) h (fun h => ?_) (fun h => ?_)
  · refine aw_env [(0, .ref v0), (1, .int v1)] [0, 1] rfl ?_
    exact L1_X9_loudest_14 hl0 N  v0 v1 v0 S h
  · refine aw_iload_n 1 dX9_loudest_5 rfl rfl ?_
    refine aw_iconst 1 dX9_loudest_6 rfl ?_
    refine aw_icmp_gt 14 dX9_loudest_7 (by decide) h (fun h => ?_) (fun h => ?_)
    · refine aw_env [(0, .ref v0), (1, .int v1)] [0, 1] rfl ?_
      exact L1_X9_loudest_14 hl0 N  v0 v1 v0 S h
    · refine aw_iconst 1 dX9_loudest_10 rfl ?_
      refine aw_goto 15 dX9_loudest_11 (by decide) ?_
      refine aw_env [(0, .ref v0), (1, .int v1)] [0, 1] rfl ?_
      exact L1_X9_loudest_15 hl0 N  v0 v1 1 v0 S h

theorem dX9_hush_0 : decode cX9_hush 0 = .ok (.aload_n 0, 1) := by decide +kernel
theorem dX9_hush_1 : decode cX9_hush 1 = .ok (.iload_n 1, 1) := by decide +kernel
theorem dX9_hush_2 : decode cX9_hush 2 = .ok (.ifCond .lt 14, 3) := by decide +kernel
theorem dX9_hush_5 : decode cX9_hush 5 = .ok (.iload_n 1, 1) := by decide +kernel
theorem dX9_hush_6 : decode cX9_hush 6 = .ok (.sipush 999, 3) := by decide +kernel
theorem dX9_hush_9 : decode cX9_hush 9 = .ok (.if_icmp .gt 7, 3) := by decide +kernel
theorem dX9_hush_12 : decode cX9_hush 12 = .ok (.iconst 1, 1) := by decide +kernel
theorem dX9_hush_13 : decode cX9_hush 13 = .ok (.goto 4, 3) := by decide +kernel
theorem dX9_hush_16 : decode cX9_hush 16 = .ok (.iconst 0, 1) := by decide +kernel
theorem dX9_hush_17 : decode cX9_hush 17 = .ok (.invokevirtual 128, 3) := by decide +kernel
theorem dX9_hush_20 : decode cX9_hush 20 = .ok (.iconst 0, 1) := by decide +kernel
theorem dX9_hush_21 : decode cX9_hush 21 = .ok (.istore_n 2, 1) := by decide +kernel
theorem dX9_hush_22 : decode cX9_hush 22 = .ok (.iload_n 2, 1) := by decide +kernel
theorem dX9_hush_23 : decode cX9_hush 23 = .ok (.sipush 999, 3) := by decide +kernel
theorem dX9_hush_26 : decode cX9_hush 26 = .ok (.if_icmp .gt 48, 3) := by decide +kernel
theorem dX9_hush_29 : decode cX9_hush 29 = .ok (.aload_n 0, 1) := by decide +kernel
theorem dX9_hush_30 : decode cX9_hush 30 = .ok (.getfield 60, 3) := by decide +kernel
theorem dX9_hush_33 : decode cX9_hush 33 = .ok (.aload_n 0, 1) := by decide +kernel
theorem dX9_hush_34 : decode cX9_hush 34 = .ok (.getfield 56, 3) := by decide +kernel
theorem dX9_hush_37 : decode cX9_hush 37 = .ok (.invokevirtual 262, 3) := by decide +kernel
theorem dX9_hush_40 : decode cX9_hush 40 = .ok (.aload_n 0, 1) := by decide +kernel
theorem dX9_hush_41 : decode cX9_hush 41 = .ok (.getfield 60, 3) := by decide +kernel
theorem dX9_hush_44 : decode cX9_hush 44 = .ok (.iload_n 2, 1) := by decide +kernel
theorem dX9_hush_45 : decode cX9_hush 45 = .ok (.invokevirtual 268, 3) := by decide +kernel
theorem dX9_hush_48 : decode cX9_hush 48 = .ok (.ifCond .ne 5, 3) := by decide +kernel
theorem dX9_hush_51 : decode cX9_hush 51 = .ok (.iconst (-1), 1) := by decide +kernel
theorem dX9_hush_52 : decode cX9_hush 52 = .ok (.ireturn, 1) := by decide +kernel
theorem dX9_hush_53 : decode cX9_hush 53 = .ok (.aload_n 0, 1) := by decide +kernel
theorem dX9_hush_54 : decode cX9_hush 54 = .ok (.aload_n 0, 1) := by decide +kernel
theorem dX9_hush_55 : decode cX9_hush 55 = .ok (.getfield 60, 3) := by decide +kernel
theorem dX9_hush_58 : decode cX9_hush 58 = .ok (.iconst 0, 1) := by decide +kernel
theorem dX9_hush_59 : decode cX9_hush 59 = .ok (.invokevirtual 230, 3) := by decide +kernel
theorem dX9_hush_62 : decode cX9_hush 62 = .ok (.iload_n 1, 1) := by decide +kernel
theorem dX9_hush_63 : decode cX9_hush 63 = .ok (.if_icmp .gt 5, 3) := by decide +kernel
theorem dX9_hush_66 : decode cX9_hush 66 = .ok (.iload_n 2, 1) := by decide +kernel
theorem dX9_hush_67 : decode cX9_hush 67 = .ok (.ireturn, 1) := by decide +kernel
theorem dX9_hush_68 : decode cX9_hush 68 = .ok (.iinc 2 1, 3) := by decide +kernel
theorem dX9_hush_71 : decode cX9_hush 71 = .ok (.goto (-49), 3) := by decide +kernel
theorem dX9_hush_74 : decode cX9_hush 74 = .ok (.iconst (-1), 1) := by decide +kernel
theorem dX9_hush_75 : decode cX9_hush 75 = .ok (.ireturn, 1) := by decide +kernel
abbrev mt_X9_hush : AxM := (RX9, cX9_hush, 3, (some .int), false, [])
theorem L1_X9_hush_22b {g : AxG} {l : Launch} (hl0 : l.stackTraces = false) {res : AxT Int32} (N : Nat) (K22 : Nat → Int32 → Int32 → AxS → Option (AxT Int32)) (hK22 : ∀ (v0 : Nat) (v1 : Int32) (v2 : Int32) (S : AxS), K22 v0 v1 v2 S = some res → AW g l (axRm (9) (axCs (axOI res)) (6 * axCs (axOI res))) mt_X9_hush (axMQ g (axCs (axOI res)) (6 * axCs (axOI res)) (axOI res)) 0 0 S 22 [(0, .ref v0), (1, .int v1), (2, .int v2)] []) (v0 : Nat) (v1 : Int32) (v2 : Int32) (S : AxS) (h : F_X9_hush_22b N K22 v0 v1 v2 S = some res) : AW g l (axRm (9) (axCs (axOI res)) (6 * axCs (axOI res))) mt_X9_hush (axMQ g (axCs (axOI res)) (6 * axCs (axOI res)) (axOI res)) 0 0 S 22 [(0, .ref v0), (1, .int v1), (2, .int v2)] [] := by
  unfold F_X9_hush_22b at h
  refine aw_iload_n 2 dX9_hush_22 rfl rfl ?_
  refine aw_sipush 999 dX9_hush_23 (by decide) ?_
  refine aw_icmp_gt 74 dX9_hush_26 (by decide) h (fun h => ?_) (fun h => ?_)
  · refine aw_iconst (-1) dX9_hush_74 rfl ?_
    exact aw_iretT dX9_hush_75 rfl h
  · refine aw_aload_n 0 dX9_hush_29 rfl rfl ?_
    refine aw_getR axc9 9 rfl rfl wd_462 dX9_hush_30 h (fun a1 h => ?_)
    refine aw_aload_n 0 dX9_hush_33 rfl rfl ?_
    refine aw_getR axc9 8 rfl rfl wd_461 dX9_hush_34 h (fun a2 h => ?_)
    obtain ⟨hL3, h⟩ := ax_is_spec h
    refine aw_doneV (rest := []) h (fun S9 hF => aw_runV (As := [.ref a2]) (rest := []) (L1_X5_take N hF) axc5 hL3 wd_538 wd_583 wd_536 wd_537 wd_93 pd_X5_take rfl (ax_rm (by omega) rfl) ax_hf0 (Nat.le_of_ble_eq_true rfl) rfl dX9_hush_37) (fun T4 h => ?_)
    refine aw_aload_n 0 dX9_hush_40 rfl rfl ?_
    refine aw_getR axc9 9 rfl rfl wd_462 dX9_hush_41 h (fun a6 h => ?_)
    refine aw_iload_n 2 dX9_hush_44 rfl rfl ?_
    obtain ⟨hL7, h⟩ := ax_is_spec h
    refine aw_doneI (rest := []) h (fun r9 S9 hF => aw_runV (As := [.int v2]) (rest := []) (L1_X5_pays N hF) axc5 hL7 wd_887 wd_884 wd_885 wd_886 wd_93 pd_X5_pays rfl (ax_rm (by omega) rfl) ax_hf0 (Nat.le_of_ble_eq_true rfl) rfl dX9_hush_45) (fun x9 T8 h => ?_)
    refine aw_if_ne 53 dX9_hush_48 (by decide) h (fun h => ?_) (fun h => ?_)
    · refine aw_aload_n 0 dX9_hush_53 rfl rfl ?_
      refine aw_aload_n 0 dX9_hush_54 rfl rfl ?_
      refine aw_getR axc9 9 rfl rfl wd_462 dX9_hush_55 h (fun a10 h => ?_)
      refine aw_iconst 0 dX9_hush_58 rfl ?_
      obtain ⟨hL11, h⟩ := ax_is_spec h
      refine aw_doneI (rest := []) h (fun r9 S9 hF => aw_runV (As := [.ref a10, .int 0]) (rest := []) (L1_X9_strokesOf N hF) axc9 hL11 wd_549 wd_546 wd_548 wd_2 wd_87 pd_X9_strokesOf rfl (ax_rm (by omega) rfl) ax_hf0 (Nat.le_of_ble_eq_true rfl) rfl dX9_hush_59) (fun x13 T12 h => ?_)
      refine aw_iload_n 1 dX9_hush_62 rfl rfl ?_
      refine aw_icmp_gt 68 dX9_hush_63 (by decide) h (fun h => ?_) (fun h => ?_)
      · refine aw_iinc 2 [(2, .int (v2 + 1)), (0, .ref v0), (1, .int v1)] (v2 + 1) dX9_hush_68 rfl rfl rfl rfl ?_
        refine aw_goto 22 dX9_hush_71 (by decide) ?_
        refine aw_env [(0, .ref v0), (1, .int v1), (2, .int (v2 + 1))] [1, 2, 0] rfl ?_
        exact hK22 v0 v1 (v2 + 1) T12 h
      · refine aw_iload_n 2 dX9_hush_66 rfl rfl ?_
        exact aw_iretT dX9_hush_67 rfl h
    · refine aw_iconst (-1) dX9_hush_51 rfl ?_
      exact aw_iretT dX9_hush_52 rfl h
theorem L1_X9_hush_22 {g : AxG} {l : Launch} (hl0 : l.stackTraces = false) {res : AxT Int32} (N : Nat)  : ∀ (n : Nat) (v0 : Nat) (v1 : Int32) (v2 : Int32) (S : AxS), F_X9_hush_22 N  n v0 v1 v2 S = some res → AW g l (axRm (9) (axCs (axOI res)) (6 * axCs (axOI res))) mt_X9_hush (axMQ g (axCs (axOI res)) (6 * axCs (axOI res)) (axOI res)) 0 0 S 22 [(0, .ref v0), (1, .int v1), (2, .int v2)] [] := by
  intro n
  induction n with
  | zero => intro v0 v1 v2 S h; cases h
  | succ n ih => intro v0 v1 v2 S h; exact L1_X9_hush_22b hl0 N (F_X9_hush_22 N  n) ih v0 v1 v2 S h
theorem L1_X9_hush_17 {g : AxG} {l : Launch} (hl0 : l.stackTraces = false) {res : AxT Int32} (N : Nat)  (v0 : Nat) (v1 : Int32) (w0 : Int32) (w1 : Nat) (S : AxS) (h : F_X9_hush_17 N  v0 v1 w0 w1 S = some res) : AW g l (axRm (9) (axCs (axOI res)) (6 * axCs (axOI res))) mt_X9_hush (axMQ g (axCs (axOI res)) (6 * axCs (axOI res)) (axOI res)) 0 0 S 17 [(0, .ref v0), (1, .int v1)] [.int w0, .ref w1] := by
  unfold F_X9_hush_17 at h
  obtain ⟨hL1, h⟩ := ax_is_spec h
  refine aw_thV (ob := axOI) (rest := []) (fun _ _ => rfl) rfl h (fun u9 hF hu => aw_runV (As := [.int w0]) (rest := []) (L1_X9_needArgument hl0 N hF) axc9 hL1 wd_604 wd_601 wd_603 wd_3 wd_87 pd_X9_needArgument rfl (ax_rm (by omega) rfl) (ax_hfV (fun _ _ => rfl) hu) (Nat.le_of_ble_eq_true rfl) rfl dX9_hush_17) (fun T2 h => ?_)
  refine aw_iconst 0 dX9_hush_20 rfl ?_
  refine aw_istore_n 2 [(2, .int 0), (0, .ref v0), (1, .int v1)] dX9_hush_21 rfl rfl rfl ?_
  refine aw_env [(0, .ref v0), (1, .int v1), (2, .int 0)] [1, 2, 0] rfl ?_
  exact L1_X9_hush_22 hl0 N  N v0 v1 0 T2 h
theorem L1_X9_hush_16 {g : AxG} {l : Launch} (hl0 : l.stackTraces = false) {res : AxT Int32} (N : Nat)  (v0 : Nat) (v1 : Int32) (w0 : Nat) (S : AxS) (h : F_X9_hush_16 N  v0 v1 w0 S = some res) : AW g l (axRm (9) (axCs (axOI res)) (6 * axCs (axOI res))) mt_X9_hush (axMQ g (axCs (axOI res)) (6 * axCs (axOI res)) (axOI res)) 0 0 S 16 [(0, .ref v0), (1, .int v1)] [.ref w0] := by
  unfold F_X9_hush_16 at h
  refine aw_iconst 0 dX9_hush_16 rfl ?_
  refine aw_env [(0, .ref v0), (1, .int v1)] [0, 1] rfl ?_
  exact L1_X9_hush_17 hl0 N  v0 v1 0 w0 S h
theorem L1_X9_hush {g : AxG} {l : Launch} (hl0 : l.stackTraces = false) (N : Nat) {v0 : Nat} {v1 : Int32} {S : AxS} {res : AxT Int32} (h : F_X9_hush N v0 v1 S = some res) : AxMet g l yX9_hush cX9_hush 3 (some .int) (9) (axCs (axOI res)) (6 * axCs (axOI res)) [.ref v0, .int v1] S (axOI res) := by
  refine ax_met (own := RX9) (ini := false) (by decide +kernel) rfl (fun h => nomatch h) rfl ?_
  show AW g l (axRm (9) (axCs (axOI res)) (6 * axCs (axOI res))) mt_X9_hush (axMQ g (axCs (axOI res)) (6 * axCs (axOI res)) (axOI res)) 0 0 S 0 [(0, .ref v0), (1, .int v1)] []
  unfold F_X9_hush at h
  refine aw_aload_n 0 dX9_hush_0 rfl rfl ?_
  refine aw_iload_n 1 dX9_hush_1 rfl rfl ?_
  refine aw_if_lt 16 dX9_hush_2 (by decide) h (fun h => ?_) (fun h => ?_)
  · refine aw_env [(0, .ref v0), (1, .int v1)] [0, 1] rfl ?_
    exact L1_X9_hush_16 hl0 N  v0 v1 v0 S h
  · refine aw_iload_n 1 dX9_hush_5 rfl rfl ?_
    refine aw_sipush 999 dX9_hush_6 (by decide) ?_
    refine aw_icmp_gt 16 dX9_hush_9 (by decide) h (fun h => ?_) (fun h => ?_)
    · refine aw_env [(0, .ref v0), (1, .int v1)] [0, 1] rfl ?_
      exact L1_X9_hush_16 hl0 N  v0 v1 v0 S h
    · refine aw_iconst 1 dX9_hush_12 rfl ?_
      refine aw_goto 17 dX9_hush_13 (by decide) ?_
      refine aw_env [(0, .ref v0), (1, .int v1)] [0, 1] rfl ?_
      exact L1_X9_hush_17 hl0 N  v0 v1 1 v0 S h

theorem dX9_tensOf_0 : decode cX9_tensOf 0 = .ok (.iload_n 0, 1) := by decide +kernel
theorem dX9_tensOf_1 : decode cX9_tensOf 1 = .ok (.iconst 2, 1) := by decide +kernel
theorem dX9_tensOf_2 : decode cX9_tensOf 2 = .ok (.iload_n 1, 1) := by decide +kernel
theorem dX9_tensOf_3 : decode cX9_tensOf 3 = .ok (.iconst 1, 1) := by decide +kernel
theorem dX9_tensOf_4 : decode cX9_tensOf 4 = .ok (.isub, 1) := by decide +kernel
theorem dX9_tensOf_5 : decode cX9_tensOf 5 = .ok (.iload_n 2, 1) := by decide +kernel
theorem dX9_tensOf_6 : decode cX9_tensOf 6 = .ok (.isub, 1) := by decide +kernel
theorem dX9_tensOf_7 : decode cX9_tensOf 7 = .ok (.imul, 1) := by decide +kernel
theorem dX9_tensOf_8 : decode cX9_tensOf 8 = .ok (.ishr, 1) := by decide +kernel
theorem dX9_tensOf_9 : decode cX9_tensOf 9 = .ok (.iconst 3, 1) := by decide +kernel
theorem dX9_tensOf_10 : decode cX9_tensOf 10 = .ok (.iand, 1) := by decide +kernel
theorem dX9_tensOf_11 : decode cX9_tensOf 11 = .ok (.istore_n 3, 1) := by decide +kernel
theorem dX9_tensOf_12 : decode cX9_tensOf 12 = .ok (.iload_n 3, 1) := by decide +kernel
theorem dX9_tensOf_13 : decode cX9_tensOf 13 = .ok (.iconst 3, 1) := by decide +kernel
theorem dX9_tensOf_14 : decode cX9_tensOf 14 = .ok (.if_icmp .ne 7, 3) := by decide +kernel
theorem dX9_tensOf_17 : decode cX9_tensOf 17 = .ok (.iconst 4, 1) := by decide +kernel
theorem dX9_tensOf_18 : decode cX9_tensOf 18 = .ok (.goto 4, 3) := by decide +kernel
theorem dX9_tensOf_21 : decode cX9_tensOf 21 = .ok (.iload_n 3, 1) := by decide +kernel
theorem dX9_tensOf_22 : decode cX9_tensOf 22 = .ok (.ireturn, 1) := by decide +kernel
abbrev mt_X9_tensOf : AxM := (RX9, cX9_tensOf, 4, (some .int), false, [])
theorem L1_X9_tensOf {g : AxG} {l : Launch} (N : Nat) {v0 : Int32} {v1 : Int32} {v2 : Int32} {S : AxS} {r9 : Int32} {S9 : AxS} (h : F_X9_tensOf N v0 v1 v2 S = some ((r9, S9))) : AxMet g l yX9_tensOf cX9_tensOf 4 (some .int) (0) 0 0 [.int v0, .int v1, .int v2] S ((.inl (some (.int r9)), S9)) := by
  refine ax_met (own := RX9) (ini := false) (by decide +kernel) rfl (fun h => nomatch h) rfl ?_
  show AW g l (axRm (0) 0 0) mt_X9_tensOf (axMQ g 0 0 (.inl (some (.int r9)), S9)) 0 0 S 0 [(0, .int v0), (1, .int v1), (2, .int v2)] []
  unfold F_X9_tensOf at h
  refine aw_iload_n 0 dX9_tensOf_0 rfl rfl ?_
  refine aw_iconst 2 dX9_tensOf_1 rfl ?_
  refine aw_iload_n 1 dX9_tensOf_2 rfl rfl ?_
  refine aw_iconst 1 dX9_tensOf_3 rfl ?_
  refine aw_isub dX9_tensOf_4 ?_
  refine aw_iload_n 2 dX9_tensOf_5 rfl rfl ?_
  refine aw_isub dX9_tensOf_6 ?_
  refine aw_imul dX9_tensOf_7 ?_
  refine aw_ishr dX9_tensOf_8 ?_
  refine aw_iconst 3 dX9_tensOf_9 rfl ?_
  refine aw_iand dX9_tensOf_10 ?_
  refine aw_istore_n 3 [(3, .int ((v0 >>> ((2 * ((v1 - 1) - v2)) &&& 31)) &&& 3)), (0, .int v0), (1, .int v1), (2, .int v2)] dX9_tensOf_11 rfl rfl rfl ?_
  refine aw_iload_n 0 dX9_tensOf_12 rfl rfl ?_
  refine aw_iconst 3 dX9_tensOf_13 rfl ?_
  refine aw_icmp_ne 21 dX9_tensOf_14 (by decide) h (fun h => ?_) (fun h => ?_)
  · refine aw_iload_n 0 dX9_tensOf_21 rfl rfl ?_
    exact aw_iret dX9_tensOf_22 rfl (Nat.le_refl _) (Nat.le_refl _) h
  · refine aw_iconst 4 dX9_tensOf_17 rfl ?_
    refine aw_goto 22 dX9_tensOf_18 (by decide) ?_
    exact aw_iret dX9_tensOf_22 rfl (Nat.le_refl _) (Nat.le_refl _) h

theorem dX9_tensTogether_0 : decode cX9_tensTogether 0 = .ok (.iconst 0, 1) := by decide +kernel
theorem dX9_tensTogether_1 : decode cX9_tensTogether 1 = .ok (.istore_n 2, 1) := by decide +kernel
theorem dX9_tensTogether_2 : decode cX9_tensTogether 2 = .ok (.iconst 0, 1) := by decide +kernel
theorem dX9_tensTogether_3 : decode cX9_tensTogether 3 = .ok (.istore_n 3, 1) := by decide +kernel
theorem dX9_tensTogether_4 : decode cX9_tensTogether 4 = .ok (.iload_n 3, 1) := by decide +kernel
theorem dX9_tensTogether_5 : decode cX9_tensTogether 5 = .ok (.iload_n 1, 1) := by decide +kernel
theorem dX9_tensTogether_6 : decode cX9_tensTogether 6 = .ok (.if_icmp .ge 18, 3) := by decide +kernel
theorem dX9_tensTogether_9 : decode cX9_tensTogether 9 = .ok (.iload_n 2, 1) := by decide +kernel
theorem dX9_tensTogether_10 : decode cX9_tensTogether 10 = .ok (.iload_n 0, 1) := by decide +kernel
theorem dX9_tensTogether_11 : decode cX9_tensTogether 11 = .ok (.iload_n 1, 1) := by decide +kernel
theorem dX9_tensTogether_12 : decode cX9_tensTogether 12 = .ok (.iload_n 3, 1) := by decide +kernel
theorem dX9_tensTogether_13 : decode cX9_tensTogether 13 = .ok (.invokestatic 426, 3) := by decide +kernel
theorem dX9_tensTogether_16 : decode cX9_tensTogether 16 = .ok (.iadd, 1) := by decide +kernel
theorem dX9_tensTogether_17 : decode cX9_tensTogether 17 = .ok (.istore_n 2, 1) := by decide +kernel
theorem dX9_tensTogether_18 : decode cX9_tensTogether 18 = .ok (.iinc 3 1, 3) := by decide +kernel
theorem dX9_tensTogether_21 : decode cX9_tensTogether 21 = .ok (.goto (-17), 3) := by decide +kernel
theorem dX9_tensTogether_24 : decode cX9_tensTogether 24 = .ok (.iload_n 2, 1) := by decide +kernel
theorem dX9_tensTogether_25 : decode cX9_tensTogether 25 = .ok (.ireturn, 1) := by decide +kernel
abbrev mt_X9_tensTogether : AxM := (RX9, cX9_tensTogether, 4, (some .int), false, [])
theorem L1_X9_tensTogether_4b {g : AxG} {l : Launch} {r9 : Int32} {S9 : AxS} (N : Nat) (K4 : Int32 → Int32 → Int32 → Int32 → AxS → Option (Int32 × AxS)) (hK4 : ∀ (v0 : Int32) (v1 : Int32) (v2 : Int32) (v3 : Int32) (S : AxS), K4 v0 v1 v2 v3 S = some ((r9, S9)) → AW g l (axRm (1) 0 0) mt_X9_tensTogether (axMQ g 0 0 (.inl (some (.int r9)), S9)) 0 0 S 4 [(0, .int v0), (1, .int v1), (2, .int v2), (3, .int v3)] []) (v0 : Int32) (v1 : Int32) (v2 : Int32) (v3 : Int32) (S : AxS) (h : F_X9_tensTogether_4b N K4 v0 v1 v2 v3 S = some ((r9, S9))) : AW g l (axRm (1) 0 0) mt_X9_tensTogether (axMQ g 0 0 (.inl (some (.int r9)), S9)) 0 0 S 4 [(0, .int v0), (1, .int v1), (2, .int v2), (3, .int v3)] [] := by
  unfold F_X9_tensTogether_4b at h
  refine aw_iload_n 3 dX9_tensTogether_4 rfl rfl ?_
  refine aw_iload_n 1 dX9_tensTogether_5 rfl rfl ?_
  refine aw_icmp_ge 24 dX9_tensTogether_6 (by decide) h (fun h => ?_) (fun h => ?_)
  · refine aw_iload_n 2 dX9_tensTogether_24 rfl rfl ?_
    exact aw_iret dX9_tensTogether_25 rfl (Nat.le_refl _) (Nat.le_refl _) h
  · refine aw_iload_n 2 dX9_tensTogether_9 rfl rfl ?_
    refine aw_iload_n 0 dX9_tensTogether_10 rfl rfl ?_
    refine aw_iload_n 1 dX9_tensTogether_11 rfl rfl ?_
    refine aw_iload_n 3 dX9_tensTogether_12 rfl rfl ?_
    refine aw_doneI (rest := [.int v2]) h (fun r9 S9 hF => aw_runS (As := [.int v0, .int v1, .int v3]) (rest := [.int v2]) (L1_X9_tensOf N hF) wd_1061 wd_1059 wd_1060 wd_87 pd_X9_tensOf.2 rfl (ax_rm (by omega) rfl) ax_hf0 (Nat.le_of_ble_eq_true rfl) rfl dX9_tensTogether_13) (fun x2 T1 h => ?_)
    refine aw_iadd dX9_tensTogether_16 ?_
    refine aw_istore_n 2 [(2, .int (v2 + x2)), (0, .int v0), (1, .int v1), (3, .int v3)] dX9_tensTogether_17 rfl rfl rfl ?_
    refine aw_iinc 3 [(3, .int (v3 + 1)), (2, .int (v2 + x2)), (0, .int v0), (1, .int v1)] (v3 + 1) dX9_tensTogether_18 rfl rfl rfl rfl ?_
    refine aw_goto 4 dX9_tensTogether_21 (by decide) ?_
    refine aw_env [(0, .int v0), (1, .int v1), (2, .int (v2 + x2)), (3, .int (v3 + 1))] [2, 3, 1, 0] rfl ?_
    exact hK4 v0 v1 (v2 + x2) (v3 + 1) T1 h
theorem L1_X9_tensTogether_4 {g : AxG} {l : Launch} {r9 : Int32} {S9 : AxS} (N : Nat)  : ∀ (n : Nat) (v0 : Int32) (v1 : Int32) (v2 : Int32) (v3 : Int32) (S : AxS), F_X9_tensTogether_4 N  n v0 v1 v2 v3 S = some ((r9, S9)) → AW g l (axRm (1) 0 0) mt_X9_tensTogether (axMQ g 0 0 (.inl (some (.int r9)), S9)) 0 0 S 4 [(0, .int v0), (1, .int v1), (2, .int v2), (3, .int v3)] [] := by
  intro n
  induction n with
  | zero => intro v0 v1 v2 v3 S h; cases h
  | succ n ih => intro v0 v1 v2 v3 S h; exact L1_X9_tensTogether_4b N (F_X9_tensTogether_4 N  n) ih v0 v1 v2 v3 S h
theorem L1_X9_tensTogether {g : AxG} {l : Launch} (N : Nat) {v0 : Int32} {v1 : Int32} {S : AxS} {r9 : Int32} {S9 : AxS} (h : F_X9_tensTogether N v0 v1 S = some ((r9, S9))) : AxMet g l yX9_tensTogether cX9_tensTogether 4 (some .int) (1) 0 0 [.int v0, .int v1] S ((.inl (some (.int r9)), S9)) := by
  refine ax_met (own := RX9) (ini := false) (by decide +kernel) rfl (fun h => nomatch h) rfl ?_
  show AW g l (axRm (1) 0 0) mt_X9_tensTogether (axMQ g 0 0 (.inl (some (.int r9)), S9)) 0 0 S 0 [(0, .int v0), (1, .int v1)] []
  unfold F_X9_tensTogether at h
  refine aw_iconst 0 dX9_tensTogether_0 rfl ?_
  refine aw_istore_n 2 [(2, .int 0), (0, .int v0), (1, .int v1)] dX9_tensTogether_1 rfl rfl rfl ?_
  refine aw_iconst 0 dX9_tensTogether_2 rfl ?_
  refine aw_istore_n 3 [(3, .int 0), (2, .int 0), (0, .int v0), (1, .int v1)] dX9_tensTogether_3 rfl rfl rfl ?_
  refine aw_env [(0, .int v0), (1, .int v1), (2, .int 0), (3, .int 0)] [2, 3, 1, 0] rfl ?_
  exact L1_X9_tensTogether_4 N  N v0 v1 0 0 S h

theorem dX9_staysQuiet_0 : decode cX9_staysQuiet 0 = .ok (.aload_n 0, 1) := by decide +kernel
theorem dX9_staysQuiet_1 : decode cX9_staysQuiet 1 = .ok (.getfield 60, 3) := by decide +kernel
theorem dX9_staysQuiet_4 : decode cX9_staysQuiet 4 = .ok (.aload_n 0, 1) := by decide +kernel
theorem dX9_staysQuiet_5 : decode cX9_staysQuiet 5 = .ok (.getfield 56, 3) := by decide +kernel
theorem dX9_staysQuiet_8 : decode cX9_staysQuiet 8 = .ok (.invokevirtual 262, 3) := by decide +kernel
theorem dX9_staysQuiet_11 : decode cX9_staysQuiet 11 = .ok (.iconst 0, 1) := by decide +kernel
theorem dX9_staysQuiet_12 : decode cX9_staysQuiet 12 = .ok (.istore 5, 2) := by decide +kernel
theorem dX9_staysQuiet_14 : decode cX9_staysQuiet 14 = .ok (.iload 5, 2) := by decide +kernel
theorem dX9_staysQuiet_16 : decode cX9_staysQuiet 16 = .ok (.iload_n 2, 1) := by decide +kernel
theorem dX9_staysQuiet_17 : decode cX9_staysQuiet 17 = .ok (.if_icmp .ge 61, 3) := by decide +kernel
theorem dX9_staysQuiet_20 : decode cX9_staysQuiet 20 = .ok (.aload_n 0, 1) := by decide +kernel
theorem dX9_staysQuiet_21 : decode cX9_staysQuiet 21 = .ok (.getfield 60, 3) := by decide +kernel
theorem dX9_staysQuiet_24 : decode cX9_staysQuiet 24 = .ok (.bipush 10, 2) := by decide +kernel
theorem dX9_staysQuiet_26 : decode cX9_staysQuiet 26 = .ok (.iload_n 1, 1) := by decide +kernel
theorem dX9_staysQuiet_27 : decode cX9_staysQuiet 27 = .ok (.iload_n 2, 1) := by decide +kernel
theorem dX9_staysQuiet_28 : decode cX9_staysQuiet 28 = .ok (.iload 5, 2) := by decide +kernel
theorem dX9_staysQuiet_30 : decode cX9_staysQuiet 30 = .ok (.invokestatic 426, 3) := by decide +kernel
theorem dX9_staysQuiet_33 : decode cX9_staysQuiet 33 = .ok (.imul, 1) := by decide +kernel
theorem dX9_staysQuiet_34 : decode cX9_staysQuiet 34 = .ok (.invokevirtual 268, 3) := by decide +kernel
theorem dX9_staysQuiet_37 : decode cX9_staysQuiet 37 = .ok (.ifCond .ne 5, 3) := by decide +kernel
theorem dX9_staysQuiet_40 : decode cX9_staysQuiet 40 = .ok (.iconst 0, 1) := by decide +kernel
theorem dX9_staysQuiet_41 : decode cX9_staysQuiet 41 = .ok (.ireturn, 1) := by decide +kernel
theorem dX9_staysQuiet_42 : decode cX9_staysQuiet 42 = .ok (.aload_n 0, 1) := by decide +kernel
theorem dX9_staysQuiet_43 : decode cX9_staysQuiet 43 = .ok (.aload_n 0, 1) := by decide +kernel
theorem dX9_staysQuiet_44 : decode cX9_staysQuiet 44 = .ok (.getfield 60, 3) := by decide +kernel
theorem dX9_staysQuiet_47 : decode cX9_staysQuiet 47 = .ok (.iconst 0, 1) := by decide +kernel
theorem dX9_staysQuiet_48 : decode cX9_staysQuiet 48 = .ok (.invokevirtual 265, 3) := by decide +kernel
theorem dX9_staysQuiet_51 : decode cX9_staysQuiet 51 = .ok (.istore 6, 2) := by decide +kernel
theorem dX9_staysQuiet_53 : decode cX9_staysQuiet 53 = .ok (.iload 4, 2) := by decide +kernel
theorem dX9_staysQuiet_55 : decode cX9_staysQuiet 55 = .ok (.iload 5, 2) := by decide +kernel
theorem dX9_staysQuiet_57 : decode cX9_staysQuiet 57 = .ok (.ishr, 1) := by decide +kernel
theorem dX9_staysQuiet_58 : decode cX9_staysQuiet 58 = .ok (.iconst 1, 1) := by decide +kernel
theorem dX9_staysQuiet_59 : decode cX9_staysQuiet 59 = .ok (.iand, 1) := by decide +kernel
theorem dX9_staysQuiet_60 : decode cX9_staysQuiet 60 = .ok (.iconst 1, 1) := by decide +kernel
theorem dX9_staysQuiet_61 : decode cX9_staysQuiet 61 = .ok (.if_icmp .ne 11, 3) := by decide +kernel
theorem dX9_staysQuiet_64 : decode cX9_staysQuiet 64 = .ok (.iload 6, 2) := by decide +kernel
theorem dX9_staysQuiet_66 : decode cX9_staysQuiet 66 = .ok (.iload_n 3, 1) := by decide +kernel
theorem dX9_staysQuiet_67 : decode cX9_staysQuiet 67 = .ok (.if_icmp .le 5, 3) := by decide +kernel
theorem dX9_staysQuiet_70 : decode cX9_staysQuiet 70 = .ok (.iconst 0, 1) := by decide +kernel
theorem dX9_staysQuiet_71 : decode cX9_staysQuiet 71 = .ok (.ireturn, 1) := by decide +kernel
theorem dX9_staysQuiet_72 : decode cX9_staysQuiet 72 = .ok (.iinc 5 1, 3) := by decide +kernel
theorem dX9_staysQuiet_75 : decode cX9_staysQuiet 75 = .ok (.goto (-61), 3) := by decide +kernel
theorem dX9_staysQuiet_78 : decode cX9_staysQuiet 78 = .ok (.iconst 1, 1) := by decide +kernel
theorem dX9_staysQuiet_79 : decode cX9_staysQuiet 79 = .ok (.ireturn, 1) := by decide +kernel
abbrev mt_X9_staysQuiet : AxM := (RX9, cX9_staysQuiet, 7, (some .boolean), false, [])
theorem L1_X9_staysQuiet_72 {g : AxG} {l : Launch} {r9 : Int32} {S9 : AxS} (N : Nat) (K14 : Nat → Int32 → Int32 → Int32 → Int32 → Int32 → AxS → Option (Int32 × AxS)) (hK14 : ∀ (v0 : Nat) (v1 : Int32) (v2 : Int32) (v3 : Int32) (v4 : Int32) (v5 : Int32) (S : AxS), K14 v0 v1 v2 v3 v4 v5 S = some ((r9, S9)) → AW g l (axRm (5) 0 0) mt_X9_staysQuiet (axMQ g 0 0 (.inl (some (.int r9)), S9)) 0 0 S 14 [(0, .ref v0), (1, .int v1), (2, .int v2), (3, .int v3), (4, .int v4), (5, .int v5)] []) (v0 : Nat) (v1 : Int32) (v2 : Int32) (v3 : Int32) (v4 : Int32) (v5 : Int32) (S : AxS) (h : F_X9_staysQuiet_72 N K14 v0 v1 v2 v3 v4 v5 S = some ((r9, S9))) : AW g l (axRm (5) 0 0) mt_X9_staysQuiet (axMQ g 0 0 (.inl (some (.int r9)), S9)) 0 0 S 72 [(0, .ref v0), (1, .int v1), (2, .int v2), (3, .int v3), (4, .int v4), (5, .int v5)] [] := by
  unfold F_X9_staysQuiet_72 at h
  refine aw_iinc 5 [(5, .int (v5 + 1)), (0, .ref v0), (1, .int v1), (2, .int v2), (3, .int v3), (4, .int v4)] (v5 + 1) dX9_staysQuiet_72 rfl rfl rfl rfl ?_
  refine aw_goto 14 dX9_staysQuiet_75 (by decide) ?_
  refine aw_env [(0, .ref v0), (1, .int v1), (2, .int v2), (3, .int v3), (4, .int v4), (5, .int (v5 + 1))] [1, 2, 3, 4, 5, 0] rfl ?_
  exact hK14 v0 v1 v2 v3 v4 (v5 + 1) S h
theorem L1_X9_staysQuiet_14b {g : AxG} {l : Launch} {r9 : Int32} {S9 : AxS} (N : Nat) (K14 : Nat → Int32 → Int32 → Int32 → Int32 → Int32 → AxS → Option (Int32 × AxS)) (hK14 : ∀ (v0 : Nat) (v1 : Int32) (v2 : Int32) (v3 : Int32) (v4 : Int32) (v5 : Int32) (S : AxS), K14 v0 v1 v2 v3 v4 v5 S = some ((r9, S9)) → AW g l (axRm (5) 0 0) mt_X9_staysQuiet (axMQ g 0 0 (.inl (some (.int r9)), S9)) 0 0 S 14 [(0, .ref v0), (1, .int v1), (2, .int v2), (3, .int v3), (4, .int v4), (5, .int v5)] []) (v0 : Nat) (v1 : Int32) (v2 : Int32) (v3 : Int32) (v4 : Int32) (v5 : Int32) (S : AxS) (h : F_X9_staysQuiet_14b N K14 v0 v1 v2 v3 v4 v5 S = some ((r9, S9))) : AW g l (axRm (5) 0 0) mt_X9_staysQuiet (axMQ g 0 0 (.inl (some (.int r9)), S9)) 0 0 S 14 [(0, .ref v0), (1, .int v1), (2, .int v2), (3, .int v3), (4, .int v4), (5, .int v5)] [] := by
  unfold F_X9_staysQuiet_14b at h
  refine aw_iload 5 dX9_staysQuiet_14 rfl ?_
  refine aw_iload_n 2 dX9_staysQuiet_16 rfl rfl ?_
  refine aw_icmp_ge 78 dX9_staysQuiet_17 (by decide) h (fun h => ?_) (fun h => ?_)
  · refine aw_iconst 1 dX9_staysQuiet_78 rfl ?_
    exact aw_zret dX9_staysQuiet_79 rfl (Nat.le_refl _) (Nat.le_refl _) h
  · refine aw_aload_n 0 dX9_staysQuiet_20 rfl rfl ?_
    refine aw_getR axc9 9 rfl rfl wd_462 dX9_staysQuiet_21 h (fun a1 h => ?_)
    refine aw_bipush 10 dX9_staysQuiet_24 (by decide) ?_
    refine aw_iload_n 1 dX9_staysQuiet_26 rfl rfl ?_
    refine aw_iload_n 2 dX9_staysQuiet_27 rfl rfl ?_
    refine aw_iload 5 dX9_staysQuiet_28 rfl ?_
    refine aw_doneI (rest := [.int 10, .ref a1]) h (fun r9 S9 hF => aw_runS (As := [.int v1, .int v2, .int v5]) (rest := [.int 10, .ref a1]) (L1_X9_tensOf N hF) wd_1061 wd_1059 wd_1060 wd_87 pd_X9_tensOf.2 rfl (ax_rm (by omega) rfl) ax_hf0 (Nat.le_of_ble_eq_true rfl) rfl dX9_staysQuiet_30) (fun x3 T2 h => ?_)
    refine aw_imul dX9_staysQuiet_33 ?_
    obtain ⟨hL4, h⟩ := ax_is_spec h
    refine aw_doneI (rest := []) h (fun r9 S9 hF => aw_runV (As := [.int (10 * x3)]) (rest := []) (L1_X5_pays N hF) axc5 hL4 wd_887 wd_884 wd_885 wd_886 wd_93 pd_X5_pays rfl (ax_rm (by omega) rfl) ax_hf0 (Nat.le_of_ble_eq_true rfl) rfl dX9_staysQuiet_34) (fun x6 T5 h => ?_)
    refine aw_if_ne 42 dX9_staysQuiet_37 (by decide) h (fun h => ?_) (fun h => ?_)
    · refine aw_aload_n 0 dX9_staysQuiet_42 rfl rfl ?_
      refine aw_aload_n 0 dX9_staysQuiet_43 rfl rfl ?_
      refine aw_getR axc9 9 rfl rfl wd_462 dX9_staysQuiet_44 h (fun a7 h => ?_)
      refine aw_iconst 0 dX9_staysQuiet_47 rfl ?_
      obtain ⟨hL8, h⟩ := ax_is_spec h
      refine aw_doneI (rest := []) h (fun r9 S9 hF => aw_runV (As := [.ref a7, .int 0]) (rest := []) (L1_X9_passNight N hF) axc9 hL8 wd_908 wd_905 wd_907 wd_16 wd_87 pd_X9_passNight rfl (ax_rm (by omega) rfl) ax_hf0 (Nat.le_of_ble_eq_true rfl) rfl dX9_staysQuiet_48) (fun x10 T9 h => ?_)
      refine aw_istore [(6, .int x10), (0, .ref v0), (1, .int v1), (2, .int v2), (3, .int v3), (4, .int v4), (5, .int v5)] dX9_staysQuiet_51 rfl rfl ?_
      refine aw_iload 5 dX9_staysQuiet_53 rfl ?_
      refine aw_iload 6 dX9_staysQuiet_55 rfl ?_
      refine aw_ishr dX9_staysQuiet_57 ?_
      refine aw_iconst 1 dX9_staysQuiet_58 rfl ?_
      refine aw_iand dX9_staysQuiet_59 ?_
      refine aw_iconst 1 dX9_staysQuiet_60 rfl ?_
      refine aw_icmp_ne 72 dX9_staysQuiet_61 (by decide) h (fun h => ?_) (fun h => ?_)
      · refine aw_env [(0, .ref v0), (1, .int v1), (2, .int v2), (3, .int v3), (4, .int v4), (5, .int v5)] [1, 2, 3, 4, 5, 6] rfl ?_
        exact L1_X9_staysQuiet_72 N K14 hK14 v0 v1 v2 v3 v4 v5 T9 h
      · refine aw_iload 0 dX9_staysQuiet_64 rfl ?_
        refine aw_iload_n 4 dX9_staysQuiet_66 rfl rfl ?_
        refine aw_icmp_le 72 dX9_staysQuiet_67 (by decide) h (fun h => ?_) (fun h => ?_)
        · refine aw_env [(0, .ref v0), (1, .int v1), (2, .int v2), (3, .int v3), (4, .int v4), (5, .int v5)] [1, 2, 3, 4, 5, 6] rfl ?_
          exact L1_X9_staysQuiet_72 N K14 hK14 v0 v1 v2 v3 v4 v5 T9 h
        · refine aw_iconst 0 dX9_staysQuiet_70 rfl ?_
          exact aw_zret dX9_staysQuiet_71 rfl (Nat.le_refl _) (Nat.le_refl _) h
    · refine aw_iconst 0 dX9_staysQuiet_40 rfl ?_
      exact aw_zret dX9_staysQuiet_41 rfl (Nat.le_refl _) (Nat.le_refl _) h
theorem L1_X9_staysQuiet_14 {g : AxG} {l : Launch} {r9 : Int32} {S9 : AxS} (N : Nat)  : ∀ (n : Nat) (v0 : Nat) (v1 : Int32) (v2 : Int32) (v3 : Int32) (v4 : Int32) (v5 : Int32) (S : AxS), F_X9_staysQuiet_14 N  n v0 v1 v2 v3 v4 v5 S = some ((r9, S9)) → AW g l (axRm (5) 0 0) mt_X9_staysQuiet (axMQ g 0 0 (.inl (some (.int r9)), S9)) 0 0 S 14 [(0, .ref v0), (1, .int v1), (2, .int v2), (3, .int v3), (4, .int v4), (5, .int v5)] [] := by
  intro n
  induction n with
  | zero => intro v0 v1 v2 v3 v4 v5 S h; cases h
  | succ n ih => intro v0 v1 v2 v3 v4 v5 S h; exact L1_X9_staysQuiet_14b N (F_X9_staysQuiet_14 N  n) ih v0 v1 v2 v3 v4 v5 S h
theorem L1_X9_staysQuiet {g : AxG} {l : Launch} (N : Nat) {v0 : Nat} {v1 : Int32} {v2 : Int32} {v3 : Int32} {v4 : Int32} {S : AxS} {r9 : Int32} {S9 : AxS} (h : F_X9_staysQuiet N v0 v1 v2 v3 v4 S = some ((r9, S9))) : AxMet g l yX9_staysQuiet cX9_staysQuiet 7 (some .boolean) (5) 0 0 [.ref v0, .int v1, .int v2, .int v3, .int v4] S ((.inl (some (.int r9)), S9)) := by
  refine ax_met (own := RX9) (ini := false) (by decide +kernel) rfl (fun h => nomatch h) rfl ?_
  show AW g l (axRm (5) 0 0) mt_X9_staysQuiet (axMQ g 0 0 (.inl (some (.int r9)), S9)) 0 0 S 0 [(0, .ref v0), (1, .int v1), (2, .int v2), (3, .int v3), (4, .int v4)] []
  unfold F_X9_staysQuiet at h
  refine aw_aload_n 0 dX9_staysQuiet_0 rfl rfl ?_
  refine aw_getR axc9 9 rfl rfl wd_462 dX9_staysQuiet_1 h (fun a1 h => ?_)
  refine aw_aload_n 0 dX9_staysQuiet_4 rfl rfl ?_
  refine aw_getR axc9 8 rfl rfl wd_461 dX9_staysQuiet_5 h (fun a2 h => ?_)
  obtain ⟨hL3, h⟩ := ax_is_spec h
  refine aw_doneV (rest := []) h (fun S9 hF => aw_runV (As := [.ref a2]) (rest := []) (L1_X5_take N hF) axc5 hL3 wd_538 wd_583 wd_536 wd_537 wd_93 pd_X5_take rfl (ax_rm (by omega) rfl) ax_hf0 (Nat.le_of_ble_eq_true rfl) rfl dX9_staysQuiet_8) (fun T4 h => ?_)
  refine aw_iconst 0 dX9_staysQuiet_11 rfl ?_
  refine aw_istore [(5, .int 0), (0, .ref v0), (1, .int v1), (2, .int v2), (3, .int v3), (4, .int v4)] dX9_staysQuiet_12 rfl rfl ?_
  refine aw_env [(0, .ref v0), (1, .int v1), (2, .int v2), (3, .int v3), (4, .int v4), (5, .int 0)] [1, 2, 3, 4, 5, 0] rfl ?_
  exact L1_X9_staysQuiet_14 N  N v0 v1 v2 v3 v4 0 T4 h

theorem dX9_tensAsDigits_0 : decode cX9_tensAsDigits 0 = .ok (.iconst 0, 1) := by decide +kernel
theorem dX9_tensAsDigits_1 : decode cX9_tensAsDigits 1 = .ok (.istore_n 2, 1) := by decide +kernel
theorem dX9_tensAsDigits_2 : decode cX9_tensAsDigits 2 = .ok (.iconst 0, 1) := by decide +kernel
theorem dX9_tensAsDigits_3 : decode cX9_tensAsDigits 3 = .ok (.istore_n 3, 1) := by decide +kernel
theorem dX9_tensAsDigits_4 : decode cX9_tensAsDigits 4 = .ok (.iload_n 3, 1) := by decide +kernel
theorem dX9_tensAsDigits_5 : decode cX9_tensAsDigits 5 = .ok (.iload_n 1, 1) := by decide +kernel
theorem dX9_tensAsDigits_6 : decode cX9_tensAsDigits 6 = .ok (.if_icmp .ge 21, 3) := by decide +kernel
theorem dX9_tensAsDigits_9 : decode cX9_tensAsDigits 9 = .ok (.bipush 10, 2) := by decide +kernel
theorem dX9_tensAsDigits_11 : decode cX9_tensAsDigits 11 = .ok (.iload_n 2, 1) := by decide +kernel
theorem dX9_tensAsDigits_12 : decode cX9_tensAsDigits 12 = .ok (.imul, 1) := by decide +kernel
theorem dX9_tensAsDigits_13 : decode cX9_tensAsDigits 13 = .ok (.iload_n 0, 1) := by decide +kernel
theorem dX9_tensAsDigits_14 : decode cX9_tensAsDigits 14 = .ok (.iload_n 1, 1) := by decide +kernel
theorem dX9_tensAsDigits_15 : decode cX9_tensAsDigits 15 = .ok (.iload_n 3, 1) := by decide +kernel
theorem dX9_tensAsDigits_16 : decode cX9_tensAsDigits 16 = .ok (.invokestatic 426, 3) := by decide +kernel
theorem dX9_tensAsDigits_19 : decode cX9_tensAsDigits 19 = .ok (.iadd, 1) := by decide +kernel
theorem dX9_tensAsDigits_20 : decode cX9_tensAsDigits 20 = .ok (.istore_n 2, 1) := by decide +kernel
theorem dX9_tensAsDigits_21 : decode cX9_tensAsDigits 21 = .ok (.iinc 3 1, 3) := by decide +kernel
theorem dX9_tensAsDigits_24 : decode cX9_tensAsDigits 24 = .ok (.goto (-20), 3) := by decide +kernel
theorem dX9_tensAsDigits_27 : decode cX9_tensAsDigits 27 = .ok (.iload_n 2, 1) := by decide +kernel
theorem dX9_tensAsDigits_28 : decode cX9_tensAsDigits 28 = .ok (.ireturn, 1) := by decide +kernel
abbrev mt_X9_tensAsDigits : AxM := (RX9, cX9_tensAsDigits, 4, (some .int), false, [])
theorem L1_X9_tensAsDigits_4b {g : AxG} {l : Launch} {r9 : Int32} {S9 : AxS} (N : Nat) (K4 : Int32 → Int32 → Int32 → Int32 → AxS → Option (Int32 × AxS)) (hK4 : ∀ (v0 : Int32) (v1 : Int32) (v2 : Int32) (v3 : Int32) (S : AxS), K4 v0 v1 v2 v3 S = some ((r9, S9)) → AW g l (axRm (1) 0 0) mt_X9_tensAsDigits (axMQ g 0 0 (.inl (some (.int r9)), S9)) 0 0 S 4 [(0, .int v0), (1, .int v1), (2, .int v2), (3, .int v3)] []) (v0 : Int32) (v1 : Int32) (v2 : Int32) (v3 : Int32) (S : AxS) (h : F_X9_tensAsDigits_4b N K4 v0 v1 v2 v3 S = some ((r9, S9))) : AW g l (axRm (1) 0 0) mt_X9_tensAsDigits (axMQ g 0 0 (.inl (some (.int r9)), S9)) 0 0 S 4 [(0, .int v0), (1, .int v1), (2, .int v2), (3, .int v3)] [] := by
  unfold F_X9_tensAsDigits_4b at h
  refine aw_iload_n 3 dX9_tensAsDigits_4 rfl rfl ?_
  refine aw_iload_n 1 dX9_tensAsDigits_5 rfl rfl ?_
  refine aw_icmp_ge 27 dX9_tensAsDigits_6 (by decide) h (fun h => ?_) (fun h => ?_)
  · refine aw_iload_n 2 dX9_tensAsDigits_27 rfl rfl ?_
    exact aw_iret dX9_tensAsDigits_28 rfl (Nat.le_refl _) (Nat.le_refl _) h
  · refine aw_bipush 10 dX9_tensAsDigits_9 (by decide) ?_
    refine aw_iload_n 2 dX9_tensAsDigits_11 rfl rfl ?_
    refine aw_imul dX9_tensAsDigits_12 ?_
    refine aw_iload_n 0 dX9_tensAsDigits_13 rfl rfl ?_
    refine aw_iload_n 1 dX9_tensAsDigits_14 rfl rfl ?_
    refine aw_iload_n 3 dX9_tensAsDigits_15 rfl rfl ?_
    refine aw_doneI (rest := [.int (10 * v2)]) h (fun r9 S9 hF => aw_runS (As := [.int v0, .int v1, .int v3]) (rest := [.int (10 * v2)]) (L1_X9_tensOf N hF) wd_1061 wd_1059 wd_1060 wd_87 pd_X9_tensOf.2 rfl (ax_rm (by omega) rfl) ax_hf0 (Nat.le_of_ble_eq_true rfl) rfl dX9_tensAsDigits_16) (fun x2 T1 h => ?_)
    refine aw_iadd dX9_tensAsDigits_19 ?_
    refine aw_istore_n 2 [(2, .int ((10 * v2) + x2)), (0, .int v0), (1, .int v1), (3, .int v3)] dX9_tensAsDigits_20 rfl rfl rfl ?_
    refine aw_iinc 3 [(3, .int (v3 + 1)), (2, .int ((10 * v2) + x2)), (0, .int v0), (1, .int v1)] (v3 + 1) dX9_tensAsDigits_21 rfl rfl rfl rfl ?_
    refine aw_goto 4 dX9_tensAsDigits_24 (by decide) ?_
    refine aw_env [(0, .int v0), (1, .int v1), (2, .int ((10 * v2) + x2)), (3, .int (v3 + 1))] [2, 3, 1, 0] rfl ?_
    exact hK4 v0 v1 ((10 * v2) + x2) (v3 + 1) T1 h
theorem L1_X9_tensAsDigits_4 {g : AxG} {l : Launch} {r9 : Int32} {S9 : AxS} (N : Nat)  : ∀ (n : Nat) (v0 : Int32) (v1 : Int32) (v2 : Int32) (v3 : Int32) (S : AxS), F_X9_tensAsDigits_4 N  n v0 v1 v2 v3 S = some ((r9, S9)) → AW g l (axRm (1) 0 0) mt_X9_tensAsDigits (axMQ g 0 0 (.inl (some (.int r9)), S9)) 0 0 S 4 [(0, .int v0), (1, .int v1), (2, .int v2), (3, .int v3)] [] := by
  intro n
  induction n with
  | zero => intro v0 v1 v2 v3 S h; cases h
  | succ n ih => intro v0 v1 v2 v3 S h; exact L1_X9_tensAsDigits_4b N (F_X9_tensAsDigits_4 N  n) ih v0 v1 v2 v3 S h
theorem L1_X9_tensAsDigits {g : AxG} {l : Launch} (N : Nat) {v0 : Int32} {v1 : Int32} {S : AxS} {r9 : Int32} {S9 : AxS} (h : F_X9_tensAsDigits N v0 v1 S = some ((r9, S9))) : AxMet g l yX9_tensAsDigits cX9_tensAsDigits 4 (some .int) (1) 0 0 [.int v0, .int v1] S ((.inl (some (.int r9)), S9)) := by
  refine ax_met (own := RX9) (ini := false) (by decide +kernel) rfl (fun h => nomatch h) rfl ?_
  show AW g l (axRm (1) 0 0) mt_X9_tensAsDigits (axMQ g 0 0 (.inl (some (.int r9)), S9)) 0 0 S 0 [(0, .int v0), (1, .int v1)] []
  unfold F_X9_tensAsDigits at h
  refine aw_iconst 0 dX9_tensAsDigits_0 rfl ?_
  refine aw_istore_n 2 [(2, .int 0), (0, .int v0), (1, .int v1)] dX9_tensAsDigits_1 rfl rfl rfl ?_
  refine aw_iconst 0 dX9_tensAsDigits_2 rfl ?_
  refine aw_istore_n 3 [(3, .int 0), (2, .int 0), (0, .int v0), (1, .int v1)] dX9_tensAsDigits_3 rfl rfl rfl ?_
  refine aw_env [(0, .int v0), (1, .int v1), (2, .int 0), (3, .int 0)] [2, 3, 1, 0] rfl ?_
  exact L1_X9_tensAsDigits_4 N  N v0 v1 0 0 S h

theorem dX9_plan_0 : decode cX9_plan 0 = .ok (.aload_n 0, 1) := by decide +kernel
theorem dX9_plan_1 : decode cX9_plan 1 = .ok (.iload_n 1, 1) := by decide +kernel
theorem dX9_plan_2 : decode cX9_plan 2 = .ok (.ifCond .lt 23, 3) := by decide +kernel
theorem dX9_plan_5 : decode cX9_plan 5 = .ok (.iload_n 1, 1) := by decide +kernel
theorem dX9_plan_6 : decode cX9_plan 6 = .ok (.iconst 5, 1) := by decide +kernel
theorem dX9_plan_7 : decode cX9_plan 7 = .ok (.if_icmp .gt 18, 3) := by decide +kernel
theorem dX9_plan_10 : decode cX9_plan 10 = .ok (.iload_n 2, 1) := by decide +kernel
theorem dX9_plan_11 : decode cX9_plan 11 = .ok (.ifCond .lt 14, 3) := by decide +kernel
theorem dX9_plan_14 : decode cX9_plan 14 = .ok (.iload_n 2, 1) := by decide +kernel
theorem dX9_plan_15 : decode cX9_plan 15 = .ok (.sipush 999, 3) := by decide +kernel
theorem dX9_plan_18 : decode cX9_plan 18 = .ok (.if_icmp .gt 7, 3) := by decide +kernel
theorem dX9_plan_21 : decode cX9_plan 21 = .ok (.iconst 1, 1) := by decide +kernel
theorem dX9_plan_22 : decode cX9_plan 22 = .ok (.goto 4, 3) := by decide +kernel
theorem dX9_plan_25 : decode cX9_plan 25 = .ok (.iconst 0, 1) := by decide +kernel
theorem dX9_plan_26 : decode cX9_plan 26 = .ok (.invokevirtual 128, 3) := by decide +kernel
theorem dX9_plan_29 : decode cX9_plan 29 = .ok (.aload_n 0, 1) := by decide +kernel
theorem dX9_plan_30 : decode cX9_plan 30 = .ok (.iload_n 3, 1) := by decide +kernel
theorem dX9_plan_31 : decode cX9_plan 31 = .ok (.ifCond .lt 25, 3) := by decide +kernel
theorem dX9_plan_34 : decode cX9_plan 34 = .ok (.iload_n 3, 1) := by decide +kernel
theorem dX9_plan_35 : decode cX9_plan 35 = .ok (.iconst 1, 1) := by decide +kernel
theorem dX9_plan_36 : decode cX9_plan 36 = .ok (.iload_n 1, 1) := by decide +kernel
theorem dX9_plan_37 : decode cX9_plan 37 = .ok (.ishl, 1) := by decide +kernel
theorem dX9_plan_38 : decode cX9_plan 38 = .ok (.if_icmp .ge 18, 3) := by decide +kernel
theorem dX9_plan_41 : decode cX9_plan 41 = .ok (.iload 4, 2) := by decide +kernel
theorem dX9_plan_43 : decode cX9_plan 43 = .ok (.ifCond .lt 13, 3) := by decide +kernel
theorem dX9_plan_46 : decode cX9_plan 46 = .ok (.iload 4, 2) := by decide +kernel
theorem dX9_plan_48 : decode cX9_plan 48 = .ok (.iconst 1, 1) := by decide +kernel
theorem dX9_plan_49 : decode cX9_plan 49 = .ok (.if_icmp .gt 7, 3) := by decide +kernel
theorem dX9_plan_52 : decode cX9_plan 52 = .ok (.iconst 1, 1) := by decide +kernel
theorem dX9_plan_53 : decode cX9_plan 53 = .ok (.goto 4, 3) := by decide +kernel
theorem dX9_plan_56 : decode cX9_plan 56 = .ok (.iconst 0, 1) := by decide +kernel
theorem dX9_plan_57 : decode cX9_plan 57 = .ok (.invokevirtual 128, 3) := by decide +kernel
theorem dX9_plan_60 : decode cX9_plan 60 = .ok (.iconst (-1), 1) := by decide +kernel
theorem dX9_plan_61 : decode cX9_plan 61 = .ok (.istore 5, 2) := by decide +kernel
theorem dX9_plan_63 : decode cX9_plan 63 = .ok (.iconst 0, 1) := by decide +kernel
theorem dX9_plan_64 : decode cX9_plan 64 = .ok (.istore 6, 2) := by decide +kernel
theorem dX9_plan_66 : decode cX9_plan 66 = .ok (.iconst 0, 1) := by decide +kernel
theorem dX9_plan_67 : decode cX9_plan 67 = .ok (.istore 7, 2) := by decide +kernel
theorem dX9_plan_69 : decode cX9_plan 69 = .ok (.iload 7, 2) := by decide +kernel
theorem dX9_plan_71 : decode cX9_plan 71 = .ok (.iconst 1, 1) := by decide +kernel
theorem dX9_plan_72 : decode cX9_plan 72 = .ok (.iconst 2, 1) := by decide +kernel
theorem dX9_plan_73 : decode cX9_plan 73 = .ok (.iload_n 1, 1) := by decide +kernel
theorem dX9_plan_74 : decode cX9_plan 74 = .ok (.imul, 1) := by decide +kernel
theorem dX9_plan_75 : decode cX9_plan 75 = .ok (.ishl, 1) := by decide +kernel
theorem dX9_plan_76 : decode cX9_plan 76 = .ok (.if_icmp .ge 50, 3) := by decide +kernel
theorem dX9_plan_79 : decode cX9_plan 79 = .ok (.iload 7, 2) := by decide +kernel
theorem dX9_plan_81 : decode cX9_plan 81 = .ok (.iload_n 1, 1) := by decide +kernel
theorem dX9_plan_82 : decode cX9_plan 82 = .ok (.invokestatic 272, 3) := by decide +kernel
theorem dX9_plan_85 : decode cX9_plan 85 = .ok (.istore 8, 2) := by decide +kernel
theorem dX9_plan_87 : decode cX9_plan 87 = .ok (.iload 5, 2) := by decide +kernel
theorem dX9_plan_89 : decode cX9_plan 89 = .ok (.iconst (-1), 1) := by decide +kernel
theorem dX9_plan_90 : decode cX9_plan 90 = .ok (.if_icmp .eq 10, 3) := by decide +kernel
theorem dX9_plan_93 : decode cX9_plan 93 = .ok (.iload 8, 2) := by decide +kernel
theorem dX9_plan_95 : decode cX9_plan 95 = .ok (.iload 5, 2) := by decide +kernel
theorem dX9_plan_97 : decode cX9_plan 97 = .ok (.if_icmp .ge 23, 3) := by decide +kernel
theorem dX9_plan_100 : decode cX9_plan 100 = .ok (.aload_n 0, 1) := by decide +kernel
theorem dX9_plan_101 : decode cX9_plan 101 = .ok (.iload 7, 2) := by decide +kernel
theorem dX9_plan_103 : decode cX9_plan 103 = .ok (.iload_n 1, 1) := by decide +kernel
theorem dX9_plan_104 : decode cX9_plan 104 = .ok (.iload_n 2, 1) := by decide +kernel
theorem dX9_plan_105 : decode cX9_plan 105 = .ok (.iload_n 3, 1) := by decide +kernel
theorem dX9_plan_106 : decode cX9_plan 106 = .ok (.invokevirtual 275, 3) := by decide +kernel
theorem dX9_plan_109 : decode cX9_plan 109 = .ok (.ifCond .eq 11, 3) := by decide +kernel
theorem dX9_plan_112 : decode cX9_plan 112 = .ok (.iload 8, 2) := by decide +kernel
theorem dX9_plan_114 : decode cX9_plan 114 = .ok (.istore 5, 2) := by decide +kernel
theorem dX9_plan_116 : decode cX9_plan 116 = .ok (.iload 7, 2) := by decide +kernel
theorem dX9_plan_118 : decode cX9_plan 118 = .ok (.istore 6, 2) := by decide +kernel
theorem dX9_plan_120 : decode cX9_plan 120 = .ok (.iinc 7 1, 3) := by decide +kernel
theorem dX9_plan_123 : decode cX9_plan 123 = .ok (.goto (-54), 3) := by decide +kernel
theorem dX9_plan_126 : decode cX9_plan 126 = .ok (.iload 5, 2) := by decide +kernel
theorem dX9_plan_128 : decode cX9_plan 128 = .ok (.iconst (-1), 1) := by decide +kernel
theorem dX9_plan_129 : decode cX9_plan 129 = .ok (.if_icmp .ne 5, 3) := by decide +kernel
theorem dX9_plan_132 : decode cX9_plan 132 = .ok (.iconst (-1), 1) := by decide +kernel
theorem dX9_plan_133 : decode cX9_plan 133 = .ok (.ireturn, 1) := by decide +kernel
theorem dX9_plan_134 : decode cX9_plan 134 = .ok (.iload 4, 2) := by decide +kernel
theorem dX9_plan_136 : decode cX9_plan 136 = .ok (.ifCond .ne 11, 3) := by decide +kernel
theorem dX9_plan_139 : decode cX9_plan 139 = .ok (.bipush 10, 2) := by decide +kernel
theorem dX9_plan_141 : decode cX9_plan 141 = .ok (.iload 5, 2) := by decide +kernel
theorem dX9_plan_143 : decode cX9_plan 143 = .ok (.imul, 1) := by decide +kernel
theorem dX9_plan_144 : decode cX9_plan 144 = .ok (.goto 9, 3) := by decide +kernel
theorem dX9_plan_147 : decode cX9_plan 147 = .ok (.iload 6, 2) := by decide +kernel
theorem dX9_plan_149 : decode cX9_plan 149 = .ok (.iload_n 1, 1) := by decide +kernel
theorem dX9_plan_150 : decode cX9_plan 150 = .ok (.invokestatic 279, 3) := by decide +kernel
theorem dX9_plan_153 : decode cX9_plan 153 = .ok (.ireturn, 1) := by decide +kernel
abbrev mt_X9_plan : AxM := (RX9, cX9_plan, 9, (some .int), false, [])
theorem L1_X9_plan_120 {g : AxG} {l : Launch} (hl0 : l.stackTraces = false) {res : AxT Int32} (N : Nat) (K69 : Nat → Int32 → Int32 → Int32 → Int32 → Int32 → Int32 → Int32 → AxS → Option (AxT Int32)) (hK69 : ∀ (v0 : Nat) (v1 : Int32) (v2 : Int32) (v3 : Int32) (v4 : Int32) (v5 : Int32) (v6 : Int32) (v7 : Int32) (S : AxS), K69 v0 v1 v2 v3 v4 v5 v6 v7 S = some res → AW g l (axRm (9) (axCs (axOI res)) (6 * axCs (axOI res))) mt_X9_plan (axMQ g (axCs (axOI res)) (6 * axCs (axOI res)) (axOI res)) 0 0 S 69 [(0, .ref v0), (1, .int v1), (2, .int v2), (3, .int v3), (4, .int v4), (5, .int v5), (6, .int v6), (7, .int v7)] []) (v0 : Nat) (v1 : Int32) (v2 : Int32) (v3 : Int32) (v4 : Int32) (v5 : Int32) (v6 : Int32) (v7 : Int32) (S : AxS) (h : F_X9_plan_120 N K69 v0 v1 v2 v3 v4 v5 v6 v7 S = some res) : AW g l (axRm (9) (axCs (axOI res)) (6 * axCs (axOI res))) mt_X9_plan (axMQ g (axCs (axOI res)) (6 * axCs (axOI res)) (axOI res)) 0 0 S 120 [(0, .ref v0), (1, .int v1), (2, .int v2), (3, .int v3), (4, .int v4), (5, .int v5), (6, .int v6), (7, .int v7)] [] := by
  unfold F_X9_plan_120 at h
  refine aw_iinc 7 [(7, .int (v7 + 1)), (0, .ref v0), (1, .int v1), (2, .int v2), (3, .int v3), (4, .int v4), (5, .int v5), (6, .int v6)] (v7 + 1) dX9_plan_120 rfl rfl rfl rfl ?_
  refine aw_goto 69 dX9_plan_123 (by decide) ?_
  refine aw_env [(0, .ref v0), (1, .int v1), (2, .int v2), (3, .int v3), (4, .int v4), (5, .int v5), (6, .int v6), (7, .int (v7 + 1))] [1, 2, 3, 4, 5, 6, 7, 0] rfl ?_
  exact hK69 v0 v1 v2 v3 v4 v5 v6 (v7 + 1) S h
theorem L1_X9_plan_100 {g : AxG} {l : Launch} (hl0 : l.stackTraces = false) {res : AxT Int32} (N : Nat) (K69 : Nat → Int32 → Int32 → Int32 → Int32 → Int32 → Int32 → Int32 → AxS → Option (AxT Int32)) (hK69 : ∀ (v0 : Nat) (v1 : Int32) (v2 : Int32) (v3 : Int32) (v4 : Int32) (v5 : Int32) (v6 : Int32) (v7 : Int32) (S : AxS), K69 v0 v1 v2 v3 v4 v5 v6 v7 S = some res → AW g l (axRm (9) (axCs (axOI res)) (6 * axCs (axOI res))) mt_X9_plan (axMQ g (axCs (axOI res)) (6 * axCs (axOI res)) (axOI res)) 0 0 S 69 [(0, .ref v0), (1, .int v1), (2, .int v2), (3, .int v3), (4, .int v4), (5, .int v5), (6, .int v6), (7, .int v7)] []) (v0 : Nat) (v1 : Int32) (v2 : Int32) (v3 : Int32) (v4 : Int32) (v5 : Int32) (v6 : Int32) (v7 : Int32) (v8 : Int32) (S : AxS) (h : F_X9_plan_100 N K69 v0 v1 v2 v3 v4 v5 v6 v7 v8 S = some res) : AW g l (axRm (9) (axCs (axOI res)) (6 * axCs (axOI res))) mt_X9_plan (axMQ g (axCs (axOI res)) (6 * axCs (axOI res)) (axOI res)) 0 0 S 100 [(0, .ref v0), (1, .int v1), (2, .int v2), (3, .int v3), (4, .int v4), (5, .int v5), (6, .int v6), (7, .int v7), (8, .int v8)] [] := by
  unfold F_X9_plan_100 at h
  refine aw_aload_n 0 dX9_plan_100 rfl rfl ?_
  refine aw_iload 7 dX9_plan_101 rfl ?_
  refine aw_iload_n 1 dX9_plan_103 rfl rfl ?_
  refine aw_iload_n 2 dX9_plan_104 rfl rfl ?_
  refine aw_iload_n 3 dX9_plan_105 rfl rfl ?_
  obtain ⟨hL1, h⟩ := ax_is_spec h
  refine aw_doneI (rest := []) h (fun r9 S9 hF => aw_runV (As := [.int v7, .int v1, .int v2, .int v3]) (rest := []) (L1_X9_staysQuiet N hF) axc9 hL1 wd_1065 wd_1062 wd_1064 wd_21 wd_87 pd_X9_staysQuiet rfl (ax_rm (by omega) rfl) ax_hf0 (Nat.le_of_ble_eq_true rfl) rfl dX9_plan_106) (fun x3 T2 h => ?_)
  refine aw_if_eq 120 dX9_plan_109 (by decide) h (fun h => ?_) (fun h => ?_)
  · refine aw_env [(0, .ref v0), (1, .int v1), (2, .int v2), (3, .int v3), (4, .int v4), (5, .int v5), (6, .int v6), (7, .int v7)] [0, 1, 2, 3, 4, 5, 6, 7] rfl ?_
    exact L1_X9_plan_120 hl0 N K69 hK69 v0 v1 v2 v3 v4 v5 v6 v7 T2 h
  · refine aw_iload 8 dX9_plan_112 rfl ?_
    refine aw_istore [(5, .int v8), (0, .ref v0), (1, .int v1), (2, .int v2), (3, .int v3), (4, .int v4), (6, .int v6), (7, .int v7), (8, .int v8)] dX9_plan_114 rfl rfl ?_
    refine aw_iload 7 dX9_plan_116 rfl ?_
    refine aw_istore [(6, .int v7), (5, .int v8), (0, .ref v0), (1, .int v1), (2, .int v2), (3, .int v3), (4, .int v4), (7, .int v7), (8, .int v8)] dX9_plan_118 rfl rfl ?_
    refine aw_env [(0, .ref v0), (1, .int v1), (2, .int v2), (3, .int v3), (4, .int v4), (5, .int v8), (6, .int v7), (7, .int v7)] [2, 3, 4, 5, 6, 1, 0, 7] rfl ?_
    exact L1_X9_plan_120 hl0 N K69 hK69 v0 v1 v2 v3 v4 v8 v7 v7 T2 h
theorem L1_X9_plan_69b {g : AxG} {l : Launch} (hl0 : l.stackTraces = false) {res : AxT Int32} (N : Nat) (K69 : Nat → Int32 → Int32 → Int32 → Int32 → Int32 → Int32 → Int32 → AxS → Option (AxT Int32)) (hK69 : ∀ (v0 : Nat) (v1 : Int32) (v2 : Int32) (v3 : Int32) (v4 : Int32) (v5 : Int32) (v6 : Int32) (v7 : Int32) (S : AxS), K69 v0 v1 v2 v3 v4 v5 v6 v7 S = some res → AW g l (axRm (9) (axCs (axOI res)) (6 * axCs (axOI res))) mt_X9_plan (axMQ g (axCs (axOI res)) (6 * axCs (axOI res)) (axOI res)) 0 0 S 69 [(0, .ref v0), (1, .int v1), (2, .int v2), (3, .int v3), (4, .int v4), (5, .int v5), (6, .int v6), (7, .int v7)] []) (v0 : Nat) (v1 : Int32) (v2 : Int32) (v3 : Int32) (v4 : Int32) (v5 : Int32) (v6 : Int32) (v7 : Int32) (S : AxS) (h : F_X9_plan_69b N K69 v0 v1 v2 v3 v4 v5 v6 v7 S = some res) : AW g l (axRm (9) (axCs (axOI res)) (6 * axCs (axOI res))) mt_X9_plan (axMQ g (axCs (axOI res)) (6 * axCs (axOI res)) (axOI res)) 0 0 S 69 [(0, .ref v0), (1, .int v1), (2, .int v2), (3, .int v3), (4, .int v4), (5, .int v5), (6, .int v6), (7, .int v7)] [] := by
  unfold F_X9_plan_69b at h
  refine aw_iload 7 dX9_plan_69 rfl ?_
  refine aw_iconst 1 dX9_plan_71 rfl ?_
  refine aw_iconst 2 dX9_plan_72 rfl ?_
  refine aw_iload_n 1 dX9_plan_73 rfl rfl ?_
  refine aw_imul dX9_plan_74 ?_
  refine aw_ishl dX9_plan_75 ?_
  refine aw_icmp_ge 126 dX9_plan_76 (by decide) h (fun h => ?_) (fun h => ?_)
  · refine aw_iload 5 dX9_plan_126 rfl ?_
    refine aw_iconst (-1) dX9_plan_128 rfl ?_
    refine aw_icmp_ne 134 dX9_plan_129 (by decide) h (fun h => ?_) (fun h => ?_)
    · refine aw_iload 4 dX9_plan_134 rfl ?_
      refine aw_if_ne 147 dX9_plan_136 (by decide) h (fun h => ?_) (fun h => ?_)
      · refine aw_iload 6 dX9_plan_147 rfl ?_
        refine aw_iload_n 1 dX9_plan_149 rfl rfl ?_
        refine aw_doneI (rest := []) h (fun r9 S9 hF => aw_runS (As := [.int v6, .int v1]) (rest := []) (L1_X9_tensAsDigits N hF) wd_1068 wd_1066 wd_1067 wd_87 pd_X9_tensAsDigits.2 rfl (ax_rm (by omega) rfl) ax_hf0 (Nat.le_of_ble_eq_true rfl) rfl dX9_plan_150) (fun x2 T1 h => ?_)
        exact aw_iretT dX9_plan_153 rfl h
      · refine aw_bipush 10 dX9_plan_139 (by decide) ?_
        refine aw_iload 5 dX9_plan_141 rfl ?_
        refine aw_imul dX9_plan_143 ?_
        refine aw_goto 153 dX9_plan_144 (by decide) ?_
        exact aw_iretT dX9_plan_153 rfl h
    · refine aw_iconst (-1) dX9_plan_132 rfl ?_
      exact aw_iretT dX9_plan_133 rfl h
  · refine aw_iload 7 dX9_plan_79 rfl ?_
    refine aw_iload_n 1 dX9_plan_81 rfl rfl ?_
    refine aw_doneI (rest := []) h (fun r9 S9 hF => aw_runS (As := [.int v7, .int v1]) (rest := []) (L1_X9_tensTogether N hF) wd_1058 wd_1056 wd_1057 wd_87 pd_X9_tensTogether.2 rfl (ax_rm (by omega) rfl) ax_hf0 (Nat.le_of_ble_eq_true rfl) rfl dX9_plan_82) (fun x4 T3 h => ?_)
    refine aw_istore [(8, .int x4), (0, .ref v0), (1, .int v1), (2, .int v2), (3, .int v3), (4, .int v4), (5, .int v5), (6, .int v6), (7, .int v7)] dX9_plan_85 rfl rfl ?_
    refine aw_iload 6 dX9_plan_87 rfl ?_
    refine aw_iconst (-1) dX9_plan_89 rfl ?_
    refine aw_icmp_eq 100 dX9_plan_90 (by decide) h (fun h => ?_) (fun h => ?_)
    · refine aw_env [(0, .ref v0), (1, .int v1), (2, .int v2), (3, .int v3), (4, .int v4), (5, .int v5), (6, .int v6), (7, .int v7), (8, .int x4)] [1, 2, 3, 4, 5, 6, 7, 8, 0] rfl ?_
      exact L1_X9_plan_100 hl0 N K69 hK69 v0 v1 v2 v3 v4 v5 v6 v7 x4 T3 h
    · refine aw_iload 0 dX9_plan_93 rfl ?_
      refine aw_iload 6 dX9_plan_95 rfl ?_
      refine aw_icmp_ge 120 dX9_plan_97 (by decide) h (fun h => ?_) (fun h => ?_)
      · refine aw_env [(0, .ref v0), (1, .int v1), (2, .int v2), (3, .int v3), (4, .int v4), (5, .int v5), (6, .int v6), (7, .int v7)] [1, 2, 3, 4, 5, 6, 7, 8] rfl ?_
        exact L1_X9_plan_120 hl0 N K69 hK69 v0 v1 v2 v3 v4 v5 v6 v7 T3 h
      · refine aw_env [(0, .ref v0), (1, .int v1), (2, .int v2), (3, .int v3), (4, .int v4), (5, .int v5), (6, .int v6), (7, .int v7), (8, .int x4)] [1, 2, 3, 4, 5, 6, 7, 8, 0] rfl ?_
        exact L1_X9_plan_100 hl0 N K69 hK69 v0 v1 v2 v3 v4 v5 v6 v7 x4 T3 h
theorem L1_X9_plan_69 {g : AxG} {l : Launch} (hl0 : l.stackTraces = false) {res : AxT Int32} (N : Nat)  : ∀ (n : Nat) (v0 : Nat) (v1 : Int32) (v2 : Int32) (v3 : Int32) (v4 : Int32) (v5 : Int32) (v6 : Int32) (v7 : Int32) (S : AxS), F_X9_plan_69 N  n v0 v1 v2 v3 v4 v5 v6 v7 S = some res → AW g l (axRm (9) (axCs (axOI res)) (6 * axCs (axOI res))) mt_X9_plan (axMQ g (axCs (axOI res)) (6 * axCs (axOI res)) (axOI res)) 0 0 S 69 [(0, .ref v0), (1, .int v1), (2, .int v2), (3, .int v3), (4, .int v4), (5, .int v5), (6, .int v6), (7, .int v7)] [] := by
  intro n
  induction n with
  | zero => intro v0 v1 v2 v3 v4 v5 v6 v7 S h; cases h
  | succ n ih => intro v0 v1 v2 v3 v4 v5 v6 v7 S h; exact L1_X9_plan_69b hl0 N (F_X9_plan_69 N  n) ih v0 v1 v2 v3 v4 v5 v6 v7 S h
theorem L1_X9_plan_57 {g : AxG} {l : Launch} (hl0 : l.stackTraces = false) {res : AxT Int32} (N : Nat)  (v0 : Nat) (v1 : Int32) (v2 : Int32) (v3 : Int32) (v4 : Int32) (w0 : Int32) (w1 : Nat) (S : AxS) (h : F_X9_plan_57 N  v0 v1 v2 v3 v4 w0 w1 S = some res) : AW g l (axRm (9) (axCs (axOI res)) (6 * axCs (axOI res))) mt_X9_plan (axMQ g (axCs (axOI res)) (6 * axCs (axOI res)) (axOI res)) 0 0 S 57 [(0, .ref v0), (1, .int v1), (2, .int v2), (3, .int v3), (4, .int v4)] [.int w0, .ref w1] := by
  unfold F_X9_plan_57 at h
  obtain ⟨hL1, h⟩ := ax_is_spec h
  refine aw_thV (ob := axOI) (rest := []) (fun _ _ => rfl) rfl h (fun u9 hF hu => aw_runV (As := [.int w0]) (rest := []) (L1_X9_needArgument hl0 N hF) axc9 hL1 wd_604 wd_601 wd_603 wd_3 wd_87 pd_X9_needArgument rfl (ax_rm (by omega) rfl) (ax_hfV (fun _ _ => rfl) hu) (Nat.le_of_ble_eq_true rfl) rfl dX9_plan_57) (fun T2 h => ?_)
  refine aw_iconst (-1) dX9_plan_60 rfl ?_
  refine aw_istore [(5, .int ((-1))), (0, .ref v0), (1, .int v1), (2, .int v2), (3, .int v3), (4, .int v4)] dX9_plan_61 rfl rfl ?_
  refine aw_iconst 0 dX9_plan_63 rfl ?_
  refine aw_istore [(6, .int 0), (5, .int ((-1))), (0, .ref v0), (1, .int v1), (2, .int v2), (3, .int v3), (4, .int v4)] dX9_plan_64 rfl rfl ?_
  refine aw_iconst 0 dX9_plan_66 rfl ?_
  refine aw_istore [(7, .int 0), (6, .int 0), (5, .int ((-1))), (0, .ref v0), (1, .int v1), (2, .int v2), (3, .int v3), (4, .int v4)] dX9_plan_67 rfl rfl ?_
  refine aw_env [(0, .ref v0), (1, .int v1), (2, .int v2), (3, .int v3), (4, .int v4), (5, .int ((-1))), (6, .int 0), (7, .int 0)] [3, 4, 5, 6, 7, 2, 1, 0] rfl ?_
  exact L1_X9_plan_69 hl0 N  N v0 v1 v2 v3 v4 ((-1)) 0 0 T2 h
theorem L1_X9_plan_56 {g : AxG} {l : Launch} (hl0 : l.stackTraces = false) {res : AxT Int32} (N : Nat)  (v0 : Nat) (v1 : Int32) (v2 : Int32) (v3 : Int32) (v4 : Int32) (w0 : Nat) (S : AxS) (h : F_X9_plan_56 N  v0 v1 v2 v3 v4 w0 S = some res) : AW g l (axRm (9) (axCs (axOI res)) (6 * axCs (axOI res))) mt_X9_plan (axMQ g (axCs (axOI res)) (6 * axCs (axOI res)) (axOI res)) 0 0 S 56 [(0, .ref v0), (1, .int v1), (2, .int v2), (3, .int v3), (4, .int v4)] [.ref w0] := by
  unfold F_X9_plan_56 at h
  refine aw_iconst 0 dX9_plan_56 rfl ?_
  refine aw_env [(0, .ref v0), (1, .int v1), (2, .int v2), (3, .int v3), (4, .int v4)] [0, 1, 2, 3, 4] rfl ?_
  exact L1_X9_plan_57 hl0 N  v0 v1 v2 v3 v4 0 w0 S h
theorem L1_X9_plan_26 {g : AxG} {l : Launch} (hl0 : l.stackTraces = false) {res : AxT Int32} (N : Nat)  (v0 : Nat) (v1 : Int32) (v2 : Int32) (v3 : Int32) (v4 : Int32) (w0 : Int32) (w1 : Nat) (S : AxS) (h : F_X9_plan_26 N  v0 v1 v2 v3 v4 w0 w1 S = some res) : AW g l (axRm (9) (axCs (axOI res)) (6 * axCs (axOI res))) mt_X9_plan (axMQ g (axCs (axOI res)) (6 * axCs (axOI res)) (axOI res)) 0 0 S 26 [(0, .ref v0), (1, .int v1), (2, .int v2), (3, .int v3), (4, .int v4)] [.int w0, .ref w1] := by
  unfold F_X9_plan_26 at h
  obtain ⟨hL1, h⟩ := ax_is_spec h
  refine aw_thV (ob := axOI) (rest := []) (fun _ _ => rfl) rfl h (fun u9 hF hu => aw_runV (As := [.int w0]) (rest := []) (L1_X9_needArgument hl0 N hF) axc9 hL1 wd_604 wd_601 wd_603 wd_3 wd_87 pd_X9_needArgument rfl (ax_rm (by omega) rfl) (ax_hfV (fun _ _ => rfl) hu) (Nat.le_of_ble_eq_true rfl) rfl dX9_plan_26) (fun T2 h => ?_)
  refine aw_aload_n 0 dX9_plan_29 rfl rfl ?_
  refine aw_iload_n 3 dX9_plan_30 rfl rfl ?_
  refine aw_if_lt 56 dX9_plan_31 (by decide) h (fun h => ?_) (fun h => ?_)
  · refine aw_env [(0, .ref v0), (1, .int v1), (2, .int v2), (3, .int v3), (4, .int v4)] [0, 1, 2, 3, 4] rfl ?_
    exact L1_X9_plan_56 hl0 N  v0 v1 v2 v3 v4 v0 T2 h
  · refine aw_iload_n 3 dX9_plan_34 rfl rfl ?_
    refine aw_iconst 1 dX9_plan_35 rfl ?_
    refine aw_iload_n 1 dX9_plan_36 rfl rfl ?_
    refine aw_ishl dX9_plan_37 ?_
    refine aw_icmp_ge 56 dX9_plan_38 (by decide) h (fun h => ?_) (fun h => ?_)
    · refine aw_env [(0, .ref v0), (1, .int v1), (2, .int v2), (3, .int v3), (4, .int v4)] [0, 1, 2, 3, 4] rfl ?_
      exact L1_X9_plan_56 hl0 N  v0 v1 v2 v3 v4 v0 T2 h
    · refine aw_iload 4 dX9_plan_41 rfl ?_
      refine aw_if_lt 56 dX9_plan_43 (by decide) h (fun h => ?_) (fun h => ?_)
      · refine aw_env [(0, .ref v0), (1, .int v1), (2, .int v2), (3, .int v3), (4, .int v4)] [0, 1, 2, 3, 4] rfl ?_
        exact L1_X9_plan_56 hl0 N  v0 v1 v2 v3 v4 v0 T2 h
      · refine aw_iload 4 dX9_plan_46 rfl ?_
        refine aw_iconst 1 dX9_plan_48 rfl ?_
        refine aw_icmp_gt 56 dX9_plan_49 (by decide) h (fun h => ?_) (fun h => ?_)
        · refine aw_env [(0, .ref v0), (1, .int v1), (2, .int v2), (3, .int v3), (4, .int v4)] [0, 1, 2, 3, 4] rfl ?_
          exact L1_X9_plan_56 hl0 N  v0 v1 v2 v3 v4 v0 T2 h
        · refine aw_iconst 1 dX9_plan_52 rfl ?_
          refine aw_goto 57 dX9_plan_53 (by decide) ?_
          refine aw_env [(0, .ref v0), (1, .int v1), (2, .int v2), (3, .int v3), (4, .int v4)] [0, 1, 2, 3, 4] rfl ?_
          exact L1_X9_plan_57 hl0 N  v0 v1 v2 v3 v4 1 v0 T2 h
theorem L1_X9_plan_25 {g : AxG} {l : Launch} (hl0 : l.stackTraces = false) {res : AxT Int32} (N : Nat)  (v0 : Nat) (v1 : Int32) (v2 : Int32) (v3 : Int32) (v4 : Int32) (w0 : Nat) (S : AxS) (h : F_X9_plan_25 N  v0 v1 v2 v3 v4 w0 S = some res) : AW g l (axRm (9) (axCs (axOI res)) (6 * axCs (axOI res))) mt_X9_plan (axMQ g (axCs (axOI res)) (6 * axCs (axOI res)) (axOI res)) 0 0 S 25 [(0, .ref v0), (1, .int v1), (2, .int v2), (3, .int v3), (4, .int v4)] [.ref w0] := by
  unfold F_X9_plan_25 at h
  refine aw_iconst 0 dX9_plan_25 rfl ?_
  refine aw_env [(0, .ref v0), (1, .int v1), (2, .int v2), (3, .int v3), (4, .int v4)] [0, 1, 2, 3, 4] rfl ?_
  exact L1_X9_plan_26 hl0 N  v0 v1 v2 v3 v4 0 w0 S h
theorem L1_X9_plan {g : AxG} {l : Launch} (hl0 : l.stackTraces = false) (N : Nat) {v0 : Nat} {v1 : Int32} {v2 : Int32} {v3 : Int32} {v4 : Int32} {S : AxS} {res : AxT Int32} (h : F_X9_plan N v0 v1 v2 v3 v4 S = some res) : AxMet g l yX9_plan cX9_plan 9 (some .int) (9) (axCs (axOI res)) (6 * axCs (axOI res)) [.ref v0, .int v1, .int v2, .int v3, .int v4] S (axOI res) := by
  refine ax_met (own := RX9) (ini := false) (by decide +kernel) rfl (fun h => nomatch h) rfl ?_
  show AW g l (axRm (9) (axCs (axOI res)) (6 * axCs (axOI res))) mt_X9_plan (axMQ g (axCs (axOI res)) (6 * axCs (axOI res)) (axOI res)) 0 0 S 0 [(0, .ref v0), (1, .int v1), (2, .int v2), (3, .int v3), (4, .int v4)] []
  unfold F_X9_plan at h
  refine aw_aload_n 0 dX9_plan_0 rfl rfl ?_
  refine aw_iload_n 1 dX9_plan_1 rfl rfl ?_
  refine aw_if_lt 25 dX9_plan_2 (by decide) h (fun h => ?_) (fun h => ?_)
  · refine aw_env [(0, .ref v0), (1, .int v1), (2, .int v2), (3, .int v3), (4, .int v4)] [0, 1, 2, 3, 4] rfl ?_
    exact L1_X9_plan_25 hl0 N  v0 v1 v2 v3 v4 v0 S h
  · refine aw_iload_n 1 dX9_plan_5 rfl rfl ?_
    refine aw_iconst 5 dX9_plan_6 rfl ?_
    refine aw_icmp_gt 25 dX9_plan_7 (by decide) h (fun h => ?_) (fun h => ?_)
    · refine aw_env [(0, .ref v0), (1, .int v1), (2, .int v2), (3, .int v3), (4, .int v4)] [0, 1, 2, 3, 4] rfl ?_
      exact L1_X9_plan_25 hl0 N  v0 v1 v2 v3 v4 v0 S h
    · refine aw_iload_n 2 dX9_plan_10 rfl rfl ?_
      refine aw_if_lt 25 dX9_plan_11 (by decide) h (fun h => ?_) (fun h => ?_)
      · refine aw_env [(0, .ref v0), (1, .int v1), (2, .int v2), (3, .int v3), (4, .int v4)] [0, 1, 2, 3, 4] rfl ?_
        exact L1_X9_plan_25 hl0 N  v0 v1 v2 v3 v4 v0 S h
      · refine aw_iload_n 2 dX9_plan_14 rfl rfl ?_
        refine aw_sipush 999 dX9_plan_15 (by decide) ?_
        refine aw_icmp_gt 25 dX9_plan_18 (by decide) h (fun h => ?_) (fun h => ?_)
        · refine aw_env [(0, .ref v0), (1, .int v1), (2, .int v2), (3, .int v3), (4, .int v4)] [0, 1, 2, 3, 4] rfl ?_
          exact L1_X9_plan_25 hl0 N  v0 v1 v2 v3 v4 v0 S h
        · refine aw_iconst 1 dX9_plan_21 rfl ?_
          refine aw_goto 26 dX9_plan_22 (by decide) ?_
          refine aw_env [(0, .ref v0), (1, .int v1), (2, .int v2), (3, .int v3), (4, .int v4)] [0, 1, 2, 3, 4] rfl ?_
          exact L1_X9_plan_26 hl0 N  v0 v1 v2 v3 v4 1 v0 S h

theorem dX9_grows_0 : decode cX9_grows 0 = .ok (.aload_n 0, 1) := by decide +kernel
theorem dX9_grows_1 : decode cX9_grows 1 = .ok (.iload_n 1, 1) := by decide +kernel
theorem dX9_grows_2 : decode cX9_grows 2 = .ok (.ifCond .lt 13, 3) := by decide +kernel
theorem dX9_grows_5 : decode cX9_grows 5 = .ok (.iload_n 1, 1) := by decide +kernel
theorem dX9_grows_6 : decode cX9_grows 6 = .ok (.ldc 253, 2) := by decide +kernel
theorem dX9_grows_8 : decode cX9_grows 8 = .ok (.if_icmp .gt 7, 3) := by decide +kernel
theorem dX9_grows_11 : decode cX9_grows 11 = .ok (.iconst 1, 1) := by decide +kernel
theorem dX9_grows_12 : decode cX9_grows 12 = .ok (.goto 4, 3) := by decide +kernel
theorem dX9_grows_15 : decode cX9_grows 15 = .ok (.iconst 0, 1) := by decide +kernel
theorem dX9_grows_16 : decode cX9_grows 16 = .ok (.invokevirtual 128, 3) := by decide +kernel
theorem dX9_grows_19 : decode cX9_grows 19 = .ok (.aload_n 0, 1) := by decide +kernel
theorem dX9_grows_20 : decode cX9_grows 20 = .ok (.getfield 60, 3) := by decide +kernel
theorem dX9_grows_23 : decode cX9_grows 23 = .ok (.aload_n 0, 1) := by decide +kernel
theorem dX9_grows_24 : decode cX9_grows 24 = .ok (.getfield 56, 3) := by decide +kernel
theorem dX9_grows_27 : decode cX9_grows 27 = .ok (.invokevirtual 262, 3) := by decide +kernel
theorem dX9_grows_30 : decode cX9_grows 30 = .ok (.iconst 0, 1) := by decide +kernel
theorem dX9_grows_31 : decode cX9_grows 31 = .ok (.istore_n 2, 1) := by decide +kernel
theorem dX9_grows_32 : decode cX9_grows 32 = .ok (.iload_n 2, 1) := by decide +kernel
theorem dX9_grows_33 : decode cX9_grows 33 = .ok (.bipush 120, 2) := by decide +kernel
theorem dX9_grows_35 : decode cX9_grows 35 = .ok (.if_icmp .gt 32, 3) := by decide +kernel
theorem dX9_grows_38 : decode cX9_grows 38 = .ok (.aload_n 0, 1) := by decide +kernel
theorem dX9_grows_39 : decode cX9_grows 39 = .ok (.getfield 60, 3) := by decide +kernel
theorem dX9_grows_42 : decode cX9_grows 42 = .ok (.getfield 174, 3) := by decide +kernel
theorem dX9_grows_45 : decode cX9_grows 45 = .ok (.iload_n 1, 1) := by decide +kernel
theorem dX9_grows_46 : decode cX9_grows 46 = .ok (.if_icmp .lt 5, 3) := by decide +kernel
theorem dX9_grows_49 : decode cX9_grows 49 = .ok (.iload_n 2, 1) := by decide +kernel
theorem dX9_grows_50 : decode cX9_grows 50 = .ok (.ireturn, 1) := by decide +kernel
theorem dX9_grows_51 : decode cX9_grows 51 = .ok (.aload_n 0, 1) := by decide +kernel
theorem dX9_grows_52 : decode cX9_grows 52 = .ok (.aload_n 0, 1) := by decide +kernel
theorem dX9_grows_53 : decode cX9_grows 53 = .ok (.getfield 60, 3) := by decide +kernel
theorem dX9_grows_56 : decode cX9_grows 56 = .ok (.iconst 0, 1) := by decide +kernel
theorem dX9_grows_57 : decode cX9_grows 57 = .ok (.invokevirtual 265, 3) := by decide +kernel
theorem dX9_grows_60 : decode cX9_grows 60 = .ok (.pop, 1) := by decide +kernel
theorem dX9_grows_61 : decode cX9_grows 61 = .ok (.iinc 2 1, 3) := by decide +kernel
theorem dX9_grows_64 : decode cX9_grows 64 = .ok (.goto (-32), 3) := by decide +kernel
theorem dX9_grows_67 : decode cX9_grows 67 = .ok (.iconst (-1), 1) := by decide +kernel
theorem dX9_grows_68 : decode cX9_grows 68 = .ok (.ireturn, 1) := by decide +kernel
abbrev mt_X9_grows : AxM := (RX9, cX9_grows, 3, (some .int), false, [])
theorem L1_X9_grows_32b {g : AxG} {l : Launch} (hl0 : l.stackTraces = false) {res : AxT Int32} (N : Nat) (K32 : Nat → Int32 → Int32 → AxS → Option (AxT Int32)) (hK32 : ∀ (v0 : Nat) (v1 : Int32) (v2 : Int32) (S : AxS), K32 v0 v1 v2 S = some res → AW g l (axRm (9) (axCs (axOI res)) (6 * axCs (axOI res))) mt_X9_grows (axMQ g (axCs (axOI res)) (6 * axCs (axOI res)) (axOI res)) 0 0 S 32 [(0, .ref v0), (1, .int v1), (2, .int v2)] []) (v0 : Nat) (v1 : Int32) (v2 : Int32) (S : AxS) (h : F_X9_grows_32b N K32 v0 v1 v2 S = some res) : AW g l (axRm (9) (axCs (axOI res)) (6 * axCs (axOI res))) mt_X9_grows (axMQ g (axCs (axOI res)) (6 * axCs (axOI res)) (axOI res)) 0 0 S 32 [(0, .ref v0), (1, .int v1), (2, .int v2)] [] := by
  unfold F_X9_grows_32b at h
  refine aw_iload_n 2 dX9_grows_32 rfl rfl ?_
  refine aw_bipush 120 dX9_grows_33 (by decide) ?_
  refine aw_icmp_gt 67 dX9_grows_35 (by decide) h (fun h => ?_) (fun h => ?_)
  · refine aw_iconst (-1) dX9_grows_67 rfl ?_
    exact aw_iretT dX9_grows_68 rfl h
  · refine aw_aload_n 0 dX9_grows_38 rfl rfl ?_
    refine aw_getR axc9 9 rfl rfl wd_462 dX9_grows_39 h (fun a1 h => ?_)
    refine aw_getI axc5 0 rfl rfl wd_293 dX9_grows_42 h (fun x2 h => ?_)
    refine aw_iload_n 1 dX9_grows_45 rfl rfl ?_
    refine aw_icmp_lt 51 dX9_grows_46 (by decide) h (fun h => ?_) (fun h => ?_)
    · refine aw_aload_n 0 dX9_grows_51 rfl rfl ?_
      refine aw_aload_n 0 dX9_grows_52 rfl rfl ?_
      refine aw_getR axc9 9 rfl rfl wd_462 dX9_grows_53 h (fun a3 h => ?_)
      refine aw_iconst 0 dX9_grows_56 rfl ?_
      obtain ⟨hL4, h⟩ := ax_is_spec h
      refine aw_doneI (rest := []) h (fun r9 S9 hF => aw_runV (As := [.ref a3, .int 0]) (rest := []) (L1_X9_passNight N hF) axc9 hL4 wd_908 wd_905 wd_907 wd_16 wd_87 pd_X9_passNight rfl (ax_rm (by omega) rfl) ax_hf0 (Nat.le_of_ble_eq_true rfl) rfl dX9_grows_57) (fun x6 T5 h => ?_)
      refine aw_pop rfl dX9_grows_60 ?_
      refine aw_iinc 2 [(2, .int (v2 + 1)), (0, .ref v0), (1, .int v1)] (v2 + 1) dX9_grows_61 rfl rfl rfl rfl ?_
      refine aw_goto 32 dX9_grows_64 (by decide) ?_
      refine aw_env [(0, .ref v0), (1, .int v1), (2, .int (v2 + 1))] [1, 2, 0] rfl ?_
      exact hK32 v0 v1 (v2 + 1) T5 h
    · refine aw_iload_n 2 dX9_grows_49 rfl rfl ?_
      exact aw_iretT dX9_grows_50 rfl h
theorem L1_X9_grows_32 {g : AxG} {l : Launch} (hl0 : l.stackTraces = false) {res : AxT Int32} (N : Nat)  : ∀ (n : Nat) (v0 : Nat) (v1 : Int32) (v2 : Int32) (S : AxS), F_X9_grows_32 N  n v0 v1 v2 S = some res → AW g l (axRm (9) (axCs (axOI res)) (6 * axCs (axOI res))) mt_X9_grows (axMQ g (axCs (axOI res)) (6 * axCs (axOI res)) (axOI res)) 0 0 S 32 [(0, .ref v0), (1, .int v1), (2, .int v2)] [] := by
  intro n
  induction n with
  | zero => intro v0 v1 v2 S h; cases h
  | succ n ih => intro v0 v1 v2 S h; exact L1_X9_grows_32b hl0 N (F_X9_grows_32 N  n) ih v0 v1 v2 S h
theorem L1_X9_grows_16 {g : AxG} {l : Launch} (hl0 : l.stackTraces = false) {res : AxT Int32} (N : Nat)  (v0 : Nat) (v1 : Int32) (w0 : Int32) (w1 : Nat) (S : AxS) (h : F_X9_grows_16 N  v0 v1 w0 w1 S = some res) : AW g l (axRm (9) (axCs (axOI res)) (6 * axCs (axOI res))) mt_X9_grows (axMQ g (axCs (axOI res)) (6 * axCs (axOI res)) (axOI res)) 0 0 S 16 [(0, .ref v0), (1, .int v1)] [.int w0, .ref w1] := by
  unfold F_X9_grows_16 at h
  obtain ⟨hL1, h⟩ := ax_is_spec h
  refine aw_thV (ob := axOI) (rest := []) (fun _ _ => rfl) rfl h (fun u9 hF hu => aw_runV (As := [.int w0]) (rest := []) (L1_X9_needArgument hl0 N hF) axc9 hL1 wd_604 wd_601 wd_603 wd_3 wd_87 pd_X9_needArgument rfl (ax_rm (by omega) rfl) (ax_hfV (fun _ _ => rfl) hu) (Nat.le_of_ble_eq_true rfl) rfl dX9_grows_16) (fun T2 h => ?_)
  refine aw_aload_n 0 dX9_grows_19 rfl rfl ?_
  refine aw_getR axc9 9 rfl rfl wd_462 dX9_grows_20 h (fun a4 h => ?_)
  refine aw_aload_n 0 dX9_grows_23 rfl rfl ?_
  refine aw_getR axc9 8 rfl rfl wd_461 dX9_grows_24 h (fun a5 h => ?_)
  obtain ⟨hL6, h⟩ := ax_is_spec h
  refine aw_doneV (rest := []) h (fun S9 hF => aw_runV (As := [.ref a5]) (rest := []) (L1_X5_take N hF) axc5 hL6 wd_538 wd_583 wd_536 wd_537 wd_93 pd_X5_take rfl (ax_rm (by omega) rfl) ax_hf0 (Nat.le_of_ble_eq_true rfl) rfl dX9_grows_27) (fun T7 h => ?_)
  refine aw_iconst 0 dX9_grows_30 rfl ?_
  refine aw_istore_n 2 [(2, .int 0), (0, .ref v0), (1, .int v1)] dX9_grows_31 rfl rfl rfl ?_
  refine aw_env [(0, .ref v0), (1, .int v1), (2, .int 0)] [1, 2, 0] rfl ?_
  exact L1_X9_grows_32 hl0 N  N v0 v1 0 T7 h
theorem L1_X9_grows_15 {g : AxG} {l : Launch} (hl0 : l.stackTraces = false) {res : AxT Int32} (N : Nat)  (v0 : Nat) (v1 : Int32) (w0 : Nat) (S : AxS) (h : F_X9_grows_15 N  v0 v1 w0 S = some res) : AW g l (axRm (9) (axCs (axOI res)) (6 * axCs (axOI res))) mt_X9_grows (axMQ g (axCs (axOI res)) (6 * axCs (axOI res)) (axOI res)) 0 0 S 15 [(0, .ref v0), (1, .int v1)] [.ref w0] := by
  unfold F_X9_grows_15 at h
  refine aw_iconst 0 dX9_grows_15 rfl ?_
  refine aw_env [(0, .ref v0), (1, .int v1)] [0, 1] rfl ?_
  exact L1_X9_grows_16 hl0 N  v0 v1 0 w0 S h
theorem L1_X9_grows {g : AxG} {l : Launch} (hl0 : l.stackTraces = false) (N : Nat) {v0 : Nat} {v1 : Int32} {S : AxS} {res : AxT Int32} (h : F_X9_grows N v0 v1 S = some res) : AxMet g l yX9_grows cX9_grows 3 (some .int) (9) (axCs (axOI res)) (6 * axCs (axOI res)) [.ref v0, .int v1] S (axOI res) := by
  refine ax_met (own := RX9) (ini := false) (by decide +kernel) rfl (fun h => nomatch h) rfl ?_
  show AW g l (axRm (9) (axCs (axOI res)) (6 * axCs (axOI res))) mt_X9_grows (axMQ g (axCs (axOI res)) (6 * axCs (axOI res)) (axOI res)) 0 0 S 0 [(0, .ref v0), (1, .int v1)] []
  unfold F_X9_grows at h
  refine aw_aload_n 0 dX9_grows_0 rfl rfl ?_
  refine aw_iload_n 1 dX9_grows_1 rfl rfl ?_
  refine aw_if_lt 15 dX9_grows_2 (by decide) h (fun h => ?_) (fun h => ?_)
  · refine aw_env [(0, .ref v0), (1, .int v1)] [0, 1] rfl ?_
    exact L1_X9_grows_15 hl0 N  v0 v1 v0 S h
  · refine aw_iload_n 1 dX9_grows_5 rfl rfl ?_
    refine aw_ldcI wd_1020 dX9_grows_6 ?_
    refine aw_icmp_gt 15 dX9_grows_8 (by decide) h (fun h => ?_) (fun h => ?_)
    · refine aw_env [(0, .ref v0), (1, .int v1)] [0, 1] rfl ?_
      exact L1_X9_grows_15 hl0 N  v0 v1 v0 S h
    · refine aw_iconst 1 dX9_grows_11 rfl ?_
      refine aw_goto 16 dX9_grows_12 (by decide) ?_
      refine aw_env [(0, .ref v0), (1, .int v1)] [0, 1] rfl ?_
      exact L1_X9_grows_16 hl0 N  v0 v1 1 v0 S h
