theorem dX10_would_0 : decode cX10_would 0 = .ok (.aload_n 0, 1) := by decide +kernel
theorem dX10_would_1 : decode cX10_would 1 = .ok (.iconst 0, 1) := by decide +kernel
theorem dX10_would_2 : decode cX10_would 2 = .ok (.putfield 104, 3) := by decide +kernel
theorem dX10_would_5 : decode cX10_would 5 = .ok (.aload_n 0, 1) := by decide +kernel
theorem dX10_would_6 : decode cX10_would 6 = .ok (.iload_n 1, 1) := by decide +kernel
theorem dX10_would_7 : decode cX10_would 7 = .ok (.iconst 0, 1) := by decide +kernel
theorem dX10_would_8 : decode cX10_would 8 = .ok (.ldc_w 293, 3) := by decide +kernel
theorem dX10_would_11 : decode cX10_would 11 = .ok (.invokestatic 138, 3) := by decide +kernel
theorem dX10_would_14 : decode cX10_would 14 = .ok (.ifCond .eq 69, 3) := by decide +kernel
theorem dX10_would_17 : decode cX10_would 17 = .ok (.iload_n 2, 1) := by decide +kernel
theorem dX10_would_18 : decode cX10_would 18 = .ok (.iconst 0, 1) := by decide +kernel
theorem dX10_would_19 : decode cX10_would 19 = .ok (.sipush 999, 3) := by decide +kernel
theorem dX10_would_22 : decode cX10_would 22 = .ok (.invokestatic 138, 3) := by decide +kernel
theorem dX10_would_25 : decode cX10_would 25 = .ok (.ifCond .eq 58, 3) := by decide +kernel
theorem dX10_would_28 : decode cX10_would 28 = .ok (.iload_n 3, 1) := by decide +kernel
theorem dX10_would_29 : decode cX10_would 29 = .ok (.iconst 0, 1) := by decide +kernel
theorem dX10_would_30 : decode cX10_would 30 = .ok (.sipush 999, 3) := by decide +kernel
theorem dX10_would_33 : decode cX10_would 33 = .ok (.invokestatic 138, 3) := by decide +kernel
theorem dX10_would_36 : decode cX10_would 36 = .ok (.ifCond .eq 47, 3) := by decide +kernel
theorem dX10_would_39 : decode cX10_would 39 = .ok (.iload 4, 2) := by decide +kernel
theorem dX10_would_41 : decode cX10_would 41 = .ok (.iconst 0, 1) := by decide +kernel
theorem dX10_would_42 : decode cX10_would 42 = .ok (.sipush 999, 3) := by decide +kernel
theorem dX10_would_45 : decode cX10_would 45 = .ok (.invokestatic 138, 3) := by decide +kernel
theorem dX10_would_48 : decode cX10_would 48 = .ok (.ifCond .eq 35, 3) := by decide +kernel
theorem dX10_would_51 : decode cX10_would 51 = .ok (.iload 5, 2) := by decide +kernel
theorem dX10_would_53 : decode cX10_would 53 = .ok (.iconst 0, 1) := by decide +kernel
theorem dX10_would_54 : decode cX10_would 54 = .ok (.iconst 1, 1) := by decide +kernel
theorem dX10_would_55 : decode cX10_would 55 = .ok (.invokestatic 138, 3) := by decide +kernel
theorem dX10_would_58 : decode cX10_would 58 = .ok (.ifCond .eq 25, 3) := by decide +kernel
theorem dX10_would_61 : decode cX10_would 61 = .ok (.iload 6, 2) := by decide +kernel
theorem dX10_would_63 : decode cX10_would 63 = .ok (.iconst 0, 1) := by decide +kernel
theorem dX10_would_64 : decode cX10_would 64 = .ok (.iconst 1, 1) := by decide +kernel
theorem dX10_would_65 : decode cX10_would 65 = .ok (.invokestatic 138, 3) := by decide +kernel
theorem dX10_would_68 : decode cX10_would 68 = .ok (.ifCond .eq 15, 3) := by decide +kernel
theorem dX10_would_71 : decode cX10_would 71 = .ok (.iload 7, 2) := by decide +kernel
theorem dX10_would_73 : decode cX10_would 73 = .ok (.iconst 0, 1) := by decide +kernel
theorem dX10_would_74 : decode cX10_would 74 = .ok (.sipush 9999, 3) := by decide +kernel
theorem dX10_would_77 : decode cX10_would 77 = .ok (.invokestatic 138, 3) := by decide +kernel
theorem dX10_would_80 : decode cX10_would 80 = .ok (.ifCond .ne 7, 3) := by decide +kernel
theorem dX10_would_83 : decode cX10_would 83 = .ok (.iconst 1, 1) := by decide +kernel
theorem dX10_would_84 : decode cX10_would 84 = .ok (.goto 4, 3) := by decide +kernel
theorem dX10_would_87 : decode cX10_would 87 = .ok (.iconst 0, 1) := by decide +kernel
theorem dX10_would_88 : decode cX10_would 88 = .ok (.iconst 1, 1) := by decide +kernel
theorem dX10_would_89 : decode cX10_would 89 = .ok (.iconst 1, 1) := by decide +kernel
theorem dX10_would_90 : decode cX10_would 90 = .ok (.invokevirtual 193, 3) := by decide +kernel
theorem dX10_would_93 : decode cX10_would 93 = .ok (.ifCond .eq 5, 3) := by decide +kernel
theorem dX10_would_96 : decode cX10_would 96 = .ok (.iconst 0, 1) := by decide +kernel
theorem dX10_would_97 : decode cX10_would 97 = .ok (.ireturn, 1) := by decide +kernel
theorem dX10_would_98 : decode cX10_would 98 = .ok (.aload_n 0, 1) := by decide +kernel
theorem dX10_would_99 : decode cX10_would 99 = .ok (.getfield 55, 3) := by decide +kernel
theorem dX10_would_102 : decode cX10_would 102 = .ok (.iconst 0, 1) := by decide +kernel
theorem dX10_would_103 : decode cX10_would 103 = .ok (.iload_n 1, 1) := by decide +kernel
theorem dX10_would_104 : decode cX10_would 104 = .ok (.iastore, 1) := by decide +kernel
theorem dX10_would_105 : decode cX10_would 105 = .ok (.aload_n 0, 1) := by decide +kernel
theorem dX10_would_106 : decode cX10_would 106 = .ok (.getfield 55, 3) := by decide +kernel
theorem dX10_would_109 : decode cX10_would 109 = .ok (.iconst 1, 1) := by decide +kernel
theorem dX10_would_110 : decode cX10_would 110 = .ok (.iload_n 2, 1) := by decide +kernel
theorem dX10_would_111 : decode cX10_would 111 = .ok (.iastore, 1) := by decide +kernel
theorem dX10_would_112 : decode cX10_would 112 = .ok (.aload_n 0, 1) := by decide +kernel
theorem dX10_would_113 : decode cX10_would 113 = .ok (.getfield 55, 3) := by decide +kernel
theorem dX10_would_116 : decode cX10_would 116 = .ok (.iconst 2, 1) := by decide +kernel
theorem dX10_would_117 : decode cX10_would 117 = .ok (.iload_n 3, 1) := by decide +kernel
theorem dX10_would_118 : decode cX10_would 118 = .ok (.iastore, 1) := by decide +kernel
theorem dX10_would_119 : decode cX10_would 119 = .ok (.aload_n 0, 1) := by decide +kernel
theorem dX10_would_120 : decode cX10_would 120 = .ok (.getfield 55, 3) := by decide +kernel
theorem dX10_would_123 : decode cX10_would 123 = .ok (.iconst 3, 1) := by decide +kernel
theorem dX10_would_124 : decode cX10_would 124 = .ok (.iload 4, 2) := by decide +kernel
theorem dX10_would_126 : decode cX10_would 126 = .ok (.iastore, 1) := by decide +kernel
theorem dX10_would_127 : decode cX10_would 127 = .ok (.aload_n 0, 1) := by decide +kernel
theorem dX10_would_128 : decode cX10_would 128 = .ok (.getfield 55, 3) := by decide +kernel
theorem dX10_would_131 : decode cX10_would 131 = .ok (.iconst 4, 1) := by decide +kernel
theorem dX10_would_132 : decode cX10_would 132 = .ok (.iload 5, 2) := by decide +kernel
theorem dX10_would_134 : decode cX10_would 134 = .ok (.iastore, 1) := by decide +kernel
theorem dX10_would_135 : decode cX10_would 135 = .ok (.aload_n 0, 1) := by decide +kernel
theorem dX10_would_136 : decode cX10_would 136 = .ok (.getfield 55, 3) := by decide +kernel
theorem dX10_would_139 : decode cX10_would 139 = .ok (.iconst 5, 1) := by decide +kernel
theorem dX10_would_140 : decode cX10_would 140 = .ok (.iload 6, 2) := by decide +kernel
theorem dX10_would_142 : decode cX10_would 142 = .ok (.iastore, 1) := by decide +kernel
theorem dX10_would_143 : decode cX10_would 143 = .ok (.aload_n 0, 1) := by decide +kernel
theorem dX10_would_144 : decode cX10_would 144 = .ok (.getfield 55, 3) := by decide +kernel
theorem dX10_would_147 : decode cX10_would 147 = .ok (.bipush 6, 2) := by decide +kernel
theorem dX10_would_149 : decode cX10_would 149 = .ok (.iload 7, 2) := by decide +kernel
theorem dX10_would_151 : decode cX10_would 151 = .ok (.iastore, 1) := by decide +kernel
theorem dX10_would_152 : decode cX10_would 152 = .ok (.aload_n 0, 1) := by decide +kernel
theorem dX10_would_153 : decode cX10_would 153 = .ok (.invokevirtual 277, 3) := by decide +kernel
theorem dX10_would_156 : decode cX10_would 156 = .ok (.ireturn, 1) := by decide +kernel
abbrev mt_X10_would : AxM := (RX10, cX10_would, 8, (some .int), false, [])
theorem L1_X10_would_88 {g : AxG} {l : Launch} {r9 : Int32} {S9 : AxS} (N : Nat)  (v0 : Nat) (v1 : Int32) (v2 : Int32) (v3 : Int32) (v4 : Int32) (v5 : Int32) (v6 : Int32) (v7 : Int32) (w0 : Int32) (w1 : Nat) (S : AxS) (h : F_X10_would_88 N  v0 v1 v2 v3 v4 v5 v6 v7 w0 w1 S = some ((r9, S9))) : AW g l (axRm (3) 0 0) mt_X10_would (axMQ g 0 0 (.inl (some (.int r9)), S9)) 0 0 S 88 [(0, .ref v0), (1, .int v1), (2, .int v2), (3, .int v3), (4, .int v4), (5, .int v5), (6, .int v6), (7, .int v7)] [.int w0, .ref w1] := by
  unfold F_X10_would_88 at h
  refine aw_iconst 1 dX10_would_88 rfl ?_
  refine aw_iconst 1 dX10_would_89 rfl ?_
  obtain ⟨hL1, h⟩ := ax_is_spec h
  refine aw_doneI (rest := []) h (fun r9 S9 hF => aw_runV (As := [.int w0, .int 1, .int 1]) (rest := []) (L1_X10_bad N hF) axc10 hL1 wd_1452 wd_1449 wd_1451 wd_38 wd_97 pd_X10_bad rfl (ax_rm (by omega) rfl) ax_hf0 (Nat.le_of_ble_eq_true rfl) rfl dX10_would_90) (fun x3 T2 h => ?_)
  refine aw_if_eq 98 dX10_would_93 (by decide) h (fun h => ?_) (fun h => ?_)
  · refine aw_aload_n 0 dX10_would_98 rfl rfl ?_
    refine aw_getR axc10 24 rfl rfl wd_1309 dX10_would_99 h (fun a4 h => ?_)
    refine aw_iconst 0 dX10_would_102 rfl ?_
    refine aw_iload_n 1 dX10_would_103 rfl rfl ?_
    refine aw_iast dX10_would_104 h (fun T5 h => ?_)
    refine aw_aload_n 0 dX10_would_105 rfl rfl ?_
    refine aw_getR axc10 24 rfl rfl wd_1309 dX10_would_106 h (fun a6 h => ?_)
    refine aw_iconst 1 dX10_would_109 rfl ?_
    refine aw_iload_n 2 dX10_would_110 rfl rfl ?_
    refine aw_iast dX10_would_111 h (fun T7 h => ?_)
    refine aw_aload_n 0 dX10_would_112 rfl rfl ?_
    refine aw_getR axc10 24 rfl rfl wd_1309 dX10_would_113 h (fun a8 h => ?_)
    refine aw_iconst 2 dX10_would_116 rfl ?_
    refine aw_iload_n 3 dX10_would_117 rfl rfl ?_
    refine aw_iast dX10_would_118 h (fun T9 h => ?_)
    refine aw_aload_n 0 dX10_would_119 rfl rfl ?_
    refine aw_getR axc10 24 rfl rfl wd_1309 dX10_would_120 h (fun a10 h => ?_)
    refine aw_iconst 3 dX10_would_123 rfl ?_
    refine aw_iload 4 dX10_would_124 rfl ?_
    refine aw_iast dX10_would_126 h (fun T11 h => ?_)
    refine aw_aload_n 0 dX10_would_127 rfl rfl ?_
    refine aw_getR axc10 24 rfl rfl wd_1309 dX10_would_128 h (fun a12 h => ?_)
    refine aw_iconst 4 dX10_would_131 rfl ?_
    refine aw_iload 5 dX10_would_132 rfl ?_
    refine aw_iast dX10_would_134 h (fun T13 h => ?_)
    refine aw_aload_n 0 dX10_would_135 rfl rfl ?_
    refine aw_getR axc10 24 rfl rfl wd_1309 dX10_would_136 h (fun a14 h => ?_)
    refine aw_iconst 5 dX10_would_139 rfl ?_
    refine aw_iload 6 dX10_would_140 rfl ?_
    refine aw_iast dX10_would_142 h (fun T15 h => ?_)
    refine aw_aload_n 0 dX10_would_143 rfl rfl ?_
    refine aw_getR axc10 24 rfl rfl wd_1309 dX10_would_144 h (fun a16 h => ?_)
    refine aw_bipush 6 dX10_would_147 (by decide) ?_
    refine aw_iload 7 dX10_would_149 rfl ?_
    refine aw_iast dX10_would_151 h (fun T17 h => ?_)
    refine aw_aload_n 0 dX10_would_152 rfl rfl ?_
    obtain ⟨hL18, h⟩ := ax_is_spec h
    refine aw_doneI (rest := []) h (fun r9 S9 hF => aw_runV (As := []) (rest := []) (L1_X10_byLaw N hF) axc10 hL18 wd_1618 wd_1615 wd_1617 wd_67 wd_97 pd_X10_byLaw rfl (ax_rm (by omega) rfl) ax_hf0 (Nat.le_of_ble_eq_true rfl) rfl dX10_would_153) (fun x20 T19 h => ?_)
    exact aw_iret dX10_would_156 rfl (Nat.le_refl _) (Nat.le_refl _) h
  · refine aw_iconst 0 dX10_would_96 rfl ?_
    exact aw_iret dX10_would_97 rfl (Nat.le_refl _) (Nat.le_refl _) h
theorem L1_X10_would_83 {g : AxG} {l : Launch} {r9 : Int32} {S9 : AxS} (N : Nat)  (v0 : Nat) (v1 : Int32) (v2 : Int32) (v3 : Int32) (v4 : Int32) (v5 : Int32) (v6 : Int32) (v7 : Int32) (w0 : Nat) (S : AxS) (h : F_X10_would_83 N  v0 v1 v2 v3 v4 v5 v6 v7 w0 S = some ((r9, S9))) : AW g l (axRm (3) 0 0) mt_X10_would (axMQ g 0 0 (.inl (some (.int r9)), S9)) 0 0 S 83 [(0, .ref v0), (1, .int v1), (2, .int v2), (3, .int v3), (4, .int v4), (5, .int v5), (6, .int v6), (7, .int v7)] [.ref w0] := by
  unfold F_X10_would_83 at h
  refine aw_iconst 1 dX10_would_83 rfl ?_
  refine aw_goto 88 dX10_would_84 (by decide) ?_
  refine aw_env [(0, .ref v0), (1, .int v1), (2, .int v2), (3, .int v3), (4, .int v4), (5, .int v5), (6, .int v6), (7, .int v7)] [0, 1, 2, 3, 4, 5, 6, 7] rfl ?_
  exact L1_X10_would_88 N  v0 v1 v2 v3 v4 v5 v6 v7 1 w0 S h
theorem L1_X10_would {g : AxG} {l : Launch} (N : Nat) {v0 : Nat} {v1 : Int32} {v2 : Int32} {v3 : Int32} {v4 : Int32} {v5 : Int32} {v6 : Int32} {v7 : Int32} {S : AxS} {r9 : Int32} {S9 : AxS} (h : F_X10_would N v0 v1 v2 v3 v4 v5 v6 v7 S = some ((r9, S9))) : AxMet g l yX10_would cX10_would 8 (some .int) (3) 0 0 [.ref v0, .int v1, .int v2, .int v3, .int v4, .int v5, .int v6, .int v7] S ((.inl (some (.int r9)), S9)) := by
  refine ax_met (own := RX10) (ini := false) (by decide +kernel) rfl (fun h => nomatch h) rfl ?_
  show AW g l (axRm (3) 0 0) mt_X10_would (axMQ g 0 0 (.inl (some (.int r9)), S9)) 0 0 S 0 [(0, .ref v0), (1, .int v1), (2, .int v2), (3, .int v3), (4, .int v4), (5, .int v5), (6, .int v6), (7, .int v7)] []
  unfold F_X10_would at h
  refine aw_aload_n 0 dX10_would_0 rfl rfl ?_
  refine aw_iconst 0 dX10_would_1 rfl ?_
  refine aw_putI axc10 0 rfl rfl wd_1285 rfl rfl rfl dX10_would_2 h (fun T1 h => ?_)
  refine aw_aload_n 0 dX10_would_5 rfl rfl ?_
  refine aw_iload_n 1 dX10_would_6 rfl rfl ?_
  refine aw_iconst 0 dX10_would_7 rfl ?_
  refine aw_ldcwI wd_1633 dX10_would_8 ?_
  refine aw_doneI (rest := [.ref v0]) h (fun r9 S9 hF => aw_runS (As := [.int v1, .int 0, .int 99999]) (rest := [.ref v0]) (L1_X10_in N hF) wd_1448 wd_1446 wd_1447 wd_97 pd_X10_in.2 rfl (ax_rm (by omega) rfl) ax_hf0 (Nat.le_of_ble_eq_true rfl) rfl dX10_would_11) (fun x3 T2 h => ?_)
  refine aw_if_eq 83 dX10_would_14 (by decide) h (fun h => ?_) (fun h => ?_)
  · refine aw_env [(0, .ref v0), (1, .int v1), (2, .int v2), (3, .int v3), (4, .int v4), (5, .int v5), (6, .int v6), (7, .int v7)] [0, 1, 2, 3, 4, 5, 6, 7] rfl ?_
    exact L1_X10_would_83 N  v0 v1 v2 v3 v4 v5 v6 v7 v0 T2 h
  · refine aw_iload_n 2 dX10_would_17 rfl rfl ?_
    refine aw_iconst 0 dX10_would_18 rfl ?_
    refine aw_sipush 999 dX10_would_19 (by decide) ?_
    refine aw_doneI (rest := [.ref v0]) h (fun r9 S9 hF => aw_runS (As := [.int v2, .int 0, .int 999]) (rest := [.ref v0]) (L1_X10_in N hF) wd_1448 wd_1446 wd_1447 wd_97 pd_X10_in.2 rfl (ax_rm (by omega) rfl) ax_hf0 (Nat.le_of_ble_eq_true rfl) rfl dX10_would_22) (fun x5 T4 h => ?_)
    refine aw_if_eq 83 dX10_would_25 (by decide) h (fun h => ?_) (fun h => ?_)
    · refine aw_env [(0, .ref v0), (1, .int v1), (2, .int v2), (3, .int v3), (4, .int v4), (5, .int v5), (6, .int v6), (7, .int v7)] [0, 1, 2, 3, 4, 5, 6, 7] rfl ?_
      exact L1_X10_would_83 N  v0 v1 v2 v3 v4 v5 v6 v7 v0 T4 h
    · refine aw_iload_n 3 dX10_would_28 rfl rfl ?_
      refine aw_iconst 0 dX10_would_29 rfl ?_
      refine aw_sipush 999 dX10_would_30 (by decide) ?_
      refine aw_doneI (rest := [.ref v0]) h (fun r9 S9 hF => aw_runS (As := [.int v3, .int 0, .int 999]) (rest := [.ref v0]) (L1_X10_in N hF) wd_1448 wd_1446 wd_1447 wd_97 pd_X10_in.2 rfl (ax_rm (by omega) rfl) ax_hf0 (Nat.le_of_ble_eq_true rfl) rfl dX10_would_33) (fun x7 T6 h => ?_)
      refine aw_if_eq 83 dX10_would_36 (by decide) h (fun h => ?_) (fun h => ?_)
      · refine aw_env [(0, .ref v0), (1, .int v1), (2, .int v2), (3, .int v3), (4, .int v4), (5, .int v5), (6, .int v6), (7, .int v7)] [0, 1, 2, 3, 4, 5, 6, 7] rfl ?_
        exact L1_X10_would_83 N  v0 v1 v2 v3 v4 v5 v6 v7 v0 T6 h
      · refine aw_iload 4 dX10_would_39 rfl ?_
        refine aw_iconst 0 dX10_would_41 rfl ?_
        refine aw_sipush 999 dX10_would_42 (by decide) ?_
        refine aw_doneI (rest := [.ref v0]) h (fun r9 S9 hF => aw_runS (As := [.int v4, .int 0, .int 999]) (rest := [.ref v0]) (L1_X10_in N hF) wd_1448 wd_1446 wd_1447 wd_97 pd_X10_in.2 rfl (ax_rm (by omega) rfl) ax_hf0 (Nat.le_of_ble_eq_true rfl) rfl dX10_would_45) (fun x9 T8 h => ?_)
        refine aw_if_eq 83 dX10_would_48 (by decide) h (fun h => ?_) (fun h => ?_)
        · refine aw_env [(0, .ref v0), (1, .int v1), (2, .int v2), (3, .int v3), (4, .int v4), (5, .int v5), (6, .int v6), (7, .int v7)] [0, 1, 2, 3, 4, 5, 6, 7] rfl ?_
          exact L1_X10_would_83 N  v0 v1 v2 v3 v4 v5 v6 v7 v0 T8 h
        · refine aw_iload 5 dX10_would_51 rfl ?_
          refine aw_iconst 0 dX10_would_53 rfl ?_
          refine aw_iconst 1 dX10_would_54 rfl ?_
          refine aw_doneI (rest := [.ref v0]) h (fun r9 S9 hF => aw_runS (As := [.int v5, .int 0, .int 1]) (rest := [.ref v0]) (L1_X10_in N hF) wd_1448 wd_1446 wd_1447 wd_97 pd_X10_in.2 rfl (ax_rm (by omega) rfl) ax_hf0 (Nat.le_of_ble_eq_true rfl) rfl dX10_would_55) (fun x11 T10 h => ?_)
          refine aw_if_eq 83 dX10_would_58 (by decide) h (fun h => ?_) (fun h => ?_)
          · refine aw_env [(0, .ref v0), (1, .int v1), (2, .int v2), (3, .int v3), (4, .int v4), (5, .int v5), (6, .int v6), (7, .int v7)] [0, 1, 2, 3, 4, 5, 6, 7] rfl ?_
            exact L1_X10_would_83 N  v0 v1 v2 v3 v4 v5 v6 v7 v0 T10 h
          · refine aw_iload 6 dX10_would_61 rfl ?_
            refine aw_iconst 0 dX10_would_63 rfl ?_
            refine aw_iconst 1 dX10_would_64 rfl ?_
            refine aw_doneI (rest := [.ref v0]) h (fun r9 S9 hF => aw_runS (As := [.int v6, .int 0, .int 1]) (rest := [.ref v0]) (L1_X10_in N hF) wd_1448 wd_1446 wd_1447 wd_97 pd_X10_in.2 rfl (ax_rm (by omega) rfl) ax_hf0 (Nat.le_of_ble_eq_true rfl) rfl dX10_would_65) (fun x13 T12 h => ?_)
            refine aw_if_eq 83 dX10_would_68 (by decide) h (fun h => ?_) (fun h => ?_)
            · refine aw_env [(0, .ref v0), (1, .int v1), (2, .int v2), (3, .int v3), (4, .int v4), (5, .int v5), (6, .int v6), (7, .int v7)] [0, 1, 2, 3, 4, 5, 6, 7] rfl ?_
              exact L1_X10_would_83 N  v0 v1 v2 v3 v4 v5 v6 v7 v0 T12 h
            · refine aw_iload 7 dX10_would_71 rfl ?_
              refine aw_iconst 0 dX10_would_73 rfl ?_
              refine aw_sipush 9999 dX10_would_74 (by decide) ?_
              refine aw_doneI (rest := [.ref v0]) h (fun r9 S9 hF => aw_runS (As := [.int v7, .int 0, .int 9999]) (rest := [.ref v0]) (L1_X10_in N hF) wd_1448 wd_1446 wd_1447 wd_97 pd_X10_in.2 rfl (ax_rm (by omega) rfl) ax_hf0 (Nat.le_of_ble_eq_true rfl) rfl dX10_would_77) (fun x15 T14 h => ?_)
              refine aw_if_ne 87 dX10_would_80 (by decide) h (fun h => ?_) (fun h => ?_)
              · refine aw_iconst 0 dX10_would_87 rfl ?_
                refine aw_env [(0, .ref v0), (1, .int v1), (2, .int v2), (3, .int v3), (4, .int v4), (5, .int v5), (6, .int v6), (7, .int v7)] [0, 1, 2, 3, 4, 5, 6, 7] rfl ?_
                exact L1_X10_would_88 N  v0 v1 v2 v3 v4 v5 v6 v7 0 v0 T14 h
              · refine aw_env [(0, .ref v0), (1, .int v1), (2, .int v2), (3, .int v3), (4, .int v4), (5, .int v5), (6, .int v6), (7, .int v7)] [0, 1, 2, 3, 4, 5, 6, 7] rfl ?_
                exact L1_X10_would_83 N  v0 v1 v2 v3 v4 v5 v6 v7 v0 T14 h

theorem dX10_noise_0 : decode cX10_noise 0 = .ok (.aload_n 0, 1) := by decide +kernel
theorem dX10_noise_1 : decode cX10_noise 1 = .ok (.iconst 0, 1) := by decide +kernel
theorem dX10_noise_2 : decode cX10_noise 2 = .ok (.putfield 104, 3) := by decide +kernel
theorem dX10_noise_5 : decode cX10_noise 5 = .ok (.aload_n 0, 1) := by decide +kernel
theorem dX10_noise_6 : decode cX10_noise 6 = .ok (.aload_n 0, 1) := by decide +kernel
theorem dX10_noise_7 : decode cX10_noise 7 = .ok (.iconst 1, 1) := by decide +kernel
theorem dX10_noise_8 : decode cX10_noise 8 = .ok (.iload_n 1, 1) := by decide +kernel
theorem dX10_noise_9 : decode cX10_noise 9 = .ok (.invokevirtual 326, 3) := by decide +kernel
theorem dX10_noise_12 : decode cX10_noise 12 = .ok (.iconst 1, 1) := by decide +kernel
theorem dX10_noise_13 : decode cX10_noise 13 = .ok (.iconst 0, 1) := by decide +kernel
theorem dX10_noise_14 : decode cX10_noise 14 = .ok (.invokevirtual 193, 3) := by decide +kernel
theorem dX10_noise_17 : decode cX10_noise 17 = .ok (.ifCond .ne 28, 3) := by decide +kernel
theorem dX10_noise_20 : decode cX10_noise 20 = .ok (.aload_n 0, 1) := by decide +kernel
theorem dX10_noise_21 : decode cX10_noise 21 = .ok (.iload_n 2, 1) := by decide +kernel
theorem dX10_noise_22 : decode cX10_noise 22 = .ok (.iconst 0, 1) := by decide +kernel
theorem dX10_noise_23 : decode cX10_noise 23 = .ok (.sipush 999, 3) := by decide +kernel
theorem dX10_noise_26 : decode cX10_noise 26 = .ok (.invokestatic 138, 3) := by decide +kernel
theorem dX10_noise_29 : decode cX10_noise 29 = .ok (.ifCond .ne 7, 3) := by decide +kernel
theorem dX10_noise_32 : decode cX10_noise 32 = .ok (.iconst 1, 1) := by decide +kernel
theorem dX10_noise_33 : decode cX10_noise 33 = .ok (.goto 4, 3) := by decide +kernel
theorem dX10_noise_36 : decode cX10_noise 36 = .ok (.iconst 0, 1) := by decide +kernel
theorem dX10_noise_37 : decode cX10_noise 37 = .ok (.iconst 2, 1) := by decide +kernel
theorem dX10_noise_38 : decode cX10_noise 38 = .ok (.iconst 1, 1) := by decide +kernel
theorem dX10_noise_39 : decode cX10_noise 39 = .ok (.invokevirtual 193, 3) := by decide +kernel
theorem dX10_noise_42 : decode cX10_noise 42 = .ok (.ifCond .eq 5, 3) := by decide +kernel
theorem dX10_noise_45 : decode cX10_noise 45 = .ok (.iconst 0, 1) := by decide +kernel
theorem dX10_noise_46 : decode cX10_noise 46 = .ok (.ireturn, 1) := by decide +kernel
theorem dX10_noise_47 : decode cX10_noise 47 = .ok (.aload_n 0, 1) := by decide +kernel
theorem dX10_noise_48 : decode cX10_noise 48 = .ok (.iload_n 1, 1) := by decide +kernel
theorem dX10_noise_49 : decode cX10_noise 49 = .ok (.iload_n 2, 1) := by decide +kernel
theorem dX10_noise_50 : decode cX10_noise 50 = .ok (.iconst 0, 1) := by decide +kernel
theorem dX10_noise_51 : decode cX10_noise 51 = .ok (.invokevirtual 280, 3) := by decide +kernel
theorem dX10_noise_54 : decode cX10_noise 54 = .ok (.ireturn, 1) := by decide +kernel
abbrev mt_X10_noise : AxM := (RX10, cX10_noise, 3, (some .int), false, [])
theorem L1_X10_noise_37 {g : AxG} {l : Launch} {r9 : Int32} {S9 : AxS} (N : Nat)  (v0 : Nat) (v1 : Int32) (v2 : Int32) (w0 : Int32) (w1 : Nat) (S : AxS) (h : F_X10_noise_37 N  v0 v1 v2 w0 w1 S = some ((r9, S9))) : AW g l (axRm (2) 0 0) mt_X10_noise (axMQ g 0 0 (.inl (some (.int r9)), S9)) 0 0 S 37 [(0, .ref v0), (1, .int v1), (2, .int v2)] [.int w0, .ref w1] := by
  unfold F_X10_noise_37 at h
  refine aw_iconst 2 dX10_noise_37 rfl ?_
  refine aw_iconst 1 dX10_noise_38 rfl ?_
  obtain ⟨hL1, h⟩ := ax_is_spec h
  refine aw_doneI (rest := []) h (fun r9 S9 hF => aw_runV (As := [.int w0, .int 2, .int 1]) (rest := []) (L1_X10_bad N hF) axc10 hL1 wd_1452 wd_1449 wd_1451 wd_38 wd_97 pd_X10_bad rfl (ax_rm (by omega) rfl) ax_hf0 (Nat.le_of_ble_eq_true rfl) rfl dX10_noise_39) (fun x3 T2 h => ?_)
  refine aw_if_eq 47 dX10_noise_42 (by decide) h (fun h => ?_) (fun h => ?_)
  · refine aw_aload_n 0 dX10_noise_47 rfl rfl ?_
    refine aw_iload_n 1 dX10_noise_48 rfl rfl ?_
    refine aw_iload_n 2 dX10_noise_49 rfl rfl ?_
    refine aw_iconst 0 dX10_noise_50 rfl ?_
    obtain ⟨hL4, h⟩ := ax_is_spec h
    refine aw_doneI (rest := []) h (fun r9 S9 hF => aw_runV (As := [.int v1, .int v2, .int 0]) (rest := []) (L1_X10_noiseOf N hF) axc10 hL4 wd_1629 wd_1626 wd_1628 wd_69 wd_97 pd_X10_noiseOf rfl (ax_rm (by omega) rfl) ax_hf0 (Nat.le_of_ble_eq_true rfl) rfl dX10_noise_51) (fun x6 T5 h => ?_)
    exact aw_iret dX10_noise_54 rfl (Nat.le_refl _) (Nat.le_refl _) h
  · refine aw_iconst 0 dX10_noise_45 rfl ?_
    exact aw_iret dX10_noise_46 rfl (Nat.le_refl _) (Nat.le_refl _) h
theorem L1_X10_noise {g : AxG} {l : Launch} (N : Nat) {v0 : Nat} {v1 : Int32} {v2 : Int32} {S : AxS} {r9 : Int32} {S9 : AxS} (h : F_X10_noise N v0 v1 v2 S = some ((r9, S9))) : AxMet g l yX10_noise cX10_noise 3 (some .int) (2) 0 0 [.ref v0, .int v1, .int v2] S ((.inl (some (.int r9)), S9)) := by
  refine ax_met (own := RX10) (ini := false) (by decide +kernel) rfl (fun h => nomatch h) rfl ?_
  show AW g l (axRm (2) 0 0) mt_X10_noise (axMQ g 0 0 (.inl (some (.int r9)), S9)) 0 0 S 0 [(0, .ref v0), (1, .int v1), (2, .int v2)] []
  unfold F_X10_noise at h
  refine aw_aload_n 0 dX10_noise_0 rfl rfl ?_
  refine aw_iconst 0 dX10_noise_1 rfl ?_
  refine aw_putI axc10 0 rfl rfl wd_1285 rfl rfl rfl dX10_noise_2 h (fun T1 h => ?_)
  refine aw_aload_n 0 dX10_noise_5 rfl rfl ?_
  refine aw_aload_n 0 dX10_noise_6 rfl rfl ?_
  refine aw_iconst 1 dX10_noise_7 rfl ?_
  refine aw_iload_n 1 dX10_noise_8 rfl rfl ?_
  obtain ⟨hL2, h⟩ := ax_is_spec h
  refine aw_doneI (rest := [.ref v0]) h (fun r9 S9 hF => aw_runV (As := [.int 1, .int v1]) (rest := [.ref v0]) (L1_X10_isNo N hF) axc10 hL2 wd_1653 wd_1650 wd_1652 wd_70 wd_97 pd_X10_isNo rfl (ax_rm (by omega) rfl) ax_hf0 (Nat.le_of_ble_eq_true rfl) rfl dX10_noise_9) (fun x4 T3 h => ?_)
  refine aw_iconst 1 dX10_noise_12 rfl ?_
  refine aw_iconst 0 dX10_noise_13 rfl ?_
  obtain ⟨hL5, h⟩ := ax_is_spec h
  refine aw_doneI (rest := []) h (fun r9 S9 hF => aw_runV (As := [.int x4, .int 1, .int 0]) (rest := []) (L1_X10_bad N hF) axc10 hL5 wd_1452 wd_1449 wd_1451 wd_38 wd_97 pd_X10_bad rfl (ax_rm (by omega) rfl) ax_hf0 (Nat.le_of_ble_eq_true rfl) rfl dX10_noise_14) (fun x7 T6 h => ?_)
  refine aw_if_ne 45 dX10_noise_17 (by decide) h (fun h => ?_) (fun h => ?_)
  · refine aw_iconst 0 dX10_noise_45 rfl ?_
    exact aw_iret dX10_noise_46 rfl (Nat.le_refl _) (Nat.le_refl _) h
  · refine aw_aload_n 0 dX10_noise_20 rfl rfl ?_
    refine aw_iload_n 2 dX10_noise_21 rfl rfl ?_
    refine aw_iconst 0 dX10_noise_22 rfl ?_
    refine aw_sipush 999 dX10_noise_23 (by decide) ?_
    refine aw_doneI (rest := [.ref v0]) h (fun r9 S9 hF => aw_runS (As := [.int v2, .int 0, .int 999]) (rest := [.ref v0]) (L1_X10_in N hF) wd_1448 wd_1446 wd_1447 wd_97 pd_X10_in.2 rfl (ax_rm (by omega) rfl) ax_hf0 (Nat.le_of_ble_eq_true rfl) rfl dX10_noise_26) (fun x9 T8 h => ?_)
    refine aw_if_ne 36 dX10_noise_29 (by decide) h (fun h => ?_) (fun h => ?_)
    · refine aw_iconst 0 dX10_noise_36 rfl ?_
      refine aw_env [(0, .ref v0), (1, .int v1), (2, .int v2)] [0, 1, 2] rfl ?_
      exact L1_X10_noise_37 N  v0 v1 v2 0 v0 T8 h
    · refine aw_iconst 1 dX10_noise_32 rfl ?_
      refine aw_goto 37 dX10_noise_33 (by decide) ?_
      refine aw_env [(0, .ref v0), (1, .int v1), (2, .int v2)] [0, 1, 2] rfl ?_
      exact L1_X10_noise_37 N  v0 v1 v2 1 v0 T8 h

theorem dX10_sleepers_0 : decode cX10_sleepers 0 = .ok (.aload_n 0, 1) := by decide +kernel
theorem dX10_sleepers_1 : decode cX10_sleepers 1 = .ok (.iconst 0, 1) := by decide +kernel
theorem dX10_sleepers_2 : decode cX10_sleepers 2 = .ok (.putfield 104, 3) := by decide +kernel
theorem dX10_sleepers_5 : decode cX10_sleepers 5 = .ok (.aload_n 0, 1) := by decide +kernel
theorem dX10_sleepers_6 : decode cX10_sleepers 6 = .ok (.iload_n 1, 1) := by decide +kernel
theorem dX10_sleepers_7 : decode cX10_sleepers 7 = .ok (.iconst 0, 1) := by decide +kernel
theorem dX10_sleepers_8 : decode cX10_sleepers 8 = .ok (.sipush 999, 3) := by decide +kernel
theorem dX10_sleepers_11 : decode cX10_sleepers 11 = .ok (.invokestatic 138, 3) := by decide +kernel
theorem dX10_sleepers_14 : decode cX10_sleepers 14 = .ok (.ifCond .ne 7, 3) := by decide +kernel
theorem dX10_sleepers_17 : decode cX10_sleepers 17 = .ok (.iconst 1, 1) := by decide +kernel
theorem dX10_sleepers_18 : decode cX10_sleepers 18 = .ok (.goto 4, 3) := by decide +kernel
theorem dX10_sleepers_21 : decode cX10_sleepers 21 = .ok (.iconst 0, 1) := by decide +kernel
theorem dX10_sleepers_22 : decode cX10_sleepers 22 = .ok (.iconst 1, 1) := by decide +kernel
theorem dX10_sleepers_23 : decode cX10_sleepers 23 = .ok (.iconst 1, 1) := by decide +kernel
theorem dX10_sleepers_24 : decode cX10_sleepers 24 = .ok (.invokevirtual 193, 3) := by decide +kernel
theorem dX10_sleepers_27 : decode cX10_sleepers 27 = .ok (.ifCond .eq 5, 3) := by decide +kernel
theorem dX10_sleepers_30 : decode cX10_sleepers 30 = .ok (.iconst 0, 1) := by decide +kernel
theorem dX10_sleepers_31 : decode cX10_sleepers 31 = .ok (.ireturn, 1) := by decide +kernel
theorem dX10_sleepers_32 : decode cX10_sleepers 32 = .ok (.iconst 0, 1) := by decide +kernel
theorem dX10_sleepers_33 : decode cX10_sleepers 33 = .ok (.istore_n 2, 1) := by decide +kernel
theorem dX10_sleepers_34 : decode cX10_sleepers 34 = .ok (.iconst 0, 1) := by decide +kernel
theorem dX10_sleepers_35 : decode cX10_sleepers 35 = .ok (.istore_n 3, 1) := by decide +kernel
theorem dX10_sleepers_36 : decode cX10_sleepers 36 = .ok (.iload_n 3, 1) := by decide +kernel
theorem dX10_sleepers_37 : decode cX10_sleepers 37 = .ok (.aload_n 0, 1) := by decide +kernel
theorem dX10_sleepers_38 : decode cX10_sleepers 38 = .ok (.getfield 23, 3) := by decide +kernel
theorem dX10_sleepers_41 : decode cX10_sleepers 41 = .ok (.iconst 2, 1) := by decide +kernel
theorem dX10_sleepers_42 : decode cX10_sleepers 42 = .ok (.iaload, 1) := by decide +kernel
theorem dX10_sleepers_43 : decode cX10_sleepers 43 = .ok (.if_icmp .ge 45, 3) := by decide +kernel
theorem dX10_sleepers_46 : decode cX10_sleepers 46 = .ok (.iload_n 2, 1) := by decide +kernel
theorem dX10_sleepers_47 : decode cX10_sleepers 47 = .ok (.aload_n 0, 1) := by decide +kernel
theorem dX10_sleepers_48 : decode cX10_sleepers 48 = .ok (.aload_n 0, 1) := by decide +kernel
theorem dX10_sleepers_49 : decode cX10_sleepers 49 = .ok (.getfield 61, 3) := by decide +kernel
theorem dX10_sleepers_52 : decode cX10_sleepers 52 = .ok (.bipush 13, 2) := by decide +kernel
theorem dX10_sleepers_54 : decode cX10_sleepers 54 = .ok (.iload_n 3, 1) := by decide +kernel
theorem dX10_sleepers_55 : decode cX10_sleepers 55 = .ok (.iadd, 1) := by decide +kernel
theorem dX10_sleepers_56 : decode cX10_sleepers 56 = .ok (.iaload, 1) := by decide +kernel
theorem dX10_sleepers_57 : decode cX10_sleepers 57 = .ok (.iload_n 1, 1) := by decide +kernel
theorem dX10_sleepers_58 : decode cX10_sleepers 58 = .ok (.iconst 0, 1) := by decide +kernel
theorem dX10_sleepers_59 : decode cX10_sleepers 59 = .ok (.invokevirtual 280, 3) := by decide +kernel
theorem dX10_sleepers_62 : decode cX10_sleepers 62 = .ok (.aload_n 0, 1) := by decide +kernel
theorem dX10_sleepers_63 : decode cX10_sleepers 63 = .ok (.getfield 37, 3) := by decide +kernel
theorem dX10_sleepers_66 : decode cX10_sleepers 66 = .ok (.iconst 2, 1) := by decide +kernel
theorem dX10_sleepers_67 : decode cX10_sleepers 67 = .ok (.aaload, 1) := by decide +kernel
theorem dX10_sleepers_68 : decode cX10_sleepers 68 = .ok (.iload_n 3, 1) := by decide +kernel
theorem dX10_sleepers_69 : decode cX10_sleepers 69 = .ok (.iaload, 1) := by decide +kernel
theorem dX10_sleepers_70 : decode cX10_sleepers 70 = .ok (.if_icmp .gt 9, 3) := by decide +kernel
theorem dX10_sleepers_73 : decode cX10_sleepers 73 = .ok (.iconst 1, 1) := by decide +kernel
theorem dX10_sleepers_74 : decode cX10_sleepers 74 = .ok (.iload_n 3, 1) := by decide +kernel
theorem dX10_sleepers_75 : decode cX10_sleepers 75 = .ok (.ishl, 1) := by decide +kernel
theorem dX10_sleepers_76 : decode cX10_sleepers 76 = .ok (.goto 4, 3) := by decide +kernel
theorem dX10_sleepers_79 : decode cX10_sleepers 79 = .ok (.iconst 0, 1) := by decide +kernel
theorem dX10_sleepers_80 : decode cX10_sleepers 80 = .ok (.ior, 1) := by decide +kernel
theorem dX10_sleepers_81 : decode cX10_sleepers 81 = .ok (.istore_n 2, 1) := by decide +kernel
theorem dX10_sleepers_82 : decode cX10_sleepers 82 = .ok (.iinc 3 1, 3) := by decide +kernel
theorem dX10_sleepers_85 : decode cX10_sleepers 85 = .ok (.goto (-49), 3) := by decide +kernel
theorem dX10_sleepers_88 : decode cX10_sleepers 88 = .ok (.iload_n 2, 1) := by decide +kernel
theorem dX10_sleepers_89 : decode cX10_sleepers 89 = .ok (.ireturn, 1) := by decide +kernel
abbrev mt_X10_sleepers : AxM := (RX10, cX10_sleepers, 4, (some .int), false, [])
theorem L1_X10_sleepers_80 {g : AxG} {l : Launch} {r9 : Int32} {S9 : AxS} (N : Nat) (K36 : Nat → Int32 → Int32 → Int32 → AxS → Option (Int32 × AxS)) (hK36 : ∀ (v0 : Nat) (v1 : Int32) (v2 : Int32) (v3 : Int32) (S : AxS), K36 v0 v1 v2 v3 S = some ((r9, S9)) → AW g l (axRm (1) 0 0) mt_X10_sleepers (axMQ g 0 0 (.inl (some (.int r9)), S9)) 0 0 S 36 [(0, .ref v0), (1, .int v1), (2, .int v2), (3, .int v3)] []) (v0 : Nat) (v1 : Int32) (v3 : Int32) (w0 : Int32) (w1 : Int32) (S : AxS) (h : F_X10_sleepers_80 N K36 v0 v1 v3 w0 w1 S = some ((r9, S9))) : AW g l (axRm (1) 0 0) mt_X10_sleepers (axMQ g 0 0 (.inl (some (.int r9)), S9)) 0 0 S 80 [(0, .ref v0), (1, .int v1), (3, .int v3)] [.int w0, .int w1] := by
  unfold F_X10_sleepers_80 at h
  refine aw_ior dX10_sleepers_80 ?_
  refine aw_istore_n 2 [(2, .int (w1 ||| w0)), (0, .ref v0), (1, .int v1), (3, .int v3)] dX10_sleepers_81 rfl rfl rfl ?_
  refine aw_iinc 3 [(3, .int (v3 + 1)), (2, .int (w1 ||| w0)), (0, .ref v0), (1, .int v1)] (v3 + 1) dX10_sleepers_82 rfl rfl rfl rfl ?_
  refine aw_goto 36 dX10_sleepers_85 (by decide) ?_
  refine aw_env [(0, .ref v0), (1, .int v1), (2, .int (w1 ||| w0)), (3, .int (v3 + 1))] [2, 3, 1, 0] rfl ?_
  exact hK36 v0 v1 (w1 ||| w0) (v3 + 1) S h
theorem L1_X10_sleepers_36b {g : AxG} {l : Launch} {r9 : Int32} {S9 : AxS} (N : Nat) (K36 : Nat → Int32 → Int32 → Int32 → AxS → Option (Int32 × AxS)) (hK36 : ∀ (v0 : Nat) (v1 : Int32) (v2 : Int32) (v3 : Int32) (S : AxS), K36 v0 v1 v2 v3 S = some ((r9, S9)) → AW g l (axRm (1) 0 0) mt_X10_sleepers (axMQ g 0 0 (.inl (some (.int r9)), S9)) 0 0 S 36 [(0, .ref v0), (1, .int v1), (2, .int v2), (3, .int v3)] []) (v0 : Nat) (v1 : Int32) (v2 : Int32) (v3 : Int32) (S : AxS) (h : F_X10_sleepers_36b N K36 v0 v1 v2 v3 S = some ((r9, S9))) : AW g l (axRm (1) 0 0) mt_X10_sleepers (axMQ g 0 0 (.inl (some (.int r9)), S9)) 0 0 S 36 [(0, .ref v0), (1, .int v1), (2, .int v2), (3, .int v3)] [] := by
  unfold F_X10_sleepers_36b at h
  refine aw_iload_n 3 dX10_sleepers_36 rfl rfl ?_
  refine aw_aload_n 0 dX10_sleepers_37 rfl rfl ?_
  refine aw_getR axc10 12 rfl rfl wd_1297 dX10_sleepers_38 h (fun a1 h => ?_)
  refine aw_iconst 2 dX10_sleepers_41 rfl ?_
  refine aw_iald dX10_sleepers_42 h (fun x2 h => ?_)
  refine aw_icmp_ge 88 dX10_sleepers_43 (by decide) h (fun h => ?_) (fun h => ?_)
  · refine aw_iload_n 2 dX10_sleepers_88 rfl rfl ?_
    exact aw_iret dX10_sleepers_89 rfl (Nat.le_refl _) (Nat.le_refl _) h
  · refine aw_iload_n 2 dX10_sleepers_46 rfl rfl ?_
    refine aw_aload_n 0 dX10_sleepers_47 rfl rfl ?_
    refine aw_aload_n 0 dX10_sleepers_48 rfl rfl ?_
    refine aw_getR axc10 27 rfl rfl wd_1312 dX10_sleepers_49 h (fun a3 h => ?_)
    refine aw_bipush 13 dX10_sleepers_52 (by decide) ?_
    refine aw_iload_n 3 dX10_sleepers_54 rfl rfl ?_
    refine aw_iadd dX10_sleepers_55 ?_
    refine aw_iald dX10_sleepers_56 h (fun x4 h => ?_)
    refine aw_iload_n 1 dX10_sleepers_57 rfl rfl ?_
    refine aw_iconst 0 dX10_sleepers_58 rfl ?_
    obtain ⟨hL5, h⟩ := ax_is_spec h
    refine aw_doneI (rest := [.int v2]) h (fun r9 S9 hF => aw_runV (As := [.int x4, .int v1, .int 0]) (rest := [.int v2]) (L1_X10_noiseOf N hF) axc10 hL5 wd_1629 wd_1626 wd_1628 wd_69 wd_97 pd_X10_noiseOf rfl (ax_rm (by omega) rfl) ax_hf0 (Nat.le_of_ble_eq_true rfl) rfl dX10_sleepers_59) (fun x7 T6 h => ?_)
    refine aw_aload_n 0 dX10_sleepers_62 rfl rfl ?_
    refine aw_getR axc10 16 rfl rfl wd_1301 dX10_sleepers_63 h (fun a8 h => ?_)
    refine aw_iconst 2 dX10_sleepers_66 rfl ?_
    refine aw_aald dX10_sleepers_67 h (fun a9 h => ?_)
    refine aw_iload_n 3 dX10_sleepers_68 rfl rfl ?_
    refine aw_iald dX10_sleepers_69 h (fun x10 h => ?_)
    refine aw_icmp_gt 79 dX10_sleepers_70 (by decide) h (fun h => ?_) (fun h => ?_)
    · refine aw_iconst 0 dX10_sleepers_79 rfl ?_
      refine aw_env [(0, .ref v0), (1, .int v1), (3, .int v3)] [0, 1, 3] rfl ?_
      exact L1_X10_sleepers_80 N K36 hK36 v0 v1 v3 0 v2 T6 h
    · refine aw_iconst 1 dX10_sleepers_73 rfl ?_
      refine aw_iload_n 3 dX10_sleepers_74 rfl rfl ?_
      refine aw_ishl dX10_sleepers_75 ?_
      refine aw_goto 80 dX10_sleepers_76 (by decide) ?_
      refine aw_env [(0, .ref v0), (1, .int v1), (3, .int v3)] [0, 1, 3] rfl ?_
      exact L1_X10_sleepers_80 N K36 hK36 v0 v1 v3 (1 <<< (v3 &&& 31)) v2 T6 h
theorem L1_X10_sleepers_36 {g : AxG} {l : Launch} {r9 : Int32} {S9 : AxS} (N : Nat)  : ∀ (n : Nat) (v0 : Nat) (v1 : Int32) (v2 : Int32) (v3 : Int32) (S : AxS), F_X10_sleepers_36 N  n v0 v1 v2 v3 S = some ((r9, S9)) → AW g l (axRm (1) 0 0) mt_X10_sleepers (axMQ g 0 0 (.inl (some (.int r9)), S9)) 0 0 S 36 [(0, .ref v0), (1, .int v1), (2, .int v2), (3, .int v3)] [] := by
  intro n
  induction n with
  | zero => intro v0 v1 v2 v3 S h; cases h
  | succ n ih => intro v0 v1 v2 v3 S h; exact L1_X10_sleepers_36b N (F_X10_sleepers_36 N  n) ih v0 v1 v2 v3 S h
theorem L1_X10_sleepers_22 {g : AxG} {l : Launch} {r9 : Int32} {S9 : AxS} (N : Nat)  (v0 : Nat) (v1 : Int32) (w0 : Int32) (w1 : Nat) (S : AxS) (h : F_X10_sleepers_22 N  v0 v1 w0 w1 S = some ((r9, S9))) : AW g l (axRm (1) 0 0) mt_X10_sleepers (axMQ g 0 0 (.inl (some (.int r9)), S9)) 0 0 S 22 [(0, .ref v0), (1, .int v1)] [.int w0, .ref w1] := by
  unfold F_X10_sleepers_22 at h
  refine aw_iconst 1 dX10_sleepers_22 rfl ?_
  refine aw_iconst 1 dX10_sleepers_23 rfl ?_
  obtain ⟨hL1, h⟩ := ax_is_spec h
  refine aw_doneI (rest := []) h (fun r9 S9 hF => aw_runV (As := [.int w0, .int 1, .int 1]) (rest := []) (L1_X10_bad N hF) axc10 hL1 wd_1452 wd_1449 wd_1451 wd_38 wd_97 pd_X10_bad rfl (ax_rm (by omega) rfl) ax_hf0 (Nat.le_of_ble_eq_true rfl) rfl dX10_sleepers_24) (fun x3 T2 h => ?_)
  refine aw_if_eq 32 dX10_sleepers_27 (by decide) h (fun h => ?_) (fun h => ?_)
  · refine aw_iconst 0 dX10_sleepers_32 rfl ?_
    refine aw_istore_n 2 [(2, .int 0), (0, .ref v0), (1, .int v1)] dX10_sleepers_33 rfl rfl rfl ?_
    refine aw_iconst 0 dX10_sleepers_34 rfl ?_
    refine aw_istore_n 3 [(3, .int 0), (2, .int 0), (0, .ref v0), (1, .int v1)] dX10_sleepers_35 rfl rfl rfl ?_
    refine aw_env [(0, .ref v0), (1, .int v1), (2, .int 0), (3, .int 0)] [2, 3, 1, 0] rfl ?_
    exact L1_X10_sleepers_36 N  N v0 v1 0 0 T2 h
  · refine aw_iconst 0 dX10_sleepers_30 rfl ?_
    exact aw_iret dX10_sleepers_31 rfl (Nat.le_refl _) (Nat.le_refl _) h
theorem L1_X10_sleepers {g : AxG} {l : Launch} (N : Nat) {v0 : Nat} {v1 : Int32} {S : AxS} {r9 : Int32} {S9 : AxS} (h : F_X10_sleepers N v0 v1 S = some ((r9, S9))) : AxMet g l yX10_sleepers cX10_sleepers 4 (some .int) (1) 0 0 [.ref v0, .int v1] S ((.inl (some (.int r9)), S9)) := by
  refine ax_met (own := RX10) (ini := false) (by decide +kernel) rfl (fun h => nomatch h) rfl ?_
  show AW g l (axRm (1) 0 0) mt_X10_sleepers (axMQ g 0 0 (.inl (some (.int r9)), S9)) 0 0 S 0 [(0, .ref v0), (1, .int v1)] []
  unfold F_X10_sleepers at h
  refine aw_aload_n 0 dX10_sleepers_0 rfl rfl ?_
  refine aw_iconst 0 dX10_sleepers_1 rfl ?_
  refine aw_putI axc10 0 rfl rfl wd_1285 rfl rfl rfl dX10_sleepers_2 h (fun T1 h => ?_)
  refine aw_aload_n 0 dX10_sleepers_5 rfl rfl ?_
  refine aw_iload_n 1 dX10_sleepers_6 rfl rfl ?_
  refine aw_iconst 0 dX10_sleepers_7 rfl ?_
  refine aw_sipush 999 dX10_sleepers_8 (by decide) ?_
  refine aw_doneI (rest := [.ref v0]) h (fun r9 S9 hF => aw_runS (As := [.int v1, .int 0, .int 999]) (rest := [.ref v0]) (L1_X10_in N hF) wd_1448 wd_1446 wd_1447 wd_97 pd_X10_in.2 rfl (ax_rm (by omega) rfl) ax_hf0 (Nat.le_of_ble_eq_true rfl) rfl dX10_sleepers_11) (fun x3 T2 h => ?_)
  refine aw_if_ne 21 dX10_sleepers_14 (by decide) h (fun h => ?_) (fun h => ?_)
  · refine aw_iconst 0 dX10_sleepers_21 rfl ?_
    refine aw_env [(0, .ref v0), (1, .int v1)] [0, 1] rfl ?_
    exact L1_X10_sleepers_22 N  v0 v1 0 v0 T2 h
  · refine aw_iconst 1 dX10_sleepers_17 rfl ?_
    refine aw_goto 22 dX10_sleepers_18 (by decide) ?_
    refine aw_env [(0, .ref v0), (1, .int v1)] [0, 1] rfl ?_
    exact L1_X10_sleepers_22 N  v0 v1 1 v0 T2 h

theorem dX10_bears_0 : decode cX10_bears 0 = .ok (.aload_n 0, 1) := by decide +kernel
theorem dX10_bears_1 : decode cX10_bears 1 = .ok (.iconst 0, 1) := by decide +kernel
theorem dX10_bears_2 : decode cX10_bears 2 = .ok (.putfield 104, 3) := by decide +kernel
theorem dX10_bears_5 : decode cX10_bears 5 = .ok (.aload_n 0, 1) := by decide +kernel
theorem dX10_bears_6 : decode cX10_bears 6 = .ok (.aload_n 0, 1) := by decide +kernel
theorem dX10_bears_7 : decode cX10_bears 7 = .ok (.iconst 2, 1) := by decide +kernel
theorem dX10_bears_8 : decode cX10_bears 8 = .ok (.iload_n 1, 1) := by decide +kernel
theorem dX10_bears_9 : decode cX10_bears 9 = .ok (.invokevirtual 326, 3) := by decide +kernel
theorem dX10_bears_12 : decode cX10_bears 12 = .ok (.ifCond .ne 12, 3) := by decide +kernel
theorem dX10_bears_15 : decode cX10_bears 15 = .ok (.aload_n 0, 1) := by decide +kernel
theorem dX10_bears_16 : decode cX10_bears 16 = .ok (.iconst 1, 1) := by decide +kernel
theorem dX10_bears_17 : decode cX10_bears 17 = .ok (.iload_n 2, 1) := by decide +kernel
theorem dX10_bears_18 : decode cX10_bears 18 = .ok (.invokevirtual 326, 3) := by decide +kernel
theorem dX10_bears_21 : decode cX10_bears 21 = .ok (.ifCond .eq 7, 3) := by decide +kernel
theorem dX10_bears_24 : decode cX10_bears 24 = .ok (.iconst 1, 1) := by decide +kernel
theorem dX10_bears_25 : decode cX10_bears 25 = .ok (.goto 4, 3) := by decide +kernel
theorem dX10_bears_28 : decode cX10_bears 28 = .ok (.iconst 0, 1) := by decide +kernel
theorem dX10_bears_29 : decode cX10_bears 29 = .ok (.iconst 1, 1) := by decide +kernel
theorem dX10_bears_30 : decode cX10_bears 30 = .ok (.iconst 0, 1) := by decide +kernel
theorem dX10_bears_31 : decode cX10_bears 31 = .ok (.invokevirtual 193, 3) := by decide +kernel
theorem dX10_bears_34 : decode cX10_bears 34 = .ok (.ifCond .eq 5, 3) := by decide +kernel
theorem dX10_bears_37 : decode cX10_bears 37 = .ok (.iconst 0, 1) := by decide +kernel
theorem dX10_bears_38 : decode cX10_bears 38 = .ok (.ireturn, 1) := by decide +kernel
theorem dX10_bears_39 : decode cX10_bears 39 = .ok (.iconst 0, 1) := by decide +kernel
theorem dX10_bears_40 : decode cX10_bears 40 = .ok (.istore_n 3, 1) := by decide +kernel
theorem dX10_bears_41 : decode cX10_bears 41 = .ok (.iload_n 3, 1) := by decide +kernel
theorem dX10_bears_42 : decode cX10_bears 42 = .ok (.sipush 999, 3) := by decide +kernel
theorem dX10_bears_45 : decode cX10_bears 45 = .ok (.if_icmp .ge 29, 3) := by decide +kernel
theorem dX10_bears_48 : decode cX10_bears 48 = .ok (.aload_n 0, 1) := by decide +kernel
theorem dX10_bears_49 : decode cX10_bears 49 = .ok (.iload_n 2, 1) := by decide +kernel
theorem dX10_bears_50 : decode cX10_bears 50 = .ok (.iload_n 3, 1) := by decide +kernel
theorem dX10_bears_51 : decode cX10_bears 51 = .ok (.iconst 1, 1) := by decide +kernel
theorem dX10_bears_52 : decode cX10_bears 52 = .ok (.iadd, 1) := by decide +kernel
theorem dX10_bears_53 : decode cX10_bears 53 = .ok (.iconst 0, 1) := by decide +kernel
theorem dX10_bears_54 : decode cX10_bears 54 = .ok (.invokevirtual 280, 3) := by decide +kernel
theorem dX10_bears_57 : decode cX10_bears 57 = .ok (.aload_n 0, 1) := by decide +kernel
theorem dX10_bears_58 : decode cX10_bears 58 = .ok (.getfield 37, 3) := by decide +kernel
theorem dX10_bears_61 : decode cX10_bears 61 = .ok (.iconst 2, 1) := by decide +kernel
theorem dX10_bears_62 : decode cX10_bears 62 = .ok (.aaload, 1) := by decide +kernel
theorem dX10_bears_63 : decode cX10_bears 63 = .ok (.iload_n 1, 1) := by decide +kernel
theorem dX10_bears_64 : decode cX10_bears 64 = .ok (.iaload, 1) := by decide +kernel
theorem dX10_bears_65 : decode cX10_bears 65 = .ok (.if_icmp .gt 9, 3) := by decide +kernel
theorem dX10_bears_68 : decode cX10_bears 68 = .ok (.iinc 3 1, 3) := by decide +kernel
theorem dX10_bears_71 : decode cX10_bears 71 = .ok (.goto (-30), 3) := by decide +kernel
theorem dX10_bears_74 : decode cX10_bears 74 = .ok (.iload_n 3, 1) := by decide +kernel
theorem dX10_bears_75 : decode cX10_bears 75 = .ok (.ireturn, 1) := by decide +kernel
abbrev mt_X10_bears : AxM := (RX10, cX10_bears, 4, (some .int), false, [])
theorem L1_X10_bears_41b {g : AxG} {l : Launch} {r9 : Int32} {S9 : AxS} (N : Nat) (K41 : Nat → Int32 → Int32 → Int32 → AxS → Option (Int32 × AxS)) (hK41 : ∀ (v0 : Nat) (v1 : Int32) (v2 : Int32) (v3 : Int32) (S : AxS), K41 v0 v1 v2 v3 S = some ((r9, S9)) → AW g l (axRm (2) 0 0) mt_X10_bears (axMQ g 0 0 (.inl (some (.int r9)), S9)) 0 0 S 41 [(0, .ref v0), (1, .int v1), (2, .int v2), (3, .int v3)] []) (v0 : Nat) (v1 : Int32) (v2 : Int32) (v3 : Int32) (S : AxS) (h : F_X10_bears_41b N K41 v0 v1 v2 v3 S = some ((r9, S9))) : AW g l (axRm (2) 0 0) mt_X10_bears (axMQ g 0 0 (.inl (some (.int r9)), S9)) 0 0 S 41 [(0, .ref v0), (1, .int v1), (2, .int v2), (3, .int v3)] [] := by
  unfold F_X10_bears_41b at h
  refine aw_iload_n 3 dX10_bears_41 rfl rfl ?_
  refine aw_sipush 999 dX10_bears_42 (by decide) ?_
  refine aw_icmp_ge 74 dX10_bears_45 (by decide) h (fun h => ?_) (fun h => ?_)
  · refine aw_iload_n 3 dX10_bears_74 rfl rfl ?_
    exact aw_iret dX10_bears_75 rfl (Nat.le_refl _) (Nat.le_refl _) h
  · refine aw_aload_n 0 dX10_bears_48 rfl rfl ?_
    refine aw_iload_n 2 dX10_bears_49 rfl rfl ?_
    refine aw_iload_n 3 dX10_bears_50 rfl rfl ?_
    refine aw_iconst 1 dX10_bears_51 rfl ?_
    refine aw_iadd dX10_bears_52 ?_
    refine aw_iconst 0 dX10_bears_53 rfl ?_
    obtain ⟨hL1, h⟩ := ax_is_spec h
    refine aw_doneI (rest := []) h (fun r9 S9 hF => aw_runV (As := [.int v2, .int (v3 + 1), .int 0]) (rest := []) (L1_X10_noiseOf N hF) axc10 hL1 wd_1629 wd_1626 wd_1628 wd_69 wd_97 pd_X10_noiseOf rfl (ax_rm (by omega) rfl) ax_hf0 (Nat.le_of_ble_eq_true rfl) rfl dX10_bears_54) (fun x3 T2 h => ?_)
    refine aw_aload_n 0 dX10_bears_57 rfl rfl ?_
    refine aw_getR axc10 16 rfl rfl wd_1301 dX10_bears_58 h (fun a4 h => ?_)
    refine aw_iconst 2 dX10_bears_61 rfl ?_
    refine aw_aald dX10_bears_62 h (fun a5 h => ?_)
    refine aw_iload_n 1 dX10_bears_63 rfl rfl ?_
    refine aw_iald dX10_bears_64 h (fun x6 h => ?_)
    refine aw_icmp_gt 74 dX10_bears_65 (by decide) h (fun h => ?_) (fun h => ?_)
    · refine aw_iload_n 3 dX10_bears_74 rfl rfl ?_
      exact aw_iret dX10_bears_75 rfl (Nat.le_refl _) (Nat.le_refl _) h
    · refine aw_iinc 3 [(3, .int (v3 + 1)), (0, .ref v0), (1, .int v1), (2, .int v2)] (v3 + 1) dX10_bears_68 rfl rfl rfl rfl ?_
      refine aw_goto 41 dX10_bears_71 (by decide) ?_
      refine aw_env [(0, .ref v0), (1, .int v1), (2, .int v2), (3, .int (v3 + 1))] [1, 2, 3, 0] rfl ?_
      exact hK41 v0 v1 v2 (v3 + 1) T2 h
theorem L1_X10_bears_41 {g : AxG} {l : Launch} {r9 : Int32} {S9 : AxS} (N : Nat)  : ∀ (n : Nat) (v0 : Nat) (v1 : Int32) (v2 : Int32) (v3 : Int32) (S : AxS), F_X10_bears_41 N  n v0 v1 v2 v3 S = some ((r9, S9)) → AW g l (axRm (2) 0 0) mt_X10_bears (axMQ g 0 0 (.inl (some (.int r9)), S9)) 0 0 S 41 [(0, .ref v0), (1, .int v1), (2, .int v2), (3, .int v3)] [] := by
  intro n
  induction n with
  | zero => intro v0 v1 v2 v3 S h; cases h
  | succ n ih => intro v0 v1 v2 v3 S h; exact L1_X10_bears_41b N (F_X10_bears_41 N  n) ih v0 v1 v2 v3 S h
theorem L1_X10_bears_29 {g : AxG} {l : Launch} {r9 : Int32} {S9 : AxS} (N : Nat)  (v0 : Nat) (v1 : Int32) (v2 : Int32) (w0 : Int32) (w1 : Nat) (S : AxS) (h : F_X10_bears_29 N  v0 v1 v2 w0 w1 S = some ((r9, S9))) : AW g l (axRm (2) 0 0) mt_X10_bears (axMQ g 0 0 (.inl (some (.int r9)), S9)) 0 0 S 29 [(0, .ref v0), (1, .int v1), (2, .int v2)] [.int w0, .ref w1] := by
  unfold F_X10_bears_29 at h
  refine aw_iconst 1 dX10_bears_29 rfl ?_
  refine aw_iconst 0 dX10_bears_30 rfl ?_
  obtain ⟨hL1, h⟩ := ax_is_spec h
  refine aw_doneI (rest := []) h (fun r9 S9 hF => aw_runV (As := [.int w0, .int 1, .int 0]) (rest := []) (L1_X10_bad N hF) axc10 hL1 wd_1452 wd_1449 wd_1451 wd_38 wd_97 pd_X10_bad rfl (ax_rm (by omega) rfl) ax_hf0 (Nat.le_of_ble_eq_true rfl) rfl dX10_bears_31) (fun x3 T2 h => ?_)
  refine aw_if_eq 39 dX10_bears_34 (by decide) h (fun h => ?_) (fun h => ?_)
  · refine aw_iconst 0 dX10_bears_39 rfl ?_
    refine aw_istore_n 3 [(3, .int 0), (0, .ref v0), (1, .int v1), (2, .int v2)] dX10_bears_40 rfl rfl rfl ?_
    refine aw_env [(0, .ref v0), (1, .int v1), (2, .int v2), (3, .int 0)] [1, 2, 3, 0] rfl ?_
    exact L1_X10_bears_41 N  N v0 v1 v2 0 T2 h
  · refine aw_iconst 0 dX10_bears_37 rfl ?_
    exact aw_iret dX10_bears_38 rfl (Nat.le_refl _) (Nat.le_refl _) h
theorem L1_X10_bears_24 {g : AxG} {l : Launch} {r9 : Int32} {S9 : AxS} (N : Nat)  (v0 : Nat) (v1 : Int32) (v2 : Int32) (w0 : Nat) (S : AxS) (h : F_X10_bears_24 N  v0 v1 v2 w0 S = some ((r9, S9))) : AW g l (axRm (2) 0 0) mt_X10_bears (axMQ g 0 0 (.inl (some (.int r9)), S9)) 0 0 S 24 [(0, .ref v0), (1, .int v1), (2, .int v2)] [.ref w0] := by
  unfold F_X10_bears_24 at h
  refine aw_iconst 1 dX10_bears_24 rfl ?_
  refine aw_goto 29 dX10_bears_25 (by decide) ?_
  refine aw_env [(0, .ref v0), (1, .int v1), (2, .int v2)] [0, 1, 2] rfl ?_
  exact L1_X10_bears_29 N  v0 v1 v2 1 w0 S h
theorem L1_X10_bears {g : AxG} {l : Launch} (N : Nat) {v0 : Nat} {v1 : Int32} {v2 : Int32} {S : AxS} {r9 : Int32} {S9 : AxS} (h : F_X10_bears N v0 v1 v2 S = some ((r9, S9))) : AxMet g l yX10_bears cX10_bears 4 (some .int) (2) 0 0 [.ref v0, .int v1, .int v2] S ((.inl (some (.int r9)), S9)) := by
  refine ax_met (own := RX10) (ini := false) (by decide +kernel) rfl (fun h => nomatch h) rfl ?_
  show AW g l (axRm (2) 0 0) mt_X10_bears (axMQ g 0 0 (.inl (some (.int r9)), S9)) 0 0 S 0 [(0, .ref v0), (1, .int v1), (2, .int v2)] []
  unfold F_X10_bears at h
  refine aw_aload_n 0 dX10_bears_0 rfl rfl ?_
  refine aw_iconst 0 dX10_bears_1 rfl ?_
  refine aw_putI axc10 0 rfl rfl wd_1285 rfl rfl rfl dX10_bears_2 h (fun T1 h => ?_)
  refine aw_aload_n 0 dX10_bears_5 rfl rfl ?_
  refine aw_aload_n 0 dX10_bears_6 rfl rfl ?_
  refine aw_iconst 2 dX10_bears_7 rfl ?_
  refine aw_iload_n 1 dX10_bears_8 rfl rfl ?_
  obtain ⟨hL2, h⟩ := ax_is_spec h
  refine aw_doneI (rest := [.ref v0]) h (fun r9 S9 hF => aw_runV (As := [.int 2, .int v1]) (rest := [.ref v0]) (L1_X10_isNo N hF) axc10 hL2 wd_1653 wd_1650 wd_1652 wd_70 wd_97 pd_X10_isNo rfl (ax_rm (by omega) rfl) ax_hf0 (Nat.le_of_ble_eq_true rfl) rfl dX10_bears_9) (fun x4 T3 h => ?_)
  refine aw_if_ne 24 dX10_bears_12 (by decide) h (fun h => ?_) (fun h => ?_)
  · refine aw_env [(0, .ref v0), (1, .int v1), (2, .int v2)] [0, 1, 2] rfl ?_
    exact L1_X10_bears_24 N  v0 v1 v2 v0 T3 h
  · refine aw_aload_n 0 dX10_bears_15 rfl rfl ?_
    refine aw_iconst 1 dX10_bears_16 rfl ?_
    refine aw_iload_n 2 dX10_bears_17 rfl rfl ?_
    obtain ⟨hL5, h⟩ := ax_is_spec h
    refine aw_doneI (rest := [.ref v0]) h (fun r9 S9 hF => aw_runV (As := [.int 1, .int v2]) (rest := [.ref v0]) (L1_X10_isNo N hF) axc10 hL5 wd_1653 wd_1650 wd_1652 wd_70 wd_97 pd_X10_isNo rfl (ax_rm (by omega) rfl) ax_hf0 (Nat.le_of_ble_eq_true rfl) rfl dX10_bears_18) (fun x7 T6 h => ?_)
    refine aw_if_eq 28 dX10_bears_21 (by decide) h (fun h => ?_) (fun h => ?_)
    · refine aw_iconst 0 dX10_bears_28 rfl ?_
      refine aw_env [(0, .ref v0), (1, .int v1), (2, .int v2)] [0, 1, 2] rfl ?_
      exact L1_X10_bears_29 N  v0 v1 v2 0 v0 T6 h
    · refine aw_env [(0, .ref v0), (1, .int v1), (2, .int v2)] [0, 1, 2] rfl ?_
      exact L1_X10_bears_24 N  v0 v1 v2 v0 T6 h

theorem dX10_grows_0 : decode cX10_grows 0 = .ok (.aload_n 0, 1) := by decide +kernel
theorem dX10_grows_1 : decode cX10_grows 1 = .ok (.iconst 0, 1) := by decide +kernel
theorem dX10_grows_2 : decode cX10_grows 2 = .ok (.putfield 104, 3) := by decide +kernel
theorem dX10_grows_5 : decode cX10_grows 5 = .ok (.aload_n 0, 1) := by decide +kernel
theorem dX10_grows_6 : decode cX10_grows 6 = .ok (.iload_n 1, 1) := by decide +kernel
theorem dX10_grows_7 : decode cX10_grows 7 = .ok (.iconst 0, 1) := by decide +kernel
theorem dX10_grows_8 : decode cX10_grows 8 = .ok (.ldc_w 293, 3) := by decide +kernel
theorem dX10_grows_11 : decode cX10_grows 11 = .ok (.invokestatic 138, 3) := by decide +kernel
theorem dX10_grows_14 : decode cX10_grows 14 = .ok (.ifCond .ne 7, 3) := by decide +kernel
theorem dX10_grows_17 : decode cX10_grows 17 = .ok (.iconst 1, 1) := by decide +kernel
theorem dX10_grows_18 : decode cX10_grows 18 = .ok (.goto 4, 3) := by decide +kernel
theorem dX10_grows_21 : decode cX10_grows 21 = .ok (.iconst 0, 1) := by decide +kernel
theorem dX10_grows_22 : decode cX10_grows 22 = .ok (.iconst 1, 1) := by decide +kernel
theorem dX10_grows_23 : decode cX10_grows 23 = .ok (.iconst 1, 1) := by decide +kernel
theorem dX10_grows_24 : decode cX10_grows 24 = .ok (.invokevirtual 193, 3) := by decide +kernel
theorem dX10_grows_27 : decode cX10_grows 27 = .ok (.ifCond .eq 5, 3) := by decide +kernel
theorem dX10_grows_30 : decode cX10_grows 30 = .ok (.iconst 0, 1) := by decide +kernel
theorem dX10_grows_31 : decode cX10_grows 31 = .ok (.ireturn, 1) := by decide +kernel
theorem dX10_grows_32 : decode cX10_grows 32 = .ok (.aload_n 0, 1) := by decide +kernel
theorem dX10_grows_33 : decode cX10_grows 33 = .ok (.getfield 61, 3) := by decide +kernel
theorem dX10_grows_36 : decode cX10_grows 36 = .ok (.aload_n 0, 1) := by decide +kernel
theorem dX10_grows_37 : decode cX10_grows 37 = .ok (.getfield 64, 3) := by decide +kernel
theorem dX10_grows_40 : decode cX10_grows 40 = .ok (.invokestatic 322, 3) := by decide +kernel
theorem dX10_grows_43 : decode cX10_grows 43 = .ok (.iconst 0, 1) := by decide +kernel
theorem dX10_grows_44 : decode cX10_grows 44 = .ok (.istore_n 2, 1) := by decide +kernel
theorem dX10_grows_45 : decode cX10_grows 45 = .ok (.iload_n 2, 1) := by decide +kernel
theorem dX10_grows_46 : decode cX10_grows 46 = .ok (.bipush 120, 2) := by decide +kernel
theorem dX10_grows_48 : decode cX10_grows 48 = .ok (.if_icmp .gt 29, 3) := by decide +kernel
theorem dX10_grows_51 : decode cX10_grows 51 = .ok (.aload_n 0, 1) := by decide +kernel
theorem dX10_grows_52 : decode cX10_grows 52 = .ok (.getfield 64, 3) := by decide +kernel
theorem dX10_grows_55 : decode cX10_grows 55 = .ok (.iconst 0, 1) := by decide +kernel
theorem dX10_grows_56 : decode cX10_grows 56 = .ok (.iaload, 1) := by decide +kernel
theorem dX10_grows_57 : decode cX10_grows 57 = .ok (.iload_n 1, 1) := by decide +kernel
theorem dX10_grows_58 : decode cX10_grows 58 = .ok (.if_icmp .lt 5, 3) := by decide +kernel
theorem dX10_grows_61 : decode cX10_grows 61 = .ok (.iload_n 2, 1) := by decide +kernel
theorem dX10_grows_62 : decode cX10_grows 62 = .ok (.ireturn, 1) := by decide +kernel
theorem dX10_grows_63 : decode cX10_grows 63 = .ok (.aload_n 0, 1) := by decide +kernel
theorem dX10_grows_64 : decode cX10_grows 64 = .ok (.aload_n 0, 1) := by decide +kernel
theorem dX10_grows_65 : decode cX10_grows 65 = .ok (.getfield 64, 3) := by decide +kernel
theorem dX10_grows_68 : decode cX10_grows 68 = .ok (.invokevirtual 305, 3) := by decide +kernel
theorem dX10_grows_71 : decode cX10_grows 71 = .ok (.iinc 2 1, 3) := by decide +kernel
theorem dX10_grows_74 : decode cX10_grows 74 = .ok (.goto (-29), 3) := by decide +kernel
theorem dX10_grows_77 : decode cX10_grows 77 = .ok (.iconst (-1), 1) := by decide +kernel
theorem dX10_grows_78 : decode cX10_grows 78 = .ok (.ireturn, 1) := by decide +kernel
abbrev mt_X10_grows : AxM := (RX10, cX10_grows, 3, (some .int), false, [])
theorem L1_X10_grows_45b {g : AxG} {l : Launch} {r9 : Int32} {S9 : AxS} (N : Nat) (K45 : Nat → Int32 → Int32 → AxS → Option (Int32 × AxS)) (hK45 : ∀ (v0 : Nat) (v1 : Int32) (v2 : Int32) (S : AxS), K45 v0 v1 v2 S = some ((r9, S9)) → AW g l (axRm (5) 0 0) mt_X10_grows (axMQ g 0 0 (.inl (some (.int r9)), S9)) 0 0 S 45 [(0, .ref v0), (1, .int v1), (2, .int v2)] []) (v0 : Nat) (v1 : Int32) (v2 : Int32) (S : AxS) (h : F_X10_grows_45b N K45 v0 v1 v2 S = some ((r9, S9))) : AW g l (axRm (5) 0 0) mt_X10_grows (axMQ g 0 0 (.inl (some (.int r9)), S9)) 0 0 S 45 [(0, .ref v0), (1, .int v1), (2, .int v2)] [] := by
  unfold F_X10_grows_45b at h
  refine aw_iload_n 2 dX10_grows_45 rfl rfl ?_
  refine aw_bipush 120 dX10_grows_46 (by decide) ?_
  refine aw_icmp_gt 77 dX10_grows_48 (by decide) h (fun h => ?_) (fun h => ?_)
  · refine aw_iconst (-1) dX10_grows_77 rfl ?_
    exact aw_iret dX10_grows_78 rfl (Nat.le_refl _) (Nat.le_refl _) h
  · refine aw_aload_n 0 dX10_grows_51 rfl rfl ?_
    refine aw_getR axc10 28 rfl rfl wd_1313 dX10_grows_52 h (fun a1 h => ?_)
    refine aw_iconst 0 dX10_grows_55 rfl ?_
    refine aw_iald dX10_grows_56 h (fun x2 h => ?_)
    refine aw_iload_n 1 dX10_grows_57 rfl rfl ?_
    refine aw_icmp_lt 63 dX10_grows_58 (by decide) h (fun h => ?_) (fun h => ?_)
    · refine aw_aload_n 0 dX10_grows_63 rfl rfl ?_
      refine aw_aload_n 0 dX10_grows_64 rfl rfl ?_
      refine aw_getR axc10 28 rfl rfl wd_1313 dX10_grows_65 h (fun a3 h => ?_)
      obtain ⟨hL4, h⟩ := ax_is_spec h
      refine aw_doneV (rest := []) h (fun S9 hF => aw_runV (As := [.ref a3]) (rest := []) (L1_X10_nightEnds N hF) axc10 hL4 wd_1604 wd_1601 wd_1603 wd_65 wd_97 pd_X10_nightEnds rfl (ax_rm (by omega) rfl) ax_hf0 (Nat.le_of_ble_eq_true rfl) rfl dX10_grows_68) (fun T5 h => ?_)
      refine aw_iinc 2 [(2, .int (v2 + 1)), (0, .ref v0), (1, .int v1)] (v2 + 1) dX10_grows_71 rfl rfl rfl rfl ?_
      refine aw_goto 45 dX10_grows_74 (by decide) ?_
      refine aw_env [(0, .ref v0), (1, .int v1), (2, .int (v2 + 1))] [1, 2, 0] rfl ?_
      exact hK45 v0 v1 (v2 + 1) T5 h
    · refine aw_iload_n 2 dX10_grows_61 rfl rfl ?_
      exact aw_iret dX10_grows_62 rfl (Nat.le_refl _) (Nat.le_refl _) h
theorem L1_X10_grows_45 {g : AxG} {l : Launch} {r9 : Int32} {S9 : AxS} (N : Nat)  : ∀ (n : Nat) (v0 : Nat) (v1 : Int32) (v2 : Int32) (S : AxS), F_X10_grows_45 N  n v0 v1 v2 S = some ((r9, S9)) → AW g l (axRm (5) 0 0) mt_X10_grows (axMQ g 0 0 (.inl (some (.int r9)), S9)) 0 0 S 45 [(0, .ref v0), (1, .int v1), (2, .int v2)] [] := by
  intro n
  induction n with
  | zero => intro v0 v1 v2 S h; cases h
  | succ n ih => intro v0 v1 v2 S h; exact L1_X10_grows_45b N (F_X10_grows_45 N  n) ih v0 v1 v2 S h
theorem L1_X10_grows_22 {g : AxG} {l : Launch} {r9 : Int32} {S9 : AxS} (N : Nat)  (v0 : Nat) (v1 : Int32) (w0 : Int32) (w1 : Nat) (S : AxS) (h : F_X10_grows_22 N  v0 v1 w0 w1 S = some ((r9, S9))) : AW g l (axRm (5) 0 0) mt_X10_grows (axMQ g 0 0 (.inl (some (.int r9)), S9)) 0 0 S 22 [(0, .ref v0), (1, .int v1)] [.int w0, .ref w1] := by
  unfold F_X10_grows_22 at h
  refine aw_iconst 1 dX10_grows_22 rfl ?_
  refine aw_iconst 1 dX10_grows_23 rfl ?_
  obtain ⟨hL1, h⟩ := ax_is_spec h
  refine aw_doneI (rest := []) h (fun r9 S9 hF => aw_runV (As := [.int w0, .int 1, .int 1]) (rest := []) (L1_X10_bad N hF) axc10 hL1 wd_1452 wd_1449 wd_1451 wd_38 wd_97 pd_X10_bad rfl (ax_rm (by omega) rfl) ax_hf0 (Nat.le_of_ble_eq_true rfl) rfl dX10_grows_24) (fun x3 T2 h => ?_)
  refine aw_if_eq 32 dX10_grows_27 (by decide) h (fun h => ?_) (fun h => ?_)
  · refine aw_aload_n 0 dX10_grows_32 rfl rfl ?_
    refine aw_getR axc10 27 rfl rfl wd_1312 dX10_grows_33 h (fun a4 h => ?_)
    refine aw_aload_n 0 dX10_grows_36 rfl rfl ?_
    refine aw_getR axc10 28 rfl rfl wd_1313 dX10_grows_37 h (fun a5 h => ?_)
    refine aw_doneV (rest := []) h (fun S9 hF => aw_runS (As := [.ref a4, .ref a5]) (rest := []) (L1_X10_copies N hF) wd_1582 wd_1580 wd_1581 wd_97 pd_X10_copies.2 rfl (ax_rm (by omega) rfl) ax_hf0 (Nat.le_of_ble_eq_true rfl) rfl dX10_grows_40) (fun T6 h => ?_)
    refine aw_iconst 0 dX10_grows_43 rfl ?_
    refine aw_istore_n 2 [(2, .int 0), (0, .ref v0), (1, .int v1)] dX10_grows_44 rfl rfl rfl ?_
    refine aw_env [(0, .ref v0), (1, .int v1), (2, .int 0)] [1, 2, 0] rfl ?_
    exact L1_X10_grows_45 N  N v0 v1 0 T6 h
  · refine aw_iconst 0 dX10_grows_30 rfl ?_
    exact aw_iret dX10_grows_31 rfl (Nat.le_refl _) (Nat.le_refl _) h
theorem L1_X10_grows {g : AxG} {l : Launch} (N : Nat) {v0 : Nat} {v1 : Int32} {S : AxS} {r9 : Int32} {S9 : AxS} (h : F_X10_grows N v0 v1 S = some ((r9, S9))) : AxMet g l yX10_grows cX10_grows 3 (some .int) (5) 0 0 [.ref v0, .int v1] S ((.inl (some (.int r9)), S9)) := by
  refine ax_met (own := RX10) (ini := false) (by decide +kernel) rfl (fun h => nomatch h) rfl ?_
  show AW g l (axRm (5) 0 0) mt_X10_grows (axMQ g 0 0 (.inl (some (.int r9)), S9)) 0 0 S 0 [(0, .ref v0), (1, .int v1)] []
  unfold F_X10_grows at h
  refine aw_aload_n 0 dX10_grows_0 rfl rfl ?_
  refine aw_iconst 0 dX10_grows_1 rfl ?_
  refine aw_putI axc10 0 rfl rfl wd_1285 rfl rfl rfl dX10_grows_2 h (fun T1 h => ?_)
  refine aw_aload_n 0 dX10_grows_5 rfl rfl ?_
  refine aw_iload_n 1 dX10_grows_6 rfl rfl ?_
  refine aw_iconst 0 dX10_grows_7 rfl ?_
  refine aw_ldcwI wd_1633 dX10_grows_8 ?_
  refine aw_doneI (rest := [.ref v0]) h (fun r9 S9 hF => aw_runS (As := [.int v1, .int 0, .int 99999]) (rest := [.ref v0]) (L1_X10_in N hF) wd_1448 wd_1446 wd_1447 wd_97 pd_X10_in.2 rfl (ax_rm (by omega) rfl) ax_hf0 (Nat.le_of_ble_eq_true rfl) rfl dX10_grows_11) (fun x3 T2 h => ?_)
  refine aw_if_ne 21 dX10_grows_14 (by decide) h (fun h => ?_) (fun h => ?_)
  · refine aw_iconst 0 dX10_grows_21 rfl ?_
    refine aw_env [(0, .ref v0), (1, .int v1)] [0, 1] rfl ?_
    exact L1_X10_grows_22 N  v0 v1 0 v0 T2 h
  · refine aw_iconst 1 dX10_grows_17 rfl ?_
    refine aw_goto 22 dX10_grows_18 (by decide) ?_
    refine aw_env [(0, .ref v0), (1, .int v1)] [0, 1] rfl ?_
    exact L1_X10_grows_22 N  v0 v1 1 v0 T2 h

theorem dX10_ahead_0 : decode cX10_ahead 0 = .ok (.aload_n 0, 1) := by decide +kernel
theorem dX10_ahead_1 : decode cX10_ahead 1 = .ok (.iconst 0, 1) := by decide +kernel
theorem dX10_ahead_2 : decode cX10_ahead 2 = .ok (.putfield 104, 3) := by decide +kernel
theorem dX10_ahead_5 : decode cX10_ahead 5 = .ok (.aload_n 0, 1) := by decide +kernel
theorem dX10_ahead_6 : decode cX10_ahead 6 = .ok (.iload_n 1, 1) := by decide +kernel
theorem dX10_ahead_7 : decode cX10_ahead 7 = .ok (.iconst 0, 1) := by decide +kernel
theorem dX10_ahead_8 : decode cX10_ahead 8 = .ok (.bipush 60, 2) := by decide +kernel
theorem dX10_ahead_10 : decode cX10_ahead 10 = .ok (.invokestatic 138, 3) := by decide +kernel
theorem dX10_ahead_13 : decode cX10_ahead 13 = .ok (.ifCond .eq 12, 3) := by decide +kernel
theorem dX10_ahead_16 : decode cX10_ahead 16 = .ok (.iload_n 2, 1) := by decide +kernel
theorem dX10_ahead_17 : decode cX10_ahead 17 = .ok (.iconst 0, 1) := by decide +kernel
theorem dX10_ahead_18 : decode cX10_ahead 18 = .ok (.iconst 3, 1) := by decide +kernel
theorem dX10_ahead_19 : decode cX10_ahead 19 = .ok (.invokestatic 138, 3) := by decide +kernel
theorem dX10_ahead_22 : decode cX10_ahead 22 = .ok (.ifCond .ne 7, 3) := by decide +kernel
theorem dX10_ahead_25 : decode cX10_ahead 25 = .ok (.iconst 1, 1) := by decide +kernel
theorem dX10_ahead_26 : decode cX10_ahead 26 = .ok (.goto 4, 3) := by decide +kernel
theorem dX10_ahead_29 : decode cX10_ahead 29 = .ok (.iconst 0, 1) := by decide +kernel
theorem dX10_ahead_30 : decode cX10_ahead 30 = .ok (.iconst 1, 1) := by decide +kernel
theorem dX10_ahead_31 : decode cX10_ahead 31 = .ok (.iconst 1, 1) := by decide +kernel
theorem dX10_ahead_32 : decode cX10_ahead 32 = .ok (.invokevirtual 193, 3) := by decide +kernel
theorem dX10_ahead_35 : decode cX10_ahead 35 = .ok (.ifCond .eq 5, 3) := by decide +kernel
theorem dX10_ahead_38 : decode cX10_ahead 38 = .ok (.iconst 0, 1) := by decide +kernel
theorem dX10_ahead_39 : decode cX10_ahead 39 = .ok (.ireturn, 1) := by decide +kernel
theorem dX10_ahead_40 : decode cX10_ahead 40 = .ok (.iconst 0, 1) := by decide +kernel
theorem dX10_ahead_41 : decode cX10_ahead 41 = .ok (.istore_n 3, 1) := by decide +kernel
theorem dX10_ahead_42 : decode cX10_ahead 42 = .ok (.aload_n 0, 1) := by decide +kernel
theorem dX10_ahead_43 : decode cX10_ahead 43 = .ok (.getfield 61, 3) := by decide +kernel
theorem dX10_ahead_46 : decode cX10_ahead 46 = .ok (.aload_n 0, 1) := by decide +kernel
theorem dX10_ahead_47 : decode cX10_ahead 47 = .ok (.getfield 64, 3) := by decide +kernel
theorem dX10_ahead_50 : decode cX10_ahead 50 = .ok (.invokestatic 322, 3) := by decide +kernel
theorem dX10_ahead_53 : decode cX10_ahead 53 = .ok (.iconst 0, 1) := by decide +kernel
theorem dX10_ahead_54 : decode cX10_ahead 54 = .ok (.istore 4, 2) := by decide +kernel
theorem dX10_ahead_56 : decode cX10_ahead 56 = .ok (.iload 4, 2) := by decide +kernel
theorem dX10_ahead_58 : decode cX10_ahead 58 = .ok (.iload_n 1, 1) := by decide +kernel
theorem dX10_ahead_59 : decode cX10_ahead 59 = .ok (.if_icmp .ge 36, 3) := by decide +kernel
theorem dX10_ahead_62 : decode cX10_ahead 62 = .ok (.iload_n 3, 1) := by decide +kernel
theorem dX10_ahead_63 : decode cX10_ahead 63 = .ok (.aload_n 0, 1) := by decide +kernel
theorem dX10_ahead_64 : decode cX10_ahead 64 = .ok (.aload_n 0, 1) := by decide +kernel
theorem dX10_ahead_65 : decode cX10_ahead 65 = .ok (.getfield 64, 3) := by decide +kernel
theorem dX10_ahead_68 : decode cX10_ahead 68 = .ok (.invokevirtual 283, 3) := by decide +kernel
theorem dX10_ahead_71 : decode cX10_ahead 71 = .ok (.ifCond .ne 7, 3) := by decide +kernel
theorem dX10_ahead_74 : decode cX10_ahead 74 = .ok (.iconst 1, 1) := by decide +kernel
theorem dX10_ahead_75 : decode cX10_ahead 75 = .ok (.goto 4, 3) := by decide +kernel
theorem dX10_ahead_78 : decode cX10_ahead 78 = .ok (.iconst 0, 1) := by decide +kernel
theorem dX10_ahead_79 : decode cX10_ahead 79 = .ok (.iadd, 1) := by decide +kernel
theorem dX10_ahead_80 : decode cX10_ahead 80 = .ok (.istore_n 3, 1) := by decide +kernel
theorem dX10_ahead_81 : decode cX10_ahead 81 = .ok (.aload_n 0, 1) := by decide +kernel
theorem dX10_ahead_82 : decode cX10_ahead 82 = .ok (.aload_n 0, 1) := by decide +kernel
theorem dX10_ahead_83 : decode cX10_ahead 83 = .ok (.getfield 64, 3) := by decide +kernel
theorem dX10_ahead_86 : decode cX10_ahead 86 = .ok (.invokevirtual 305, 3) := by decide +kernel
theorem dX10_ahead_89 : decode cX10_ahead 89 = .ok (.iinc 4 1, 3) := by decide +kernel
theorem dX10_ahead_92 : decode cX10_ahead 92 = .ok (.goto (-36), 3) := by decide +kernel
theorem dX10_ahead_95 : decode cX10_ahead 95 = .ok (.iload_n 2, 1) := by decide +kernel
theorem dX10_ahead_96 : decode cX10_ahead 96 = .ok (.tableswitch 67 0 2 #[28, 44, 51], 28) := by decide +kernel
theorem dX10_ahead_124 : decode cX10_ahead 124 = .ok (.aload_n 0, 1) := by decide +kernel
theorem dX10_ahead_125 : decode cX10_ahead 125 = .ok (.getfield 64, 3) := by decide +kernel
theorem dX10_ahead_128 : decode cX10_ahead 128 = .ok (.bipush 9, 2) := by decide +kernel
theorem dX10_ahead_130 : decode cX10_ahead 130 = .ok (.iaload, 1) := by decide +kernel
theorem dX10_ahead_131 : decode cX10_ahead 131 = .ok (.aload_n 0, 1) := by decide +kernel
theorem dX10_ahead_132 : decode cX10_ahead 132 = .ok (.getfield 61, 3) := by decide +kernel
theorem dX10_ahead_135 : decode cX10_ahead 135 = .ok (.bipush 9, 2) := by decide +kernel
theorem dX10_ahead_137 : decode cX10_ahead 137 = .ok (.iaload, 1) := by decide +kernel
theorem dX10_ahead_138 : decode cX10_ahead 138 = .ok (.isub, 1) := by decide +kernel
theorem dX10_ahead_139 : decode cX10_ahead 139 = .ok (.ireturn, 1) := by decide +kernel
theorem dX10_ahead_140 : decode cX10_ahead 140 = .ok (.aload_n 0, 1) := by decide +kernel
theorem dX10_ahead_141 : decode cX10_ahead 141 = .ok (.getfield 64, 3) := by decide +kernel
theorem dX10_ahead_144 : decode cX10_ahead 144 = .ok (.iconst 0, 1) := by decide +kernel
theorem dX10_ahead_145 : decode cX10_ahead 145 = .ok (.iaload, 1) := by decide +kernel
theorem dX10_ahead_146 : decode cX10_ahead 146 = .ok (.ireturn, 1) := by decide +kernel
theorem dX10_ahead_147 : decode cX10_ahead 147 = .ok (.aload_n 0, 1) := by decide +kernel
theorem dX10_ahead_148 : decode cX10_ahead 148 = .ok (.getfield 64, 3) := by decide +kernel
theorem dX10_ahead_151 : decode cX10_ahead 151 = .ok (.bipush 10, 2) := by decide +kernel
theorem dX10_ahead_153 : decode cX10_ahead 153 = .ok (.iaload, 1) := by decide +kernel
theorem dX10_ahead_154 : decode cX10_ahead 154 = .ok (.aload_n 0, 1) := by decide +kernel
theorem dX10_ahead_155 : decode cX10_ahead 155 = .ok (.getfield 61, 3) := by decide +kernel
theorem dX10_ahead_158 : decode cX10_ahead 158 = .ok (.bipush 10, 2) := by decide +kernel
theorem dX10_ahead_160 : decode cX10_ahead 160 = .ok (.iaload, 1) := by decide +kernel
theorem dX10_ahead_161 : decode cX10_ahead 161 = .ok (.isub, 1) := by decide +kernel
theorem dX10_ahead_162 : decode cX10_ahead 162 = .ok (.ireturn, 1) := by decide +kernel
theorem dX10_ahead_163 : decode cX10_ahead 163 = .ok (.iload_n 3, 1) := by decide +kernel
theorem dX10_ahead_164 : decode cX10_ahead 164 = .ok (.ireturn, 1) := by decide +kernel
abbrev mt_X10_ahead : AxM := (RX10, cX10_ahead, 5, (some .int), false, [])
theorem L1_X10_ahead_79 {g : AxG} {l : Launch} {r9 : Int32} {S9 : AxS} (N : Nat) (K56 : Nat → Int32 → Int32 → Int32 → Int32 → AxS → Option (Int32 × AxS)) (hK56 : ∀ (v0 : Nat) (v1 : Int32) (v2 : Int32) (v3 : Int32) (v4 : Int32) (S : AxS), K56 v0 v1 v2 v3 v4 S = some ((r9, S9)) → AW g l (axRm (5) 0 0) mt_X10_ahead (axMQ g 0 0 (.inl (some (.int r9)), S9)) 0 0 S 56 [(0, .ref v0), (1, .int v1), (2, .int v2), (3, .int v3), (4, .int v4)] []) (v0 : Nat) (v1 : Int32) (v2 : Int32) (v4 : Int32) (w0 : Int32) (w1 : Int32) (S : AxS) (h : F_X10_ahead_79 N K56 v0 v1 v2 v4 w0 w1 S = some ((r9, S9))) : AW g l (axRm (5) 0 0) mt_X10_ahead (axMQ g 0 0 (.inl (some (.int r9)), S9)) 0 0 S 79 [(0, .ref v0), (1, .int v1), (2, .int v2), (4, .int v4)] [.int w0, .int w1] := by
  unfold F_X10_ahead_79 at h
  refine aw_iadd dX10_ahead_79 ?_
  refine aw_istore_n 3 [(3, .int (w1 + w0)), (0, .ref v0), (1, .int v1), (2, .int v2), (4, .int v4)] dX10_ahead_80 rfl rfl rfl ?_
  refine aw_aload_n 1 dX10_ahead_81 rfl rfl ?_
  refine aw_aload_n 1 dX10_ahead_82 rfl rfl ?_
  refine aw_getR axc10 28 rfl rfl wd_1313 dX10_ahead_83 h (fun a1 h => ?_)
  obtain ⟨hL2, h⟩ := ax_is_spec h
  refine aw_doneV (rest := []) h (fun S9 hF => aw_runV (As := [.ref a1]) (rest := []) (L1_X10_nightEnds N hF) axc10 hL2 wd_1604 wd_1601 wd_1603 wd_65 wd_97 pd_X10_nightEnds rfl (ax_rm (by omega) rfl) ax_hf0 (Nat.le_of_ble_eq_true rfl) rfl dX10_ahead_86) (fun T3 h => ?_)
  refine aw_iinc 4 [(4, .int (v4 + 1)), (3, .int (w1 + w0)), (0, .ref v0), (1, .int v1), (2, .int v2)] (v4 + 1) dX10_ahead_89 rfl rfl rfl rfl ?_
  refine aw_goto 56 dX10_ahead_92 (by decide) ?_
  refine aw_env [(0, .ref v0), (1, .int v1), (2, .int v2), (3, .int (w1 + w0)), (4, .int (v4 + 1))] [2, 3, 4, 1, 0] rfl ?_
  exact hK56 v0 v1 v2 (w1 + w0) (v4 + 1) T3 h
theorem L1_X10_ahead_56b {g : AxG} {l : Launch} {r9 : Int32} {S9 : AxS} (N : Nat) (K56 : Nat → Int32 → Int32 → Int32 → Int32 → AxS → Option (Int32 × AxS)) (hK56 : ∀ (v0 : Nat) (v1 : Int32) (v2 : Int32) (v3 : Int32) (v4 : Int32) (S : AxS), K56 v0 v1 v2 v3 v4 S = some ((r9, S9)) → AW g l (axRm (5) 0 0) mt_X10_ahead (axMQ g 0 0 (.inl (some (.int r9)), S9)) 0 0 S 56 [(0, .ref v0), (1, .int v1), (2, .int v2), (3, .int v3), (4, .int v4)] []) (v0 : Nat) (v1 : Int32) (v2 : Int32) (v3 : Int32) (v4 : Int32) (S : AxS) (h : F_X10_ahead_56b N K56 v0 v1 v2 v3 v4 S = some ((r9, S9))) : AW g l (axRm (5) 0 0) mt_X10_ahead (axMQ g 0 0 (.inl (some (.int r9)), S9)) 0 0 S 56 [(0, .ref v0), (1, .int v1), (2, .int v2), (3, .int v3), (4, .int v4)] [] := by
  unfold F_X10_ahead_56b at h
  refine aw_iload 4 dX10_ahead_56 rfl ?_
  refine aw_iload_n 1 dX10_ahead_58 rfl rfl ?_
  refine aw_icmp_ge 95 dX10_ahead_59 (by decide) h (fun h => ?_) (fun h => ?_)
  · refine aw_iload_n 2 dX10_ahead_95 rfl rfl ?_
    refine aw_case 0 h (fun h => ?_) (fun c5 h => ?_)
    · refine aw_tswIn 124 (off := 28) dX10_ahead_96 (by decide) (by decide) (by decide) (by decide) ?_
      refine aw_aload_n 0 dX10_ahead_124 rfl rfl ?_
      refine aw_getR axc10 28 rfl rfl wd_1313 dX10_ahead_125 h (fun a1 h => ?_)
      refine aw_bipush 9 dX10_ahead_128 (by decide) ?_
      refine aw_iald dX10_ahead_130 h (fun x2 h => ?_)
      refine aw_aload_n 0 dX10_ahead_131 rfl rfl ?_
      refine aw_getR axc10 27 rfl rfl wd_1312 dX10_ahead_132 h (fun a3 h => ?_)
      refine aw_bipush 9 dX10_ahead_135 (by decide) ?_
      refine aw_iald dX10_ahead_137 h (fun x4 h => ?_)
      refine aw_isub dX10_ahead_138 ?_
      exact aw_iret dX10_ahead_139 rfl (Nat.le_refl _) (Nat.le_refl _) h
    refine aw_case 1 h (fun h => ?_) (fun c8 h => ?_)
    · refine aw_tswIn 140 (off := 44) dX10_ahead_96 (by decide) (by decide) (by decide) (by decide) ?_
      refine aw_aload_n 0 dX10_ahead_140 rfl rfl ?_
      refine aw_getR axc10 28 rfl rfl wd_1313 dX10_ahead_141 h (fun a6 h => ?_)
      refine aw_iconst 0 dX10_ahead_144 rfl ?_
      refine aw_iald dX10_ahead_145 h (fun x7 h => ?_)
      exact aw_iret dX10_ahead_146 rfl (Nat.le_refl _) (Nat.le_refl _) h
    refine aw_case 2 h (fun h => ?_) (fun c13 h => ?_)
    · refine aw_tswIn 147 (off := 51) dX10_ahead_96 (by decide) (by decide) (by decide) (by decide) ?_
      refine aw_aload_n 0 dX10_ahead_147 rfl rfl ?_
      refine aw_getR axc10 28 rfl rfl wd_1313 dX10_ahead_148 h (fun a9 h => ?_)
      refine aw_bipush 10 dX10_ahead_151 (by decide) ?_
      refine aw_iald dX10_ahead_153 h (fun x10 h => ?_)
      refine aw_aload_n 0 dX10_ahead_154 rfl rfl ?_
      refine aw_getR axc10 27 rfl rfl wd_1312 dX10_ahead_155 h (fun a11 h => ?_)
      refine aw_bipush 10 dX10_ahead_158 (by decide) ?_
      refine aw_iald dX10_ahead_160 h (fun x12 h => ?_)
      refine aw_isub dX10_ahead_161 ?_
      exact aw_iret dX10_ahead_162 rfl (Nat.le_refl _) (Nat.le_refl _) h
    refine aw_tswOut 163 dX10_ahead_96 (by have q0 := ax_i32ne c5 (v := 0) (i := 0) (by decide); have q1 := ax_i32ne c8 (v := 1) (i := 1) (by decide); have q2 := ax_i32ne c13 (v := 2) (i := 2) (by decide); omega) (by decide) ?_
    refine aw_iload_n 3 dX10_ahead_163 rfl rfl ?_
    exact aw_iret dX10_ahead_164 rfl (Nat.le_refl _) (Nat.le_refl _) h
  · refine aw_iload_n 3 dX10_ahead_62 rfl rfl ?_
    refine aw_aload_n 0 dX10_ahead_63 rfl rfl ?_
    refine aw_aload_n 0 dX10_ahead_64 rfl rfl ?_
    refine aw_getR axc10 28 rfl rfl wd_1313 dX10_ahead_65 h (fun a14 h => ?_)
    obtain ⟨hL15, h⟩ := ax_is_spec h
    refine aw_doneI (rest := [.int v3]) h (fun r9 S9 hF => aw_runV (As := [.ref a14]) (rest := [.int v3]) (L1_X10_strokesOf N hF) axc10 hL15 wd_1608 wd_1605 wd_1607 wd_66 wd_97 pd_X10_strokesOf rfl (ax_rm (by omega) rfl) ax_hf0 (Nat.le_of_ble_eq_true rfl) rfl dX10_ahead_68) (fun x17 T16 h => ?_)
    refine aw_if_ne 78 dX10_ahead_71 (by decide) h (fun h => ?_) (fun h => ?_)
    · refine aw_iconst 0 dX10_ahead_78 rfl ?_
      refine aw_env [(0, .ref v0), (1, .int v1), (2, .int v2), (4, .int v4)] [0, 1, 2, 4] rfl ?_
      exact L1_X10_ahead_79 N K56 hK56 v0 v1 v2 v4 0 v3 T16 h
    · refine aw_iconst 1 dX10_ahead_74 rfl ?_
      refine aw_goto 79 dX10_ahead_75 (by decide) ?_
      refine aw_env [(0, .ref v0), (1, .int v1), (2, .int v2), (4, .int v4)] [0, 1, 2, 4] rfl ?_
      exact L1_X10_ahead_79 N K56 hK56 v0 v1 v2 v4 1 v3 T16 h
theorem L1_X10_ahead_56 {g : AxG} {l : Launch} {r9 : Int32} {S9 : AxS} (N : Nat)  : ∀ (n : Nat) (v0 : Nat) (v1 : Int32) (v2 : Int32) (v3 : Int32) (v4 : Int32) (S : AxS), F_X10_ahead_56 N  n v0 v1 v2 v3 v4 S = some ((r9, S9)) → AW g l (axRm (5) 0 0) mt_X10_ahead (axMQ g 0 0 (.inl (some (.int r9)), S9)) 0 0 S 56 [(0, .ref v0), (1, .int v1), (2, .int v2), (3, .int v3), (4, .int v4)] [] := by
  intro n
  induction n with
  | zero => intro v0 v1 v2 v3 v4 S h; cases h
  | succ n ih => intro v0 v1 v2 v3 v4 S h; exact L1_X10_ahead_56b N (F_X10_ahead_56 N  n) ih v0 v1 v2 v3 v4 S h
theorem L1_X10_ahead_30 {g : AxG} {l : Launch} {r9 : Int32} {S9 : AxS} (N : Nat)  (v0 : Nat) (v1 : Int32) (v2 : Int32) (w0 : Int32) (w1 : Nat) (S : AxS) (h : F_X10_ahead_30 N  v0 v1 v2 w0 w1 S = some ((r9, S9))) : AW g l (axRm (5) 0 0) mt_X10_ahead (axMQ g 0 0 (.inl (some (.int r9)), S9)) 0 0 S 30 [(0, .ref v0), (1, .int v1), (2, .int v2)] [.int w0, .ref w1] := by
  unfold F_X10_ahead_30 at h
  refine aw_iconst 1 dX10_ahead_30 rfl ?_
  refine aw_iconst 1 dX10_ahead_31 rfl ?_
  obtain ⟨hL1, h⟩ := ax_is_spec h
  refine aw_doneI (rest := []) h (fun r9 S9 hF => aw_runV (As := [.int w0, .int 1, .int 1]) (rest := []) (L1_X10_bad N hF) axc10 hL1 wd_1452 wd_1449 wd_1451 wd_38 wd_97 pd_X10_bad rfl (ax_rm (by omega) rfl) ax_hf0 (Nat.le_of_ble_eq_true rfl) rfl dX10_ahead_32) (fun x3 T2 h => ?_)
  refine aw_if_eq 40 dX10_ahead_35 (by decide) h (fun h => ?_) (fun h => ?_)
  · refine aw_iconst 0 dX10_ahead_40 rfl ?_
    refine aw_istore_n 3 [(3, .int 0), (0, .ref v0), (1, .int v1), (2, .int v2)] dX10_ahead_41 rfl rfl rfl ?_
    refine aw_aload_n 1 dX10_ahead_42 rfl rfl ?_
    refine aw_getR axc10 27 rfl rfl wd_1312 dX10_ahead_43 h (fun a4 h => ?_)
    refine aw_aload_n 1 dX10_ahead_46 rfl rfl ?_
    refine aw_getR axc10 28 rfl rfl wd_1313 dX10_ahead_47 h (fun a5 h => ?_)
    refine aw_doneV (rest := []) h (fun S9 hF => aw_runS (As := [.ref a4, .ref a5]) (rest := []) (L1_X10_copies N hF) wd_1582 wd_1580 wd_1581 wd_97 pd_X10_copies.2 rfl (ax_rm (by omega) rfl) ax_hf0 (Nat.le_of_ble_eq_true rfl) rfl dX10_ahead_50) (fun T6 h => ?_)
    refine aw_iconst 0 dX10_ahead_53 rfl ?_
    refine aw_istore [(4, .int 0), (3, .int 0), (0, .ref v0), (1, .int v1), (2, .int v2)] dX10_ahead_54 rfl rfl ?_
    refine aw_env [(0, .ref v0), (1, .int v1), (2, .int v2), (3, .int 0), (4, .int 0)] [2, 3, 4, 1, 0] rfl ?_
    exact L1_X10_ahead_56 N  N v0 v1 v2 0 0 T6 h
  · refine aw_iconst 0 dX10_ahead_38 rfl ?_
    exact aw_iret dX10_ahead_39 rfl (Nat.le_refl _) (Nat.le_refl _) h
theorem L1_X10_ahead_25 {g : AxG} {l : Launch} {r9 : Int32} {S9 : AxS} (N : Nat)  (v0 : Nat) (v1 : Int32) (v2 : Int32) (w0 : Nat) (S : AxS) (h : F_X10_ahead_25 N  v0 v1 v2 w0 S = some ((r9, S9))) : AW g l (axRm (5) 0 0) mt_X10_ahead (axMQ g 0 0 (.inl (some (.int r9)), S9)) 0 0 S 25 [(0, .ref v0), (1, .int v1), (2, .int v2)] [.ref w0] := by
  unfold F_X10_ahead_25 at h
  refine aw_iconst 1 dX10_ahead_25 rfl ?_
  refine aw_goto 30 dX10_ahead_26 (by decide) ?_
  refine aw_env [(0, .ref v0), (1, .int v1), (2, .int v2)] [0, 1, 2] rfl ?_
  exact L1_X10_ahead_30 N  v0 v1 v2 1 w0 S h
theorem L1_X10_ahead {g : AxG} {l : Launch} (N : Nat) {v0 : Nat} {v1 : Int32} {v2 : Int32} {S : AxS} {r9 : Int32} {S9 : AxS} (h : F_X10_ahead N v0 v1 v2 S = some ((r9, S9))) : AxMet g l yX10_ahead cX10_ahead 5 (some .int) (5) 0 0 [.ref v0, .int v1, .int v2] S ((.inl (some (.int r9)), S9)) := by
  refine ax_met (own := RX10) (ini := false) (by decide +kernel) rfl (fun h => nomatch h) rfl ?_
  show AW g l (axRm (5) 0 0) mt_X10_ahead (axMQ g 0 0 (.inl (some (.int r9)), S9)) 0 0 S 0 [(0, .ref v0), (1, .int v1), (2, .int v2)] []
  unfold F_X10_ahead at h
  refine aw_aload_n 0 dX10_ahead_0 rfl rfl ?_
  refine aw_iconst 0 dX10_ahead_1 rfl ?_
  refine aw_putI axc10 0 rfl rfl wd_1285 rfl rfl rfl dX10_ahead_2 h (fun T1 h => ?_)
  refine aw_aload_n 0 dX10_ahead_5 rfl rfl ?_
  refine aw_iload_n 1 dX10_ahead_6 rfl rfl ?_
  refine aw_iconst 0 dX10_ahead_7 rfl ?_
  refine aw_bipush 60 dX10_ahead_8 (by decide) ?_
  refine aw_doneI (rest := [.ref v0]) h (fun r9 S9 hF => aw_runS (As := [.int v1, .int 0, .int 60]) (rest := [.ref v0]) (L1_X10_in N hF) wd_1448 wd_1446 wd_1447 wd_97 pd_X10_in.2 rfl (ax_rm (by omega) rfl) ax_hf0 (Nat.le_of_ble_eq_true rfl) rfl dX10_ahead_10) (fun x3 T2 h => ?_)
  refine aw_if_eq 25 dX10_ahead_13 (by decide) h (fun h => ?_) (fun h => ?_)
  · refine aw_env [(0, .ref v0), (1, .int v1), (2, .int v2)] [0, 1, 2] rfl ?_
    exact L1_X10_ahead_25 N  v0 v1 v2 v0 T2 h
  · refine aw_iload_n 2 dX10_ahead_16 rfl rfl ?_
    refine aw_iconst 0 dX10_ahead_17 rfl ?_
    refine aw_iconst 3 dX10_ahead_18 rfl ?_
    refine aw_doneI (rest := [.ref v0]) h (fun r9 S9 hF => aw_runS (As := [.int v2, .int 0, .int 3]) (rest := [.ref v0]) (L1_X10_in N hF) wd_1448 wd_1446 wd_1447 wd_97 pd_X10_in.2 rfl (ax_rm (by omega) rfl) ax_hf0 (Nat.le_of_ble_eq_true rfl) rfl dX10_ahead_19) (fun x5 T4 h => ?_)
    refine aw_if_ne 29 dX10_ahead_22 (by decide) h (fun h => ?_) (fun h => ?_)
    · refine aw_iconst 0 dX10_ahead_29 rfl ?_
      refine aw_env [(0, .ref v0), (1, .int v1), (2, .int v2)] [0, 1, 2] rfl ?_
      exact L1_X10_ahead_30 N  v0 v1 v2 0 v0 T4 h
    · refine aw_env [(0, .ref v0), (1, .int v1), (2, .int v2)] [0, 1, 2] rfl ?_
      exact L1_X10_ahead_25 N  v0 v1 v2 v0 T4 h

theorem dX10_loudest_0 : decode cX10_loudest 0 = .ok (.aload_n 0, 1) := by decide +kernel
theorem dX10_loudest_1 : decode cX10_loudest 1 = .ok (.iconst 0, 1) := by decide +kernel
theorem dX10_loudest_2 : decode cX10_loudest 2 = .ok (.putfield 104, 3) := by decide +kernel
theorem dX10_loudest_5 : decode cX10_loudest 5 = .ok (.aload_n 0, 1) := by decide +kernel
theorem dX10_loudest_6 : decode cX10_loudest 6 = .ok (.iload_n 1, 1) := by decide +kernel
theorem dX10_loudest_7 : decode cX10_loudest 7 = .ok (.iconst 0, 1) := by decide +kernel
theorem dX10_loudest_8 : decode cX10_loudest 8 = .ok (.iconst 1, 1) := by decide +kernel
theorem dX10_loudest_9 : decode cX10_loudest 9 = .ok (.invokestatic 138, 3) := by decide +kernel
theorem dX10_loudest_12 : decode cX10_loudest 12 = .ok (.ifCond .ne 7, 3) := by decide +kernel
theorem dX10_loudest_15 : decode cX10_loudest 15 = .ok (.iconst 1, 1) := by decide +kernel
theorem dX10_loudest_16 : decode cX10_loudest 16 = .ok (.goto 4, 3) := by decide +kernel
theorem dX10_loudest_19 : decode cX10_loudest 19 = .ok (.iconst 0, 1) := by decide +kernel
theorem dX10_loudest_20 : decode cX10_loudest 20 = .ok (.iconst 1, 1) := by decide +kernel
theorem dX10_loudest_21 : decode cX10_loudest 21 = .ok (.iconst 1, 1) := by decide +kernel
theorem dX10_loudest_22 : decode cX10_loudest 22 = .ok (.invokevirtual 193, 3) := by decide +kernel
theorem dX10_loudest_25 : decode cX10_loudest 25 = .ok (.ifCond .eq 5, 3) := by decide +kernel
theorem dX10_loudest_28 : decode cX10_loudest 28 = .ok (.iconst 0, 1) := by decide +kernel
theorem dX10_loudest_29 : decode cX10_loudest 29 = .ok (.ireturn, 1) := by decide +kernel
theorem dX10_loudest_30 : decode cX10_loudest 30 = .ok (.iconst 0, 1) := by decide +kernel
theorem dX10_loudest_31 : decode cX10_loudest 31 = .ok (.istore_n 2, 1) := by decide +kernel
theorem dX10_loudest_32 : decode cX10_loudest 32 = .ok (.iconst (-1), 1) := by decide +kernel
theorem dX10_loudest_33 : decode cX10_loudest 33 = .ok (.istore_n 3, 1) := by decide +kernel
theorem dX10_loudest_34 : decode cX10_loudest 34 = .ok (.aload_n 0, 1) := by decide +kernel
theorem dX10_loudest_35 : decode cX10_loudest 35 = .ok (.getfield 61, 3) := by decide +kernel
theorem dX10_loudest_38 : decode cX10_loudest 38 = .ok (.aload_n 0, 1) := by decide +kernel
theorem dX10_loudest_39 : decode cX10_loudest 39 = .ok (.getfield 64, 3) := by decide +kernel
theorem dX10_loudest_42 : decode cX10_loudest 42 = .ok (.invokestatic 322, 3) := by decide +kernel
theorem dX10_loudest_45 : decode cX10_loudest 45 = .ok (.iconst 0, 1) := by decide +kernel
theorem dX10_loudest_46 : decode cX10_loudest 46 = .ok (.istore 4, 2) := by decide +kernel
theorem dX10_loudest_48 : decode cX10_loudest 48 = .ok (.iload 4, 2) := by decide +kernel
theorem dX10_loudest_50 : decode cX10_loudest 50 = .ok (.bipush 60, 2) := by decide +kernel
theorem dX10_loudest_52 : decode cX10_loudest 52 = .ok (.if_icmp .ge 39, 3) := by decide +kernel
theorem dX10_loudest_55 : decode cX10_loudest 55 = .ok (.aload_n 0, 1) := by decide +kernel
theorem dX10_loudest_56 : decode cX10_loudest 56 = .ok (.aload_n 0, 1) := by decide +kernel
theorem dX10_loudest_57 : decode cX10_loudest 57 = .ok (.getfield 64, 3) := by decide +kernel
theorem dX10_loudest_60 : decode cX10_loudest 60 = .ok (.invokevirtual 283, 3) := by decide +kernel
theorem dX10_loudest_63 : decode cX10_loudest 63 = .ok (.istore 5, 2) := by decide +kernel
theorem dX10_loudest_65 : decode cX10_loudest 65 = .ok (.iload 5, 2) := by decide +kernel
theorem dX10_loudest_67 : decode cX10_loudest 67 = .ok (.iload_n 3, 1) := by decide +kernel
theorem dX10_loudest_68 : decode cX10_loudest 68 = .ok (.if_icmp .le 9, 3) := by decide +kernel
theorem dX10_loudest_71 : decode cX10_loudest 71 = .ok (.iload 4, 2) := by decide +kernel
theorem dX10_loudest_73 : decode cX10_loudest 73 = .ok (.istore_n 2, 1) := by decide +kernel
theorem dX10_loudest_74 : decode cX10_loudest 74 = .ok (.iload 5, 2) := by decide +kernel
theorem dX10_loudest_76 : decode cX10_loudest 76 = .ok (.istore_n 3, 1) := by decide +kernel
theorem dX10_loudest_77 : decode cX10_loudest 77 = .ok (.aload_n 0, 1) := by decide +kernel
theorem dX10_loudest_78 : decode cX10_loudest 78 = .ok (.aload_n 0, 1) := by decide +kernel
theorem dX10_loudest_79 : decode cX10_loudest 79 = .ok (.getfield 64, 3) := by decide +kernel
theorem dX10_loudest_82 : decode cX10_loudest 82 = .ok (.invokevirtual 305, 3) := by decide +kernel
theorem dX10_loudest_85 : decode cX10_loudest 85 = .ok (.iinc 4 1, 3) := by decide +kernel
theorem dX10_loudest_88 : decode cX10_loudest 88 = .ok (.goto (-40), 3) := by decide +kernel
theorem dX10_loudest_91 : decode cX10_loudest 91 = .ok (.iload_n 1, 1) := by decide +kernel
theorem dX10_loudest_92 : decode cX10_loudest 92 = .ok (.ifCond .ne 7, 3) := by decide +kernel
theorem dX10_loudest_95 : decode cX10_loudest 95 = .ok (.iload_n 2, 1) := by decide +kernel
theorem dX10_loudest_96 : decode cX10_loudest 96 = .ok (.goto 4, 3) := by decide +kernel
theorem dX10_loudest_99 : decode cX10_loudest 99 = .ok (.iload_n 3, 1) := by decide +kernel
theorem dX10_loudest_100 : decode cX10_loudest 100 = .ok (.ireturn, 1) := by decide +kernel
abbrev mt_X10_loudest : AxM := (RX10, cX10_loudest, 6, (some .int), false, [])
theorem L1_X10_loudest_77 {g : AxG} {l : Launch} {r9 : Int32} {S9 : AxS} (N : Nat) (K48 : Nat → Int32 → Int32 → Int32 → Int32 → AxS → Option (Int32 × AxS)) (hK48 : ∀ (v0 : Nat) (v1 : Int32) (v2 : Int32) (v3 : Int32) (v4 : Int32) (S : AxS), K48 v0 v1 v2 v3 v4 S = some ((r9, S9)) → AW g l (axRm (5) 0 0) mt_X10_loudest (axMQ g 0 0 (.inl (some (.int r9)), S9)) 0 0 S 48 [(0, .ref v0), (1, .int v1), (2, .int v2), (3, .int v3), (4, .int v4)] []) (v0 : Nat) (v1 : Int32) (v2 : Int32) (v3 : Int32) (v4 : Int32) (S : AxS) (h : F_X10_loudest_77 N K48 v0 v1 v2 v3 v4 S = some ((r9, S9))) : AW g l (axRm (5) 0 0) mt_X10_loudest (axMQ g 0 0 (.inl (some (.int r9)), S9)) 0 0 S 77 [(0, .ref v0), (1, .int v1), (2, .int v2), (3, .int v3), (4, .int v4)] [] := by
  unfold F_X10_loudest_77 at h
  refine aw_aload_n 0 dX10_loudest_77 rfl rfl ?_
  refine aw_aload_n 0 dX10_loudest_78 rfl rfl ?_
  refine aw_getR axc10 28 rfl rfl wd_1313 dX10_loudest_79 h (fun a1 h => ?_)
  obtain ⟨hL2, h⟩ := ax_is_spec h
  refine aw_doneV (rest := []) h (fun S9 hF => aw_runV (As := [.ref a1]) (rest := []) (L1_X10_nightEnds N hF) axc10 hL2 wd_1604 wd_1601 wd_1603 wd_65 wd_97 pd_X10_nightEnds rfl (ax_rm (by omega) rfl) ax_hf0 (Nat.le_of_ble_eq_true rfl) rfl dX10_loudest_82) (fun T3 h => ?_)
  refine aw_iinc 4 [(4, .int (v4 + 1)), (0, .ref v0), (1, .int v1), (2, .int v2), (3, .int v3)] (v4 + 1) dX10_loudest_85 rfl rfl rfl rfl ?_
  refine aw_goto 48 dX10_loudest_88 (by decide) ?_
  refine aw_env [(0, .ref v0), (1, .int v1), (2, .int v2), (3, .int v3), (4, .int (v4 + 1))] [1, 2, 3, 4, 0] rfl ?_
  exact hK48 v0 v1 v2 v3 (v4 + 1) T3 h
theorem L1_X10_loudest_48b {g : AxG} {l : Launch} {r9 : Int32} {S9 : AxS} (N : Nat) (K48 : Nat → Int32 → Int32 → Int32 → Int32 → AxS → Option (Int32 × AxS)) (hK48 : ∀ (v0 : Nat) (v1 : Int32) (v2 : Int32) (v3 : Int32) (v4 : Int32) (S : AxS), K48 v0 v1 v2 v3 v4 S = some ((r9, S9)) → AW g l (axRm (5) 0 0) mt_X10_loudest (axMQ g 0 0 (.inl (some (.int r9)), S9)) 0 0 S 48 [(0, .ref v0), (1, .int v1), (2, .int v2), (3, .int v3), (4, .int v4)] []) (v0 : Nat) (v1 : Int32) (v2 : Int32) (v3 : Int32) (v4 : Int32) (S : AxS) (h : F_X10_loudest_48b N K48 v0 v1 v2 v3 v4 S = some ((r9, S9))) : AW g l (axRm (5) 0 0) mt_X10_loudest (axMQ g 0 0 (.inl (some (.int r9)), S9)) 0 0 S 48 [(0, .ref v0), (1, .int v1), (2, .int v2), (3, .int v3), (4, .int v4)] [] := by
  unfold F_X10_loudest_48b at h
  refine aw_iload 4 dX10_loudest_48 rfl ?_
  refine aw_bipush 60 dX10_loudest_50 (by decide) ?_
  refine aw_icmp_ge 91 dX10_loudest_52 (by decide) h (fun h => ?_) (fun h => ?_)
  · refine aw_iload_n 1 dX10_loudest_91 rfl rfl ?_
    refine aw_if_ne 99 dX10_loudest_92 (by decide) h (fun h => ?_) (fun h => ?_)
    · refine aw_iload_n 3 dX10_loudest_99 rfl rfl ?_
      exact aw_iret dX10_loudest_100 rfl (Nat.le_refl _) (Nat.le_refl _) h
    · refine aw_iload_n 2 dX10_loudest_95 rfl rfl ?_
      refine aw_goto 100 dX10_loudest_96 (by decide) ?_
      exact aw_iret dX10_loudest_100 rfl (Nat.le_refl _) (Nat.le_refl _) h
  · refine aw_aload_n 0 dX10_loudest_55 rfl rfl ?_
    refine aw_aload_n 0 dX10_loudest_56 rfl rfl ?_
    refine aw_getR axc10 28 rfl rfl wd_1313 dX10_loudest_57 h (fun a1 h => ?_)
    obtain ⟨hL2, h⟩ := ax_is_spec h
    refine aw_doneI (rest := []) h (fun r9 S9 hF => aw_runV (As := [.ref a1]) (rest := []) (L1_X10_strokesOf N hF) axc10 hL2 wd_1608 wd_1605 wd_1607 wd_66 wd_97 pd_X10_strokesOf rfl (ax_rm (by omega) rfl) ax_hf0 (Nat.le_of_ble_eq_true rfl) rfl dX10_loudest_60) (fun x4 T3 h => ?_)
    refine aw_istore [(5, .int x4), (0, .ref v0), (1, .int v1), (2, .int v2), (3, .int v3), (4, .int v4)] dX10_loudest_63 rfl rfl ?_
    refine aw_iload 0 dX10_loudest_65 rfl ?_
    refine aw_iload_n 4 dX10_loudest_67 rfl rfl ?_
    refine aw_icmp_le 77 dX10_loudest_68 (by decide) h (fun h => ?_) (fun h => ?_)
    · refine aw_env [(0, .ref v0), (1, .int v1), (2, .int v2), (3, .int v3), (4, .int v4)] [1, 2, 3, 4, 5] rfl ?_
      exact L1_X10_loudest_77 N K48 hK48 v0 v1 v2 v3 v4 T3 h
    · refine aw_iload 5 dX10_loudest_71 rfl ?_
      refine aw_istore_n 2 [(2, .int v4), (5, .int x4), (0, .ref v0), (1, .int v1), (3, .int v3), (4, .int v4)] dX10_loudest_73 rfl rfl rfl ?_
      refine aw_iload 1 dX10_loudest_74 rfl ?_
      refine aw_istore_n 3 [(3, .int x4), (2, .int v4), (5, .int x4), (0, .ref v0), (1, .int v1), (4, .int v4)] dX10_loudest_76 rfl rfl rfl ?_
      refine aw_env [(0, .ref v0), (1, .int v1), (2, .int v4), (3, .int x4), (4, .int v4)] [3, 4, 1, 0, 5] rfl ?_
      exact L1_X10_loudest_77 N K48 hK48 v0 v1 v4 x4 v4 T3 h
theorem L1_X10_loudest_48 {g : AxG} {l : Launch} {r9 : Int32} {S9 : AxS} (N : Nat)  : ∀ (n : Nat) (v0 : Nat) (v1 : Int32) (v2 : Int32) (v3 : Int32) (v4 : Int32) (S : AxS), F_X10_loudest_48 N  n v0 v1 v2 v3 v4 S = some ((r9, S9)) → AW g l (axRm (5) 0 0) mt_X10_loudest (axMQ g 0 0 (.inl (some (.int r9)), S9)) 0 0 S 48 [(0, .ref v0), (1, .int v1), (2, .int v2), (3, .int v3), (4, .int v4)] [] := by
  intro n
  induction n with
  | zero => intro v0 v1 v2 v3 v4 S h; cases h
  | succ n ih => intro v0 v1 v2 v3 v4 S h; exact L1_X10_loudest_48b N (F_X10_loudest_48 N  n) ih v0 v1 v2 v3 v4 S h
theorem L1_X10_loudest_20 {g : AxG} {l : Launch} {r9 : Int32} {S9 : AxS} (N : Nat)  (v0 : Nat) (v1 : Int32) (w0 : Int32) (w1 : Nat) (S : AxS) (h : F_X10_loudest_20 N  v0 v1 w0 w1 S = some ((r9, S9))) : AW g l (axRm (5) 0 0) mt_X10_loudest (axMQ g 0 0 (.inl (some (.int r9)), S9)) 0 0 S 20 [(0, .ref v0), (1, .int v1)] [.int w0, .ref w1] := by
  unfold F_X10_loudest_20 at h
  refine aw_iconst 1 dX10_loudest_20 rfl ?_
  refine aw_iconst 1 dX10_loudest_21 rfl ?_
  obtain ⟨hL1, h⟩ := ax_is_spec h
  refine aw_doneI (rest := []) h (fun r9 S9 hF => aw_runV (As := [.int w0, .int 1, .int 1]) (rest := []) (L1_X10_bad N hF) axc10 hL1 wd_1452 wd_1449 wd_1451 wd_38 wd_97 pd_X10_bad rfl (ax_rm (by omega) rfl) ax_hf0 (Nat.le_of_ble_eq_true rfl) rfl dX10_loudest_22) (fun x3 T2 h => ?_)
  refine aw_if_eq 30 dX10_loudest_25 (by decide) h (fun h => ?_) (fun h => ?_)
  · refine aw_iconst 0 dX10_loudest_30 rfl ?_
    refine aw_istore_n 2 [(2, .int 0), (0, .ref v0), (1, .int v1)] dX10_loudest_31 rfl rfl rfl ?_
    refine aw_iconst (-1) dX10_loudest_32 rfl ?_
    refine aw_istore_n 3 [(3, .int ((-1))), (2, .int 0), (0, .ref v0), (1, .int v1)] dX10_loudest_33 rfl rfl rfl ?_
    refine aw_aload_n 2 dX10_loudest_34 rfl rfl ?_
    refine aw_getR axc10 27 rfl rfl wd_1312 dX10_loudest_35 h (fun a4 h => ?_)
    refine aw_aload_n 2 dX10_loudest_38 rfl rfl ?_
    refine aw_getR axc10 28 rfl rfl wd_1313 dX10_loudest_39 h (fun a5 h => ?_)
    refine aw_doneV (rest := []) h (fun S9 hF => aw_runS (As := [.ref a4, .ref a5]) (rest := []) (L1_X10_copies N hF) wd_1582 wd_1580 wd_1581 wd_97 pd_X10_copies.2 rfl (ax_rm (by omega) rfl) ax_hf0 (Nat.le_of_ble_eq_true rfl) rfl dX10_loudest_42) (fun T6 h => ?_)
    refine aw_iconst 0 dX10_loudest_45 rfl ?_
    refine aw_istore [(4, .int 0), (3, .int ((-1))), (2, .int 0), (0, .ref v0), (1, .int v1)] dX10_loudest_46 rfl rfl ?_
    refine aw_env [(0, .ref v0), (1, .int v1), (2, .int 0), (3, .int ((-1))), (4, .int 0)] [3, 4, 2, 1, 0] rfl ?_
    exact L1_X10_loudest_48 N  N v0 v1 0 ((-1)) 0 T6 h
  · refine aw_iconst 0 dX10_loudest_28 rfl ?_
    exact aw_iret dX10_loudest_29 rfl (Nat.le_refl _) (Nat.le_refl _) h
theorem L1_X10_loudest {g : AxG} {l : Launch} (N : Nat) {v0 : Nat} {v1 : Int32} {S : AxS} {r9 : Int32} {S9 : AxS} (h : F_X10_loudest N v0 v1 S = some ((r9, S9))) : AxMet g l yX10_loudest cX10_loudest 6 (some .int) (5) 0 0 [.ref v0, .int v1] S ((.inl (some (.int r9)), S9)) := by
  refine ax_met (own := RX10) (ini := false) (by decide +kernel) rfl (fun h => nomatch h) rfl ?_
  show AW g l (axRm (5) 0 0) mt_X10_loudest (axMQ g 0 0 (.inl (some (.int r9)), S9)) 0 0 S 0 [(0, .ref v0), (1, .int v1)] []
  unfold F_X10_loudest at h
  refine aw_aload_n 0 dX10_loudest_0 rfl rfl ?_
  refine aw_iconst 0 dX10_loudest_1 rfl ?_
  refine aw_putI axc10 0 rfl rfl wd_1285 rfl rfl rfl dX10_loudest_2 h (fun T1 h => ?_)
  refine aw_aload_n 0 dX10_loudest_5 rfl rfl ?_
  refine aw_iload_n 1 dX10_loudest_6 rfl rfl ?_
  refine aw_iconst 0 dX10_loudest_7 rfl ?_
  refine aw_iconst 1 dX10_loudest_8 rfl ?_
  refine aw_doneI (rest := [.ref v0]) h (fun r9 S9 hF => aw_runS (As := [.int v1, .int 0, .int 1]) (rest := [.ref v0]) (L1_X10_in N hF) wd_1448 wd_1446 wd_1447 wd_97 pd_X10_in.2 rfl (ax_rm (by omega) rfl) ax_hf0 (Nat.le_of_ble_eq_true rfl) rfl dX10_loudest_9) (fun x3 T2 h => ?_)
  refine aw_if_ne 19 dX10_loudest_12 (by decide) h (fun h => ?_) (fun h => ?_)
  · refine aw_iconst 0 dX10_loudest_19 rfl ?_
    refine aw_env [(0, .ref v0), (1, .int v1)] [0, 1] rfl ?_
    exact L1_X10_loudest_20 N  v0 v1 0 v0 T2 h
  · refine aw_iconst 1 dX10_loudest_15 rfl ?_
    refine aw_goto 20 dX10_loudest_16 (by decide) ?_
    refine aw_env [(0, .ref v0), (1, .int v1)] [0, 1] rfl ?_
    exact L1_X10_loudest_20 N  v0 v1 1 v0 T2 h

theorem dX10_hush_0 : decode cX10_hush 0 = .ok (.aload_n 0, 1) := by decide +kernel
theorem dX10_hush_1 : decode cX10_hush 1 = .ok (.iconst 0, 1) := by decide +kernel
theorem dX10_hush_2 : decode cX10_hush 2 = .ok (.putfield 104, 3) := by decide +kernel
theorem dX10_hush_5 : decode cX10_hush 5 = .ok (.aload_n 0, 1) := by decide +kernel
theorem dX10_hush_6 : decode cX10_hush 6 = .ok (.iload_n 1, 1) := by decide +kernel
theorem dX10_hush_7 : decode cX10_hush 7 = .ok (.iconst 0, 1) := by decide +kernel
theorem dX10_hush_8 : decode cX10_hush 8 = .ok (.sipush 999, 3) := by decide +kernel
theorem dX10_hush_11 : decode cX10_hush 11 = .ok (.invokestatic 138, 3) := by decide +kernel
theorem dX10_hush_14 : decode cX10_hush 14 = .ok (.ifCond .ne 7, 3) := by decide +kernel
theorem dX10_hush_17 : decode cX10_hush 17 = .ok (.iconst 1, 1) := by decide +kernel
theorem dX10_hush_18 : decode cX10_hush 18 = .ok (.goto 4, 3) := by decide +kernel
theorem dX10_hush_21 : decode cX10_hush 21 = .ok (.iconst 0, 1) := by decide +kernel
theorem dX10_hush_22 : decode cX10_hush 22 = .ok (.iconst 1, 1) := by decide +kernel
theorem dX10_hush_23 : decode cX10_hush 23 = .ok (.iconst 1, 1) := by decide +kernel
theorem dX10_hush_24 : decode cX10_hush 24 = .ok (.invokevirtual 193, 3) := by decide +kernel
theorem dX10_hush_27 : decode cX10_hush 27 = .ok (.ifCond .eq 5, 3) := by decide +kernel
theorem dX10_hush_30 : decode cX10_hush 30 = .ok (.iconst 0, 1) := by decide +kernel
theorem dX10_hush_31 : decode cX10_hush 31 = .ok (.ireturn, 1) := by decide +kernel
theorem dX10_hush_32 : decode cX10_hush 32 = .ok (.iconst 0, 1) := by decide +kernel
theorem dX10_hush_33 : decode cX10_hush 33 = .ok (.istore_n 2, 1) := by decide +kernel
theorem dX10_hush_34 : decode cX10_hush 34 = .ok (.iload_n 2, 1) := by decide +kernel
theorem dX10_hush_35 : decode cX10_hush 35 = .ok (.sipush 999, 3) := by decide +kernel
theorem dX10_hush_38 : decode cX10_hush 38 = .ok (.if_icmp .gt 47, 3) := by decide +kernel
theorem dX10_hush_41 : decode cX10_hush 41 = .ok (.aload_n 0, 1) := by decide +kernel
theorem dX10_hush_42 : decode cX10_hush 42 = .ok (.getfield 61, 3) := by decide +kernel
theorem dX10_hush_45 : decode cX10_hush 45 = .ok (.aload_n 0, 1) := by decide +kernel
theorem dX10_hush_46 : decode cX10_hush 46 = .ok (.getfield 64, 3) := by decide +kernel
theorem dX10_hush_49 : decode cX10_hush 49 = .ok (.invokestatic 322, 3) := by decide +kernel
theorem dX10_hush_52 : decode cX10_hush 52 = .ok (.aload_n 0, 1) := by decide +kernel
theorem dX10_hush_53 : decode cX10_hush 53 = .ok (.getfield 64, 3) := by decide +kernel
theorem dX10_hush_56 : decode cX10_hush 56 = .ok (.iload_n 2, 1) := by decide +kernel
theorem dX10_hush_57 : decode cX10_hush 57 = .ok (.invokestatic 298, 3) := by decide +kernel
theorem dX10_hush_60 : decode cX10_hush 60 = .ok (.ifCond .ne 5, 3) := by decide +kernel
theorem dX10_hush_63 : decode cX10_hush 63 = .ok (.iconst (-1), 1) := by decide +kernel
theorem dX10_hush_64 : decode cX10_hush 64 = .ok (.ireturn, 1) := by decide +kernel
theorem dX10_hush_65 : decode cX10_hush 65 = .ok (.aload_n 0, 1) := by decide +kernel
theorem dX10_hush_66 : decode cX10_hush 66 = .ok (.aload_n 0, 1) := by decide +kernel
theorem dX10_hush_67 : decode cX10_hush 67 = .ok (.getfield 64, 3) := by decide +kernel
theorem dX10_hush_70 : decode cX10_hush 70 = .ok (.invokevirtual 283, 3) := by decide +kernel
theorem dX10_hush_73 : decode cX10_hush 73 = .ok (.iload_n 1, 1) := by decide +kernel
theorem dX10_hush_74 : decode cX10_hush 74 = .ok (.if_icmp .gt 5, 3) := by decide +kernel
theorem dX10_hush_77 : decode cX10_hush 77 = .ok (.iload_n 2, 1) := by decide +kernel
theorem dX10_hush_78 : decode cX10_hush 78 = .ok (.ireturn, 1) := by decide +kernel
theorem dX10_hush_79 : decode cX10_hush 79 = .ok (.iinc 2 1, 3) := by decide +kernel
theorem dX10_hush_82 : decode cX10_hush 82 = .ok (.goto (-48), 3) := by decide +kernel
theorem dX10_hush_85 : decode cX10_hush 85 = .ok (.iconst (-1), 1) := by decide +kernel
theorem dX10_hush_86 : decode cX10_hush 86 = .ok (.ireturn, 1) := by decide +kernel
abbrev mt_X10_hush : AxM := (RX10, cX10_hush, 3, (some .int), false, [])
theorem L1_X10_hush_34b {g : AxG} {l : Launch} {r9 : Int32} {S9 : AxS} (N : Nat) (K34 : Nat → Int32 → Int32 → AxS → Option (Int32 × AxS)) (hK34 : ∀ (v0 : Nat) (v1 : Int32) (v2 : Int32) (S : AxS), K34 v0 v1 v2 S = some ((r9, S9)) → AW g l (axRm (4) 0 0) mt_X10_hush (axMQ g 0 0 (.inl (some (.int r9)), S9)) 0 0 S 34 [(0, .ref v0), (1, .int v1), (2, .int v2)] []) (v0 : Nat) (v1 : Int32) (v2 : Int32) (S : AxS) (h : F_X10_hush_34b N K34 v0 v1 v2 S = some ((r9, S9))) : AW g l (axRm (4) 0 0) mt_X10_hush (axMQ g 0 0 (.inl (some (.int r9)), S9)) 0 0 S 34 [(0, .ref v0), (1, .int v1), (2, .int v2)] [] := by
  unfold F_X10_hush_34b at h
  refine aw_iload_n 2 dX10_hush_34 rfl rfl ?_
  refine aw_sipush 999 dX10_hush_35 (by decide) ?_
  refine aw_icmp_gt 85 dX10_hush_38 (by decide) h (fun h => ?_) (fun h => ?_)
  · refine aw_iconst (-1) dX10_hush_85 rfl ?_
    exact aw_iret dX10_hush_86 rfl (Nat.le_refl _) (Nat.le_refl _) h
  · refine aw_aload_n 0 dX10_hush_41 rfl rfl ?_
    refine aw_getR axc10 27 rfl rfl wd_1312 dX10_hush_42 h (fun a1 h => ?_)
    refine aw_aload_n 0 dX10_hush_45 rfl rfl ?_
    refine aw_getR axc10 28 rfl rfl wd_1313 dX10_hush_46 h (fun a2 h => ?_)
    refine aw_doneV (rest := []) h (fun S9 hF => aw_runS (As := [.ref a1, .ref a2]) (rest := []) (L1_X10_copies N hF) wd_1582 wd_1580 wd_1581 wd_97 pd_X10_copies.2 rfl (ax_rm (by omega) rfl) ax_hf0 (Nat.le_of_ble_eq_true rfl) rfl dX10_hush_49) (fun T3 h => ?_)
    refine aw_aload_n 0 dX10_hush_52 rfl rfl ?_
    refine aw_getR axc10 28 rfl rfl wd_1313 dX10_hush_53 h (fun a5 h => ?_)
    refine aw_iload_n 2 dX10_hush_56 rfl rfl ?_
    refine aw_doneI (rest := []) h (fun r9 S9 hF => aw_runS (As := [.ref a5, .int v2]) (rest := []) (L1_X10_pays N hF) wd_1593 wd_1591 wd_1592 wd_97 pd_X10_pays.2 rfl (ax_rm (by omega) rfl) ax_hf0 (Nat.le_of_ble_eq_true rfl) rfl dX10_hush_57) (fun x7 T6 h => ?_)
    refine aw_if_ne 65 dX10_hush_60 (by decide) h (fun h => ?_) (fun h => ?_)
    · refine aw_aload_n 0 dX10_hush_65 rfl rfl ?_
      refine aw_aload_n 0 dX10_hush_66 rfl rfl ?_
      refine aw_getR axc10 28 rfl rfl wd_1313 dX10_hush_67 h (fun a8 h => ?_)
      obtain ⟨hL9, h⟩ := ax_is_spec h
      refine aw_doneI (rest := []) h (fun r9 S9 hF => aw_runV (As := [.ref a8]) (rest := []) (L1_X10_strokesOf N hF) axc10 hL9 wd_1608 wd_1605 wd_1607 wd_66 wd_97 pd_X10_strokesOf rfl (ax_rm (by omega) rfl) ax_hf0 (Nat.le_of_ble_eq_true rfl) rfl dX10_hush_70) (fun x11 T10 h => ?_)
      refine aw_iload_n 1 dX10_hush_73 rfl rfl ?_
      refine aw_icmp_gt 79 dX10_hush_74 (by decide) h (fun h => ?_) (fun h => ?_)
      · refine aw_iinc 2 [(2, .int (v2 + 1)), (0, .ref v0), (1, .int v1)] (v2 + 1) dX10_hush_79 rfl rfl rfl rfl ?_
        refine aw_goto 34 dX10_hush_82 (by decide) ?_
        refine aw_env [(0, .ref v0), (1, .int v1), (2, .int (v2 + 1))] [1, 2, 0] rfl ?_
        exact hK34 v0 v1 (v2 + 1) T10 h
      · refine aw_iload_n 2 dX10_hush_77 rfl rfl ?_
        exact aw_iret dX10_hush_78 rfl (Nat.le_refl _) (Nat.le_refl _) h
    · refine aw_iconst (-1) dX10_hush_63 rfl ?_
      exact aw_iret dX10_hush_64 rfl (Nat.le_refl _) (Nat.le_refl _) h
theorem L1_X10_hush_34 {g : AxG} {l : Launch} {r9 : Int32} {S9 : AxS} (N : Nat)  : ∀ (n : Nat) (v0 : Nat) (v1 : Int32) (v2 : Int32) (S : AxS), F_X10_hush_34 N  n v0 v1 v2 S = some ((r9, S9)) → AW g l (axRm (4) 0 0) mt_X10_hush (axMQ g 0 0 (.inl (some (.int r9)), S9)) 0 0 S 34 [(0, .ref v0), (1, .int v1), (2, .int v2)] [] := by
  intro n
  induction n with
  | zero => intro v0 v1 v2 S h; cases h
  | succ n ih => intro v0 v1 v2 S h; exact L1_X10_hush_34b N (F_X10_hush_34 N  n) ih v0 v1 v2 S h
theorem L1_X10_hush_22 {g : AxG} {l : Launch} {r9 : Int32} {S9 : AxS} (N : Nat)  (v0 : Nat) (v1 : Int32) (w0 : Int32) (w1 : Nat) (S : AxS) (h : F_X10_hush_22 N  v0 v1 w0 w1 S = some ((r9, S9))) : AW g l (axRm (4) 0 0) mt_X10_hush (axMQ g 0 0 (.inl (some (.int r9)), S9)) 0 0 S 22 [(0, .ref v0), (1, .int v1)] [.int w0, .ref w1] := by
  unfold F_X10_hush_22 at h
  refine aw_iconst 1 dX10_hush_22 rfl ?_
  refine aw_iconst 1 dX10_hush_23 rfl ?_
  obtain ⟨hL1, h⟩ := ax_is_spec h
  refine aw_doneI (rest := []) h (fun r9 S9 hF => aw_runV (As := [.int w0, .int 1, .int 1]) (rest := []) (L1_X10_bad N hF) axc10 hL1 wd_1452 wd_1449 wd_1451 wd_38 wd_97 pd_X10_bad rfl (ax_rm (by omega) rfl) ax_hf0 (Nat.le_of_ble_eq_true rfl) rfl dX10_hush_24) (fun x3 T2 h => ?_)
  refine aw_if_eq 32 dX10_hush_27 (by decide) h (fun h => ?_) (fun h => ?_)
  · refine aw_iconst 0 dX10_hush_32 rfl ?_
    refine aw_istore_n 2 [(2, .int 0), (0, .ref v0), (1, .int v1)] dX10_hush_33 rfl rfl rfl ?_
    refine aw_env [(0, .ref v0), (1, .int v1), (2, .int 0)] [1, 2, 0] rfl ?_
    exact L1_X10_hush_34 N  N v0 v1 0 T2 h
  · refine aw_iconst 0 dX10_hush_30 rfl ?_
    exact aw_iret dX10_hush_31 rfl (Nat.le_refl _) (Nat.le_refl _) h
theorem L1_X10_hush {g : AxG} {l : Launch} (N : Nat) {v0 : Nat} {v1 : Int32} {S : AxS} {r9 : Int32} {S9 : AxS} (h : F_X10_hush N v0 v1 S = some ((r9, S9))) : AxMet g l yX10_hush cX10_hush 3 (some .int) (4) 0 0 [.ref v0, .int v1] S ((.inl (some (.int r9)), S9)) := by
  refine ax_met (own := RX10) (ini := false) (by decide +kernel) rfl (fun h => nomatch h) rfl ?_
  show AW g l (axRm (4) 0 0) mt_X10_hush (axMQ g 0 0 (.inl (some (.int r9)), S9)) 0 0 S 0 [(0, .ref v0), (1, .int v1)] []
  unfold F_X10_hush at h
  refine aw_aload_n 0 dX10_hush_0 rfl rfl ?_
  refine aw_iconst 0 dX10_hush_1 rfl ?_
  refine aw_putI axc10 0 rfl rfl wd_1285 rfl rfl rfl dX10_hush_2 h (fun T1 h => ?_)
  refine aw_aload_n 0 dX10_hush_5 rfl rfl ?_
  refine aw_iload_n 1 dX10_hush_6 rfl rfl ?_
  refine aw_iconst 0 dX10_hush_7 rfl ?_
  refine aw_sipush 999 dX10_hush_8 (by decide) ?_
  refine aw_doneI (rest := [.ref v0]) h (fun r9 S9 hF => aw_runS (As := [.int v1, .int 0, .int 999]) (rest := [.ref v0]) (L1_X10_in N hF) wd_1448 wd_1446 wd_1447 wd_97 pd_X10_in.2 rfl (ax_rm (by omega) rfl) ax_hf0 (Nat.le_of_ble_eq_true rfl) rfl dX10_hush_11) (fun x3 T2 h => ?_)
  refine aw_if_ne 21 dX10_hush_14 (by decide) h (fun h => ?_) (fun h => ?_)
  · refine aw_iconst 0 dX10_hush_21 rfl ?_
    refine aw_env [(0, .ref v0), (1, .int v1)] [0, 1] rfl ?_
    exact L1_X10_hush_22 N  v0 v1 0 v0 T2 h
  · refine aw_iconst 1 dX10_hush_17 rfl ?_
    refine aw_goto 22 dX10_hush_18 (by decide) ?_
    refine aw_env [(0, .ref v0), (1, .int v1)] [0, 1] rfl ?_
    exact L1_X10_hush_22 N  v0 v1 1 v0 T2 h

theorem dX10_isPlan_0 : decode cX10_isPlan 0 = .ok (.aload_n 0, 1) := by decide +kernel
theorem dX10_isPlan_1 : decode cX10_isPlan 1 = .ok (.getfield 61, 3) := by decide +kernel
theorem dX10_isPlan_4 : decode cX10_isPlan 4 = .ok (.aload_n 0, 1) := by decide +kernel
theorem dX10_isPlan_5 : decode cX10_isPlan 5 = .ok (.getfield 64, 3) := by decide +kernel
theorem dX10_isPlan_8 : decode cX10_isPlan 8 = .ok (.invokestatic 322, 3) := by decide +kernel
theorem dX10_isPlan_11 : decode cX10_isPlan 11 = .ok (.iconst 0, 1) := by decide +kernel
theorem dX10_isPlan_12 : decode cX10_isPlan 12 = .ok (.istore 4, 2) := by decide +kernel
theorem dX10_isPlan_14 : decode cX10_isPlan 14 = .ok (.iload 4, 2) := by decide +kernel
theorem dX10_isPlan_16 : decode cX10_isPlan 16 = .ok (.iload_n 1, 1) := by decide +kernel
theorem dX10_isPlan_17 : decode cX10_isPlan 17 = .ok (.if_icmp .ge 62, 3) := by decide +kernel
theorem dX10_isPlan_20 : decode cX10_isPlan 20 = .ok (.aload_n 0, 1) := by decide +kernel
theorem dX10_isPlan_21 : decode cX10_isPlan 21 = .ok (.getfield 64, 3) := by decide +kernel
theorem dX10_isPlan_24 : decode cX10_isPlan 24 = .ok (.bipush 10, 2) := by decide +kernel
theorem dX10_isPlan_26 : decode cX10_isPlan 26 = .ok (.aload_n 0, 1) := by decide +kernel
theorem dX10_isPlan_27 : decode cX10_isPlan 27 = .ok (.getfield 73, 3) := by decide +kernel
theorem dX10_isPlan_30 : decode cX10_isPlan 30 = .ok (.iload 4, 2) := by decide +kernel
theorem dX10_isPlan_32 : decode cX10_isPlan 32 = .ok (.iaload, 1) := by decide +kernel
theorem dX10_isPlan_33 : decode cX10_isPlan 33 = .ok (.imul, 1) := by decide +kernel
theorem dX10_isPlan_34 : decode cX10_isPlan 34 = .ok (.invokestatic 298, 3) := by decide +kernel
theorem dX10_isPlan_37 : decode cX10_isPlan 37 = .ok (.ifCond .ne 5, 3) := by decide +kernel
theorem dX10_isPlan_40 : decode cX10_isPlan 40 = .ok (.iconst 0, 1) := by decide +kernel
theorem dX10_isPlan_41 : decode cX10_isPlan 41 = .ok (.ireturn, 1) := by decide +kernel
theorem dX10_isPlan_42 : decode cX10_isPlan 42 = .ok (.iload_n 3, 1) := by decide +kernel
theorem dX10_isPlan_43 : decode cX10_isPlan 43 = .ok (.iload 4, 2) := by decide +kernel
theorem dX10_isPlan_45 : decode cX10_isPlan 45 = .ok (.invokestatic 294, 3) := by decide +kernel
theorem dX10_isPlan_48 : decode cX10_isPlan 48 = .ok (.ifCond .eq 17, 3) := by decide +kernel
theorem dX10_isPlan_51 : decode cX10_isPlan 51 = .ok (.aload_n 0, 1) := by decide +kernel
theorem dX10_isPlan_52 : decode cX10_isPlan 52 = .ok (.aload_n 0, 1) := by decide +kernel
theorem dX10_isPlan_53 : decode cX10_isPlan 53 = .ok (.getfield 64, 3) := by decide +kernel
theorem dX10_isPlan_56 : decode cX10_isPlan 56 = .ok (.invokevirtual 283, 3) := by decide +kernel
theorem dX10_isPlan_59 : decode cX10_isPlan 59 = .ok (.iload_n 2, 1) := by decide +kernel
theorem dX10_isPlan_60 : decode cX10_isPlan 60 = .ok (.if_icmp .le 5, 3) := by decide +kernel
theorem dX10_isPlan_63 : decode cX10_isPlan 63 = .ok (.iconst 0, 1) := by decide +kernel
theorem dX10_isPlan_64 : decode cX10_isPlan 64 = .ok (.ireturn, 1) := by decide +kernel
theorem dX10_isPlan_65 : decode cX10_isPlan 65 = .ok (.aload_n 0, 1) := by decide +kernel
theorem dX10_isPlan_66 : decode cX10_isPlan 66 = .ok (.aload_n 0, 1) := by decide +kernel
theorem dX10_isPlan_67 : decode cX10_isPlan 67 = .ok (.getfield 64, 3) := by decide +kernel
theorem dX10_isPlan_70 : decode cX10_isPlan 70 = .ok (.invokevirtual 305, 3) := by decide +kernel
theorem dX10_isPlan_73 : decode cX10_isPlan 73 = .ok (.iinc 4 1, 3) := by decide +kernel
theorem dX10_isPlan_76 : decode cX10_isPlan 76 = .ok (.goto (-62), 3) := by decide +kernel
theorem dX10_isPlan_79 : decode cX10_isPlan 79 = .ok (.iconst 1, 1) := by decide +kernel
theorem dX10_isPlan_80 : decode cX10_isPlan 80 = .ok (.ireturn, 1) := by decide +kernel
abbrev mt_X10_isPlan : AxM := (RX10, cX10_isPlan, 5, (some .boolean), false, [])
theorem L1_X10_isPlan_65 {g : AxG} {l : Launch} {r9 : Int32} {S9 : AxS} (N : Nat) (K14 : Nat → Int32 → Int32 → Int32 → Int32 → AxS → Option (Int32 × AxS)) (hK14 : ∀ (v0 : Nat) (v1 : Int32) (v2 : Int32) (v3 : Int32) (v4 : Int32) (S : AxS), K14 v0 v1 v2 v3 v4 S = some ((r9, S9)) → AW g l (axRm (5) 0 0) mt_X10_isPlan (axMQ g 0 0 (.inl (some (.int r9)), S9)) 0 0 S 14 [(0, .ref v0), (1, .int v1), (2, .int v2), (3, .int v3), (4, .int v4)] []) (v0 : Nat) (v1 : Int32) (v2 : Int32) (v3 : Int32) (v4 : Int32) (S : AxS) (h : F_X10_isPlan_65 N K14 v0 v1 v2 v3 v4 S = some ((r9, S9))) : AW g l (axRm (5) 0 0) mt_X10_isPlan (axMQ g 0 0 (.inl (some (.int r9)), S9)) 0 0 S 65 [(0, .ref v0), (1, .int v1), (2, .int v2), (3, .int v3), (4, .int v4)] [] := by
  unfold F_X10_isPlan_65 at h
  refine aw_aload_n 0 dX10_isPlan_65 rfl rfl ?_
  refine aw_aload_n 0 dX10_isPlan_66 rfl rfl ?_
  refine aw_getR axc10 28 rfl rfl wd_1313 dX10_isPlan_67 h (fun a1 h => ?_)
  obtain ⟨hL2, h⟩ := ax_is_spec h
  refine aw_doneV (rest := []) h (fun S9 hF => aw_runV (As := [.ref a1]) (rest := []) (L1_X10_nightEnds N hF) axc10 hL2 wd_1604 wd_1601 wd_1603 wd_65 wd_97 pd_X10_nightEnds rfl (ax_rm (by omega) rfl) ax_hf0 (Nat.le_of_ble_eq_true rfl) rfl dX10_isPlan_70) (fun T3 h => ?_)
  refine aw_iinc 4 [(4, .int (v4 + 1)), (0, .ref v0), (1, .int v1), (2, .int v2), (3, .int v3)] (v4 + 1) dX10_isPlan_73 rfl rfl rfl rfl ?_
  refine aw_goto 14 dX10_isPlan_76 (by decide) ?_
  refine aw_env [(0, .ref v0), (1, .int v1), (2, .int v2), (3, .int v3), (4, .int (v4 + 1))] [1, 2, 3, 4, 0] rfl ?_
  exact hK14 v0 v1 v2 v3 (v4 + 1) T3 h
theorem L1_X10_isPlan_14b {g : AxG} {l : Launch} {r9 : Int32} {S9 : AxS} (N : Nat) (K14 : Nat → Int32 → Int32 → Int32 → Int32 → AxS → Option (Int32 × AxS)) (hK14 : ∀ (v0 : Nat) (v1 : Int32) (v2 : Int32) (v3 : Int32) (v4 : Int32) (S : AxS), K14 v0 v1 v2 v3 v4 S = some ((r9, S9)) → AW g l (axRm (5) 0 0) mt_X10_isPlan (axMQ g 0 0 (.inl (some (.int r9)), S9)) 0 0 S 14 [(0, .ref v0), (1, .int v1), (2, .int v2), (3, .int v3), (4, .int v4)] []) (v0 : Nat) (v1 : Int32) (v2 : Int32) (v3 : Int32) (v4 : Int32) (S : AxS) (h : F_X10_isPlan_14b N K14 v0 v1 v2 v3 v4 S = some ((r9, S9))) : AW g l (axRm (5) 0 0) mt_X10_isPlan (axMQ g 0 0 (.inl (some (.int r9)), S9)) 0 0 S 14 [(0, .ref v0), (1, .int v1), (2, .int v2), (3, .int v3), (4, .int v4)] [] := by
  unfold F_X10_isPlan_14b at h
  refine aw_iload 4 dX10_isPlan_14 rfl ?_
  refine aw_iload_n 1 dX10_isPlan_16 rfl rfl ?_
  refine aw_icmp_ge 79 dX10_isPlan_17 (by decide) h (fun h => ?_) (fun h => ?_)
  · refine aw_iconst 1 dX10_isPlan_79 rfl ?_
    exact aw_zret dX10_isPlan_80 rfl (Nat.le_refl _) (Nat.le_refl _) h
  · refine aw_aload_n 0 dX10_isPlan_20 rfl rfl ?_
    refine aw_getR axc10 28 rfl rfl wd_1313 dX10_isPlan_21 h (fun a1 h => ?_)
    refine aw_bipush 10 dX10_isPlan_24 (by decide) ?_
    refine aw_aload_n 0 dX10_isPlan_26 rfl rfl ?_
    refine aw_getR axc10 38 rfl rfl wd_1323 dX10_isPlan_27 h (fun a2 h => ?_)
    refine aw_iload 4 dX10_isPlan_30 rfl ?_
    refine aw_iald dX10_isPlan_32 h (fun x3 h => ?_)
    refine aw_imul dX10_isPlan_33 ?_
    refine aw_doneI (rest := []) h (fun r9 S9 hF => aw_runS (As := [.ref a1, .int (10 * x3)]) (rest := []) (L1_X10_pays N hF) wd_1593 wd_1591 wd_1592 wd_97 pd_X10_pays.2 rfl (ax_rm (by omega) rfl) ax_hf0 (Nat.le_of_ble_eq_true rfl) rfl dX10_isPlan_34) (fun x5 T4 h => ?_)
    refine aw_if_ne 42 dX10_isPlan_37 (by decide) h (fun h => ?_) (fun h => ?_)
    · refine aw_iload_n 3 dX10_isPlan_42 rfl rfl ?_
      refine aw_iload 4 dX10_isPlan_43 rfl ?_
      refine aw_doneI (rest := []) h (fun r9 S9 hF => aw_runS (As := [.int v3, .int v4]) (rest := []) (L1_X10_has N hF) wd_1600 wd_1598 wd_1599 wd_97 pd_X10_has.2 rfl (ax_rm (by omega) rfl) ax_hf0 (Nat.le_of_ble_eq_true rfl) rfl dX10_isPlan_45) (fun x7 T6 h => ?_)
      refine aw_if_eq 65 dX10_isPlan_48 (by decide) h (fun h => ?_) (fun h => ?_)
      · refine aw_env [(0, .ref v0), (1, .int v1), (2, .int v2), (3, .int v3), (4, .int v4)] [0, 1, 2, 3, 4] rfl ?_
        exact L1_X10_isPlan_65 N K14 hK14 v0 v1 v2 v3 v4 T6 h
      · refine aw_aload_n 0 dX10_isPlan_51 rfl rfl ?_
        refine aw_aload_n 0 dX10_isPlan_52 rfl rfl ?_
        refine aw_getR axc10 28 rfl rfl wd_1313 dX10_isPlan_53 h (fun a8 h => ?_)
        obtain ⟨hL9, h⟩ := ax_is_spec h
        refine aw_doneI (rest := []) h (fun r9 S9 hF => aw_runV (As := [.ref a8]) (rest := []) (L1_X10_strokesOf N hF) axc10 hL9 wd_1608 wd_1605 wd_1607 wd_66 wd_97 pd_X10_strokesOf rfl (ax_rm (by omega) rfl) ax_hf0 (Nat.le_of_ble_eq_true rfl) rfl dX10_isPlan_56) (fun x11 T10 h => ?_)
        refine aw_iload_n 2 dX10_isPlan_59 rfl rfl ?_
        refine aw_icmp_le 65 dX10_isPlan_60 (by decide) h (fun h => ?_) (fun h => ?_)
        · refine aw_env [(0, .ref v0), (1, .int v1), (2, .int v2), (3, .int v3), (4, .int v4)] [0, 1, 2, 3, 4] rfl ?_
          exact L1_X10_isPlan_65 N K14 hK14 v0 v1 v2 v3 v4 T10 h
        · refine aw_iconst 0 dX10_isPlan_63 rfl ?_
          exact aw_zret dX10_isPlan_64 rfl (Nat.le_refl _) (Nat.le_refl _) h
    · refine aw_iconst 0 dX10_isPlan_40 rfl ?_
      exact aw_zret dX10_isPlan_41 rfl (Nat.le_refl _) (Nat.le_refl _) h
theorem L1_X10_isPlan_14 {g : AxG} {l : Launch} {r9 : Int32} {S9 : AxS} (N : Nat)  : ∀ (n : Nat) (v0 : Nat) (v1 : Int32) (v2 : Int32) (v3 : Int32) (v4 : Int32) (S : AxS), F_X10_isPlan_14 N  n v0 v1 v2 v3 v4 S = some ((r9, S9)) → AW g l (axRm (5) 0 0) mt_X10_isPlan (axMQ g 0 0 (.inl (some (.int r9)), S9)) 0 0 S 14 [(0, .ref v0), (1, .int v1), (2, .int v2), (3, .int v3), (4, .int v4)] [] := by
  intro n
  induction n with
  | zero => intro v0 v1 v2 v3 v4 S h; cases h
  | succ n ih => intro v0 v1 v2 v3 v4 S h; exact L1_X10_isPlan_14b N (F_X10_isPlan_14 N  n) ih v0 v1 v2 v3 v4 S h
theorem L1_X10_isPlan {g : AxG} {l : Launch} (N : Nat) {v0 : Nat} {v1 : Int32} {v2 : Int32} {v3 : Int32} {S : AxS} {r9 : Int32} {S9 : AxS} (h : F_X10_isPlan N v0 v1 v2 v3 S = some ((r9, S9))) : AxMet g l yX10_isPlan cX10_isPlan 5 (some .boolean) (5) 0 0 [.ref v0, .int v1, .int v2, .int v3] S ((.inl (some (.int r9)), S9)) := by
  refine ax_met (own := RX10) (ini := false) (by decide +kernel) rfl (fun h => nomatch h) rfl ?_
  show AW g l (axRm (5) 0 0) mt_X10_isPlan (axMQ g 0 0 (.inl (some (.int r9)), S9)) 0 0 S 0 [(0, .ref v0), (1, .int v1), (2, .int v2), (3, .int v3)] []
  unfold F_X10_isPlan at h
  refine aw_aload_n 0 dX10_isPlan_0 rfl rfl ?_
  refine aw_getR axc10 27 rfl rfl wd_1312 dX10_isPlan_1 h (fun a1 h => ?_)
  refine aw_aload_n 0 dX10_isPlan_4 rfl rfl ?_
  refine aw_getR axc10 28 rfl rfl wd_1313 dX10_isPlan_5 h (fun a2 h => ?_)
  refine aw_doneV (rest := []) h (fun S9 hF => aw_runS (As := [.ref a1, .ref a2]) (rest := []) (L1_X10_copies N hF) wd_1582 wd_1580 wd_1581 wd_97 pd_X10_copies.2 rfl (ax_rm (by omega) rfl) ax_hf0 (Nat.le_of_ble_eq_true rfl) rfl dX10_isPlan_8) (fun T3 h => ?_)
  refine aw_iconst 0 dX10_isPlan_11 rfl ?_
  refine aw_istore [(4, .int 0), (0, .ref v0), (1, .int v1), (2, .int v2), (3, .int v3)] dX10_isPlan_12 rfl rfl ?_
  refine aw_env [(0, .ref v0), (1, .int v1), (2, .int v2), (3, .int v3), (4, .int 0)] [1, 2, 3, 4, 0] rfl ?_
  exact L1_X10_isPlan_14 N  N v0 v1 v2 v3 0 T3 h

theorem dX10_tens_0 : decode cX10_tens 0 = .ok (.iload_n 0, 1) := by decide +kernel
theorem dX10_tens_1 : decode cX10_tens 1 = .ok (.iconst 3, 1) := by decide +kernel
theorem dX10_tens_2 : decode cX10_tens 2 = .ok (.if_icmp .ge 7, 3) := by decide +kernel
theorem dX10_tens_5 : decode cX10_tens 5 = .ok (.iload_n 0, 1) := by decide +kernel
theorem dX10_tens_6 : decode cX10_tens 6 = .ok (.goto 4, 3) := by decide +kernel
theorem dX10_tens_9 : decode cX10_tens 9 = .ok (.iconst 4, 1) := by decide +kernel
theorem dX10_tens_10 : decode cX10_tens 10 = .ok (.ireturn, 1) := by decide +kernel
abbrev mt_X10_tens : AxM := (RX10, cX10_tens, 1, (some .int), false, [])
theorem L1_X10_tens {g : AxG} {l : Launch} (N : Nat) {v0 : Int32} {S : AxS} {r9 : Int32} {S9 : AxS} (h : F_X10_tens N v0 S = some ((r9, S9))) : AxMet g l yX10_tens cX10_tens 1 (some .int) (0) 0 0 [.int v0] S ((.inl (some (.int r9)), S9)) := by
  refine ax_met (own := RX10) (ini := false) (by decide +kernel) rfl (fun h => nomatch h) rfl ?_
  show AW g l (axRm (0) 0 0) mt_X10_tens (axMQ g 0 0 (.inl (some (.int r9)), S9)) 0 0 S 0 [(0, .int v0)] []
  unfold F_X10_tens at h
  refine aw_iload_n 0 dX10_tens_0 rfl rfl ?_
  refine aw_iconst 3 dX10_tens_1 rfl ?_
  refine aw_icmp_ge 9 dX10_tens_2 (by decide) h (fun h => ?_) (fun h => ?_)
  · refine aw_iconst 4 dX10_tens_9 rfl ?_
    exact aw_iret dX10_tens_10 rfl (Nat.le_refl _) (Nat.le_refl _) h
  · refine aw_iload_n 0 dX10_tens_5 rfl rfl ?_
    refine aw_goto 10 dX10_tens_6 (by decide) ?_
    exact aw_iret dX10_tens_10 rfl (Nat.le_refl _) (Nat.le_refl _) h
