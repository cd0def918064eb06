theorem dX10_areOdds_0 : decode cX10_areOdds 0 = .ok (.iload_n 0, 1) := by decide +kernel
theorem dX10_areOdds_1 : decode cX10_areOdds 1 = .ok (.iconst 0, 1) := by decide +kernel
theorem dX10_areOdds_2 : decode cX10_areOdds 2 = .ok (.bipush 8, 2) := by decide +kernel
theorem dX10_areOdds_4 : decode cX10_areOdds 4 = .ok (.invokestatic 138, 3) := by decide +kernel
theorem dX10_areOdds_7 : decode cX10_areOdds 7 = .ok (.ifCond .eq 27, 3) := by decide +kernel
theorem dX10_areOdds_10 : decode cX10_areOdds 10 = .ok (.iload_n 1, 1) := by decide +kernel
theorem dX10_areOdds_11 : decode cX10_areOdds 11 = .ok (.iconst 0, 1) := by decide +kernel
theorem dX10_areOdds_12 : decode cX10_areOdds 12 = .ok (.bipush 16, 2) := by decide +kernel
theorem dX10_areOdds_14 : decode cX10_areOdds 14 = .ok (.invokestatic 138, 3) := by decide +kernel
theorem dX10_areOdds_17 : decode cX10_areOdds 17 = .ok (.ifCond .eq 17, 3) := by decide +kernel
theorem dX10_areOdds_20 : decode cX10_areOdds 20 = .ok (.iload_n 2, 1) := by decide +kernel
theorem dX10_areOdds_21 : decode cX10_areOdds 21 = .ok (.iconst 0, 1) := by decide +kernel
theorem dX10_areOdds_22 : decode cX10_areOdds 22 = .ok (.bipush 16, 2) := by decide +kernel
theorem dX10_areOdds_24 : decode cX10_areOdds 24 = .ok (.invokestatic 138, 3) := by decide +kernel
theorem dX10_areOdds_27 : decode cX10_areOdds 27 = .ok (.ifCond .eq 7, 3) := by decide +kernel
theorem dX10_areOdds_30 : decode cX10_areOdds 30 = .ok (.iconst 1, 1) := by decide +kernel
theorem dX10_areOdds_31 : decode cX10_areOdds 31 = .ok (.goto 4, 3) := by decide +kernel
theorem dX10_areOdds_34 : decode cX10_areOdds 34 = .ok (.iconst 0, 1) := by decide +kernel
theorem dX10_areOdds_35 : decode cX10_areOdds 35 = .ok (.ireturn, 1) := by decide +kernel
abbrev mt_X10_areOdds : AxM := (RX10, cX10_areOdds, 3, (some .boolean), false, [])
theorem L1_X10_areOdds {g : AxG} {l : Launch} (N : Nat) {v0 : Int32} {v1 : Int32} {v2 : Int32} {S : AxS} {r9 : Int32} {S9 : AxS} (h : F_X10_areOdds N v0 v1 v2 S = some ((r9, S9))) : AxMet g l yX10_areOdds cX10_areOdds 3 (some .boolean) (1) 0 0 [.int v0, .int v1, .int v2] S ((.inl (some (.int r9)), S9)) := by
  refine ax_met (own := RX10) (ini := false) (by decide +kernel) rfl (fun h => nomatch h) rfl ?_
  show AW g l (axRm (1) 0 0) mt_X10_areOdds (axMQ g 0 0 (.inl (some (.int r9)), S9)) 0 0 S 0 [(0, .int v0), (1, .int v1), (2, .int v2)] []
  unfold F_X10_areOdds at h
  refine aw_iload_n 0 dX10_areOdds_0 rfl rfl ?_
  refine aw_iconst 0 dX10_areOdds_1 rfl ?_
  refine aw_bipush 8 dX10_areOdds_2 (by decide) ?_
  refine aw_doneI (rest := []) h (fun r9 S9 hF => aw_runS (As := [.int v0, .int 0, .int 8]) (rest := []) (L1_X10_in N hF) wd_1448 wd_1446 wd_1447 wd_97 pd_X10_in.2 rfl (ax_rm (by omega) rfl) ax_hf0 (Nat.le_of_ble_eq_true rfl) rfl dX10_areOdds_4) (fun x2 T1 h => ?_)
  refine aw_if_eq 34 dX10_areOdds_7 (by decide) h (fun h => ?_) (fun h => ?_)
  · refine aw_iconst 0 dX10_areOdds_34 rfl ?_
    exact aw_zret dX10_areOdds_35 rfl (Nat.le_refl _) (Nat.le_refl _) h
  · refine aw_iload_n 1 dX10_areOdds_10 rfl rfl ?_
    refine aw_iconst 0 dX10_areOdds_11 rfl ?_
    refine aw_bipush 16 dX10_areOdds_12 (by decide) ?_
    refine aw_doneI (rest := []) h (fun r9 S9 hF => aw_runS (As := [.int v1, .int 0, .int 16]) (rest := []) (L1_X10_in N hF) wd_1448 wd_1446 wd_1447 wd_97 pd_X10_in.2 rfl (ax_rm (by omega) rfl) ax_hf0 (Nat.le_of_ble_eq_true rfl) rfl dX10_areOdds_14) (fun x4 T3 h => ?_)
    refine aw_if_eq 34 dX10_areOdds_17 (by decide) h (fun h => ?_) (fun h => ?_)
    · refine aw_iconst 0 dX10_areOdds_34 rfl ?_
      exact aw_zret dX10_areOdds_35 rfl (Nat.le_refl _) (Nat.le_refl _) h
    · refine aw_iload_n 2 dX10_areOdds_20 rfl rfl ?_
      refine aw_iconst 0 dX10_areOdds_21 rfl ?_
      refine aw_bipush 16 dX10_areOdds_22 (by decide) ?_
      refine aw_doneI (rest := []) h (fun r9 S9 hF => aw_runS (As := [.int v2, .int 0, .int 16]) (rest := []) (L1_X10_in N hF) wd_1448 wd_1446 wd_1447 wd_97 pd_X10_in.2 rfl (ax_rm (by omega) rfl) ax_hf0 (Nat.le_of_ble_eq_true rfl) rfl dX10_areOdds_24) (fun x6 T5 h => ?_)
      refine aw_if_eq 34 dX10_areOdds_27 (by decide) h (fun h => ?_) (fun h => ?_)
      · refine aw_iconst 0 dX10_areOdds_34 rfl ?_
        exact aw_zret dX10_areOdds_35 rfl (Nat.le_refl _) (Nat.le_refl _) h
      · refine aw_iconst 1 dX10_areOdds_30 rfl ?_
        refine aw_goto 35 dX10_areOdds_31 (by decide) ?_
        exact aw_zret dX10_areOdds_35 rfl (Nat.le_refl _) (Nat.le_refl _) h

theorem dX10_mistaken_0 : decode cX10_mistaken 0 = .ok (.aload_n 0, 1) := by decide +kernel
theorem dX10_mistaken_1 : decode cX10_mistaken 1 = .ok (.iconst 0, 1) := by decide +kernel
theorem dX10_mistaken_2 : decode cX10_mistaken 2 = .ok (.putfield 104, 3) := by decide +kernel
theorem dX10_mistaken_5 : decode cX10_mistaken 5 = .ok (.aload_n 0, 1) := by decide +kernel
theorem dX10_mistaken_6 : decode cX10_mistaken 6 = .ok (.iload_n 1, 1) := by decide +kernel
theorem dX10_mistaken_7 : decode cX10_mistaken 7 = .ok (.iload_n 2, 1) := by decide +kernel
theorem dX10_mistaken_8 : decode cX10_mistaken 8 = .ok (.iload_n 3, 1) := by decide +kernel
theorem dX10_mistaken_9 : decode cX10_mistaken 9 = .ok (.invokestatic 344, 3) := by decide +kernel
theorem dX10_mistaken_12 : decode cX10_mistaken 12 = .ok (.ifCond .eq 35, 3) := by decide +kernel
theorem dX10_mistaken_15 : decode cX10_mistaken 15 = .ok (.iload 4, 2) := by decide +kernel
theorem dX10_mistaken_17 : decode cX10_mistaken 17 = .ok (.iconst 0, 1) := by decide +kernel
theorem dX10_mistaken_18 : decode cX10_mistaken 18 = .ok (.iload_n 1, 1) := by decide +kernel
theorem dX10_mistaken_19 : decode cX10_mistaken 19 = .ok (.iconst 1, 1) := by decide +kernel
theorem dX10_mistaken_20 : decode cX10_mistaken 20 = .ok (.iadd, 1) := by decide +kernel
theorem dX10_mistaken_21 : decode cX10_mistaken 21 = .ok (.invokestatic 138, 3) := by decide +kernel
theorem dX10_mistaken_24 : decode cX10_mistaken 24 = .ok (.ifCond .eq 23, 3) := by decide +kernel
theorem dX10_mistaken_27 : decode cX10_mistaken 27 = .ok (.iload 5, 2) := by decide +kernel
theorem dX10_mistaken_29 : decode cX10_mistaken 29 = .ok (.iconst 0, 1) := by decide +kernel
theorem dX10_mistaken_30 : decode cX10_mistaken 30 = .ok (.iconst 1, 1) := by decide +kernel
theorem dX10_mistaken_31 : decode cX10_mistaken 31 = .ok (.invokestatic 138, 3) := by decide +kernel
theorem dX10_mistaken_34 : decode cX10_mistaken 34 = .ok (.ifCond .eq 13, 3) := by decide +kernel
theorem dX10_mistaken_37 : decode cX10_mistaken 37 = .ok (.iload 6, 2) := by decide +kernel
theorem dX10_mistaken_39 : decode cX10_mistaken 39 = .ok (.iconst 0, 1) := by decide +kernel
theorem dX10_mistaken_40 : decode cX10_mistaken 40 = .ok (.iconst 1, 1) := by decide +kernel
theorem dX10_mistaken_41 : decode cX10_mistaken 41 = .ok (.invokestatic 138, 3) := by decide +kernel
theorem dX10_mistaken_44 : decode cX10_mistaken 44 = .ok (.ifCond .ne 7, 3) := by decide +kernel
theorem dX10_mistaken_47 : decode cX10_mistaken 47 = .ok (.iconst 1, 1) := by decide +kernel
theorem dX10_mistaken_48 : decode cX10_mistaken 48 = .ok (.goto 4, 3) := by decide +kernel
theorem dX10_mistaken_51 : decode cX10_mistaken 51 = .ok (.iconst 0, 1) := by decide +kernel
theorem dX10_mistaken_52 : decode cX10_mistaken 52 = .ok (.iconst 1, 1) := by decide +kernel
theorem dX10_mistaken_53 : decode cX10_mistaken 53 = .ok (.iconst 1, 1) := by decide +kernel
theorem dX10_mistaken_54 : decode cX10_mistaken 54 = .ok (.invokevirtual 193, 3) := by decide +kernel
theorem dX10_mistaken_57 : decode cX10_mistaken 57 = .ok (.ifCond .eq 5, 3) := by decide +kernel
theorem dX10_mistaken_60 : decode cX10_mistaken 60 = .ok (.lconst 0, 1) := by decide +kernel
theorem dX10_mistaken_61 : decode cX10_mistaken 61 = .ok (.lreturn, 1) := by decide +kernel
theorem dX10_mistaken_62 : decode cX10_mistaken 62 = .ok (.iload 5, 2) := by decide +kernel
theorem dX10_mistaken_64 : decode cX10_mistaken 64 = .ok (.ifCond .ne 19, 3) := by decide +kernel
theorem dX10_mistaken_67 : decode cX10_mistaken 67 = .ok (.iload_n 1, 1) := by decide +kernel
theorem dX10_mistaken_68 : decode cX10_mistaken 68 = .ok (.invokestatic 347, 3) := by decide +kernel
theorem dX10_mistaken_71 : decode cX10_mistaken 71 = .ok (.aload_n 0, 1) := by decide +kernel
theorem dX10_mistaken_72 : decode cX10_mistaken 72 = .ok (.iload_n 1, 1) := by decide +kernel
theorem dX10_mistaken_73 : decode cX10_mistaken 73 = .ok (.iload_n 3, 1) := by decide +kernel
theorem dX10_mistaken_74 : decode cX10_mistaken 74 = .ok (.iload 4, 2) := by decide +kernel
theorem dX10_mistaken_76 : decode cX10_mistaken 76 = .ok (.invokevirtual 351, 3) := by decide +kernel
theorem dX10_mistaken_79 : decode cX10_mistaken 79 = .ok (.lsub, 1) := by decide +kernel
theorem dX10_mistaken_80 : decode cX10_mistaken 80 = .ok (.goto 11, 3) := by decide +kernel
theorem dX10_mistaken_83 : decode cX10_mistaken 83 = .ok (.aload_n 0, 1) := by decide +kernel
theorem dX10_mistaken_84 : decode cX10_mistaken 84 = .ok (.iload_n 1, 1) := by decide +kernel
theorem dX10_mistaken_85 : decode cX10_mistaken 85 = .ok (.iload_n 2, 1) := by decide +kernel
theorem dX10_mistaken_86 : decode cX10_mistaken 86 = .ok (.iload 4, 2) := by decide +kernel
theorem dX10_mistaken_88 : decode cX10_mistaken 88 = .ok (.invokevirtual 351, 3) := by decide +kernel
theorem dX10_mistaken_91 : decode cX10_mistaken 91 = .ok (.lstore 7, 2) := by decide +kernel
theorem dX10_mistaken_93 : decode cX10_mistaken 93 = .ok (.iload_n 1, 1) := by decide +kernel
theorem dX10_mistaken_94 : decode cX10_mistaken 94 = .ok (.invokestatic 347, 3) := by decide +kernel
theorem dX10_mistaken_97 : decode cX10_mistaken 97 = .ok (.lstore 9, 2) := by decide +kernel
theorem dX10_mistaken_99 : decode cX10_mistaken 99 = .ok (.lload 7, 2) := by decide +kernel
theorem dX10_mistaken_101 : decode cX10_mistaken 101 = .ok (.lstore 11, 2) := by decide +kernel
theorem dX10_mistaken_103 : decode cX10_mistaken 103 = .ok (.lload 11, 2) := by decide +kernel
theorem dX10_mistaken_105 : decode cX10_mistaken 105 = .ok (.lconst 0, 1) := by decide +kernel
theorem dX10_mistaken_106 : decode cX10_mistaken 106 = .ok (.lcmp, 1) := by decide +kernel
theorem dX10_mistaken_107 : decode cX10_mistaken 107 = .ok (.ifCond .eq 21, 3) := by decide +kernel
theorem dX10_mistaken_110 : decode cX10_mistaken 110 = .ok (.lload 9, 2) := by decide +kernel
theorem dX10_mistaken_112 : decode cX10_mistaken 112 = .ok (.lload 11, 2) := by decide +kernel
theorem dX10_mistaken_114 : decode cX10_mistaken 114 = .ok (.lrem, 1) := by decide +kernel
theorem dX10_mistaken_115 : decode cX10_mistaken 115 = .ok (.lstore 13, 2) := by decide +kernel
theorem dX10_mistaken_117 : decode cX10_mistaken 117 = .ok (.lload 11, 2) := by decide +kernel
theorem dX10_mistaken_119 : decode cX10_mistaken 119 = .ok (.lstore 9, 2) := by decide +kernel
theorem dX10_mistaken_121 : decode cX10_mistaken 121 = .ok (.lload 13, 2) := by decide +kernel
theorem dX10_mistaken_123 : decode cX10_mistaken 123 = .ok (.lstore 11, 2) := by decide +kernel
theorem dX10_mistaken_125 : decode cX10_mistaken 125 = .ok (.goto (-22), 3) := by decide +kernel
theorem dX10_mistaken_128 : decode cX10_mistaken 128 = .ok (.iload 6, 2) := by decide +kernel
theorem dX10_mistaken_130 : decode cX10_mistaken 130 = .ok (.ifCond .ne 11, 3) := by decide +kernel
theorem dX10_mistaken_133 : decode cX10_mistaken 133 = .ok (.lload 7, 2) := by decide +kernel
theorem dX10_mistaken_135 : decode cX10_mistaken 135 = .ok (.lload 9, 2) := by decide +kernel
theorem dX10_mistaken_137 : decode cX10_mistaken 137 = .ok (.ldiv, 1) := by decide +kernel
theorem dX10_mistaken_138 : decode cX10_mistaken 138 = .ok (.goto 10, 3) := by decide +kernel
theorem dX10_mistaken_141 : decode cX10_mistaken 141 = .ok (.iload_n 1, 1) := by decide +kernel
theorem dX10_mistaken_142 : decode cX10_mistaken 142 = .ok (.invokestatic 347, 3) := by decide +kernel
theorem dX10_mistaken_145 : decode cX10_mistaken 145 = .ok (.lload 9, 2) := by decide +kernel
theorem dX10_mistaken_147 : decode cX10_mistaken 147 = .ok (.ldiv, 1) := by decide +kernel
theorem dX10_mistaken_148 : decode cX10_mistaken 148 = .ok (.lreturn, 1) := by decide +kernel
abbrev mt_X10_mistaken : AxM := (RX10, cX10_mistaken, 15, (some .long), false, [])
theorem L1_X10_mistaken_103b {g : AxG} {l : Launch} {r9 : Int64} {S9 : AxS} (N : Nat) (K103 : Int32 → Int32 → Int64 → Int64 → Int64 → AxS → Option (Int64 × AxS)) (hK103 : ∀ (v1 : Int32) (v6 : Int32) (v7 : Int64) (v9 : Int64) (v11 : Int64) (S : AxS), K103 v1 v6 v7 v9 v11 S = some ((r9, S9)) → AW g l (axRm (2) 0 0) mt_X10_mistaken (axMQ g 0 0 (.inl (some (.long r9)), S9)) 0 0 S 103 [(1, .int v1), (6, .int v6), (7, .long v7), (9, .long v9), (11, .long v11)] []) (v1 : Int32) (v6 : Int32) (v7 : Int64) (v9 : Int64) (v11 : Int64) (S : AxS) (h : F_X10_mistaken_103b N K103 v1 v6 v7 v9 v11 S = some ((r9, S9))) : AW g l (axRm (2) 0 0) mt_X10_mistaken (axMQ g 0 0 (.inl (some (.long r9)), S9)) 0 0 S 103 [(1, .int v1), (6, .int v6), (7, .long v7), (9, .long v9), (11, .long v11)] [] := by
  unfold F_X10_mistaken_103b at h
  refine aw_lload 4 dX10_mistaken_103 rfl ?_
  refine aw_lconst 0 dX10_mistaken_105 rfl ?_
  refine aw_lcmp dX10_mistaken_106 ?_
  refine aw_if_eq 128 dX10_mistaken_107 (by decide) h (fun h => ?_) (fun h => ?_)
  · refine aw_iload 1 dX10_mistaken_128 rfl ?_
    refine aw_if_ne 141 dX10_mistaken_130 (by decide) h (fun h => ?_) (fun h => ?_)
    · refine aw_iload_n 0 dX10_mistaken_141 rfl rfl ?_
      refine aw_doneL (rest := []) h (fun r9 S9 hF => aw_runS (As := [.int v1]) (rest := []) (L1_X10_whole N hF) wd_1742 wd_1740 wd_1741 wd_97 pd_X10_whole.2 rfl (ax_rm (by omega) rfl) ax_hf0 (Nat.le_of_ble_eq_true rfl) rfl dX10_mistaken_142) (fun x2 T1 h => ?_)
      refine aw_lload 3 dX10_mistaken_145 rfl ?_
      refine aw_ldiv dX10_mistaken_147 h (fun h => ?_)
      exact aw_lret dX10_mistaken_148 rfl (Nat.le_refl _) (Nat.le_refl _) h
    · refine aw_lload 2 dX10_mistaken_133 rfl ?_
      refine aw_lload 3 dX10_mistaken_135 rfl ?_
      refine aw_ldiv dX10_mistaken_137 h (fun h => ?_)
      refine aw_goto 148 dX10_mistaken_138 (by decide) ?_
      exact aw_lret dX10_mistaken_148 rfl (Nat.le_refl _) (Nat.le_refl _) h
  · refine aw_lload 3 dX10_mistaken_110 rfl ?_
    refine aw_lload 4 dX10_mistaken_112 rfl ?_
    refine aw_lrem dX10_mistaken_114 h (fun h => ?_)
    refine aw_lstore [(13, .long (v9 - v9 / v11 * v11)), (1, .int v1), (6, .int v6), (7, .long v7), (9, .long v9), (11, .long v11)] dX10_mistaken_115 rfl rfl ?_
    refine aw_lload 5 dX10_mistaken_117 rfl ?_
    refine aw_lstore [(9, .long v11), (13, .long (v9 - v9 / v11 * v11)), (1, .int v1), (6, .int v6), (7, .long v7), (11, .long v11)] dX10_mistaken_119 rfl rfl ?_
    refine aw_lload 1 dX10_mistaken_121 rfl ?_
    refine aw_lstore [(11, .long (v9 - v9 / v11 * v11)), (9, .long v11), (13, .long (v9 - v9 / v11 * v11)), (1, .int v1), (6, .int v6), (7, .long v7)] dX10_mistaken_123 rfl rfl ?_
    refine aw_goto 103 dX10_mistaken_125 (by decide) ?_
    refine aw_env [(1, .int v1), (6, .int v6), (7, .long v7), (9, .long v11), (11, .long (v9 - v9 / v11 * v11))] [3, 4, 5, 1, 0] rfl ?_
    exact hK103 v1 v6 v7 v11 (v9 - v9 / v11 * v11) S h
theorem L1_X10_mistaken_103 {g : AxG} {l : Launch} {r9 : Int64} {S9 : AxS} (N : Nat)  : ∀ (n : Nat) (v1 : Int32) (v6 : Int32) (v7 : Int64) (v9 : Int64) (v11 : Int64) (S : AxS), F_X10_mistaken_103 N  n v1 v6 v7 v9 v11 S = some ((r9, S9)) → AW g l (axRm (2) 0 0) mt_X10_mistaken (axMQ g 0 0 (.inl (some (.long r9)), S9)) 0 0 S 103 [(1, .int v1), (6, .int v6), (7, .long v7), (9, .long v9), (11, .long v11)] [] := by
  intro n
  induction n with
  | zero => intro v1 v6 v7 v9 v11 S h; cases h
  | succ n ih => intro v1 v6 v7 v9 v11 S h; exact L1_X10_mistaken_103b N (F_X10_mistaken_103 N  n) ih v1 v6 v7 v9 v11 S h
theorem L1_X10_mistaken_91 {g : AxG} {l : Launch} {r9 : Int64} {S9 : AxS} (N : Nat)  (v1 : Int32) (v6 : Int32) (w0 : Int64) (S : AxS) (h : F_X10_mistaken_91 N  v1 v6 w0 S = some ((r9, S9))) : AW g l (axRm (2) 0 0) mt_X10_mistaken (axMQ g 0 0 (.inl (some (.long r9)), S9)) 0 0 S 91 [(1, .int v1), (6, .int v6)] [.long w0] := by
  unfold F_X10_mistaken_91 at h
  refine aw_lstore [(7, .long w0), (1, .int v1), (6, .int v6)] dX10_mistaken_91 rfl rfl ?_
  refine aw_iload_n 1 dX10_mistaken_93 rfl rfl ?_
  refine aw_doneL (rest := []) h (fun r9 S9 hF => aw_runS (As := [.int v1]) (rest := []) (L1_X10_whole N hF) wd_1742 wd_1740 wd_1741 wd_97 pd_X10_whole.2 rfl (ax_rm (by omega) rfl) ax_hf0 (Nat.le_of_ble_eq_true rfl) rfl dX10_mistaken_94) (fun x2 T1 h => ?_)
  refine aw_lstore [(9, .long x2), (7, .long w0), (1, .int v1), (6, .int v6)] dX10_mistaken_97 rfl rfl ?_
  refine aw_lload 1 dX10_mistaken_99 rfl ?_
  refine aw_lstore [(11, .long w0), (9, .long x2), (7, .long w0), (1, .int v1), (6, .int v6)] dX10_mistaken_101 rfl rfl ?_
  refine aw_env [(1, .int v1), (6, .int v6), (7, .long w0), (9, .long x2), (11, .long w0)] [3, 4, 2, 1, 0] rfl ?_
  exact L1_X10_mistaken_103 N  N v1 v6 w0 x2 w0 T1 h
theorem L1_X10_mistaken_52 {g : AxG} {l : Launch} {r9 : Int64} {S9 : AxS} (N : Nat)  (v0 : Nat) (v1 : Int32) (v2 : Int32) (v3 : Int32) (v4 : Int32) (v5 : Int32) (v6 : Int32) (w0 : Int32) (w1 : Nat) (S : AxS) (h : F_X10_mistaken_52 N  v0 v1 v2 v3 v4 v5 v6 w0 w1 S = some ((r9, S9))) : AW g l (axRm (2) 0 0) mt_X10_mistaken (axMQ g 0 0 (.inl (some (.long r9)), S9)) 0 0 S 52 [(0, .ref v0), (1, .int v1), (2, .int v2), (3, .int v3), (4, .int v4), (5, .int v5), (6, .int v6)] [.int w0, .ref w1] := by
  unfold F_X10_mistaken_52 at h
  refine aw_iconst 1 dX10_mistaken_52 rfl ?_
  refine aw_iconst 1 dX10_mistaken_53 rfl ?_
  obtain ⟨hL1, h⟩ := ax_is_spec h
  refine aw_doneI (rest := []) h (fun r9 S9 hF => aw_runV (As := [.int w0, .int 1, .int 1]) (rest := []) (L1_X10_bad N hF) axc10 hL1 wd_1452 wd_1449 wd_1451 wd_38 wd_97 pd_X10_bad rfl (ax_rm (by omega) rfl) ax_hf0 (Nat.le_of_ble_eq_true rfl) rfl dX10_mistaken_54) (fun x3 T2 h => ?_)
  refine aw_if_eq 62 dX10_mistaken_57 (by decide) h (fun h => ?_) (fun h => ?_)
  · refine aw_iload 5 dX10_mistaken_62 rfl ?_
    refine aw_if_ne 83 dX10_mistaken_64 (by decide) h (fun h => ?_) (fun h => ?_)
    · refine aw_aload_n 0 dX10_mistaken_83 rfl rfl ?_
      refine aw_iload_n 1 dX10_mistaken_84 rfl rfl ?_
      refine aw_iload_n 2 dX10_mistaken_85 rfl rfl ?_
      refine aw_iload 4 dX10_mistaken_86 rfl ?_
      obtain ⟨hL4, h⟩ := ax_is_spec h
      refine aw_doneL (rest := []) h (fun r9 S9 hF => aw_runV (As := [.int v1, .int v2, .int v4]) (rest := []) (L1_X10_dulls N hF) axc10 hL4 wd_1746 wd_1743 wd_1745 wd_75 wd_97 pd_X10_dulls rfl (ax_rm (by omega) rfl) ax_hf0 (Nat.le_of_ble_eq_true rfl) rfl dX10_mistaken_88) (fun x6 T5 h => ?_)
      refine aw_env [(1, .int v1), (6, .int v6)] [1, 6] rfl ?_
      exact L1_X10_mistaken_91 N  v1 v6 x6 T5 h
    · refine aw_iload_n 1 dX10_mistaken_67 rfl rfl ?_
      refine aw_doneL (rest := []) h (fun r9 S9 hF => aw_runS (As := [.int v1]) (rest := []) (L1_X10_whole N hF) wd_1742 wd_1740 wd_1741 wd_97 pd_X10_whole.2 rfl (ax_rm (by omega) rfl) ax_hf0 (Nat.le_of_ble_eq_true rfl) rfl dX10_mistaken_68) (fun x8 T7 h => ?_)
      refine aw_aload_n 0 dX10_mistaken_71 rfl rfl ?_
      refine aw_iload_n 1 dX10_mistaken_72 rfl rfl ?_
      refine aw_iload_n 3 dX10_mistaken_73 rfl rfl ?_
      refine aw_iload 4 dX10_mistaken_74 rfl ?_
      obtain ⟨hL9, h⟩ := ax_is_spec h
      refine aw_doneL (rest := [.long x8]) h (fun r9 S9 hF => aw_runV (As := [.int v1, .int v3, .int v4]) (rest := [.long x8]) (L1_X10_dulls N hF) axc10 hL9 wd_1746 wd_1743 wd_1745 wd_75 wd_97 pd_X10_dulls rfl (ax_rm (by omega) rfl) ax_hf0 (Nat.le_of_ble_eq_true rfl) rfl dX10_mistaken_76) (fun x11 T10 h => ?_)
      refine aw_lsub dX10_mistaken_79 ?_
      refine aw_goto 91 dX10_mistaken_80 (by decide) ?_
      refine aw_env [(1, .int v1), (6, .int v6)] [1, 6] rfl ?_
      exact L1_X10_mistaken_91 N  v1 v6 (x8 - x11) T10 h
  · refine aw_lconst 0 dX10_mistaken_60 rfl ?_
    exact aw_lret dX10_mistaken_61 rfl (Nat.le_refl _) (Nat.le_refl _) h
theorem L1_X10_mistaken_47 {g : AxG} {l : Launch} {r9 : Int64} {S9 : AxS} (N : Nat)  (v0 : Nat) (v1 : Int32) (v2 : Int32) (v3 : Int32) (v4 : Int32) (v5 : Int32) (v6 : Int32) (w0 : Nat) (S : AxS) (h : F_X10_mistaken_47 N  v0 v1 v2 v3 v4 v5 v6 w0 S = some ((r9, S9))) : AW g l (axRm (2) 0 0) mt_X10_mistaken (axMQ g 0 0 (.inl (some (.long r9)), S9)) 0 0 S 47 [(0, .ref v0), (1, .int v1), (2, .int v2), (3, .int v3), (4, .int v4), (5, .int v5), (6, .int v6)] [.ref w0] := by
  unfold F_X10_mistaken_47 at h
  refine aw_iconst 1 dX10_mistaken_47 rfl ?_
  refine aw_goto 52 dX10_mistaken_48 (by decide) ?_
  refine aw_env [(0, .ref v0), (1, .int v1), (2, .int v2), (3, .int v3), (4, .int v4), (5, .int v5), (6, .int v6)] [0, 1, 2, 3, 4, 5, 6] rfl ?_
  exact L1_X10_mistaken_52 N  v0 v1 v2 v3 v4 v5 v6 1 w0 S h
theorem L1_X10_mistaken {g : AxG} {l : Launch} (N : Nat) {v0 : Nat} {v1 : Int32} {v2 : Int32} {v3 : Int32} {v4 : Int32} {v5 : Int32} {v6 : Int32} {S : AxS} {r9 : Int64} {S9 : AxS} (h : F_X10_mistaken N v0 v1 v2 v3 v4 v5 v6 S = some ((r9, S9))) : AxMet g l yX10_mistaken cX10_mistaken 15 (some .long) (2) 0 0 [.ref v0, .int v1, .int v2, .int v3, .int v4, .int v5, .int v6] S ((.inl (some (.long r9)), S9)) := by
  refine ax_met (own := RX10) (ini := false) (by decide +kernel) rfl (fun h => nomatch h) rfl ?_
  show AW g l (axRm (2) 0 0) mt_X10_mistaken (axMQ g 0 0 (.inl (some (.long r9)), S9)) 0 0 S 0 [(0, .ref v0), (1, .int v1), (2, .int v2), (3, .int v3), (4, .int v4), (5, .int v5), (6, .int v6)] []
  unfold F_X10_mistaken at h
  refine aw_aload_n 0 dX10_mistaken_0 rfl rfl ?_
  refine aw_iconst 0 dX10_mistaken_1 rfl ?_
  refine aw_putI axc10 0 rfl rfl wd_1285 rfl rfl rfl dX10_mistaken_2 h (fun T1 h => ?_)
  refine aw_aload_n 0 dX10_mistaken_5 rfl rfl ?_
  refine aw_iload_n 1 dX10_mistaken_6 rfl rfl ?_
  refine aw_iload_n 2 dX10_mistaken_7 rfl rfl ?_
  refine aw_iload_n 3 dX10_mistaken_8 rfl rfl ?_
  refine aw_doneI (rest := [.ref v0]) h (fun r9 S9 hF => aw_runS (As := [.int v1, .int v2, .int v3]) (rest := [.ref v0]) (L1_X10_areOdds N hF) wd_1739 wd_1737 wd_1738 wd_97 pd_X10_areOdds.2 rfl (ax_rm (by omega) rfl) ax_hf0 (Nat.le_of_ble_eq_true rfl) rfl dX10_mistaken_9) (fun x3 T2 h => ?_)
  refine aw_if_eq 47 dX10_mistaken_12 (by decide) h (fun h => ?_) (fun h => ?_)
  · refine aw_env [(0, .ref v0), (1, .int v1), (2, .int v2), (3, .int v3), (4, .int v4), (5, .int v5), (6, .int v6)] [0, 1, 2, 3, 4, 5, 6] rfl ?_
    exact L1_X10_mistaken_47 N  v0 v1 v2 v3 v4 v5 v6 v0 T2 h
  · refine aw_iload 4 dX10_mistaken_15 rfl ?_
    refine aw_iconst 0 dX10_mistaken_17 rfl ?_
    refine aw_iload_n 1 dX10_mistaken_18 rfl rfl ?_
    refine aw_iconst 1 dX10_mistaken_19 rfl ?_
    refine aw_iadd dX10_mistaken_20 ?_
    refine aw_doneI (rest := [.ref v0]) h (fun r9 S9 hF => aw_runS (As := [.int v4, .int 0, .int (v1 + 1)]) (rest := [.ref v0]) (L1_X10_in N hF) wd_1448 wd_1446 wd_1447 wd_97 pd_X10_in.2 rfl (ax_rm (by omega) rfl) ax_hf0 (Nat.le_of_ble_eq_true rfl) rfl dX10_mistaken_21) (fun x5 T4 h => ?_)
    refine aw_if_eq 47 dX10_mistaken_24 (by decide) h (fun h => ?_) (fun h => ?_)
    · refine aw_env [(0, .ref v0), (1, .int v1), (2, .int v2), (3, .int v3), (4, .int v4), (5, .int v5), (6, .int v6)] [0, 1, 2, 3, 4, 5, 6] rfl ?_
      exact L1_X10_mistaken_47 N  v0 v1 v2 v3 v4 v5 v6 v0 T4 h
    · refine aw_iload 5 dX10_mistaken_27 rfl ?_
      refine aw_iconst 0 dX10_mistaken_29 rfl ?_
      refine aw_iconst 1 dX10_mistaken_30 rfl ?_
      refine aw_doneI (rest := [.ref v0]) h (fun r9 S9 hF => aw_runS (As := [.int v5, .int 0, .int 1]) (rest := [.ref v0]) (L1_X10_in N hF) wd_1448 wd_1446 wd_1447 wd_97 pd_X10_in.2 rfl (ax_rm (by omega) rfl) ax_hf0 (Nat.le_of_ble_eq_true rfl) rfl dX10_mistaken_31) (fun x7 T6 h => ?_)
      refine aw_if_eq 47 dX10_mistaken_34 (by decide) h (fun h => ?_) (fun h => ?_)
      · refine aw_env [(0, .ref v0), (1, .int v1), (2, .int v2), (3, .int v3), (4, .int v4), (5, .int v5), (6, .int v6)] [0, 1, 2, 3, 4, 5, 6] rfl ?_
        exact L1_X10_mistaken_47 N  v0 v1 v2 v3 v4 v5 v6 v0 T6 h
      · refine aw_iload 6 dX10_mistaken_37 rfl ?_
        refine aw_iconst 0 dX10_mistaken_39 rfl ?_
        refine aw_iconst 1 dX10_mistaken_40 rfl ?_
        refine aw_doneI (rest := [.ref v0]) h (fun r9 S9 hF => aw_runS (As := [.int v6, .int 0, .int 1]) (rest := [.ref v0]) (L1_X10_in N hF) wd_1448 wd_1446 wd_1447 wd_97 pd_X10_in.2 rfl (ax_rm (by omega) rfl) ax_hf0 (Nat.le_of_ble_eq_true rfl) rfl dX10_mistaken_41) (fun x9 T8 h => ?_)
        refine aw_if_ne 51 dX10_mistaken_44 (by decide) h (fun h => ?_) (fun h => ?_)
        · refine aw_iconst 0 dX10_mistaken_51 rfl ?_
          refine aw_env [(0, .ref v0), (1, .int v1), (2, .int v2), (3, .int v3), (4, .int v4), (5, .int v5), (6, .int v6)] [0, 1, 2, 3, 4, 5, 6] rfl ?_
          exact L1_X10_mistaken_52 N  v0 v1 v2 v3 v4 v5 v6 0 v0 T8 h
        · refine aw_env [(0, .ref v0), (1, .int v1), (2, .int v2), (3, .int v3), (4, .int v4), (5, .int v5), (6, .int v6)] [0, 1, 2, 3, 4, 5, 6] rfl ?_
          exact L1_X10_mistaken_47 N  v0 v1 v2 v3 v4 v5 v6 v0 T8 h

theorem dX10_best_0 : decode cX10_best 0 = .ok (.aload_n 0, 1) := by decide +kernel
theorem dX10_best_1 : decode cX10_best 1 = .ok (.iconst 0, 1) := by decide +kernel
theorem dX10_best_2 : decode cX10_best 2 = .ok (.putfield 104, 3) := by decide +kernel
theorem dX10_best_5 : decode cX10_best 5 = .ok (.aload_n 0, 1) := by decide +kernel
theorem dX10_best_6 : decode cX10_best 6 = .ok (.iload_n 1, 1) := by decide +kernel
theorem dX10_best_7 : decode cX10_best 7 = .ok (.iload_n 2, 1) := by decide +kernel
theorem dX10_best_8 : decode cX10_best 8 = .ok (.iload_n 3, 1) := by decide +kernel
theorem dX10_best_9 : decode cX10_best 9 = .ok (.invokestatic 344, 3) := by decide +kernel
theorem dX10_best_12 : decode cX10_best 12 = .ok (.ifCond .ne 7, 3) := by decide +kernel
theorem dX10_best_15 : decode cX10_best 15 = .ok (.iconst 1, 1) := by decide +kernel
theorem dX10_best_16 : decode cX10_best 16 = .ok (.goto 4, 3) := by decide +kernel
theorem dX10_best_19 : decode cX10_best 19 = .ok (.iconst 0, 1) := by decide +kernel
theorem dX10_best_20 : decode cX10_best 20 = .ok (.iconst 1, 1) := by decide +kernel
theorem dX10_best_21 : decode cX10_best 21 = .ok (.iconst 1, 1) := by decide +kernel
theorem dX10_best_22 : decode cX10_best 22 = .ok (.invokevirtual 193, 3) := by decide +kernel
theorem dX10_best_25 : decode cX10_best 25 = .ok (.ifCond .eq 5, 3) := by decide +kernel
theorem dX10_best_28 : decode cX10_best 28 = .ok (.iconst 0, 1) := by decide +kernel
theorem dX10_best_29 : decode cX10_best 29 = .ok (.ireturn, 1) := by decide +kernel
theorem dX10_best_30 : decode cX10_best 30 = .ok (.iconst 0, 1) := by decide +kernel
theorem dX10_best_31 : decode cX10_best 31 = .ok (.istore 4, 2) := by decide +kernel
theorem dX10_best_33 : decode cX10_best 33 = .ok (.ldc2_w 149, 3) := by decide +kernel
theorem dX10_best_36 : decode cX10_best 36 = .ok (.lstore 5, 2) := by decide +kernel
theorem dX10_best_38 : decode cX10_best 38 = .ok (.iconst 0, 1) := by decide +kernel
theorem dX10_best_39 : decode cX10_best 39 = .ok (.istore 7, 2) := by decide +kernel
theorem dX10_best_41 : decode cX10_best 41 = .ok (.iload 7, 2) := by decide +kernel
theorem dX10_best_43 : decode cX10_best 43 = .ok (.iload_n 1, 1) := by decide +kernel
theorem dX10_best_44 : decode cX10_best 44 = .ok (.iconst 1, 1) := by decide +kernel
theorem dX10_best_45 : decode cX10_best 45 = .ok (.iadd, 1) := by decide +kernel
theorem dX10_best_46 : decode cX10_best 46 = .ok (.if_icmp .gt 61, 3) := by decide +kernel
theorem dX10_best_49 : decode cX10_best 49 = .ok (.iload_n 1, 1) := by decide +kernel
theorem dX10_best_50 : decode cX10_best 50 = .ok (.invokestatic 347, 3) := by decide +kernel
theorem dX10_best_53 : decode cX10_best 53 = .ok (.aload_n 0, 1) := by decide +kernel
theorem dX10_best_54 : decode cX10_best 54 = .ok (.iload_n 1, 1) := by decide +kernel
theorem dX10_best_55 : decode cX10_best 55 = .ok (.iload_n 3, 1) := by decide +kernel
theorem dX10_best_56 : decode cX10_best 56 = .ok (.iload 7, 2) := by decide +kernel
theorem dX10_best_58 : decode cX10_best 58 = .ok (.invokevirtual 351, 3) := by decide +kernel
theorem dX10_best_61 : decode cX10_best 61 = .ok (.lsub, 1) := by decide +kernel
theorem dX10_best_62 : decode cX10_best 62 = .ok (.aload_n 0, 1) := by decide +kernel
theorem dX10_best_63 : decode cX10_best 63 = .ok (.iload_n 1, 1) := by decide +kernel
theorem dX10_best_64 : decode cX10_best 64 = .ok (.iload_n 2, 1) := by decide +kernel
theorem dX10_best_65 : decode cX10_best 65 = .ok (.iload 7, 2) := by decide +kernel
theorem dX10_best_67 : decode cX10_best 67 = .ok (.invokevirtual 351, 3) := by decide +kernel
theorem dX10_best_70 : decode cX10_best 70 = .ok (.ladd, 1) := by decide +kernel
theorem dX10_best_71 : decode cX10_best 71 = .ok (.lstore 8, 2) := by decide +kernel
theorem dX10_best_73 : decode cX10_best 73 = .ok (.lload 5, 2) := by decide +kernel
theorem dX10_best_75 : decode cX10_best 75 = .ok (.ldc2_w 149, 3) := by decide +kernel
theorem dX10_best_78 : decode cX10_best 78 = .ok (.lcmp, 1) := by decide +kernel
theorem dX10_best_79 : decode cX10_best 79 = .ok (.ifCond .eq 14, 3) := by decide +kernel
theorem dX10_best_82 : decode cX10_best 82 = .ok (.lload 8, 2) := by decide +kernel
theorem dX10_best_84 : decode cX10_best 84 = .ok (.lload 5, 2) := by decide +kernel
theorem dX10_best_86 : decode cX10_best 86 = .ok (.lcmp, 1) := by decide +kernel
theorem dX10_best_87 : decode cX10_best 87 = .ok (.ifCond .lt 6, 3) := by decide +kernel
theorem dX10_best_90 : decode cX10_best 90 = .ok (.goto 11, 3) := by decide +kernel
theorem dX10_best_93 : decode cX10_best 93 = .ok (.iload 7, 2) := by decide +kernel
theorem dX10_best_95 : decode cX10_best 95 = .ok (.istore 4, 2) := by decide +kernel
theorem dX10_best_97 : decode cX10_best 97 = .ok (.lload 8, 2) := by decide +kernel
theorem dX10_best_99 : decode cX10_best 99 = .ok (.lstore 5, 2) := by decide +kernel
theorem dX10_best_101 : decode cX10_best 101 = .ok (.iinc 7 1, 3) := by decide +kernel
theorem dX10_best_104 : decode cX10_best 104 = .ok (.goto (-63), 3) := by decide +kernel
theorem dX10_best_107 : decode cX10_best 107 = .ok (.iload 4, 2) := by decide +kernel
theorem dX10_best_109 : decode cX10_best 109 = .ok (.ireturn, 1) := by decide +kernel
abbrev mt_X10_best : AxM := (RX10, cX10_best, 10, (some .int), false, [])
theorem L1_X10_best_101 {g : AxG} {l : Launch} {r9 : Int32} {S9 : AxS} (N : Nat) (K41 : Nat → Int32 → Int32 → Int32 → Int32 → Int64 → Int32 → AxS → Option (Int32 × AxS)) (hK41 : ∀ (v0 : Nat) (v1 : Int32) (v2 : Int32) (v3 : Int32) (v4 : Int32) (v5 : Int64) (v7 : Int32) (S : AxS), K41 v0 v1 v2 v3 v4 v5 v7 S = some ((r9, S9)) → AW g l (axRm (2) 0 0) mt_X10_best (axMQ g 0 0 (.inl (some (.int r9)), S9)) 0 0 S 41 [(0, .ref v0), (1, .int v1), (2, .int v2), (3, .int v3), (4, .int v4), (5, .long v5), (7, .int v7)] []) (v0 : Nat) (v1 : Int32) (v2 : Int32) (v3 : Int32) (v4 : Int32) (v5 : Int64) (v7 : Int32) (S : AxS) (h : F_X10_best_101 N K41 v0 v1 v2 v3 v4 v5 v7 S = some ((r9, S9))) : AW g l (axRm (2) 0 0) mt_X10_best (axMQ g 0 0 (.inl (some (.int r9)), S9)) 0 0 S 101 [(0, .ref v0), (1, .int v1), (2, .int v2), (3, .int v3), (4, .int v4), (5, .long v5), (7, .int v7)] [] := by
  unfold F_X10_best_101 at h
  refine aw_iinc 6 [(7, .int (v7 + 1)), (0, .ref v0), (1, .int v1), (2, .int v2), (3, .int v3), (4, .int v4), (5, .long v5)] (v7 + 1) dX10_best_101 rfl rfl rfl rfl ?_
  refine aw_goto 41 dX10_best_104 (by decide) ?_
  refine aw_env [(0, .ref v0), (1, .int v1), (2, .int v2), (3, .int v3), (4, .int v4), (5, .long v5), (7, .int (v7 + 1))] [1, 2, 3, 4, 5, 6, 0] rfl ?_
  exact hK41 v0 v1 v2 v3 v4 v5 (v7 + 1) S h
theorem L1_X10_best_93 {g : AxG} {l : Launch} {r9 : Int32} {S9 : AxS} (N : Nat) (K41 : Nat → Int32 → Int32 → Int32 → Int32 → Int64 → Int32 → AxS → Option (Int32 × AxS)) (hK41 : ∀ (v0 : Nat) (v1 : Int32) (v2 : Int32) (v3 : Int32) (v4 : Int32) (v5 : Int64) (v7 : Int32) (S : AxS), K41 v0 v1 v2 v3 v4 v5 v7 S = some ((r9, S9)) → AW g l (axRm (2) 0 0) mt_X10_best (axMQ g 0 0 (.inl (some (.int r9)), S9)) 0 0 S 41 [(0, .ref v0), (1, .int v1), (2, .int v2), (3, .int v3), (4, .int v4), (5, .long v5), (7, .int v7)] []) (v0 : Nat) (v1 : Int32) (v2 : Int32) (v3 : Int32) (v7 : Int32) (v8 : Int64) (S : AxS) (h : F_X10_best_93 N K41 v0 v1 v2 v3 v7 v8 S = some ((r9, S9))) : AW g l (axRm (2) 0 0) mt_X10_best (axMQ g 0 0 (.inl (some (.int r9)), S9)) 0 0 S 93 [(0, .ref v0), (1, .int v1), (2, .int v2), (3, .int v3), (7, .int v7), (8, .long v8)] [] := by
  unfold F_X10_best_93 at h
  refine aw_iload 4 dX10_best_93 rfl ?_
  refine aw_istore [(4, .int v7), (0, .ref v0), (1, .int v1), (2, .int v2), (3, .int v3), (7, .int v7), (8, .long v8)] dX10_best_95 rfl rfl ?_
  refine aw_lload 6 dX10_best_97 rfl ?_
  refine aw_lstore [(5, .long v8), (4, .int v7), (0, .ref v0), (1, .int v1), (2, .int v2), (3, .int v3), (7, .int v7), (8, .long v8)] dX10_best_99 rfl rfl ?_
  refine aw_env [(0, .ref v0), (1, .int v1), (2, .int v2), (3, .int v3), (4, .int v7), (5, .long v8), (7, .int v7)] [2, 3, 4, 5, 1, 0, 6] rfl ?_
  exact L1_X10_best_101 N K41 hK41 v0 v1 v2 v3 v7 v8 v7 S h
theorem L1_X10_best_41b {g : AxG} {l : Launch} {r9 : Int32} {S9 : AxS} (N : Nat) (K41 : Nat → Int32 → Int32 → Int32 → Int32 → Int64 → Int32 → AxS → Option (Int32 × AxS)) (hK41 : ∀ (v0 : Nat) (v1 : Int32) (v2 : Int32) (v3 : Int32) (v4 : Int32) (v5 : Int64) (v7 : Int32) (S : AxS), K41 v0 v1 v2 v3 v4 v5 v7 S = some ((r9, S9)) → AW g l (axRm (2) 0 0) mt_X10_best (axMQ g 0 0 (.inl (some (.int r9)), S9)) 0 0 S 41 [(0, .ref v0), (1, .int v1), (2, .int v2), (3, .int v3), (4, .int v4), (5, .long v5), (7, .int v7)] []) (v0 : Nat) (v1 : Int32) (v2 : Int32) (v3 : Int32) (v4 : Int32) (v5 : Int64) (v7 : Int32) (S : AxS) (h : F_X10_best_41b N K41 v0 v1 v2 v3 v4 v5 v7 S = some ((r9, S9))) : AW g l (axRm (2) 0 0) mt_X10_best (axMQ g 0 0 (.inl (some (.int r9)), S9)) 0 0 S 41 [(0, .ref v0), (1, .int v1), (2, .int v2), (3, .int v3), (4, .int v4), (5, .long v5), (7, .int v7)] [] := by
  unfold F_X10_best_41b at h
  refine aw_iload 6 dX10_best_41 rfl ?_
  refine aw_iload_n 1 dX10_best_43 rfl rfl ?_
  refine aw_iconst 1 dX10_best_44 rfl ?_
  refine aw_iadd dX10_best_45 ?_
  refine aw_icmp_gt 107 dX10_best_46 (by decide) h (fun h => ?_) (fun h => ?_)
  · refine aw_iload 4 dX10_best_107 rfl ?_
    exact aw_iret dX10_best_109 rfl (Nat.le_refl _) (Nat.le_refl _) h
  · refine aw_iload_n 1 dX10_best_49 rfl rfl ?_
    refine aw_doneL (rest := []) h (fun r9 S9 hF => aw_runS (As := [.int v1]) (rest := []) (L1_X10_whole N hF) wd_1742 wd_1740 wd_1741 wd_97 pd_X10_whole.2 rfl (ax_rm (by omega) rfl) ax_hf0 (Nat.le_of_ble_eq_true rfl) rfl dX10_best_50) (fun x2 T1 h => ?_)
    refine aw_aload_n 0 dX10_best_53 rfl rfl ?_
    refine aw_iload_n 1 dX10_best_54 rfl rfl ?_
    refine aw_iload_n 3 dX10_best_55 rfl rfl ?_
    refine aw_iload 6 dX10_best_56 rfl ?_
    obtain ⟨hL3, h⟩ := ax_is_spec h
    refine aw_doneL (rest := [.long x2]) h (fun r9 S9 hF => aw_runV (As := [.int v1, .int v3, .int v7]) (rest := [.long x2]) (L1_X10_dulls N hF) axc10 hL3 wd_1746 wd_1743 wd_1745 wd_75 wd_97 pd_X10_dulls rfl (ax_rm (by omega) rfl) ax_hf0 (Nat.le_of_ble_eq_true rfl) rfl dX10_best_58) (fun x5 T4 h => ?_)
    refine aw_lsub dX10_best_61 ?_
    refine aw_aload_n 0 dX10_best_62 rfl rfl ?_
    refine aw_iload_n 1 dX10_best_63 rfl rfl ?_
    refine aw_iload_n 2 dX10_best_64 rfl rfl ?_
    refine aw_iload 6 dX10_best_65 rfl ?_
    obtain ⟨hL6, h⟩ := ax_is_spec h
    refine aw_doneL (rest := [.long (x2 - x5)]) h (fun r9 S9 hF => aw_runV (As := [.int v1, .int v2, .int v7]) (rest := [.long (x2 - x5)]) (L1_X10_dulls N hF) axc10 hL6 wd_1746 wd_1743 wd_1745 wd_75 wd_97 pd_X10_dulls rfl (ax_rm (by omega) rfl) ax_hf0 (Nat.le_of_ble_eq_true rfl) rfl dX10_best_67) (fun x8 T7 h => ?_)
    refine aw_ladd dX10_best_70 ?_
    refine aw_lstore [(8, .long ((x2 - x5) + x8)), (0, .ref v0), (1, .int v1), (2, .int v2), (3, .int v3), (4, .int v4), (5, .long v5), (7, .int v7)] dX10_best_71 rfl rfl ?_
    refine aw_lload 6 dX10_best_73 rfl ?_
    refine aw_ldc2 wd_1486 dX10_best_75 ?_
    refine aw_lcmp dX10_best_78 ?_
    refine aw_if_eq 93 dX10_best_79 (by decide) h (fun h => ?_) (fun h => ?_)
    · refine aw_env [(0, .ref v0), (1, .int v1), (2, .int v2), (3, .int v3), (7, .int v7), (8, .long ((x2 - x5) + x8))] [1, 2, 3, 4, 7, 0] rfl ?_
      exact L1_X10_best_93 N K41 hK41 v0 v1 v2 v3 v7 ((x2 - x5) + x8) T7 h
    · refine aw_lload 0 dX10_best_82 rfl ?_
      refine aw_lload 6 dX10_best_84 rfl ?_
      refine aw_lcmp dX10_best_86 ?_
      refine aw_if_lt 93 dX10_best_87 (by decide) h (fun h => ?_) (fun h => ?_)
      · refine aw_env [(0, .ref v0), (1, .int v1), (2, .int v2), (3, .int v3), (7, .int v7), (8, .long ((x2 - x5) + x8))] [1, 2, 3, 4, 7, 0] rfl ?_
        exact L1_X10_best_93 N K41 hK41 v0 v1 v2 v3 v7 ((x2 - x5) + x8) T7 h
      · refine aw_goto 101 dX10_best_90 (by decide) ?_
        refine aw_env [(0, .ref v0), (1, .int v1), (2, .int v2), (3, .int v3), (4, .int v4), (5, .long v5), (7, .int v7)] [1, 2, 3, 4, 5, 6, 7] rfl ?_
        exact L1_X10_best_101 N K41 hK41 v0 v1 v2 v3 v4 v5 v7 T7 h
theorem L1_X10_best_41 {g : AxG} {l : Launch} {r9 : Int32} {S9 : AxS} (N : Nat)  : ∀ (n : Nat) (v0 : Nat) (v1 : Int32) (v2 : Int32) (v3 : Int32) (v4 : Int32) (v5 : Int64) (v7 : Int32) (S : AxS), F_X10_best_41 N  n v0 v1 v2 v3 v4 v5 v7 S = some ((r9, S9)) → AW g l (axRm (2) 0 0) mt_X10_best (axMQ g 0 0 (.inl (some (.int r9)), S9)) 0 0 S 41 [(0, .ref v0), (1, .int v1), (2, .int v2), (3, .int v3), (4, .int v4), (5, .long v5), (7, .int v7)] [] := by
  intro n
  induction n with
  | zero => intro v0 v1 v2 v3 v4 v5 v7 S h; cases h
  | succ n ih => intro v0 v1 v2 v3 v4 v5 v7 S h; exact L1_X10_best_41b N (F_X10_best_41 N  n) ih v0 v1 v2 v3 v4 v5 v7 S h
theorem L1_X10_best_20 {g : AxG} {l : Launch} {r9 : Int32} {S9 : AxS} (N : Nat)  (v0 : Nat) (v1 : Int32) (v2 : Int32) (v3 : Int32) (w0 : Int32) (w1 : Nat) (S : AxS) (h : F_X10_best_20 N  v0 v1 v2 v3 w0 w1 S = some ((r9, S9))) : AW g l (axRm (2) 0 0) mt_X10_best (axMQ g 0 0 (.inl (some (.int r9)), S9)) 0 0 S 20 [(0, .ref v0), (1, .int v1), (2, .int v2), (3, .int v3)] [.int w0, .ref w1] := by
  unfold F_X10_best_20 at h
  refine aw_iconst 1 dX10_best_20 rfl ?_
  refine aw_iconst 1 dX10_best_21 rfl ?_
  obtain ⟨hL1, h⟩ := ax_is_spec h
  refine aw_doneI (rest := []) h (fun r9 S9 hF => aw_runV (As := [.int w0, .int 1, .int 1]) (rest := []) (L1_X10_bad N hF) axc10 hL1 wd_1452 wd_1449 wd_1451 wd_38 wd_97 pd_X10_bad rfl (ax_rm (by omega) rfl) ax_hf0 (Nat.le_of_ble_eq_true rfl) rfl dX10_best_22) (fun x3 T2 h => ?_)
  refine aw_if_eq 30 dX10_best_25 (by decide) h (fun h => ?_) (fun h => ?_)
  · refine aw_iconst 0 dX10_best_30 rfl ?_
    refine aw_istore [(4, .int 0), (0, .ref v0), (1, .int v1), (2, .int v2), (3, .int v3)] dX10_best_31 rfl rfl ?_
    refine aw_ldc2 wd_1486 dX10_best_33 ?_
    refine aw_lstore [(5, .long ((-1))), (4, .int 0), (0, .ref v0), (1, .int v1), (2, .int v2), (3, .int v3)] dX10_best_36 rfl rfl ?_
    refine aw_iconst 0 dX10_best_38 rfl ?_
    refine aw_istore [(7, .int 0), (5, .long ((-1))), (4, .int 0), (0, .ref v0), (1, .int v1), (2, .int v2), (3, .int v3)] dX10_best_39 rfl rfl ?_
    refine aw_env [(0, .ref v0), (1, .int v1), (2, .int v2), (3, .int v3), (4, .int 0), (5, .long ((-1))), (7, .int 0)] [3, 4, 5, 6, 2, 1, 0] rfl ?_
    exact L1_X10_best_41 N  N v0 v1 v2 v3 0 ((-1)) 0 T2 h
  · refine aw_iconst 0 dX10_best_28 rfl ?_
    exact aw_iret dX10_best_29 rfl (Nat.le_refl _) (Nat.le_refl _) h
theorem L1_X10_best {g : AxG} {l : Launch} (N : Nat) {v0 : Nat} {v1 : Int32} {v2 : Int32} {v3 : Int32} {S : AxS} {r9 : Int32} {S9 : AxS} (h : F_X10_best N v0 v1 v2 v3 S = some ((r9, S9))) : AxMet g l yX10_best cX10_best 10 (some .int) (2) 0 0 [.ref v0, .int v1, .int v2, .int v3] S ((.inl (some (.int r9)), S9)) := by
  refine ax_met (own := RX10) (ini := false) (by decide +kernel) rfl (fun h => nomatch h) rfl ?_
  show AW g l (axRm (2) 0 0) mt_X10_best (axMQ g 0 0 (.inl (some (.int r9)), S9)) 0 0 S 0 [(0, .ref v0), (1, .int v1), (2, .int v2), (3, .int v3)] []
  unfold F_X10_best at h
  refine aw_aload_n 0 dX10_best_0 rfl rfl ?_
  refine aw_iconst 0 dX10_best_1 rfl ?_
  refine aw_putI axc10 0 rfl rfl wd_1285 rfl rfl rfl dX10_best_2 h (fun T1 h => ?_)
  refine aw_aload_n 0 dX10_best_5 rfl rfl ?_
  refine aw_iload_n 1 dX10_best_6 rfl rfl ?_
  refine aw_iload_n 2 dX10_best_7 rfl rfl ?_
  refine aw_iload_n 3 dX10_best_8 rfl rfl ?_
  refine aw_doneI (rest := [.ref v0]) h (fun r9 S9 hF => aw_runS (As := [.int v1, .int v2, .int v3]) (rest := [.ref v0]) (L1_X10_areOdds N hF) wd_1739 wd_1737 wd_1738 wd_97 pd_X10_areOdds.2 rfl (ax_rm (by omega) rfl) ax_hf0 (Nat.le_of_ble_eq_true rfl) rfl dX10_best_9) (fun x3 T2 h => ?_)
  refine aw_if_ne 19 dX10_best_12 (by decide) h (fun h => ?_) (fun h => ?_)
  · refine aw_iconst 0 dX10_best_19 rfl ?_
    refine aw_env [(0, .ref v0), (1, .int v1), (2, .int v2), (3, .int v3)] [0, 1, 2, 3] rfl ?_
    exact L1_X10_best_20 N  v0 v1 v2 v3 0 v0 T2 h
  · refine aw_iconst 1 dX10_best_15 rfl ?_
    refine aw_goto 20 dX10_best_16 (by decide) ?_
    refine aw_env [(0, .ref v0), (1, .int v1), (2, .int v2), (3, .int v3)] [0, 1, 2, 3] rfl ?_
    exact L1_X10_best_20 N  v0 v1 v2 v3 1 v0 T2 h

theorem dX10_bedsFrom_0 : decode cX10_bedsFrom 0 = .ok (.iload_n 3, 1) := by decide +kernel
theorem dX10_bedsFrom_1 : decode cX10_bedsFrom 1 = .ok (.aload_n 0, 1) := by decide +kernel
theorem dX10_bedsFrom_2 : decode cX10_bedsFrom 2 = .ok (.getfield 23, 3) := by decide +kernel
theorem dX10_bedsFrom_5 : decode cX10_bedsFrom 5 = .ok (.iconst 2, 1) := by decide +kernel
theorem dX10_bedsFrom_6 : decode cX10_bedsFrom 6 = .ok (.iaload, 1) := by decide +kernel
theorem dX10_bedsFrom_7 : decode cX10_bedsFrom 7 = .ok (.iadd, 1) := by decide +kernel
theorem dX10_bedsFrom_8 : decode cX10_bedsFrom 8 = .ok (.iload_n 1, 1) := by decide +kernel
theorem dX10_bedsFrom_9 : decode cX10_bedsFrom 9 = .ok (.isub, 1) := by decide +kernel
theorem dX10_bedsFrom_10 : decode cX10_bedsFrom 10 = .ok (.aload_n 0, 1) := by decide +kernel
theorem dX10_bedsFrom_11 : decode cX10_bedsFrom 11 = .ok (.getfield 355, 3) := by decide +kernel
theorem dX10_bedsFrom_14 : decode cX10_bedsFrom 14 = .ok (.if_icmp .gt 4, 3) := by decide +kernel
theorem dX10_bedsFrom_17 : decode cX10_bedsFrom 17 = .ok (.return_, 1) := by decide +kernel
theorem dX10_bedsFrom_18 : decode cX10_bedsFrom 18 = .ok (.iload_n 1, 1) := by decide +kernel
theorem dX10_bedsFrom_19 : decode cX10_bedsFrom 19 = .ok (.aload_n 0, 1) := by decide +kernel
theorem dX10_bedsFrom_20 : decode cX10_bedsFrom 20 = .ok (.getfield 23, 3) := by decide +kernel
theorem dX10_bedsFrom_23 : decode cX10_bedsFrom 23 = .ok (.iconst 2, 1) := by decide +kernel
theorem dX10_bedsFrom_24 : decode cX10_bedsFrom 24 = .ok (.iaload, 1) := by decide +kernel
theorem dX10_bedsFrom_25 : decode cX10_bedsFrom 25 = .ok (.if_icmp .ne 38, 3) := by decide +kernel
theorem dX10_bedsFrom_28 : decode cX10_bedsFrom 28 = .ok (.aload_n 0, 1) := by decide +kernel
theorem dX10_bedsFrom_29 : decode cX10_bedsFrom 29 = .ok (.iload_n 3, 1) := by decide +kernel
theorem dX10_bedsFrom_30 : decode cX10_bedsFrom 30 = .ok (.putfield 355, 3) := by decide +kernel
theorem dX10_bedsFrom_33 : decode cX10_bedsFrom 33 = .ok (.iconst 0, 1) := by decide +kernel
theorem dX10_bedsFrom_34 : decode cX10_bedsFrom 34 = .ok (.istore 5, 2) := by decide +kernel
theorem dX10_bedsFrom_36 : decode cX10_bedsFrom 36 = .ok (.iload 5, 2) := by decide +kernel
theorem dX10_bedsFrom_38 : decode cX10_bedsFrom 38 = .ok (.iload_n 1, 1) := by decide +kernel
theorem dX10_bedsFrom_39 : decode cX10_bedsFrom 39 = .ok (.if_icmp .ge 23, 3) := by decide +kernel
theorem dX10_bedsFrom_42 : decode cX10_bedsFrom 42 = .ok (.aload_n 0, 1) := by decide +kernel
theorem dX10_bedsFrom_43 : decode cX10_bedsFrom 43 = .ok (.getfield 89, 3) := by decide +kernel
theorem dX10_bedsFrom_46 : decode cX10_bedsFrom 46 = .ok (.iload 5, 2) := by decide +kernel
theorem dX10_bedsFrom_48 : decode cX10_bedsFrom 48 = .ok (.aload_n 0, 1) := by decide +kernel
theorem dX10_bedsFrom_49 : decode cX10_bedsFrom 49 = .ok (.getfield 86, 3) := by decide +kernel
theorem dX10_bedsFrom_52 : decode cX10_bedsFrom 52 = .ok (.iload 5, 2) := by decide +kernel
theorem dX10_bedsFrom_54 : decode cX10_bedsFrom 54 = .ok (.iaload, 1) := by decide +kernel
theorem dX10_bedsFrom_55 : decode cX10_bedsFrom 55 = .ok (.iastore, 1) := by decide +kernel
theorem dX10_bedsFrom_56 : decode cX10_bedsFrom 56 = .ok (.iinc 5 1, 3) := by decide +kernel
theorem dX10_bedsFrom_59 : decode cX10_bedsFrom 59 = .ok (.goto (-23), 3) := by decide +kernel
theorem dX10_bedsFrom_62 : decode cX10_bedsFrom 62 = .ok (.return_, 1) := by decide +kernel
theorem dX10_bedsFrom_63 : decode cX10_bedsFrom 63 = .ok (.iconst 0, 1) := by decide +kernel
theorem dX10_bedsFrom_64 : decode cX10_bedsFrom 64 = .ok (.istore 5, 2) := by decide +kernel
theorem dX10_bedsFrom_66 : decode cX10_bedsFrom 66 = .ok (.iload 5, 2) := by decide +kernel
theorem dX10_bedsFrom_68 : decode cX10_bedsFrom 68 = .ok (.aload_n 0, 1) := by decide +kernel
theorem dX10_bedsFrom_69 : decode cX10_bedsFrom 69 = .ok (.getfield 23, 3) := by decide +kernel
theorem dX10_bedsFrom_72 : decode cX10_bedsFrom 72 = .ok (.iconst 1, 1) := by decide +kernel
theorem dX10_bedsFrom_73 : decode cX10_bedsFrom 73 = .ok (.iaload, 1) := by decide +kernel
theorem dX10_bedsFrom_74 : decode cX10_bedsFrom 74 = .ok (.if_icmp .ge 71, 3) := by decide +kernel
theorem dX10_bedsFrom_77 : decode cX10_bedsFrom 77 = .ok (.iload_n 2, 1) := by decide +kernel
theorem dX10_bedsFrom_78 : decode cX10_bedsFrom 78 = .ok (.iload 5, 2) := by decide +kernel
theorem dX10_bedsFrom_80 : decode cX10_bedsFrom 80 = .ok (.invokestatic 294, 3) := by decide +kernel
theorem dX10_bedsFrom_83 : decode cX10_bedsFrom 83 = .ok (.ifCond .eq 6, 3) := by decide +kernel
theorem dX10_bedsFrom_86 : decode cX10_bedsFrom 86 = .ok (.goto 53, 3) := by decide +kernel
theorem dX10_bedsFrom_89 : decode cX10_bedsFrom 89 = .ok (.aload_n 0, 1) := by decide +kernel
theorem dX10_bedsFrom_90 : decode cX10_bedsFrom 90 = .ok (.getfield 86, 3) := by decide +kernel
theorem dX10_bedsFrom_93 : decode cX10_bedsFrom 93 = .ok (.iload_n 1, 1) := by decide +kernel
theorem dX10_bedsFrom_94 : decode cX10_bedsFrom 94 = .ok (.iload 5, 2) := by decide +kernel
theorem dX10_bedsFrom_96 : decode cX10_bedsFrom 96 = .ok (.iastore, 1) := by decide +kernel
theorem dX10_bedsFrom_97 : decode cX10_bedsFrom 97 = .ok (.aload_n 0, 1) := by decide +kernel
theorem dX10_bedsFrom_98 : decode cX10_bedsFrom 98 = .ok (.iload_n 1, 1) := by decide +kernel
theorem dX10_bedsFrom_99 : decode cX10_bedsFrom 99 = .ok (.iconst 1, 1) := by decide +kernel
theorem dX10_bedsFrom_100 : decode cX10_bedsFrom 100 = .ok (.iadd, 1) := by decide +kernel
theorem dX10_bedsFrom_101 : decode cX10_bedsFrom 101 = .ok (.iload_n 2, 1) := by decide +kernel
theorem dX10_bedsFrom_102 : decode cX10_bedsFrom 102 = .ok (.iconst 1, 1) := by decide +kernel
theorem dX10_bedsFrom_103 : decode cX10_bedsFrom 103 = .ok (.iload 5, 2) := by decide +kernel
theorem dX10_bedsFrom_105 : decode cX10_bedsFrom 105 = .ok (.ishl, 1) := by decide +kernel
theorem dX10_bedsFrom_106 : decode cX10_bedsFrom 106 = .ok (.ior, 1) := by decide +kernel
theorem dX10_bedsFrom_107 : decode cX10_bedsFrom 107 = .ok (.iload_n 3, 1) := by decide +kernel
theorem dX10_bedsFrom_108 : decode cX10_bedsFrom 108 = .ok (.aload_n 0, 1) := by decide +kernel
theorem dX10_bedsFrom_109 : decode cX10_bedsFrom 109 = .ok (.iload 5, 2) := by decide +kernel
theorem dX10_bedsFrom_111 : decode cX10_bedsFrom 111 = .ok (.iload 4, 2) := by decide +kernel
theorem dX10_bedsFrom_113 : decode cX10_bedsFrom 113 = .ok (.iconst 0, 1) := by decide +kernel
theorem dX10_bedsFrom_114 : decode cX10_bedsFrom 114 = .ok (.invokevirtual 280, 3) := by decide +kernel
theorem dX10_bedsFrom_117 : decode cX10_bedsFrom 117 = .ok (.aload_n 0, 1) := by decide +kernel
theorem dX10_bedsFrom_118 : decode cX10_bedsFrom 118 = .ok (.getfield 37, 3) := by decide +kernel
theorem dX10_bedsFrom_121 : decode cX10_bedsFrom 121 = .ok (.iconst 2, 1) := by decide +kernel
theorem dX10_bedsFrom_122 : decode cX10_bedsFrom 122 = .ok (.aaload, 1) := by decide +kernel
theorem dX10_bedsFrom_123 : decode cX10_bedsFrom 123 = .ok (.iload_n 1, 1) := by decide +kernel
theorem dX10_bedsFrom_124 : decode cX10_bedsFrom 124 = .ok (.iaload, 1) := by decide +kernel
theorem dX10_bedsFrom_125 : decode cX10_bedsFrom 125 = .ok (.if_icmp .le 7, 3) := by decide +kernel
theorem dX10_bedsFrom_128 : decode cX10_bedsFrom 128 = .ok (.iconst 0, 1) := by decide +kernel
theorem dX10_bedsFrom_129 : decode cX10_bedsFrom 129 = .ok (.goto 4, 3) := by decide +kernel
theorem dX10_bedsFrom_132 : decode cX10_bedsFrom 132 = .ok (.iconst 1, 1) := by decide +kernel
theorem dX10_bedsFrom_133 : decode cX10_bedsFrom 133 = .ok (.iadd, 1) := by decide +kernel
theorem dX10_bedsFrom_134 : decode cX10_bedsFrom 134 = .ok (.iload 4, 2) := by decide +kernel
theorem dX10_bedsFrom_136 : decode cX10_bedsFrom 136 = .ok (.invokevirtual 358, 3) := by decide +kernel
theorem dX10_bedsFrom_139 : decode cX10_bedsFrom 139 = .ok (.iinc 5 1, 3) := by decide +kernel
theorem dX10_bedsFrom_142 : decode cX10_bedsFrom 142 = .ok (.goto (-76), 3) := by decide +kernel
theorem dX10_bedsFrom_145 : decode cX10_bedsFrom 145 = .ok (.return_, 1) := by decide +kernel
abbrev mt_X10_bedsFrom : AxM := (RX10, cX10_bedsFrom, 6, none, false, [])
theorem L1_X10_bedsFrom_139 {g : AxG} {l : Launch} {S9 : AxS} (N : Nat) (kr : Nat → Int32 → Int32 → Int32 → Int32 → AxS → Option (AxS)) (d : Nat) (hkr : ∀ (a0 : Nat) (a1 : Int32) (a2 : Int32) (a3 : Int32) (a4 : Int32) (S : AxS) {S9 : AxS}, kr a0 a1 a2 a3 a4 S = some S9 → AxMet g l yX10_bedsFrom cX10_bedsFrom 6 none d 0 0 [.ref a0, .int a1, .int a2, .int a3, .int a4] S ((.inl none, S9))) (K66 : Nat → Int32 → Int32 → Int32 → Int32 → Int32 → AxS → Option (AxS)) (hK66 : ∀ (v0 : Nat) (v1 : Int32) (v2 : Int32) (v3 : Int32) (v4 : Int32) (v5 : Int32) (S : AxS), K66 v0 v1 v2 v3 v4 v5 S = some S9 → AW g l (axRm (d + 1) 0 0) mt_X10_bedsFrom (axMQ g 0 0 (.inl none, S9)) 0 0 S 66 [(0, .ref v0), (1, .int v1), (2, .int v2), (3, .int v3), (4, .int v4), (5, .int v5)] []) (v0 : Nat) (v1 : Int32) (v2 : Int32) (v3 : Int32) (v4 : Int32) (v5 : Int32) (S : AxS) (h : F_X10_bedsFrom_139 N kr K66 v0 v1 v2 v3 v4 v5 S = some S9) : AW g l (axRm (d + 1) 0 0) mt_X10_bedsFrom (axMQ g 0 0 (.inl none, S9)) 0 0 S 139 [(0, .ref v0), (1, .int v1), (2, .int v2), (3, .int v3), (4, .int v4), (5, .int v5)] [] := by
  unfold F_X10_bedsFrom_139 at h
  refine aw_iinc 5 [(5, .int (v5 + 1)), (0, .ref v0), (1, .int v1), (2, .int v2), (3, .int v3), (4, .int v4)] (v5 + 1) dX10_bedsFrom_139 rfl rfl rfl rfl ?_
  refine aw_goto 66 dX10_bedsFrom_142 (by decide) ?_
  refine aw_env [(0, .ref v0), (1, .int v1), (2, .int v2), (3, .int v3), (4, .int v4), (5, .int (v5 + 1))] [1, 2, 3, 4, 5, 0] rfl ?_
  exact hK66 v0 v1 v2 v3 v4 (v5 + 1) S h
theorem L1_X10_bedsFrom_133 {g : AxG} {l : Launch} {S9 : AxS} (N : Nat) (kr : Nat → Int32 → Int32 → Int32 → Int32 → AxS → Option (AxS)) (d : Nat) (hkr : ∀ (a0 : Nat) (a1 : Int32) (a2 : Int32) (a3 : Int32) (a4 : Int32) (S : AxS) {S9 : AxS}, kr a0 a1 a2 a3 a4 S = some S9 → AxMet g l yX10_bedsFrom cX10_bedsFrom 6 none d 0 0 [.ref a0, .int a1, .int a2, .int a3, .int a4] S ((.inl none, S9))) (K66 : Nat → Int32 → Int32 → Int32 → Int32 → Int32 → AxS → Option (AxS)) (hK66 : ∀ (v0 : Nat) (v1 : Int32) (v2 : Int32) (v3 : Int32) (v4 : Int32) (v5 : Int32) (S : AxS), K66 v0 v1 v2 v3 v4 v5 S = some S9 → AW g l (axRm (d + 1) 0 0) mt_X10_bedsFrom (axMQ g 0 0 (.inl none, S9)) 0 0 S 66 [(0, .ref v0), (1, .int v1), (2, .int v2), (3, .int v3), (4, .int v4), (5, .int v5)] []) (v0 : Nat) (v1 : Int32) (v2 : Int32) (v3 : Int32) (v4 : Int32) (v5 : Int32) (w0 : Int32) (w1 : Int32) (w2 : Int32) (w3 : Int32) (w4 : Nat) (S : AxS) (h : F_X10_bedsFrom_133 N kr K66 v0 v1 v2 v3 v4 v5 w0 w1 w2 w3 w4 S = some S9) : AW g l (axRm (d + 1) 0 0) mt_X10_bedsFrom (axMQ g 0 0 (.inl none, S9)) 0 0 S 133 [(0, .ref v0), (1, .int v1), (2, .int v2), (3, .int v3), (4, .int v4), (5, .int v5)] [.int w0, .int w1, .int w2, .int w3, .ref w4] := by
  unfold F_X10_bedsFrom_133 at h
  refine aw_iadd dX10_bedsFrom_133 ?_
  refine aw_iload 4 dX10_bedsFrom_134 rfl ?_
  obtain ⟨hL1, h⟩ := ax_is_spec h
  refine aw_doneV (rest := []) h (fun S9 hF => aw_runV (As := [.int w3, .int w2, .int (w1 + w0), .int v4]) (rest := []) (hkr w4 w3 w2 (w1 + w0) v4 S hF) axc10 hL1 wd_1762 wd_1759 wd_1761 wd_77 wd_97 pd_X10_bedsFrom rfl (ax_rm (by omega) rfl) ax_hf0 (Nat.le_of_ble_eq_true rfl) rfl dX10_bedsFrom_136) (fun T2 h => ?_)
  refine aw_env [(0, .ref v0), (1, .int v1), (2, .int v2), (3, .int v3), (4, .int v4), (5, .int v5)] [0, 1, 2, 3, 4, 5] rfl ?_
  exact L1_X10_bedsFrom_139 N kr d hkr K66 hK66 v0 v1 v2 v3 v4 v5 T2 h
theorem L1_X10_bedsFrom_66b {g : AxG} {l : Launch} {S9 : AxS} (N : Nat) (kr : Nat → Int32 → Int32 → Int32 → Int32 → AxS → Option (AxS)) (d : Nat) (hkr : ∀ (a0 : Nat) (a1 : Int32) (a2 : Int32) (a3 : Int32) (a4 : Int32) (S : AxS) {S9 : AxS}, kr a0 a1 a2 a3 a4 S = some S9 → AxMet g l yX10_bedsFrom cX10_bedsFrom 6 none d 0 0 [.ref a0, .int a1, .int a2, .int a3, .int a4] S ((.inl none, S9))) (K66 : Nat → Int32 → Int32 → Int32 → Int32 → Int32 → AxS → Option (AxS)) (hK66 : ∀ (v0 : Nat) (v1 : Int32) (v2 : Int32) (v3 : Int32) (v4 : Int32) (v5 : Int32) (S : AxS), K66 v0 v1 v2 v3 v4 v5 S = some S9 → AW g l (axRm (d + 1) 0 0) mt_X10_bedsFrom (axMQ g 0 0 (.inl none, S9)) 0 0 S 66 [(0, .ref v0), (1, .int v1), (2, .int v2), (3, .int v3), (4, .int v4), (5, .int v5)] []) (v0 : Nat) (v1 : Int32) (v2 : Int32) (v3 : Int32) (v4 : Int32) (v5 : Int32) (S : AxS) (h : F_X10_bedsFrom_66b N kr K66 v0 v1 v2 v3 v4 v5 S = some S9) : AW g l (axRm (d + 1) 0 0) mt_X10_bedsFrom (axMQ g 0 0 (.inl none, S9)) 0 0 S 66 [(0, .ref v0), (1, .int v1), (2, .int v2), (3, .int v3), (4, .int v4), (5, .int v5)] [] := by
  unfold F_X10_bedsFrom_66b at h
  refine aw_iload 5 dX10_bedsFrom_66 rfl ?_
  refine aw_aload_n 0 dX10_bedsFrom_68 rfl rfl ?_
  refine aw_getR axc10 12 rfl rfl wd_1297 dX10_bedsFrom_69 h (fun a1 h => ?_)
  refine aw_iconst 1 dX10_bedsFrom_72 rfl ?_
  refine aw_iald dX10_bedsFrom_73 h (fun x2 h => ?_)
  refine aw_icmp_ge 145 dX10_bedsFrom_74 (by decide) h (fun h => ?_) (fun h => ?_)
  · exact aw_vret dX10_bedsFrom_145 rfl (Nat.le_refl _) (Nat.le_refl _) h
  · refine aw_iload_n 2 dX10_bedsFrom_77 rfl rfl ?_
    refine aw_iload 5 dX10_bedsFrom_78 rfl ?_
    refine aw_doneI (rest := []) h (fun r9 S9 hF => aw_runS (As := [.int v2, .int v5]) (rest := []) (L1_X10_has N hF) wd_1600 wd_1598 wd_1599 wd_97 pd_X10_has.2 rfl (ax_rm (by omega) rfl) ax_hf0 (Nat.le_of_ble_eq_true rfl) rfl dX10_bedsFrom_80) (fun x4 T3 h => ?_)
    refine aw_if_eq 89 dX10_bedsFrom_83 (by decide) h (fun h => ?_) (fun h => ?_)
    · refine aw_aload_n 0 dX10_bedsFrom_89 rfl rfl ?_
      refine aw_getR axc10 42 rfl rfl wd_1327 dX10_bedsFrom_90 h (fun a5 h => ?_)
      refine aw_iload_n 1 dX10_bedsFrom_93 rfl rfl ?_
      refine aw_iload 5 dX10_bedsFrom_94 rfl ?_
      refine aw_iast dX10_bedsFrom_96 h (fun T6 h => ?_)
      refine aw_aload_n 0 dX10_bedsFrom_97 rfl rfl ?_
      refine aw_iload_n 1 dX10_bedsFrom_98 rfl rfl ?_
      refine aw_iconst 1 dX10_bedsFrom_99 rfl ?_
      refine aw_iadd dX10_bedsFrom_100 ?_
      refine aw_iload_n 2 dX10_bedsFrom_101 rfl rfl ?_
      refine aw_iconst 1 dX10_bedsFrom_102 rfl ?_
      refine aw_iload 5 dX10_bedsFrom_103 rfl ?_
      refine aw_ishl dX10_bedsFrom_105 ?_
      refine aw_ior dX10_bedsFrom_106 ?_
      refine aw_iload_n 3 dX10_bedsFrom_107 rfl rfl ?_
      refine aw_aload_n 0 dX10_bedsFrom_108 rfl rfl ?_
      refine aw_iload 5 dX10_bedsFrom_109 rfl ?_
      refine aw_iload 4 dX10_bedsFrom_111 rfl ?_
      refine aw_iconst 0 dX10_bedsFrom_113 rfl ?_
      obtain ⟨hL7, h⟩ := ax_is_spec h
      refine aw_doneI (rest := [.int v3, .int (v2 ||| (1 <<< (v5 &&& 31))), .int (v1 + 1), .ref v0]) h (fun r9 S9 hF => aw_runV (As := [.int v5, .int v4, .int 0]) (rest := [.int v3, .int (v2 ||| (1 <<< (v5 &&& 31))), .int (v1 + 1), .ref v0]) (L1_X10_noiseOf N hF) axc10 hL7 wd_1629 wd_1626 wd_1628 wd_69 wd_97 pd_X10_noiseOf rfl (ax_rm (by omega) rfl) ax_hf0 (Nat.le_of_ble_eq_true rfl) rfl dX10_bedsFrom_114) (fun x9 T8 h => ?_)
      refine aw_aload_n 0 dX10_bedsFrom_117 rfl rfl ?_
      refine aw_getR axc10 16 rfl rfl wd_1301 dX10_bedsFrom_118 h (fun a10 h => ?_)
      refine aw_iconst 2 dX10_bedsFrom_121 rfl ?_
      refine aw_aald dX10_bedsFrom_122 h (fun a11 h => ?_)
      refine aw_iload_n 1 dX10_bedsFrom_123 rfl rfl ?_
      refine aw_iald dX10_bedsFrom_124 h (fun x12 h => ?_)
      refine aw_icmp_le 132 dX10_bedsFrom_125 (by decide) h (fun h => ?_) (fun h => ?_)
      · refine aw_iconst 1 dX10_bedsFrom_132 rfl ?_
        refine aw_env [(0, .ref v0), (1, .int v1), (2, .int v2), (3, .int v3), (4, .int v4), (5, .int v5)] [0, 1, 2, 3, 4, 5] rfl ?_
        exact L1_X10_bedsFrom_133 N kr d hkr K66 hK66 v0 v1 v2 v3 v4 v5 1 v3 (v2 ||| (1 <<< (v5 &&& 31))) (v1 + 1) v0 T8 h
      · refine aw_iconst 0 dX10_bedsFrom_128 rfl ?_
        refine aw_goto 133 dX10_bedsFrom_129 (by decide) ?_
        refine aw_env [(0, .ref v0), (1, .int v1), (2, .int v2), (3, .int v3), (4, .int v4), (5, .int v5)] [0, 1, 2, 3, 4, 5] rfl ?_
        exact L1_X10_bedsFrom_133 N kr d hkr K66 hK66 v0 v1 v2 v3 v4 v5 0 v3 (v2 ||| (1 <<< (v5 &&& 31))) (v1 + 1) v0 T8 h
    · refine aw_goto 139 dX10_bedsFrom_86 (by decide) ?_
      refine aw_env [(0, .ref v0), (1, .int v1), (2, .int v2), (3, .int v3), (4, .int v4), (5, .int v5)] [0, 1, 2, 3, 4, 5] rfl ?_
      exact L1_X10_bedsFrom_139 N kr d hkr K66 hK66 v0 v1 v2 v3 v4 v5 T3 h
theorem L1_X10_bedsFrom_66 {g : AxG} {l : Launch} {S9 : AxS} (N : Nat) (kr : Nat → Int32 → Int32 → Int32 → Int32 → AxS → Option (AxS)) (d : Nat) (hkr : ∀ (a0 : Nat) (a1 : Int32) (a2 : Int32) (a3 : Int32) (a4 : Int32) (S : AxS) {S9 : AxS}, kr a0 a1 a2 a3 a4 S = some S9 → AxMet g l yX10_bedsFrom cX10_bedsFrom 6 none d 0 0 [.ref a0, .int a1, .int a2, .int a3, .int a4] S ((.inl none, S9)))  : ∀ (n : Nat) (v0 : Nat) (v1 : Int32) (v2 : Int32) (v3 : Int32) (v4 : Int32) (v5 : Int32) (S : AxS), F_X10_bedsFrom_66 N kr  n v0 v1 v2 v3 v4 v5 S = some S9 → AW g l (axRm (d + 1) 0 0) mt_X10_bedsFrom (axMQ g 0 0 (.inl none, S9)) 0 0 S 66 [(0, .ref v0), (1, .int v1), (2, .int v2), (3, .int v3), (4, .int v4), (5, .int v5)] [] := by
  intro n
  induction n with
  | zero => intro v0 v1 v2 v3 v4 v5 S h; cases h
  | succ n ih => intro v0 v1 v2 v3 v4 v5 S h; exact L1_X10_bedsFrom_66b N kr d hkr (F_X10_bedsFrom_66 N kr  n) ih v0 v1 v2 v3 v4 v5 S h
theorem L1_X10_bedsFrom_36b {g : AxG} {l : Launch} {S9 : AxS} (N : Nat) (kr : Nat → Int32 → Int32 → Int32 → Int32 → AxS → Option (AxS)) (d : Nat) (hkr : ∀ (a0 : Nat) (a1 : Int32) (a2 : Int32) (a3 : Int32) (a4 : Int32) (S : AxS) {S9 : AxS}, kr a0 a1 a2 a3 a4 S = some S9 → AxMet g l yX10_bedsFrom cX10_bedsFrom 6 none d 0 0 [.ref a0, .int a1, .int a2, .int a3, .int a4] S ((.inl none, S9))) (K36 : Nat → Int32 → Int32 → AxS → Option (AxS)) (hK36 : ∀ (v0 : Nat) (v1 : Int32) (v5 : Int32) (S : AxS), K36 v0 v1 v5 S = some S9 → AW g l (axRm (d + 1) 0 0) mt_X10_bedsFrom (axMQ g 0 0 (.inl none, S9)) 0 0 S 36 [(0, .ref v0), (1, .int v1), (5, .int v5)] []) (v0 : Nat) (v1 : Int32) (v5 : Int32) (S : AxS) (h : F_X10_bedsFrom_36b N kr K36 v0 v1 v5 S = some S9) : AW g l (axRm (d + 1) 0 0) mt_X10_bedsFrom (axMQ g 0 0 (.inl none, S9)) 0 0 S 36 [(0, .ref v0), (1, .int v1), (5, .int v5)] [] := by
  unfold F_X10_bedsFrom_36b at h
  refine aw_iload 2 dX10_bedsFrom_36 rfl ?_
  refine aw_iload_n 1 dX10_bedsFrom_38 rfl rfl ?_
  refine aw_icmp_ge 62 dX10_bedsFrom_39 (by decide) h (fun h => ?_) (fun h => ?_)
  · exact aw_vret dX10_bedsFrom_62 rfl (Nat.le_refl _) (Nat.le_refl _) h
  · refine aw_aload_n 0 dX10_bedsFrom_42 rfl rfl ?_
    refine aw_getR axc10 43 rfl rfl wd_1328 dX10_bedsFrom_43 h (fun a1 h => ?_)
    refine aw_iload 2 dX10_bedsFrom_46 rfl ?_
    refine aw_aload_n 0 dX10_bedsFrom_48 rfl rfl ?_
    refine aw_getR axc10 42 rfl rfl wd_1327 dX10_bedsFrom_49 h (fun a2 h => ?_)
    refine aw_iload 2 dX10_bedsFrom_52 rfl ?_
    refine aw_iald dX10_bedsFrom_54 h (fun x3 h => ?_)
    refine aw_iast dX10_bedsFrom_55 h (fun T4 h => ?_)
    refine aw_iinc 2 [(5, .int (v5 + 1)), (0, .ref v0), (1, .int v1)] (v5 + 1) dX10_bedsFrom_56 rfl rfl rfl rfl ?_
    refine aw_goto 36 dX10_bedsFrom_59 (by decide) ?_
    refine aw_env [(0, .ref v0), (1, .int v1), (5, .int (v5 + 1))] [1, 2, 0] rfl ?_
    exact hK36 v0 v1 (v5 + 1) T4 h
theorem L1_X10_bedsFrom_36 {g : AxG} {l : Launch} {S9 : AxS} (N : Nat) (kr : Nat → Int32 → Int32 → Int32 → Int32 → AxS → Option (AxS)) (d : Nat) (hkr : ∀ (a0 : Nat) (a1 : Int32) (a2 : Int32) (a3 : Int32) (a4 : Int32) (S : AxS) {S9 : AxS}, kr a0 a1 a2 a3 a4 S = some S9 → AxMet g l yX10_bedsFrom cX10_bedsFrom 6 none d 0 0 [.ref a0, .int a1, .int a2, .int a3, .int a4] S ((.inl none, S9)))  : ∀ (n : Nat) (v0 : Nat) (v1 : Int32) (v5 : Int32) (S : AxS), F_X10_bedsFrom_36 N kr  n v0 v1 v5 S = some S9 → AW g l (axRm (d + 1) 0 0) mt_X10_bedsFrom (axMQ g 0 0 (.inl none, S9)) 0 0 S 36 [(0, .ref v0), (1, .int v1), (5, .int v5)] [] := by
  intro n
  induction n with
  | zero => intro v0 v1 v5 S h; cases h
  | succ n ih => intro v0 v1 v5 S h; exact L1_X10_bedsFrom_36b N kr d hkr (F_X10_bedsFrom_36 N kr  n) ih v0 v1 v5 S h
theorem L1_X10_bedsFrom {g : AxG} {l : Launch} (N : Nat) (kr : Nat → Int32 → Int32 → Int32 → Int32 → AxS → Option (AxS)) (d : Nat) (hkr : ∀ (a0 : Nat) (a1 : Int32) (a2 : Int32) (a3 : Int32) (a4 : Int32) (S : AxS) {S9 : AxS}, kr a0 a1 a2 a3 a4 S = some S9 → AxMet g l yX10_bedsFrom cX10_bedsFrom 6 none d 0 0 [.ref a0, .int a1, .int a2, .int a3, .int a4] S ((.inl none, S9))) {v0 : Nat} {v1 : Int32} {v2 : Int32} {v3 : Int32} {v4 : Int32} {S : AxS} {S9 : AxS} (h : F_X10_bedsFrom N kr v0 v1 v2 v3 v4 S = some S9) : AxMet g l yX10_bedsFrom cX10_bedsFrom 6 none (d + 1) 0 0 [.ref v0, .int v1, .int v2, .int v3, .int v4] S ((.inl none, S9)) := by
  refine ax_met (own := RX10) (ini := false) (by decide +kernel) rfl (fun h => nomatch h) rfl ?_
  show AW g l (axRm (d + 1) 0 0) mt_X10_bedsFrom (axMQ g 0 0 (.inl none, S9)) 0 0 S 0 [(0, .ref v0), (1, .int v1), (2, .int v2), (3, .int v3), (4, .int v4)] []
  unfold F_X10_bedsFrom at h
  refine aw_iload_n 3 dX10_bedsFrom_0 rfl rfl ?_
  refine aw_aload_n 0 dX10_bedsFrom_1 rfl rfl ?_
  refine aw_getR axc10 12 rfl rfl wd_1297 dX10_bedsFrom_2 h (fun a1 h => ?_)
  refine aw_iconst 2 dX10_bedsFrom_5 rfl ?_
  refine aw_iald dX10_bedsFrom_6 h (fun x2 h => ?_)
  refine aw_iadd dX10_bedsFrom_7 ?_
  refine aw_iload_n 1 dX10_bedsFrom_8 rfl rfl ?_
  refine aw_isub dX10_bedsFrom_9 ?_
  refine aw_aload_n 0 dX10_bedsFrom_10 rfl rfl ?_
  refine aw_getI axc10 44 rfl rfl wd_1329 dX10_bedsFrom_11 h (fun x3 h => ?_)
  refine aw_icmp_gt 18 dX10_bedsFrom_14 (by decide) h (fun h => ?_) (fun h => ?_)
  · refine aw_iload_n 1 dX10_bedsFrom_18 rfl rfl ?_
    refine aw_aload_n 0 dX10_bedsFrom_19 rfl rfl ?_
    refine aw_getR axc10 12 rfl rfl wd_1297 dX10_bedsFrom_20 h (fun a4 h => ?_)
    refine aw_iconst 2 dX10_bedsFrom_23 rfl ?_
    refine aw_iald dX10_bedsFrom_24 h (fun x5 h => ?_)
    refine aw_icmp_ne 63 dX10_bedsFrom_25 (by decide) h (fun h => ?_) (fun h => ?_)
    · refine aw_iconst 0 dX10_bedsFrom_63 rfl ?_
      refine aw_istore [(5, .int 0), (0, .ref v0), (1, .int v1), (2, .int v2), (3, .int v3), (4, .int v4)] dX10_bedsFrom_64 rfl rfl ?_
      refine aw_env [(0, .ref v0), (1, .int v1), (2, .int v2), (3, .int v3), (4, .int v4), (5, .int 0)] [1, 2, 3, 4, 5, 0] rfl ?_
      exact L1_X10_bedsFrom_66 N kr d hkr  N v0 v1 v2 v3 v4 0 S h
    · refine aw_aload_n 0 dX10_bedsFrom_28 rfl rfl ?_
      refine aw_iload_n 3 dX10_bedsFrom_29 rfl rfl ?_
      refine aw_putI axc10 44 rfl rfl wd_1329 rfl rfl rfl dX10_bedsFrom_30 h (fun T6 h => ?_)
      refine aw_iconst 0 dX10_bedsFrom_33 rfl ?_
      refine aw_istore [(5, .int 0), (0, .ref v0), (1, .int v1), (2, .int v2), (3, .int v3), (4, .int v4)] dX10_bedsFrom_34 rfl rfl ?_
      refine aw_env [(0, .ref v0), (1, .int v1), (5, .int 0)] [1, 2, 0] rfl ?_
      exact L1_X10_bedsFrom_36 N kr d hkr  N v0 v1 0 T6 h
  · exact aw_vret dX10_bedsFrom_17 rfl (Nat.le_refl _) (Nat.le_refl _) h
theorem L1GG_X10_bedsFrom {g : AxG} {l : Launch} (N : Nat) : ∀ (n : Nat) (v0 : Nat) (v1 : Int32) (v2 : Int32) (v3 : Int32) (v4 : Int32) (S : AxS) {S9 : AxS}, GG_X10_bedsFrom N n v0 v1 v2 v3 v4 S = some S9 → AxMet g l yX10_bedsFrom cX10_bedsFrom 6 none (1 * n) 0 0 [.ref v0, .int v1, .int v2, .int v3, .int v4] S ((.inl none, S9)) := by
  intro n
  induction n with
  | zero => intro v0 v1 v2 v3 v4 S S9 h; cases h
  | succ n ih =>
    intro v0 v1 v2 v3 v4 S S9 h
    have h9 := L1_X10_bedsFrom (g := g) (l := l) N (GG_X10_bedsFrom N n) (1 * n) (fun a0 a1 a2 a3 a4 S S9 h => ih a0 a1 a2 a3 a4 S h) h
    exact h9
theorem L1G_X10_bedsFrom {g : AxG} {l : Launch} (N : Nat) {v0 : Nat} {v1 : Int32} {v2 : Int32} {v3 : Int32} {v4 : Int32} {S : AxS} {S9 : AxS} (h : G_X10_bedsFrom N v0 v1 v2 v3 v4 S = some S9) : AxMet g l yX10_bedsFrom cX10_bedsFrom 6 none (11) 0 0 [.ref v0, .int v1, .int v2, .int v3, .int v4] S ((.inl none, S9)) := L1GG_X10_bedsFrom N 11 v0 v1 v2 v3 v4 S h


theorem dX10_laysBeds_0 : decode cX10_laysBeds 0 = .ok (.aload_n 0, 1) := by decide +kernel
theorem dX10_laysBeds_1 : decode cX10_laysBeds 1 = .ok (.iconst (-1), 1) := by decide +kernel
theorem dX10_laysBeds_2 : decode cX10_laysBeds 2 = .ok (.putfield 355, 3) := by decide +kernel
theorem dX10_laysBeds_5 : decode cX10_laysBeds 5 = .ok (.aload_n 0, 1) := by decide +kernel
theorem dX10_laysBeds_6 : decode cX10_laysBeds 6 = .ok (.iconst 0, 1) := by decide +kernel
theorem dX10_laysBeds_7 : decode cX10_laysBeds 7 = .ok (.iconst 0, 1) := by decide +kernel
theorem dX10_laysBeds_8 : decode cX10_laysBeds 8 = .ok (.iconst 0, 1) := by decide +kernel
theorem dX10_laysBeds_9 : decode cX10_laysBeds 9 = .ok (.iload_n 1, 1) := by decide +kernel
theorem dX10_laysBeds_10 : decode cX10_laysBeds 10 = .ok (.invokevirtual 358, 3) := by decide +kernel
theorem dX10_laysBeds_13 : decode cX10_laysBeds 13 = .ok (.return_, 1) := by decide +kernel
abbrev mt_X10_laysBeds : AxM := (RX10, cX10_laysBeds, 2, none, false, [])
theorem L1_X10_laysBeds {g : AxG} {l : Launch} (N : Nat) {v0 : Nat} {v1 : Int32} {S : AxS} {S9 : AxS} (h : F_X10_laysBeds N v0 v1 S = some S9) : AxMet g l yX10_laysBeds cX10_laysBeds 2 none (12) 0 0 [.ref v0, .int v1] S ((.inl none, S9)) := by
  refine ax_met (own := RX10) (ini := false) (by decide +kernel) rfl (fun h => nomatch h) rfl ?_
  show AW g l (axRm (12) 0 0) mt_X10_laysBeds (axMQ g 0 0 (.inl none, S9)) 0 0 S 0 [(0, .ref v0), (1, .int v1)] []
  unfold F_X10_laysBeds at h
  refine aw_aload_n 0 dX10_laysBeds_0 rfl rfl ?_
  refine aw_iconst (-1) dX10_laysBeds_1 rfl ?_
  refine aw_putI axc10 44 rfl rfl wd_1329 rfl rfl rfl dX10_laysBeds_2 h (fun T1 h => ?_)
  refine aw_aload_n 0 dX10_laysBeds_5 rfl rfl ?_
  refine aw_iconst 0 dX10_laysBeds_6 rfl ?_
  refine aw_iconst 0 dX10_laysBeds_7 rfl ?_
  refine aw_iconst 0 dX10_laysBeds_8 rfl ?_
  refine aw_iload_n 1 dX10_laysBeds_9 rfl rfl ?_
  obtain ⟨hL2, h⟩ := ax_is_spec h
  refine aw_doneV (rest := []) h (fun S9 hF => aw_runV (As := [.int 0, .int 0, .int 0, .int v1]) (rest := []) (L1G_X10_bedsFrom N hF) axc10 hL2 wd_1762 wd_1759 wd_1761 wd_77 wd_97 pd_X10_bedsFrom rfl (ax_rm (by omega) rfl) ax_hf0 (Nat.le_of_ble_eq_true rfl) rfl dX10_laysBeds_10) (fun T3 h => ?_)
  exact aw_vret dX10_laysBeds_13 rfl (Nat.le_refl _) (Nat.le_refl _) h

theorem dX10_beds_0 : decode cX10_beds 0 = .ok (.aload_n 0, 1) := by decide +kernel
theorem dX10_beds_1 : decode cX10_beds 1 = .ok (.iconst 0, 1) := by decide +kernel
theorem dX10_beds_2 : decode cX10_beds 2 = .ok (.putfield 104, 3) := by decide +kernel
theorem dX10_beds_5 : decode cX10_beds 5 = .ok (.aload_n 0, 1) := by decide +kernel
theorem dX10_beds_6 : decode cX10_beds 6 = .ok (.iload_n 1, 1) := by decide +kernel
theorem dX10_beds_7 : decode cX10_beds 7 = .ok (.iconst 0, 1) := by decide +kernel
theorem dX10_beds_8 : decode cX10_beds 8 = .ok (.sipush 999, 3) := by decide +kernel
theorem dX10_beds_11 : decode cX10_beds 11 = .ok (.invokestatic 138, 3) := by decide +kernel
theorem dX10_beds_14 : decode cX10_beds 14 = .ok (.ifCond .ne 7, 3) := by decide +kernel
theorem dX10_beds_17 : decode cX10_beds 17 = .ok (.iconst 1, 1) := by decide +kernel
theorem dX10_beds_18 : decode cX10_beds 18 = .ok (.goto 4, 3) := by decide +kernel
theorem dX10_beds_21 : decode cX10_beds 21 = .ok (.iconst 0, 1) := by decide +kernel
theorem dX10_beds_22 : decode cX10_beds 22 = .ok (.iconst 1, 1) := by decide +kernel
theorem dX10_beds_23 : decode cX10_beds 23 = .ok (.iconst 1, 1) := by decide +kernel
theorem dX10_beds_24 : decode cX10_beds 24 = .ok (.invokevirtual 193, 3) := by decide +kernel
theorem dX10_beds_27 : decode cX10_beds 27 = .ok (.ifCond .eq 5, 3) := by decide +kernel
theorem dX10_beds_30 : decode cX10_beds 30 = .ok (.iconst 0, 1) := by decide +kernel
theorem dX10_beds_31 : decode cX10_beds 31 = .ok (.ireturn, 1) := by decide +kernel
theorem dX10_beds_32 : decode cX10_beds 32 = .ok (.aload_n 0, 1) := by decide +kernel
theorem dX10_beds_33 : decode cX10_beds 33 = .ok (.iload_n 1, 1) := by decide +kernel
theorem dX10_beds_34 : decode cX10_beds 34 = .ok (.invokevirtual 362, 3) := by decide +kernel
theorem dX10_beds_37 : decode cX10_beds 37 = .ok (.aload_n 0, 1) := by decide +kernel
theorem dX10_beds_38 : decode cX10_beds 38 = .ok (.getfield 355, 3) := by decide +kernel
theorem dX10_beds_41 : decode cX10_beds 41 = .ok (.ireturn, 1) := by decide +kernel
abbrev mt_X10_beds : AxM := (RX10, cX10_beds, 2, (some .int), false, [])
theorem L1_X10_beds_22 {g : AxG} {l : Launch} {r9 : Int32} {S9 : AxS} (N : Nat)  (v0 : Nat) (v1 : Int32) (w0 : Int32) (w1 : Nat) (S : AxS) (h : F_X10_beds_22 N  v0 v1 w0 w1 S = some ((r9, S9))) : AW g l (axRm (13) 0 0) mt_X10_beds (axMQ g 0 0 (.inl (some (.int r9)), S9)) 0 0 S 22 [(0, .ref v0), (1, .int v1)] [.int w0, .ref w1] := by
  unfold F_X10_beds_22 at h
  refine aw_iconst 1 dX10_beds_22 rfl ?_
  refine aw_iconst 1 dX10_beds_23 rfl ?_
  obtain ⟨hL1, h⟩ := ax_is_spec h
  refine aw_doneI (rest := []) h (fun r9 S9 hF => aw_runV (As := [.int w0, .int 1, .int 1]) (rest := []) (L1_X10_bad N hF) axc10 hL1 wd_1452 wd_1449 wd_1451 wd_38 wd_97 pd_X10_bad rfl (ax_rm (by omega) rfl) ax_hf0 (Nat.le_of_ble_eq_true rfl) rfl dX10_beds_24) (fun x3 T2 h => ?_)
  refine aw_if_eq 32 dX10_beds_27 (by decide) h (fun h => ?_) (fun h => ?_)
  · refine aw_aload_n 0 dX10_beds_32 rfl rfl ?_
    refine aw_iload_n 1 dX10_beds_33 rfl rfl ?_
    obtain ⟨hL4, h⟩ := ax_is_spec h
    refine aw_doneV (rest := []) h (fun S9 hF => aw_runV (As := [.int v1]) (rest := []) (L1_X10_laysBeds N hF) axc10 hL4 wd_1758 wd_1755 wd_1757 wd_76 wd_97 pd_X10_laysBeds rfl (ax_rm (by omega) rfl) ax_hf0 (Nat.le_of_ble_eq_true rfl) rfl dX10_beds_34) (fun T5 h => ?_)
    refine aw_aload_n 0 dX10_beds_37 rfl rfl ?_
    refine aw_getI axc10 44 rfl rfl wd_1329 dX10_beds_38 h (fun x7 h => ?_)
    exact aw_iret dX10_beds_41 rfl (Nat.le_refl _) (Nat.le_refl _) h
  · refine aw_iconst 0 dX10_beds_30 rfl ?_
    exact aw_iret dX10_beds_31 rfl (Nat.le_refl _) (Nat.le_refl _) h
theorem L1_X10_beds {g : AxG} {l : Launch} (N : Nat) {v0 : Nat} {v1 : Int32} {S : AxS} {r9 : Int32} {S9 : AxS} (h : F_X10_beds N v0 v1 S = some ((r9, S9))) : AxMet g l yX10_beds cX10_beds 2 (some .int) (13) 0 0 [.ref v0, .int v1] S ((.inl (some (.int r9)), S9)) := by
  refine ax_met (own := RX10) (ini := false) (by decide +kernel) rfl (fun h => nomatch h) rfl ?_
  show AW g l (axRm (13) 0 0) mt_X10_beds (axMQ g 0 0 (.inl (some (.int r9)), S9)) 0 0 S 0 [(0, .ref v0), (1, .int v1)] []
  unfold F_X10_beds at h
  refine aw_aload_n 0 dX10_beds_0 rfl rfl ?_
  refine aw_iconst 0 dX10_beds_1 rfl ?_
  refine aw_putI axc10 0 rfl rfl wd_1285 rfl rfl rfl dX10_beds_2 h (fun T1 h => ?_)
  refine aw_aload_n 0 dX10_beds_5 rfl rfl ?_
  refine aw_iload_n 1 dX10_beds_6 rfl rfl ?_
  refine aw_iconst 0 dX10_beds_7 rfl ?_
  refine aw_sipush 999 dX10_beds_8 (by decide) ?_
  refine aw_doneI (rest := [.ref v0]) h (fun r9 S9 hF => aw_runS (As := [.int v1, .int 0, .int 999]) (rest := [.ref v0]) (L1_X10_in N hF) wd_1448 wd_1446 wd_1447 wd_97 pd_X10_in.2 rfl (ax_rm (by omega) rfl) ax_hf0 (Nat.le_of_ble_eq_true rfl) rfl dX10_beds_11) (fun x3 T2 h => ?_)
  refine aw_if_ne 21 dX10_beds_14 (by decide) h (fun h => ?_) (fun h => ?_)
  · refine aw_iconst 0 dX10_beds_21 rfl ?_
    refine aw_env [(0, .ref v0), (1, .int v1)] [0, 1] rfl ?_
    exact L1_X10_beds_22 N  v0 v1 0 v0 T2 h
  · refine aw_iconst 1 dX10_beds_17 rfl ?_
    refine aw_goto 22 dX10_beds_18 (by decide) ?_
    refine aw_env [(0, .ref v0), (1, .int v1)] [0, 1] rfl ?_
    exact L1_X10_beds_22 N  v0 v1 1 v0 T2 h

theorem dX10_bed_0 : decode cX10_bed 0 = .ok (.aload_n 0, 1) := by decide +kernel
theorem dX10_bed_1 : decode cX10_bed 1 = .ok (.iconst 0, 1) := by decide +kernel
theorem dX10_bed_2 : decode cX10_bed 2 = .ok (.putfield 104, 3) := by decide +kernel
theorem dX10_bed_5 : decode cX10_bed 5 = .ok (.aload_n 0, 1) := by decide +kernel
theorem dX10_bed_6 : decode cX10_bed 6 = .ok (.aload_n 0, 1) := by decide +kernel
theorem dX10_bed_7 : decode cX10_bed 7 = .ok (.iconst 2, 1) := by decide +kernel
theorem dX10_bed_8 : decode cX10_bed 8 = .ok (.iload_n 1, 1) := by decide +kernel
theorem dX10_bed_9 : decode cX10_bed 9 = .ok (.invokevirtual 326, 3) := by decide +kernel
theorem dX10_bed_12 : decode cX10_bed 12 = .ok (.iconst 1, 1) := by decide +kernel
theorem dX10_bed_13 : decode cX10_bed 13 = .ok (.iconst 0, 1) := by decide +kernel
theorem dX10_bed_14 : decode cX10_bed 14 = .ok (.invokevirtual 193, 3) := by decide +kernel
theorem dX10_bed_17 : decode cX10_bed 17 = .ok (.ifCond .ne 28, 3) := by decide +kernel
theorem dX10_bed_20 : decode cX10_bed 20 = .ok (.aload_n 0, 1) := by decide +kernel
theorem dX10_bed_21 : decode cX10_bed 21 = .ok (.iload_n 2, 1) := by decide +kernel
theorem dX10_bed_22 : decode cX10_bed 22 = .ok (.iconst 0, 1) := by decide +kernel
theorem dX10_bed_23 : decode cX10_bed 23 = .ok (.sipush 999, 3) := by decide +kernel
theorem dX10_bed_26 : decode cX10_bed 26 = .ok (.invokestatic 138, 3) := by decide +kernel
theorem dX10_bed_29 : decode cX10_bed 29 = .ok (.ifCond .ne 7, 3) := by decide +kernel
theorem dX10_bed_32 : decode cX10_bed 32 = .ok (.iconst 1, 1) := by decide +kernel
theorem dX10_bed_33 : decode cX10_bed 33 = .ok (.goto 4, 3) := by decide +kernel
theorem dX10_bed_36 : decode cX10_bed 36 = .ok (.iconst 0, 1) := by decide +kernel
theorem dX10_bed_37 : decode cX10_bed 37 = .ok (.iconst 2, 1) := by decide +kernel
theorem dX10_bed_38 : decode cX10_bed 38 = .ok (.iconst 1, 1) := by decide +kernel
theorem dX10_bed_39 : decode cX10_bed 39 = .ok (.invokevirtual 193, 3) := by decide +kernel
theorem dX10_bed_42 : decode cX10_bed 42 = .ok (.ifCond .eq 5, 3) := by decide +kernel
theorem dX10_bed_45 : decode cX10_bed 45 = .ok (.iconst 0, 1) := by decide +kernel
theorem dX10_bed_46 : decode cX10_bed 46 = .ok (.ireturn, 1) := by decide +kernel
theorem dX10_bed_47 : decode cX10_bed 47 = .ok (.aload_n 0, 1) := by decide +kernel
theorem dX10_bed_48 : decode cX10_bed 48 = .ok (.iload_n 2, 1) := by decide +kernel
theorem dX10_bed_49 : decode cX10_bed 49 = .ok (.invokevirtual 362, 3) := by decide +kernel
theorem dX10_bed_52 : decode cX10_bed 52 = .ok (.aload_n 0, 1) := by decide +kernel
theorem dX10_bed_53 : decode cX10_bed 53 = .ok (.getfield 89, 3) := by decide +kernel
theorem dX10_bed_56 : decode cX10_bed 56 = .ok (.iload_n 1, 1) := by decide +kernel
theorem dX10_bed_57 : decode cX10_bed 57 = .ok (.iaload, 1) := by decide +kernel
theorem dX10_bed_58 : decode cX10_bed 58 = .ok (.ireturn, 1) := by decide +kernel
abbrev mt_X10_bed : AxM := (RX10, cX10_bed, 3, (some .int), false, [])
theorem L1_X10_bed_37 {g : AxG} {l : Launch} {r9 : Int32} {S9 : AxS} (N : Nat)  (v0 : Nat) (v1 : Int32) (v2 : Int32) (w0 : Int32) (w1 : Nat) (S : AxS) (h : F_X10_bed_37 N  v0 v1 v2 w0 w1 S = some ((r9, S9))) : AW g l (axRm (13) 0 0) mt_X10_bed (axMQ g 0 0 (.inl (some (.int r9)), S9)) 0 0 S 37 [(0, .ref v0), (1, .int v1), (2, .int v2)] [.int w0, .ref w1] := by
  unfold F_X10_bed_37 at h
  refine aw_iconst 2 dX10_bed_37 rfl ?_
  refine aw_iconst 1 dX10_bed_38 rfl ?_
  obtain ⟨hL1, h⟩ := ax_is_spec h
  refine aw_doneI (rest := []) h (fun r9 S9 hF => aw_runV (As := [.int w0, .int 2, .int 1]) (rest := []) (L1_X10_bad N hF) axc10 hL1 wd_1452 wd_1449 wd_1451 wd_38 wd_97 pd_X10_bad rfl (ax_rm (by omega) rfl) ax_hf0 (Nat.le_of_ble_eq_true rfl) rfl dX10_bed_39) (fun x3 T2 h => ?_)
  refine aw_if_eq 47 dX10_bed_42 (by decide) h (fun h => ?_) (fun h => ?_)
  · refine aw_aload_n 0 dX10_bed_47 rfl rfl ?_
    refine aw_iload_n 2 dX10_bed_48 rfl rfl ?_
    obtain ⟨hL4, h⟩ := ax_is_spec h
    refine aw_doneV (rest := []) h (fun S9 hF => aw_runV (As := [.int v2]) (rest := []) (L1_X10_laysBeds N hF) axc10 hL4 wd_1758 wd_1755 wd_1757 wd_76 wd_97 pd_X10_laysBeds rfl (ax_rm (by omega) rfl) ax_hf0 (Nat.le_of_ble_eq_true rfl) rfl dX10_bed_49) (fun T5 h => ?_)
    refine aw_aload_n 0 dX10_bed_52 rfl rfl ?_
    refine aw_getR axc10 43 rfl rfl wd_1328 dX10_bed_53 h (fun a7 h => ?_)
    refine aw_iload_n 1 dX10_bed_56 rfl rfl ?_
    refine aw_iald dX10_bed_57 h (fun x8 h => ?_)
    exact aw_iret dX10_bed_58 rfl (Nat.le_refl _) (Nat.le_refl _) h
  · refine aw_iconst 0 dX10_bed_45 rfl ?_
    exact aw_iret dX10_bed_46 rfl (Nat.le_refl _) (Nat.le_refl _) h
theorem L1_X10_bed {g : AxG} {l : Launch} (N : Nat) {v0 : Nat} {v1 : Int32} {v2 : Int32} {S : AxS} {r9 : Int32} {S9 : AxS} (h : F_X10_bed N v0 v1 v2 S = some ((r9, S9))) : AxMet g l yX10_bed cX10_bed 3 (some .int) (13) 0 0 [.ref v0, .int v1, .int v2] S ((.inl (some (.int r9)), S9)) := by
  refine ax_met (own := RX10) (ini := false) (by decide +kernel) rfl (fun h => nomatch h) rfl ?_
  show AW g l (axRm (13) 0 0) mt_X10_bed (axMQ g 0 0 (.inl (some (.int r9)), S9)) 0 0 S 0 [(0, .ref v0), (1, .int v1), (2, .int v2)] []
  unfold F_X10_bed at h
  refine aw_aload_n 0 dX10_bed_0 rfl rfl ?_
  refine aw_iconst 0 dX10_bed_1 rfl ?_
  refine aw_putI axc10 0 rfl rfl wd_1285 rfl rfl rfl dX10_bed_2 h (fun T1 h => ?_)
  refine aw_aload_n 0 dX10_bed_5 rfl rfl ?_
  refine aw_aload_n 0 dX10_bed_6 rfl rfl ?_
  refine aw_iconst 2 dX10_bed_7 rfl ?_
  refine aw_iload_n 1 dX10_bed_8 rfl rfl ?_
  obtain ⟨hL2, h⟩ := ax_is_spec h
  refine aw_doneI (rest := [.ref v0]) h (fun r9 S9 hF => aw_runV (As := [.int 2, .int v1]) (rest := [.ref v0]) (L1_X10_isNo N hF) axc10 hL2 wd_1653 wd_1650 wd_1652 wd_70 wd_97 pd_X10_isNo rfl (ax_rm (by omega) rfl) ax_hf0 (Nat.le_of_ble_eq_true rfl) rfl dX10_bed_9) (fun x4 T3 h => ?_)
  refine aw_iconst 1 dX10_bed_12 rfl ?_
  refine aw_iconst 0 dX10_bed_13 rfl ?_
  obtain ⟨hL5, h⟩ := ax_is_spec h
  refine aw_doneI (rest := []) h (fun r9 S9 hF => aw_runV (As := [.int x4, .int 1, .int 0]) (rest := []) (L1_X10_bad N hF) axc10 hL5 wd_1452 wd_1449 wd_1451 wd_38 wd_97 pd_X10_bad rfl (ax_rm (by omega) rfl) ax_hf0 (Nat.le_of_ble_eq_true rfl) rfl dX10_bed_14) (fun x7 T6 h => ?_)
  refine aw_if_ne 45 dX10_bed_17 (by decide) h (fun h => ?_) (fun h => ?_)
  · refine aw_iconst 0 dX10_bed_45 rfl ?_
    exact aw_iret dX10_bed_46 rfl (Nat.le_refl _) (Nat.le_refl _) h
  · refine aw_aload_n 0 dX10_bed_20 rfl rfl ?_
    refine aw_iload_n 2 dX10_bed_21 rfl rfl ?_
    refine aw_iconst 0 dX10_bed_22 rfl ?_
    refine aw_sipush 999 dX10_bed_23 (by decide) ?_
    refine aw_doneI (rest := [.ref v0]) h (fun r9 S9 hF => aw_runS (As := [.int v2, .int 0, .int 999]) (rest := [.ref v0]) (L1_X10_in N hF) wd_1448 wd_1446 wd_1447 wd_97 pd_X10_in.2 rfl (ax_rm (by omega) rfl) ax_hf0 (Nat.le_of_ble_eq_true rfl) rfl dX10_bed_26) (fun x9 T8 h => ?_)
    refine aw_if_ne 36 dX10_bed_29 (by decide) h (fun h => ?_) (fun h => ?_)
    · refine aw_iconst 0 dX10_bed_36 rfl ?_
      refine aw_env [(0, .ref v0), (1, .int v1), (2, .int v2)] [0, 1, 2] rfl ?_
      exact L1_X10_bed_37 N  v0 v1 v2 0 v0 T8 h
    · refine aw_iconst 1 dX10_bed_32 rfl ?_
      refine aw_goto 37 dX10_bed_33 (by decide) ?_
      refine aw_env [(0, .ref v0), (1, .int v1), (2, .int v2)] [0, 1, 2] rfl ?_
      exact L1_X10_bed_37 N  v0 v1 v2 1 v0 T8 h

theorem dX10_watcher_0 : decode cX10_watcher 0 = .ok (.iconst 0, 1) := by decide +kernel
theorem dX10_watcher_1 : decode cX10_watcher 1 = .ok (.istore_n 1, 1) := by decide +kernel
theorem dX10_watcher_2 : decode cX10_watcher 2 = .ok (.iconst 1, 1) := by decide +kernel
theorem dX10_watcher_3 : decode cX10_watcher 3 = .ok (.istore_n 2, 1) := by decide +kernel
theorem dX10_watcher_4 : decode cX10_watcher 4 = .ok (.iload_n 2, 1) := by decide +kernel
theorem dX10_watcher_5 : decode cX10_watcher 5 = .ok (.aload_n 0, 1) := by decide +kernel
theorem dX10_watcher_6 : decode cX10_watcher 6 = .ok (.getfield 23, 3) := by decide +kernel
theorem dX10_watcher_9 : decode cX10_watcher 9 = .ok (.iconst 2, 1) := by decide +kernel
theorem dX10_watcher_10 : decode cX10_watcher 10 = .ok (.iaload, 1) := by decide +kernel
theorem dX10_watcher_11 : decode cX10_watcher 11 = .ok (.if_icmp .ge 60, 3) := by decide +kernel
theorem dX10_watcher_14 : decode cX10_watcher 14 = .ok (.aload_n 0, 1) := by decide +kernel
theorem dX10_watcher_15 : decode cX10_watcher 15 = .ok (.getfield 92, 3) := by decide +kernel
theorem dX10_watcher_18 : decode cX10_watcher 18 = .ok (.iload_n 2, 1) := by decide +kernel
theorem dX10_watcher_19 : decode cX10_watcher 19 = .ok (.iaload, 1) := by decide +kernel
theorem dX10_watcher_20 : decode cX10_watcher 20 = .ok (.aload_n 0, 1) := by decide +kernel
theorem dX10_watcher_21 : decode cX10_watcher 21 = .ok (.getfield 92, 3) := by decide +kernel
theorem dX10_watcher_24 : decode cX10_watcher 24 = .ok (.iload_n 1, 1) := by decide +kernel
theorem dX10_watcher_25 : decode cX10_watcher 25 = .ok (.iaload, 1) := by decide +kernel
theorem dX10_watcher_26 : decode cX10_watcher 26 = .ok (.if_icmp .lt 37, 3) := by decide +kernel
theorem dX10_watcher_29 : decode cX10_watcher 29 = .ok (.aload_n 0, 1) := by decide +kernel
theorem dX10_watcher_30 : decode cX10_watcher 30 = .ok (.getfield 92, 3) := by decide +kernel
theorem dX10_watcher_33 : decode cX10_watcher 33 = .ok (.iload_n 2, 1) := by decide +kernel
theorem dX10_watcher_34 : decode cX10_watcher 34 = .ok (.iaload, 1) := by decide +kernel
theorem dX10_watcher_35 : decode cX10_watcher 35 = .ok (.aload_n 0, 1) := by decide +kernel
theorem dX10_watcher_36 : decode cX10_watcher 36 = .ok (.getfield 92, 3) := by decide +kernel
theorem dX10_watcher_39 : decode cX10_watcher 39 = .ok (.iload_n 1, 1) := by decide +kernel
theorem dX10_watcher_40 : decode cX10_watcher 40 = .ok (.iaload, 1) := by decide +kernel
theorem dX10_watcher_41 : decode cX10_watcher 41 = .ok (.if_icmp .ne 24, 3) := by decide +kernel
theorem dX10_watcher_44 : decode cX10_watcher 44 = .ok (.aload_n 0, 1) := by decide +kernel
theorem dX10_watcher_45 : decode cX10_watcher 45 = .ok (.getfield 37, 3) := by decide +kernel
theorem dX10_watcher_48 : decode cX10_watcher 48 = .ok (.iconst 2, 1) := by decide +kernel
theorem dX10_watcher_49 : decode cX10_watcher 49 = .ok (.aaload, 1) := by decide +kernel
theorem dX10_watcher_50 : decode cX10_watcher 50 = .ok (.iload_n 2, 1) := by decide +kernel
theorem dX10_watcher_51 : decode cX10_watcher 51 = .ok (.iaload, 1) := by decide +kernel
theorem dX10_watcher_52 : decode cX10_watcher 52 = .ok (.aload_n 0, 1) := by decide +kernel
theorem dX10_watcher_53 : decode cX10_watcher 53 = .ok (.getfield 37, 3) := by decide +kernel
theorem dX10_watcher_56 : decode cX10_watcher 56 = .ok (.iconst 2, 1) := by decide +kernel
theorem dX10_watcher_57 : decode cX10_watcher 57 = .ok (.aaload, 1) := by decide +kernel
theorem dX10_watcher_58 : decode cX10_watcher 58 = .ok (.iload_n 1, 1) := by decide +kernel
theorem dX10_watcher_59 : decode cX10_watcher 59 = .ok (.iaload, 1) := by decide +kernel
theorem dX10_watcher_60 : decode cX10_watcher 60 = .ok (.if_icmp .le 5, 3) := by decide +kernel
theorem dX10_watcher_63 : decode cX10_watcher 63 = .ok (.iload_n 2, 1) := by decide +kernel
theorem dX10_watcher_64 : decode cX10_watcher 64 = .ok (.istore_n 1, 1) := by decide +kernel
theorem dX10_watcher_65 : decode cX10_watcher 65 = .ok (.iinc 2 1, 3) := by decide +kernel
theorem dX10_watcher_68 : decode cX10_watcher 68 = .ok (.goto (-64), 3) := by decide +kernel
theorem dX10_watcher_71 : decode cX10_watcher 71 = .ok (.iload_n 1, 1) := by decide +kernel
theorem dX10_watcher_72 : decode cX10_watcher 72 = .ok (.ireturn, 1) := by decide +kernel
abbrev mt_X10_watcher : AxM := (RX10, cX10_watcher, 3, (some .int), false, [])
theorem L1_X10_watcher_65 {g : AxG} {l : Launch} {r9 : Int32} {S9 : AxS} (N : Nat) (K4 : Nat → Int32 → Int32 → AxS → Option (Int32 × AxS)) (hK4 : ∀ (v0 : Nat) (v1 : Int32) (v2 : Int32) (S : AxS), K4 v0 v1 v2 S = some ((r9, S9)) → AW g l (axRm (0) 0 0) mt_X10_watcher (axMQ g 0 0 (.inl (some (.int r9)), S9)) 0 0 S 4 [(0, .ref v0), (1, .int v1), (2, .int v2)] []) (v0 : Nat) (v1 : Int32) (v2 : Int32) (S : AxS) (h : F_X10_watcher_65 N K4 v0 v1 v2 S = some ((r9, S9))) : AW g l (axRm (0) 0 0) mt_X10_watcher (axMQ g 0 0 (.inl (some (.int r9)), S9)) 0 0 S 65 [(0, .ref v0), (1, .int v1), (2, .int v2)] [] := by
  unfold F_X10_watcher_65 at h
  refine aw_iinc 2 [(2, .int (v2 + 1)), (0, .ref v0), (1, .int v1)] (v2 + 1) dX10_watcher_65 rfl rfl rfl rfl ?_
  refine aw_goto 4 dX10_watcher_68 (by decide) ?_
  refine aw_env [(0, .ref v0), (1, .int v1), (2, .int (v2 + 1))] [1, 2, 0] rfl ?_
  exact hK4 v0 v1 (v2 + 1) S h
theorem L1_X10_watcher_63 {g : AxG} {l : Launch} {r9 : Int32} {S9 : AxS} (N : Nat) (K4 : Nat → Int32 → Int32 → AxS → Option (Int32 × AxS)) (hK4 : ∀ (v0 : Nat) (v1 : Int32) (v2 : Int32) (S : AxS), K4 v0 v1 v2 S = some ((r9, S9)) → AW g l (axRm (0) 0 0) mt_X10_watcher (axMQ g 0 0 (.inl (some (.int r9)), S9)) 0 0 S 4 [(0, .ref v0), (1, .int v1), (2, .int v2)] []) (v0 : Nat) (v2 : Int32) (S : AxS) (h : F_X10_watcher_63 N K4 v0 v2 S = some ((r9, S9))) : AW g l (axRm (0) 0 0) mt_X10_watcher (axMQ g 0 0 (.inl (some (.int r9)), S9)) 0 0 S 63 [(0, .ref v0), (2, .int v2)] [] := by
  unfold F_X10_watcher_63 at h
  refine aw_iload_n 1 dX10_watcher_63 rfl rfl ?_
  refine aw_istore_n 1 [(1, .int v2), (0, .ref v0), (2, .int v2)] dX10_watcher_64 rfl rfl rfl ?_
  refine aw_env [(0, .ref v0), (1, .int v2), (2, .int v2)] [1, 0, 2] rfl ?_
  exact L1_X10_watcher_65 N K4 hK4 v0 v2 v2 S h
theorem L1_X10_watcher_4b {g : AxG} {l : Launch} {r9 : Int32} {S9 : AxS} (N : Nat) (K4 : Nat → Int32 → Int32 → AxS → Option (Int32 × AxS)) (hK4 : ∀ (v0 : Nat) (v1 : Int32) (v2 : Int32) (S : AxS), K4 v0 v1 v2 S = some ((r9, S9)) → AW g l (axRm (0) 0 0) mt_X10_watcher (axMQ g 0 0 (.inl (some (.int r9)), S9)) 0 0 S 4 [(0, .ref v0), (1, .int v1), (2, .int v2)] []) (v0 : Nat) (v1 : Int32) (v2 : Int32) (S : AxS) (h : F_X10_watcher_4b N K4 v0 v1 v2 S = some ((r9, S9))) : AW g l (axRm (0) 0 0) mt_X10_watcher (axMQ g 0 0 (.inl (some (.int r9)), S9)) 0 0 S 4 [(0, .ref v0), (1, .int v1), (2, .int v2)] [] := by
  unfold F_X10_watcher_4b at h
  refine aw_iload_n 2 dX10_watcher_4 rfl rfl ?_
  refine aw_aload_n 0 dX10_watcher_5 rfl rfl ?_
  refine aw_getR axc10 12 rfl rfl wd_1297 dX10_watcher_6 h (fun a1 h => ?_)
  refine aw_iconst 2 dX10_watcher_9 rfl ?_
  refine aw_iald dX10_watcher_10 h (fun x2 h => ?_)
  refine aw_icmp_ge 71 dX10_watcher_11 (by decide) h (fun h => ?_) (fun h => ?_)
  · refine aw_iload_n 1 dX10_watcher_71 rfl rfl ?_
    exact aw_iret dX10_watcher_72 rfl (Nat.le_refl _) (Nat.le_refl _) h
  · refine aw_aload_n 0 dX10_watcher_14 rfl rfl ?_
    refine aw_getR axc10 45 rfl rfl wd_1330 dX10_watcher_15 h (fun a3 h => ?_)
    refine aw_iload_n 2 dX10_watcher_18 rfl rfl ?_
    refine aw_iald dX10_watcher_19 h (fun x4 h => ?_)
    refine aw_aload_n 0 dX10_watcher_20 rfl rfl ?_
    refine aw_getR axc10 45 rfl rfl wd_1330 dX10_watcher_21 h (fun a5 h => ?_)
    refine aw_iload_n 1 dX10_watcher_24 rfl rfl ?_
    refine aw_iald dX10_watcher_25 h (fun x6 h => ?_)
    refine aw_icmp_lt 63 dX10_watcher_26 (by decide) h (fun h => ?_) (fun h => ?_)
    · refine aw_env [(0, .ref v0), (2, .int v2)] [0, 2] rfl ?_
      exact L1_X10_watcher_63 N K4 hK4 v0 v2 S h
    · refine aw_aload_n 0 dX10_watcher_29 rfl rfl ?_
      refine aw_getR axc10 45 rfl rfl wd_1330 dX10_watcher_30 h (fun a7 h => ?_)
      refine aw_iload_n 2 dX10_watcher_33 rfl rfl ?_
      refine aw_iald dX10_watcher_34 h (fun x8 h => ?_)
      refine aw_aload_n 0 dX10_watcher_35 rfl rfl ?_
      refine aw_getR axc10 45 rfl rfl wd_1330 dX10_watcher_36 h (fun a9 h => ?_)
      refine aw_iload_n 1 dX10_watcher_39 rfl rfl ?_
      refine aw_iald dX10_watcher_40 h (fun x10 h => ?_)
      refine aw_icmp_ne 65 dX10_watcher_41 (by decide) h (fun h => ?_) (fun h => ?_)
      · refine aw_env [(0, .ref v0), (1, .int v1), (2, .int v2)] [0, 1, 2] rfl ?_
        exact L1_X10_watcher_65 N K4 hK4 v0 v1 v2 S h
      · refine aw_aload_n 0 dX10_watcher_44 rfl rfl ?_
        refine aw_getR axc10 16 rfl rfl wd_1301 dX10_watcher_45 h (fun a11 h => ?_)
        refine aw_iconst 2 dX10_watcher_48 rfl ?_
        refine aw_aald dX10_watcher_49 h (fun a12 h => ?_)
        refine aw_iload_n 2 dX10_watcher_50 rfl rfl ?_
        refine aw_iald dX10_watcher_51 h (fun x13 h => ?_)
        refine aw_aload_n 0 dX10_watcher_52 rfl rfl ?_
        refine aw_getR axc10 16 rfl rfl wd_1301 dX10_watcher_53 h (fun a14 h => ?_)
        refine aw_iconst 2 dX10_watcher_56 rfl ?_
        refine aw_aald dX10_watcher_57 h (fun a15 h => ?_)
        refine aw_iload_n 1 dX10_watcher_58 rfl rfl ?_
        refine aw_iald dX10_watcher_59 h (fun x16 h => ?_)
        refine aw_icmp_le 65 dX10_watcher_60 (by decide) h (fun h => ?_) (fun h => ?_)
        · refine aw_env [(0, .ref v0), (1, .int v1), (2, .int v2)] [0, 1, 2] rfl ?_
          exact L1_X10_watcher_65 N K4 hK4 v0 v1 v2 S h
        · refine aw_env [(0, .ref v0), (2, .int v2)] [0, 2] rfl ?_
          exact L1_X10_watcher_63 N K4 hK4 v0 v2 S h
theorem L1_X10_watcher_4 {g : AxG} {l : Launch} {r9 : Int32} {S9 : AxS} (N : Nat)  : ∀ (n : Nat) (v0 : Nat) (v1 : Int32) (v2 : Int32) (S : AxS), F_X10_watcher_4 N  n v0 v1 v2 S = some ((r9, S9)) → AW g l (axRm (0) 0 0) mt_X10_watcher (axMQ g 0 0 (.inl (some (.int r9)), S9)) 0 0 S 4 [(0, .ref v0), (1, .int v1), (2, .int v2)] [] := by
  intro n
  induction n with
  | zero => intro v0 v1 v2 S h; cases h
  | succ n ih => intro v0 v1 v2 S h; exact L1_X10_watcher_4b N (F_X10_watcher_4 N  n) ih v0 v1 v2 S h
theorem L1_X10_watcher {g : AxG} {l : Launch} (N : Nat) {v0 : Nat} {S : AxS} {r9 : Int32} {S9 : AxS} (h : F_X10_watcher N v0 S = some ((r9, S9))) : AxMet g l yX10_watcher cX10_watcher 3 (some .int) (0) 0 0 [.ref v0] S ((.inl (some (.int r9)), S9)) := by
  refine ax_met (own := RX10) (ini := false) (by decide +kernel) rfl (fun h => nomatch h) rfl ?_
  show AW g l (axRm (0) 0 0) mt_X10_watcher (axMQ g 0 0 (.inl (some (.int r9)), S9)) 0 0 S 0 [(0, .ref v0)] []
  unfold F_X10_watcher at h
  refine aw_iconst 0 dX10_watcher_0 rfl ?_
  refine aw_istore_n 1 [(1, .int 0), (0, .ref v0)] dX10_watcher_1 rfl rfl rfl ?_
  refine aw_iconst 1 dX10_watcher_2 rfl ?_
  refine aw_istore_n 2 [(2, .int 1), (1, .int 0), (0, .ref v0)] dX10_watcher_3 rfl rfl rfl ?_
  refine aw_env [(0, .ref v0), (1, .int 0), (2, .int 1)] [2, 1, 0] rfl ?_
  exact L1_X10_watcher_4 N  N v0 0 1 S h

theorem dX10_watch_0 : decode cX10_watch 0 = .ok (.aload_n 0, 1) := by decide +kernel
theorem dX10_watch_1 : decode cX10_watch 1 = .ok (.iconst 0, 1) := by decide +kernel
theorem dX10_watch_2 : decode cX10_watch 2 = .ok (.putfield 104, 3) := by decide +kernel
theorem dX10_watch_5 : decode cX10_watch 5 = .ok (.aload_n 0, 1) := by decide +kernel
theorem dX10_watch_6 : decode cX10_watch 6 = .ok (.aload_n 0, 1) := by decide +kernel
theorem dX10_watch_7 : decode cX10_watch 7 = .ok (.iconst 2, 1) := by decide +kernel
theorem dX10_watch_8 : decode cX10_watch 8 = .ok (.iload_n 1, 1) := by decide +kernel
theorem dX10_watch_9 : decode cX10_watch 9 = .ok (.invokevirtual 326, 3) := by decide +kernel
theorem dX10_watch_12 : decode cX10_watch 12 = .ok (.iconst 1, 1) := by decide +kernel
theorem dX10_watch_13 : decode cX10_watch 13 = .ok (.iconst 0, 1) := by decide +kernel
theorem dX10_watch_14 : decode cX10_watch 14 = .ok (.invokevirtual 193, 3) := by decide +kernel
theorem dX10_watch_17 : decode cX10_watch 17 = .ok (.ifCond .ne 27, 3) := by decide +kernel
theorem dX10_watch_20 : decode cX10_watch 20 = .ok (.aload_n 0, 1) := by decide +kernel
theorem dX10_watch_21 : decode cX10_watch 21 = .ok (.iload_n 2, 1) := by decide +kernel
theorem dX10_watch_22 : decode cX10_watch 22 = .ok (.iconst 0, 1) := by decide +kernel
theorem dX10_watch_23 : decode cX10_watch 23 = .ok (.bipush 60, 2) := by decide +kernel
theorem dX10_watch_25 : decode cX10_watch 25 = .ok (.invokestatic 138, 3) := by decide +kernel
theorem dX10_watch_28 : decode cX10_watch 28 = .ok (.ifCond .ne 7, 3) := by decide +kernel
theorem dX10_watch_31 : decode cX10_watch 31 = .ok (.iconst 1, 1) := by decide +kernel
theorem dX10_watch_32 : decode cX10_watch 32 = .ok (.goto 4, 3) := by decide +kernel
theorem dX10_watch_35 : decode cX10_watch 35 = .ok (.iconst 0, 1) := by decide +kernel
theorem dX10_watch_36 : decode cX10_watch 36 = .ok (.iconst 2, 1) := by decide +kernel
theorem dX10_watch_37 : decode cX10_watch 37 = .ok (.iconst 1, 1) := by decide +kernel
theorem dX10_watch_38 : decode cX10_watch 38 = .ok (.invokevirtual 193, 3) := by decide +kernel
theorem dX10_watch_41 : decode cX10_watch 41 = .ok (.ifCond .eq 5, 3) := by decide +kernel
theorem dX10_watch_44 : decode cX10_watch 44 = .ok (.iconst 0, 1) := by decide +kernel
theorem dX10_watch_45 : decode cX10_watch 45 = .ok (.ireturn, 1) := by decide +kernel
theorem dX10_watch_46 : decode cX10_watch 46 = .ok (.iconst 0, 1) := by decide +kernel
theorem dX10_watch_47 : decode cX10_watch 47 = .ok (.istore_n 3, 1) := by decide +kernel
theorem dX10_watch_48 : decode cX10_watch 48 = .ok (.iload_n 3, 1) := by decide +kernel
theorem dX10_watch_49 : decode cX10_watch 49 = .ok (.bipush 8, 2) := by decide +kernel
theorem dX10_watch_51 : decode cX10_watch 51 = .ok (.if_icmp .ge 16, 3) := by decide +kernel
theorem dX10_watch_54 : decode cX10_watch 54 = .ok (.aload_n 0, 1) := by decide +kernel
theorem dX10_watch_55 : decode cX10_watch 55 = .ok (.getfield 92, 3) := by decide +kernel
theorem dX10_watch_58 : decode cX10_watch 58 = .ok (.iload_n 3, 1) := by decide +kernel
theorem dX10_watch_59 : decode cX10_watch 59 = .ok (.iconst 0, 1) := by decide +kernel
theorem dX10_watch_60 : decode cX10_watch 60 = .ok (.iastore, 1) := by decide +kernel
theorem dX10_watch_61 : decode cX10_watch 61 = .ok (.iinc 3 1, 3) := by decide +kernel
theorem dX10_watch_64 : decode cX10_watch 64 = .ok (.goto (-16), 3) := by decide +kernel
theorem dX10_watch_67 : decode cX10_watch 67 = .ok (.iconst 0, 1) := by decide +kernel
theorem dX10_watch_68 : decode cX10_watch 68 = .ok (.istore_n 3, 1) := by decide +kernel
theorem dX10_watch_69 : decode cX10_watch 69 = .ok (.iload_n 3, 1) := by decide +kernel
theorem dX10_watch_70 : decode cX10_watch 70 = .ok (.iload_n 2, 1) := by decide +kernel
theorem dX10_watch_71 : decode cX10_watch 71 = .ok (.if_icmp .ge 22, 3) := by decide +kernel
theorem dX10_watch_74 : decode cX10_watch 74 = .ok (.aload_n 0, 1) := by decide +kernel
theorem dX10_watch_75 : decode cX10_watch 75 = .ok (.getfield 92, 3) := by decide +kernel
theorem dX10_watch_78 : decode cX10_watch 78 = .ok (.aload_n 0, 1) := by decide +kernel
theorem dX10_watch_79 : decode cX10_watch 79 = .ok (.invokevirtual 365, 3) := by decide +kernel
theorem dX10_watch_82 : decode cX10_watch 82 = .ok (.dup2, 1) := by decide +kernel
theorem dX10_watch_83 : decode cX10_watch 83 = .ok (.iaload, 1) := by decide +kernel
theorem dX10_watch_84 : decode cX10_watch 84 = .ok (.iconst 1, 1) := by decide +kernel
theorem dX10_watch_85 : decode cX10_watch 85 = .ok (.iadd, 1) := by decide +kernel
theorem dX10_watch_86 : decode cX10_watch 86 = .ok (.iastore, 1) := by decide +kernel
theorem dX10_watch_87 : decode cX10_watch 87 = .ok (.iinc 3 1, 3) := by decide +kernel
theorem dX10_watch_90 : decode cX10_watch 90 = .ok (.goto (-21), 3) := by decide +kernel
theorem dX10_watch_93 : decode cX10_watch 93 = .ok (.aload_n 0, 1) := by decide +kernel
theorem dX10_watch_94 : decode cX10_watch 94 = .ok (.getfield 92, 3) := by decide +kernel
theorem dX10_watch_97 : decode cX10_watch 97 = .ok (.iload_n 1, 1) := by decide +kernel
theorem dX10_watch_98 : decode cX10_watch 98 = .ok (.iaload, 1) := by decide +kernel
theorem dX10_watch_99 : decode cX10_watch 99 = .ok (.ireturn, 1) := by decide +kernel
abbrev mt_X10_watch : AxM := (RX10, cX10_watch, 4, (some .int), false, [])
theorem L1_X10_watch_69b {g : AxG} {l : Launch} {r9 : Int32} {S9 : AxS} (N : Nat) (K69 : Nat → Int32 → Int32 → Int32 → AxS → Option (Int32 × AxS)) (hK69 : ∀ (v0 : Nat) (v1 : Int32) (v2 : Int32) (v3 : Int32) (S : AxS), K69 v0 v1 v2 v3 S = some ((r9, S9)) → AW g l (axRm (2) 0 0) mt_X10_watch (axMQ g 0 0 (.inl (some (.int r9)), S9)) 0 0 S 69 [(0, .ref v0), (1, .int v1), (2, .int v2), (3, .int v3)] []) (v0 : Nat) (v1 : Int32) (v2 : Int32) (v3 : Int32) (S : AxS) (h : F_X10_watch_69b N K69 v0 v1 v2 v3 S = some ((r9, S9))) : AW g l (axRm (2) 0 0) mt_X10_watch (axMQ g 0 0 (.inl (some (.int r9)), S9)) 0 0 S 69 [(0, .ref v0), (1, .int v1), (2, .int v2), (3, .int v3)] [] := by
  unfold F_X10_watch_69b at h
  refine aw_iload_n 3 dX10_watch_69 rfl rfl ?_
  refine aw_iload_n 2 dX10_watch_70 rfl rfl ?_
  refine aw_icmp_ge 93 dX10_watch_71 (by decide) h (fun h => ?_) (fun h => ?_)
  · refine aw_aload_n 0 dX10_watch_93 rfl rfl ?_
    refine aw_getR axc10 45 rfl rfl wd_1330 dX10_watch_94 h (fun a1 h => ?_)
    refine aw_iload_n 1 dX10_watch_97 rfl rfl ?_
    refine aw_iald dX10_watch_98 h (fun x2 h => ?_)
    exact aw_iret dX10_watch_99 rfl (Nat.le_refl _) (Nat.le_refl _) h
  · refine aw_aload_n 0 dX10_watch_74 rfl rfl ?_
    refine aw_getR axc10 45 rfl rfl wd_1330 dX10_watch_75 h (fun a3 h => ?_)
    refine aw_aload_n 0 dX10_watch_78 rfl rfl ?_
    obtain ⟨hL4, h⟩ := ax_is_spec h
    refine aw_doneI (rest := [.ref a3]) h (fun r9 S9 hF => aw_runV (As := []) (rest := [.ref a3]) (L1_X10_watcher N hF) axc10 hL4 wd_1774 wd_1771 wd_1773 wd_78 wd_97 pd_X10_watcher rfl (ax_rm (by omega) rfl) ax_hf0 (Nat.le_of_ble_eq_true rfl) rfl dX10_watch_79) (fun x6 T5 h => ?_)
    refine aw_dup2 rfl rfl dX10_watch_82 ?_
    refine aw_iald dX10_watch_83 h (fun x7 h => ?_)
    refine aw_iconst 1 dX10_watch_84 rfl ?_
    refine aw_iadd dX10_watch_85 ?_
    refine aw_iast dX10_watch_86 h (fun T8 h => ?_)
    refine aw_iinc 3 [(3, .int (v3 + 1)), (0, .ref v0), (1, .int v1), (2, .int v2)] (v3 + 1) dX10_watch_87 rfl rfl rfl rfl ?_
    refine aw_goto 69 dX10_watch_90 (by decide) ?_
    refine aw_env [(0, .ref v0), (1, .int v1), (2, .int v2), (3, .int (v3 + 1))] [1, 2, 3, 0] rfl ?_
    exact hK69 v0 v1 v2 (v3 + 1) T8 h
theorem L1_X10_watch_69 {g : AxG} {l : Launch} {r9 : Int32} {S9 : AxS} (N : Nat)  : ∀ (n : Nat) (v0 : Nat) (v1 : Int32) (v2 : Int32) (v3 : Int32) (S : AxS), F_X10_watch_69 N  n v0 v1 v2 v3 S = some ((r9, S9)) → AW g l (axRm (2) 0 0) mt_X10_watch (axMQ g 0 0 (.inl (some (.int r9)), S9)) 0 0 S 69 [(0, .ref v0), (1, .int v1), (2, .int v2), (3, .int v3)] [] := by
  intro n
  induction n with
  | zero => intro v0 v1 v2 v3 S h; cases h
  | succ n ih => intro v0 v1 v2 v3 S h; exact L1_X10_watch_69b N (F_X10_watch_69 N  n) ih v0 v1 v2 v3 S h
theorem L1_X10_watch_48b {g : AxG} {l : Launch} {r9 : Int32} {S9 : AxS} (N : Nat) (K48 : Nat → Int32 → Int32 → Int32 → AxS → Option (Int32 × AxS)) (hK48 : ∀ (v0 : Nat) (v1 : Int32) (v2 : Int32) (v3 : Int32) (S : AxS), K48 v0 v1 v2 v3 S = some ((r9, S9)) → AW g l (axRm (2) 0 0) mt_X10_watch (axMQ g 0 0 (.inl (some (.int r9)), S9)) 0 0 S 48 [(0, .ref v0), (1, .int v1), (2, .int v2), (3, .int v3)] []) (v0 : Nat) (v1 : Int32) (v2 : Int32) (v3 : Int32) (S : AxS) (h : F_X10_watch_48b N K48 v0 v1 v2 v3 S = some ((r9, S9))) : AW g l (axRm (2) 0 0) mt_X10_watch (axMQ g 0 0 (.inl (some (.int r9)), S9)) 0 0 S 48 [(0, .ref v0), (1, .int v1), (2, .int v2), (3, .int v3)] [] := by
  unfold F_X10_watch_48b at h
  refine aw_iload_n 3 dX10_watch_48 rfl rfl ?_
  refine aw_bipush 8 dX10_watch_49 (by decide) ?_
  refine aw_icmp_ge 67 dX10_watch_51 (by decide) h (fun h => ?_) (fun h => ?_)
  · refine aw_iconst 0 dX10_watch_67 rfl ?_
    refine aw_istore_n 3 [(3, .int 0), (0, .ref v0), (1, .int v1), (2, .int v2)] dX10_watch_68 rfl rfl rfl ?_
    refine aw_env [(0, .ref v0), (1, .int v1), (2, .int v2), (3, .int 0)] [1, 2, 3, 0] rfl ?_
    exact L1_X10_watch_69 N  N v0 v1 v2 0 S h
  · refine aw_aload_n 0 dX10_watch_54 rfl rfl ?_
    refine aw_getR axc10 45 rfl rfl wd_1330 dX10_watch_55 h (fun a1 h => ?_)
    refine aw_iload_n 3 dX10_watch_58 rfl rfl ?_
    refine aw_iconst 0 dX10_watch_59 rfl ?_
    refine aw_iast dX10_watch_60 h (fun T2 h => ?_)
    refine aw_iinc 3 [(3, .int (v3 + 1)), (0, .ref v0), (1, .int v1), (2, .int v2)] (v3 + 1) dX10_watch_61 rfl rfl rfl rfl ?_
    refine aw_goto 48 dX10_watch_64 (by decide) ?_
    refine aw_env [(0, .ref v0), (1, .int v1), (2, .int v2), (3, .int (v3 + 1))] [1, 2, 3, 0] rfl ?_
    exact hK48 v0 v1 v2 (v3 + 1) T2 h
theorem L1_X10_watch_48 {g : AxG} {l : Launch} {r9 : Int32} {S9 : AxS} (N : Nat)  : ∀ (n : Nat) (v0 : Nat) (v1 : Int32) (v2 : Int32) (v3 : Int32) (S : AxS), F_X10_watch_48 N  n v0 v1 v2 v3 S = some ((r9, S9)) → AW g l (axRm (2) 0 0) mt_X10_watch (axMQ g 0 0 (.inl (some (.int r9)), S9)) 0 0 S 48 [(0, .ref v0), (1, .int v1), (2, .int v2), (3, .int v3)] [] := by
  intro n
  induction n with
  | zero => intro v0 v1 v2 v3 S h; cases h
  | succ n ih => intro v0 v1 v2 v3 S h; exact L1_X10_watch_48b N (F_X10_watch_48 N  n) ih v0 v1 v2 v3 S h
theorem L1_X10_watch_36 {g : AxG} {l : Launch} {r9 : Int32} {S9 : AxS} (N : Nat)  (v0 : Nat) (v1 : Int32) (v2 : Int32) (w0 : Int32) (w1 : Nat) (S : AxS) (h : F_X10_watch_36 N  v0 v1 v2 w0 w1 S = some ((r9, S9))) : AW g l (axRm (2) 0 0) mt_X10_watch (axMQ g 0 0 (.inl (some (.int r9)), S9)) 0 0 S 36 [(0, .ref v0), (1, .int v1), (2, .int v2)] [.int w0, .ref w1] := by
  unfold F_X10_watch_36 at h
  refine aw_iconst 2 dX10_watch_36 rfl ?_
  refine aw_iconst 1 dX10_watch_37 rfl ?_
  obtain ⟨hL1, h⟩ := ax_is_spec h
  refine aw_doneI (rest := []) h (fun r9 S9 hF => aw_runV (As := [.int w0, .int 2, .int 1]) (rest := []) (L1_X10_bad N hF) axc10 hL1 wd_1452 wd_1449 wd_1451 wd_38 wd_97 pd_X10_bad rfl (ax_rm (by omega) rfl) ax_hf0 (Nat.le_of_ble_eq_true rfl) rfl dX10_watch_38) (fun x3 T2 h => ?_)
  refine aw_if_eq 46 dX10_watch_41 (by decide) h (fun h => ?_) (fun h => ?_)
  · refine aw_iconst 0 dX10_watch_46 rfl ?_
    refine aw_istore_n 3 [(3, .int 0), (0, .ref v0), (1, .int v1), (2, .int v2)] dX10_watch_47 rfl rfl rfl ?_
    refine aw_env [(0, .ref v0), (1, .int v1), (2, .int v2), (3, .int 0)] [1, 2, 3, 0] rfl ?_
    exact L1_X10_watch_48 N  N v0 v1 v2 0 T2 h
  · refine aw_iconst 0 dX10_watch_44 rfl ?_
    exact aw_iret dX10_watch_45 rfl (Nat.le_refl _) (Nat.le_refl _) h
theorem L1_X10_watch {g : AxG} {l : Launch} (N : Nat) {v0 : Nat} {v1 : Int32} {v2 : Int32} {S : AxS} {r9 : Int32} {S9 : AxS} (h : F_X10_watch N v0 v1 v2 S = some ((r9, S9))) : AxMet g l yX10_watch cX10_watch 4 (some .int) (2) 0 0 [.ref v0, .int v1, .int v2] S ((.inl (some (.int r9)), S9)) := by
  refine ax_met (own := RX10) (ini := false) (by decide +kernel) rfl (fun h => nomatch h) rfl ?_
  show AW g l (axRm (2) 0 0) mt_X10_watch (axMQ g 0 0 (.inl (some (.int r9)), S9)) 0 0 S 0 [(0, .ref v0), (1, .int v1), (2, .int v2)] []
  unfold F_X10_watch at h
  refine aw_aload_n 0 dX10_watch_0 rfl rfl ?_
  refine aw_iconst 0 dX10_watch_1 rfl ?_
  refine aw_putI axc10 0 rfl rfl wd_1285 rfl rfl rfl dX10_watch_2 h (fun T1 h => ?_)
  refine aw_aload_n 0 dX10_watch_5 rfl rfl ?_
  refine aw_aload_n 0 dX10_watch_6 rfl rfl ?_
  refine aw_iconst 2 dX10_watch_7 rfl ?_
  refine aw_iload_n 1 dX10_watch_8 rfl rfl ?_
  obtain ⟨hL2, h⟩ := ax_is_spec h
  refine aw_doneI (rest := [.ref v0]) h (fun r9 S9 hF => aw_runV (As := [.int 2, .int v1]) (rest := [.ref v0]) (L1_X10_isNo N hF) axc10 hL2 wd_1653 wd_1650 wd_1652 wd_70 wd_97 pd_X10_isNo rfl (ax_rm (by omega) rfl) ax_hf0 (Nat.le_of_ble_eq_true rfl) rfl dX10_watch_9) (fun x4 T3 h => ?_)
  refine aw_iconst 1 dX10_watch_12 rfl ?_
  refine aw_iconst 0 dX10_watch_13 rfl ?_
  obtain ⟨hL5, h⟩ := ax_is_spec h
  refine aw_doneI (rest := []) h (fun r9 S9 hF => aw_runV (As := [.int x4, .int 1, .int 0]) (rest := []) (L1_X10_bad N hF) axc10 hL5 wd_1452 wd_1449 wd_1451 wd_38 wd_97 pd_X10_bad rfl (ax_rm (by omega) rfl) ax_hf0 (Nat.le_of_ble_eq_true rfl) rfl dX10_watch_14) (fun x7 T6 h => ?_)
  refine aw_if_ne 44 dX10_watch_17 (by decide) h (fun h => ?_) (fun h => ?_)
  · refine aw_iconst 0 dX10_watch_44 rfl ?_
    exact aw_iret dX10_watch_45 rfl (Nat.le_refl _) (Nat.le_refl _) h
  · refine aw_aload_n 0 dX10_watch_20 rfl rfl ?_
    refine aw_iload_n 2 dX10_watch_21 rfl rfl ?_
    refine aw_iconst 0 dX10_watch_22 rfl ?_
    refine aw_bipush 60 dX10_watch_23 (by decide) ?_
    refine aw_doneI (rest := [.ref v0]) h (fun r9 S9 hF => aw_runS (As := [.int v2, .int 0, .int 60]) (rest := [.ref v0]) (L1_X10_in N hF) wd_1448 wd_1446 wd_1447 wd_97 pd_X10_in.2 rfl (ax_rm (by omega) rfl) ax_hf0 (Nat.le_of_ble_eq_true rfl) rfl dX10_watch_25) (fun x9 T8 h => ?_)
    refine aw_if_ne 35 dX10_watch_28 (by decide) h (fun h => ?_) (fun h => ?_)
    · refine aw_iconst 0 dX10_watch_35 rfl ?_
      refine aw_env [(0, .ref v0), (1, .int v1), (2, .int v2)] [0, 1, 2] rfl ?_
      exact L1_X10_watch_36 N  v0 v1 v2 0 v0 T8 h
    · refine aw_iconst 1 dX10_watch_31 rfl ?_
      refine aw_goto 36 dX10_watch_32 (by decide) ?_
      refine aw_env [(0, .ref v0), (1, .int v1), (2, .int v2)] [0, 1, 2] rfl ?_
      exact L1_X10_watch_36 N  v0 v1 v2 1 v0 T8 h

theorem dX10_bidsBut_0 : decode cX10_bidsBut 0 = .ok (.iconst 0, 1) := by decide +kernel
theorem dX10_bidsBut_1 : decode cX10_bidsBut 1 = .ok (.istore_n 2, 1) := by decide +kernel
theorem dX10_bidsBut_2 : decode cX10_bidsBut 2 = .ok (.iconst 0, 1) := by decide +kernel
theorem dX10_bidsBut_3 : decode cX10_bidsBut 3 = .ok (.istore_n 3, 1) := by decide +kernel
theorem dX10_bidsBut_4 : decode cX10_bidsBut 4 = .ok (.iload_n 3, 1) := by decide +kernel
theorem dX10_bidsBut_5 : decode cX10_bidsBut 5 = .ok (.aload_n 0, 1) := by decide +kernel
theorem dX10_bidsBut_6 : decode cX10_bidsBut 6 = .ok (.getfield 23, 3) := by decide +kernel
theorem dX10_bidsBut_9 : decode cX10_bidsBut 9 = .ok (.iconst 3, 1) := by decide +kernel
theorem dX10_bidsBut_10 : decode cX10_bidsBut 10 = .ok (.iaload, 1) := by decide +kernel
theorem dX10_bidsBut_11 : decode cX10_bidsBut 11 = .ok (.if_icmp .ge 30, 3) := by decide +kernel
theorem dX10_bidsBut_14 : decode cX10_bidsBut 14 = .ok (.iload_n 2, 1) := by decide +kernel
theorem dX10_bidsBut_15 : decode cX10_bidsBut 15 = .ok (.iload_n 3, 1) := by decide +kernel
theorem dX10_bidsBut_16 : decode cX10_bidsBut 16 = .ok (.iload_n 1, 1) := by decide +kernel
theorem dX10_bidsBut_17 : decode cX10_bidsBut 17 = .ok (.if_icmp .ne 7, 3) := by decide +kernel
theorem dX10_bidsBut_20 : decode cX10_bidsBut 20 = .ok (.iconst 0, 1) := by decide +kernel
theorem dX10_bidsBut_21 : decode cX10_bidsBut 21 = .ok (.goto 12, 3) := by decide +kernel
theorem dX10_bidsBut_24 : decode cX10_bidsBut 24 = .ok (.bipush 10, 2) := by decide +kernel
theorem dX10_bidsBut_26 : decode cX10_bidsBut 26 = .ok (.aload_n 0, 1) := by decide +kernel
theorem dX10_bidsBut_27 : decode cX10_bidsBut 27 = .ok (.getfield 95, 3) := by decide +kernel
theorem dX10_bidsBut_30 : decode cX10_bidsBut 30 = .ok (.iload_n 3, 1) := by decide +kernel
theorem dX10_bidsBut_31 : decode cX10_bidsBut 31 = .ok (.iaload, 1) := by decide +kernel
theorem dX10_bidsBut_32 : decode cX10_bidsBut 32 = .ok (.imul, 1) := by decide +kernel
theorem dX10_bidsBut_33 : decode cX10_bidsBut 33 = .ok (.iadd, 1) := by decide +kernel
theorem dX10_bidsBut_34 : decode cX10_bidsBut 34 = .ok (.istore_n 2, 1) := by decide +kernel
theorem dX10_bidsBut_35 : decode cX10_bidsBut 35 = .ok (.iinc 3 1, 3) := by decide +kernel
theorem dX10_bidsBut_38 : decode cX10_bidsBut 38 = .ok (.goto (-34), 3) := by decide +kernel
theorem dX10_bidsBut_41 : decode cX10_bidsBut 41 = .ok (.iload_n 2, 1) := by decide +kernel
theorem dX10_bidsBut_42 : decode cX10_bidsBut 42 = .ok (.ireturn, 1) := by decide +kernel
abbrev mt_X10_bidsBut : AxM := (RX10, cX10_bidsBut, 4, (some .int), false, [])
theorem L1_X10_bidsBut_33 {g : AxG} {l : Launch} {r9 : Int32} {S9 : AxS} (N : Nat) (K4 : Nat → Int32 → Int32 → Int32 → AxS → Option (Int32 × AxS)) (hK4 : ∀ (v0 : Nat) (v1 : Int32) (v2 : Int32) (v3 : Int32) (S : AxS), K4 v0 v1 v2 v3 S = some ((r9, S9)) → AW g l (axRm (0) 0 0) mt_X10_bidsBut (axMQ g 0 0 (.inl (some (.int r9)), S9)) 0 0 S 4 [(0, .ref v0), (1, .int v1), (2, .int v2), (3, .int v3)] []) (v0 : Nat) (v1 : Int32) (v3 : Int32) (w0 : Int32) (w1 : Int32) (S : AxS) (h : F_X10_bidsBut_33 N K4 v0 v1 v3 w0 w1 S = some ((r9, S9))) : AW g l (axRm (0) 0 0) mt_X10_bidsBut (axMQ g 0 0 (.inl (some (.int r9)), S9)) 0 0 S 33 [(0, .ref v0), (1, .int v1), (3, .int v3)] [.int w0, .int w1] := by
  unfold F_X10_bidsBut_33 at h
  refine aw_iadd dX10_bidsBut_33 ?_
  refine aw_istore_n 2 [(2, .int (w1 + w0)), (0, .ref v0), (1, .int v1), (3, .int v3)] dX10_bidsBut_34 rfl rfl rfl ?_
  refine aw_iinc 3 [(3, .int (v3 + 1)), (2, .int (w1 + w0)), (0, .ref v0), (1, .int v1)] (v3 + 1) dX10_bidsBut_35 rfl rfl rfl rfl ?_
  refine aw_goto 4 dX10_bidsBut_38 (by decide) ?_
  refine aw_env [(0, .ref v0), (1, .int v1), (2, .int (w1 + w0)), (3, .int (v3 + 1))] [2, 3, 1, 0] rfl ?_
  exact hK4 v0 v1 (w1 + w0) (v3 + 1) S h
theorem L1_X10_bidsBut_4b {g : AxG} {l : Launch} {r9 : Int32} {S9 : AxS} (N : Nat) (K4 : Nat → Int32 → Int32 → Int32 → AxS → Option (Int32 × AxS)) (hK4 : ∀ (v0 : Nat) (v1 : Int32) (v2 : Int32) (v3 : Int32) (S : AxS), K4 v0 v1 v2 v3 S = some ((r9, S9)) → AW g l (axRm (0) 0 0) mt_X10_bidsBut (axMQ g 0 0 (.inl (some (.int r9)), S9)) 0 0 S 4 [(0, .ref v0), (1, .int v1), (2, .int v2), (3, .int v3)] []) (v0 : Nat) (v1 : Int32) (v2 : Int32) (v3 : Int32) (S : AxS) (h : F_X10_bidsBut_4b N K4 v0 v1 v2 v3 S = some ((r9, S9))) : AW g l (axRm (0) 0 0) mt_X10_bidsBut (axMQ g 0 0 (.inl (some (.int r9)), S9)) 0 0 S 4 [(0, .ref v0), (1, .int v1), (2, .int v2), (3, .int v3)] [] := by
  unfold F_X10_bidsBut_4b at h
  refine aw_iload_n 3 dX10_bidsBut_4 rfl rfl ?_
  refine aw_aload_n 0 dX10_bidsBut_5 rfl rfl ?_
  refine aw_getR axc10 12 rfl rfl wd_1297 dX10_bidsBut_6 h (fun a1 h => ?_)
  refine aw_iconst 3 dX10_bidsBut_9 rfl ?_
  refine aw_iald dX10_bidsBut_10 h (fun x2 h => ?_)
  refine aw_icmp_ge 41 dX10_bidsBut_11 (by decide) h (fun h => ?_) (fun h => ?_)
  · refine aw_iload_n 2 dX10_bidsBut_41 rfl rfl ?_
    exact aw_iret dX10_bidsBut_42 rfl (Nat.le_refl _) (Nat.le_refl _) h
  · refine aw_iload_n 2 dX10_bidsBut_14 rfl rfl ?_
    refine aw_iload_n 3 dX10_bidsBut_15 rfl rfl ?_
    refine aw_iload_n 1 dX10_bidsBut_16 rfl rfl ?_
    refine aw_icmp_ne 24 dX10_bidsBut_17 (by decide) h (fun h => ?_) (fun h => ?_)
    · refine aw_bipush 10 dX10_bidsBut_24 (by decide) ?_
      refine aw_aload_n 0 dX10_bidsBut_26 rfl rfl ?_
      refine aw_getR axc10 46 rfl rfl wd_1331 dX10_bidsBut_27 h (fun a3 h => ?_)
      refine aw_iload_n 3 dX10_bidsBut_30 rfl rfl ?_
      refine aw_iald dX10_bidsBut_31 h (fun x4 h => ?_)
      refine aw_imul dX10_bidsBut_32 ?_
      refine aw_env [(0, .ref v0), (1, .int v1), (3, .int v3)] [0, 1, 3] rfl ?_
      exact L1_X10_bidsBut_33 N K4 hK4 v0 v1 v3 (10 * x4) v2 S h
    · refine aw_iconst 0 dX10_bidsBut_20 rfl ?_
      refine aw_goto 33 dX10_bidsBut_21 (by decide) ?_
      refine aw_env [(0, .ref v0), (1, .int v1), (3, .int v3)] [0, 1, 3] rfl ?_
      exact L1_X10_bidsBut_33 N K4 hK4 v0 v1 v3 0 v2 S h
theorem L1_X10_bidsBut_4 {g : AxG} {l : Launch} {r9 : Int32} {S9 : AxS} (N : Nat)  : ∀ (n : Nat) (v0 : Nat) (v1 : Int32) (v2 : Int32) (v3 : Int32) (S : AxS), F_X10_bidsBut_4 N  n v0 v1 v2 v3 S = some ((r9, S9)) → AW g l (axRm (0) 0 0) mt_X10_bidsBut (axMQ g 0 0 (.inl (some (.int r9)), S9)) 0 0 S 4 [(0, .ref v0), (1, .int v1), (2, .int v2), (3, .int v3)] [] := by
  intro n
  induction n with
  | zero => intro v0 v1 v2 v3 S h; cases h
  | succ n ih => intro v0 v1 v2 v3 S h; exact L1_X10_bidsBut_4b N (F_X10_bidsBut_4 N  n) ih v0 v1 v2 v3 S h
theorem L1_X10_bidsBut {g : AxG} {l : Launch} (N : Nat) {v0 : Nat} {v1 : Int32} {S : AxS} {r9 : Int32} {S9 : AxS} (h : F_X10_bidsBut N v0 v1 S = some ((r9, S9))) : AxMet g l yX10_bidsBut cX10_bidsBut 4 (some .int) (0) 0 0 [.ref v0, .int v1] S ((.inl (some (.int r9)), S9)) := by
  refine ax_met (own := RX10) (ini := false) (by decide +kernel) rfl (fun h => nomatch h) rfl ?_
  show AW g l (axRm (0) 0 0) mt_X10_bidsBut (axMQ g 0 0 (.inl (some (.int r9)), S9)) 0 0 S 0 [(0, .ref v0), (1, .int v1)] []
  unfold F_X10_bidsBut at h
  refine aw_iconst 0 dX10_bidsBut_0 rfl ?_
  refine aw_istore_n 2 [(2, .int 0), (0, .ref v0), (1, .int v1)] dX10_bidsBut_1 rfl rfl rfl ?_
  refine aw_iconst 0 dX10_bidsBut_2 rfl ?_
  refine aw_istore_n 3 [(3, .int 0), (2, .int 0), (0, .ref v0), (1, .int v1)] dX10_bidsBut_3 rfl rfl rfl ?_
  refine aw_env [(0, .ref v0), (1, .int v1), (2, .int 0), (3, .int 0)] [2, 3, 1, 0] rfl ?_
  exact L1_X10_bidsBut_4 N  N v0 v1 0 0 S h

theorem dX10_getsBy_0 : decode cX10_getsBy 0 = .ok (.aload_n 0, 1) := by decide +kernel
theorem dX10_getsBy_1 : decode cX10_getsBy 1 = .ok (.iload_n 1, 1) := by decide +kernel
theorem dX10_getsBy_2 : decode cX10_getsBy 2 = .ok (.invokevirtual 368, 3) := by decide +kernel
theorem dX10_getsBy_5 : decode cX10_getsBy 5 = .ok (.bipush 10, 2) := by decide +kernel
theorem dX10_getsBy_7 : decode cX10_getsBy 7 = .ok (.iload_n 2, 1) := by decide +kernel
theorem dX10_getsBy_8 : decode cX10_getsBy 8 = .ok (.imul, 1) := by decide +kernel
theorem dX10_getsBy_9 : decode cX10_getsBy 9 = .ok (.iadd, 1) := by decide +kernel
theorem dX10_getsBy_10 : decode cX10_getsBy 10 = .ok (.aload_n 0, 1) := by decide +kernel
theorem dX10_getsBy_11 : decode cX10_getsBy 11 = .ok (.getfield 61, 3) := by decide +kernel
theorem dX10_getsBy_14 : decode cX10_getsBy 14 = .ok (.iconst 0, 1) := by decide +kernel
theorem dX10_getsBy_15 : decode cX10_getsBy 15 = .ok (.iaload, 1) := by decide +kernel
theorem dX10_getsBy_16 : decode cX10_getsBy 16 = .ok (.if_icmp .le 7, 3) := by decide +kernel
theorem dX10_getsBy_19 : decode cX10_getsBy 19 = .ok (.iconst 0, 1) := by decide +kernel
theorem dX10_getsBy_20 : decode cX10_getsBy 20 = .ok (.goto 18, 3) := by decide +kernel
theorem dX10_getsBy_23 : decode cX10_getsBy 23 = .ok (.bipush 10, 2) := by decide +kernel
theorem dX10_getsBy_25 : decode cX10_getsBy 25 = .ok (.iload_n 2, 1) := by decide +kernel
theorem dX10_getsBy_26 : decode cX10_getsBy 26 = .ok (.imul, 1) := by decide +kernel
theorem dX10_getsBy_27 : decode cX10_getsBy 27 = .ok (.aload_n 0, 1) := by decide +kernel
theorem dX10_getsBy_28 : decode cX10_getsBy 28 = .ok (.getfield 37, 3) := by decide +kernel
theorem dX10_getsBy_31 : decode cX10_getsBy 31 = .ok (.iconst 3, 1) := by decide +kernel
theorem dX10_getsBy_32 : decode cX10_getsBy 32 = .ok (.aaload, 1) := by decide +kernel
theorem dX10_getsBy_33 : decode cX10_getsBy 33 = .ok (.iload_n 1, 1) := by decide +kernel
theorem dX10_getsBy_34 : decode cX10_getsBy 34 = .ok (.iaload, 1) := by decide +kernel
theorem dX10_getsBy_35 : decode cX10_getsBy 35 = .ok (.invokestatic 172, 3) := by decide +kernel
theorem dX10_getsBy_38 : decode cX10_getsBy 38 = .ok (.ireturn, 1) := by decide +kernel
abbrev mt_X10_getsBy : AxM := (RX10, cX10_getsBy, 3, (some .int), false, [])
theorem L1_X10_getsBy {g : AxG} {l : Launch} (N : Nat) {v0 : Nat} {v1 : Int32} {v2 : Int32} {S : AxS} {r9 : Int32} {S9 : AxS} (h : F_X10_getsBy N v0 v1 v2 S = some ((r9, S9))) : AxMet g l yX10_getsBy cX10_getsBy 3 (some .int) (1) 0 0 [.ref v0, .int v1, .int v2] S ((.inl (some (.int r9)), S9)) := by
  refine ax_met (own := RX10) (ini := false) (by decide +kernel) rfl (fun h => nomatch h) rfl ?_
  show AW g l (axRm (1) 0 0) mt_X10_getsBy (axMQ g 0 0 (.inl (some (.int r9)), S9)) 0 0 S 0 [(0, .ref v0), (1, .int v1), (2, .int v2)] []
  unfold F_X10_getsBy at h
  refine aw_aload_n 0 dX10_getsBy_0 rfl rfl ?_
  refine aw_iload_n 1 dX10_getsBy_1 rfl rfl ?_
  obtain ⟨hL1, h⟩ := ax_is_spec h
  refine aw_doneI (rest := []) h (fun r9 S9 hF => aw_runV (As := [.int v1]) (rest := []) (L1_X10_bidsBut N hF) axc10 hL1 wd_1790 wd_1787 wd_1789 wd_81 wd_97 pd_X10_bidsBut rfl (ax_rm (by omega) rfl) ax_hf0 (Nat.le_of_ble_eq_true rfl) rfl dX10_getsBy_2) (fun x3 T2 h => ?_)
  refine aw_bipush 10 dX10_getsBy_5 (by decide) ?_
  refine aw_iload_n 2 dX10_getsBy_7 rfl rfl ?_
  refine aw_imul dX10_getsBy_8 ?_
  refine aw_iadd dX10_getsBy_9 ?_
  refine aw_aload_n 0 dX10_getsBy_10 rfl rfl ?_
  refine aw_getR axc10 27 rfl rfl wd_1312 dX10_getsBy_11 h (fun a4 h => ?_)
  refine aw_iconst 0 dX10_getsBy_14 rfl ?_
  refine aw_iald dX10_getsBy_15 h (fun x5 h => ?_)
  refine aw_icmp_le 23 dX10_getsBy_16 (by decide) h (fun h => ?_) (fun h => ?_)
  · refine aw_bipush 10 dX10_getsBy_23 (by decide) ?_
    refine aw_iload_n 2 dX10_getsBy_25 rfl rfl ?_
    refine aw_imul dX10_getsBy_26 ?_
    refine aw_aload_n 0 dX10_getsBy_27 rfl rfl ?_
    refine aw_getR axc10 16 rfl rfl wd_1301 dX10_getsBy_28 h (fun a6 h => ?_)
    refine aw_iconst 3 dX10_getsBy_31 rfl ?_
    refine aw_aald dX10_getsBy_32 h (fun a7 h => ?_)
    refine aw_iload_n 1 dX10_getsBy_33 rfl rfl ?_
    refine aw_iald dX10_getsBy_34 h (fun x8 h => ?_)
    refine aw_doneI (rest := []) h (fun r9 S9 hF => aw_runS (As := [.int (10 * v2), .int x8]) (rest := []) (L1_X10_less N hF) wd_1500 wd_1498 wd_1499 wd_97 pd_X10_less.2 rfl (ax_rm (by omega) rfl) ax_hf0 (Nat.le_of_ble_eq_true rfl) rfl dX10_getsBy_35) (fun x10 T9 h => ?_)
    exact aw_iret dX10_getsBy_38 rfl (Nat.le_refl _) (Nat.le_refl _) h
  · refine aw_iconst 0 dX10_getsBy_19 rfl ?_
    refine aw_goto 38 dX10_getsBy_20 (by decide) ?_
    exact aw_iret dX10_getsBy_38 rfl (Nat.le_refl _) (Nat.le_refl _) h

theorem dX10_isRest_0 : decode cX10_isRest 0 = .ok (.iconst 0, 1) := by decide +kernel
theorem dX10_isRest_1 : decode cX10_isRest 1 = .ok (.istore_n 2, 1) := by decide +kernel
theorem dX10_isRest_2 : decode cX10_isRest 2 = .ok (.iload_n 2, 1) := by decide +kernel
theorem dX10_isRest_3 : decode cX10_isRest 3 = .ok (.aload_n 0, 1) := by decide +kernel
theorem dX10_isRest_4 : decode cX10_isRest 4 = .ok (.getfield 23, 3) := by decide +kernel
theorem dX10_isRest_7 : decode cX10_isRest 7 = .ok (.iconst 3, 1) := by decide +kernel
theorem dX10_isRest_8 : decode cX10_isRest 8 = .ok (.iaload, 1) := by decide +kernel
theorem dX10_isRest_9 : decode cX10_isRest 9 = .ok (.if_icmp .ge 44, 3) := by decide +kernel
theorem dX10_isRest_12 : decode cX10_isRest 12 = .ok (.iconst 0, 1) := by decide +kernel
theorem dX10_isRest_13 : decode cX10_isRest 13 = .ok (.istore_n 3, 1) := by decide +kernel
theorem dX10_isRest_14 : decode cX10_isRest 14 = .ok (.iload_n 3, 1) := by decide +kernel
theorem dX10_isRest_15 : decode cX10_isRest 15 = .ok (.iload_n 1, 1) := by decide +kernel
theorem dX10_isRest_16 : decode cX10_isRest 16 = .ok (.if_icmp .gt 31, 3) := by decide +kernel
theorem dX10_isRest_19 : decode cX10_isRest 19 = .ok (.aload_n 0, 1) := by decide +kernel
theorem dX10_isRest_20 : decode cX10_isRest 20 = .ok (.iload_n 2, 1) := by decide +kernel
theorem dX10_isRest_21 : decode cX10_isRest 21 = .ok (.iload_n 3, 1) := by decide +kernel
theorem dX10_isRest_22 : decode cX10_isRest 22 = .ok (.invokevirtual 371, 3) := by decide +kernel
theorem dX10_isRest_25 : decode cX10_isRest 25 = .ok (.aload_n 0, 1) := by decide +kernel
theorem dX10_isRest_26 : decode cX10_isRest 26 = .ok (.iload_n 2, 1) := by decide +kernel
theorem dX10_isRest_27 : decode cX10_isRest 27 = .ok (.aload_n 0, 1) := by decide +kernel
theorem dX10_isRest_28 : decode cX10_isRest 28 = .ok (.getfield 95, 3) := by decide +kernel
theorem dX10_isRest_31 : decode cX10_isRest 31 = .ok (.iload_n 2, 1) := by decide +kernel
theorem dX10_isRest_32 : decode cX10_isRest 32 = .ok (.iaload, 1) := by decide +kernel
theorem dX10_isRest_33 : decode cX10_isRest 33 = .ok (.invokevirtual 371, 3) := by decide +kernel
theorem dX10_isRest_36 : decode cX10_isRest 36 = .ok (.if_icmp .le 5, 3) := by decide +kernel
theorem dX10_isRest_39 : decode cX10_isRest 39 = .ok (.iconst 0, 1) := by decide +kernel
theorem dX10_isRest_40 : decode cX10_isRest 40 = .ok (.ireturn, 1) := by decide +kernel
theorem dX10_isRest_41 : decode cX10_isRest 41 = .ok (.iinc 3 1, 3) := by decide +kernel
theorem dX10_isRest_44 : decode cX10_isRest 44 = .ok (.goto (-30), 3) := by decide +kernel
theorem dX10_isRest_47 : decode cX10_isRest 47 = .ok (.iinc 2 1, 3) := by decide +kernel
theorem dX10_isRest_50 : decode cX10_isRest 50 = .ok (.goto (-48), 3) := by decide +kernel
theorem dX10_isRest_53 : decode cX10_isRest 53 = .ok (.iconst 1, 1) := by decide +kernel
theorem dX10_isRest_54 : decode cX10_isRest 54 = .ok (.ireturn, 1) := by decide +kernel
abbrev mt_X10_isRest : AxM := (RX10, cX10_isRest, 4, (some .boolean), false, [])
theorem L1_X10_isRest_14b {g : AxG} {l : Launch} {r9 : Int32} {S9 : AxS} (N : Nat) (K2 : Nat → Int32 → Int32 → AxS → Option (Int32 × AxS)) (hK2 : ∀ (v0 : Nat) (v1 : Int32) (v2 : Int32) (S : AxS), K2 v0 v1 v2 S = some ((r9, S9)) → AW g l (axRm (2) 0 0) mt_X10_isRest (axMQ g 0 0 (.inl (some (.int r9)), S9)) 0 0 S 2 [(0, .ref v0), (1, .int v1), (2, .int v2)] []) (K14 : Nat → Int32 → Int32 → Int32 → AxS → Option (Int32 × AxS)) (hK14 : ∀ (v0 : Nat) (v1 : Int32) (v2 : Int32) (v3 : Int32) (S : AxS), K14 v0 v1 v2 v3 S = some ((r9, S9)) → AW g l (axRm (2) 0 0) mt_X10_isRest (axMQ g 0 0 (.inl (some (.int r9)), S9)) 0 0 S 14 [(0, .ref v0), (1, .int v1), (2, .int v2), (3, .int v3)] []) (v0 : Nat) (v1 : Int32) (v2 : Int32) (v3 : Int32) (S : AxS) (h : F_X10_isRest_14b N K2 K14 v0 v1 v2 v3 S = some ((r9, S9))) : AW g l (axRm (2) 0 0) mt_X10_isRest (axMQ g 0 0 (.inl (some (.int r9)), S9)) 0 0 S 14 [(0, .ref v0), (1, .int v1), (2, .int v2), (3, .int v3)] [] := by
  unfold F_X10_isRest_14b at h
  refine aw_iload_n 3 dX10_isRest_14 rfl rfl ?_
  refine aw_iload_n 1 dX10_isRest_15 rfl rfl ?_
  refine aw_icmp_gt 47 dX10_isRest_16 (by decide) h (fun h => ?_) (fun h => ?_)
  · refine aw_iinc 2 [(2, .int (v2 + 1)), (0, .ref v0), (1, .int v1), (3, .int v3)] (v2 + 1) dX10_isRest_47 rfl rfl rfl rfl ?_
    refine aw_goto 2 dX10_isRest_50 (by decide) ?_
    refine aw_env [(0, .ref v0), (1, .int v1), (2, .int (v2 + 1))] [1, 2, 0] rfl ?_
    exact hK2 v0 v1 (v2 + 1) S h
  · refine aw_aload_n 0 dX10_isRest_19 rfl rfl ?_
    refine aw_iload_n 2 dX10_isRest_20 rfl rfl ?_
    refine aw_iload_n 3 dX10_isRest_21 rfl rfl ?_
    obtain ⟨hL1, h⟩ := ax_is_spec h
    refine aw_doneI (rest := []) h (fun r9 S9 hF => aw_runV (As := [.int v2, .int v3]) (rest := []) (L1_X10_getsBy N hF) axc10 hL1 wd_1786 wd_1783 wd_1785 wd_80 wd_97 pd_X10_getsBy rfl (ax_rm (by omega) rfl) ax_hf0 (Nat.le_of_ble_eq_true rfl) rfl dX10_isRest_22) (fun x3 T2 h => ?_)
    refine aw_aload_n 0 dX10_isRest_25 rfl rfl ?_
    refine aw_iload_n 2 dX10_isRest_26 rfl rfl ?_
    refine aw_aload_n 0 dX10_isRest_27 rfl rfl ?_
    refine aw_getR axc10 46 rfl rfl wd_1331 dX10_isRest_28 h (fun a4 h => ?_)
    refine aw_iload_n 2 dX10_isRest_31 rfl rfl ?_
    refine aw_iald dX10_isRest_32 h (fun x5 h => ?_)
    obtain ⟨hL6, h⟩ := ax_is_spec h
    refine aw_doneI (rest := [.int x3]) h (fun r9 S9 hF => aw_runV (As := [.int v2, .int x5]) (rest := [.int x3]) (L1_X10_getsBy N hF) axc10 hL6 wd_1786 wd_1783 wd_1785 wd_80 wd_97 pd_X10_getsBy rfl (ax_rm (by omega) rfl) ax_hf0 (Nat.le_of_ble_eq_true rfl) rfl dX10_isRest_33) (fun x8 T7 h => ?_)
    refine aw_icmp_le 41 dX10_isRest_36 (by decide) h (fun h => ?_) (fun h => ?_)
    · refine aw_iinc 3 [(3, .int (v3 + 1)), (0, .ref v0), (1, .int v1), (2, .int v2)] (v3 + 1) dX10_isRest_41 rfl rfl rfl rfl ?_
      refine aw_goto 14 dX10_isRest_44 (by decide) ?_
      refine aw_env [(0, .ref v0), (1, .int v1), (2, .int v2), (3, .int (v3 + 1))] [1, 2, 3, 0] rfl ?_
      exact hK14 v0 v1 v2 (v3 + 1) T7 h
    · refine aw_iconst 0 dX10_isRest_39 rfl ?_
      exact aw_zret dX10_isRest_40 rfl (Nat.le_refl _) (Nat.le_refl _) h
theorem L1_X10_isRest_14 {g : AxG} {l : Launch} {r9 : Int32} {S9 : AxS} (N : Nat) (K2 : Nat → Int32 → Int32 → AxS → Option (Int32 × AxS)) (hK2 : ∀ (v0 : Nat) (v1 : Int32) (v2 : Int32) (S : AxS), K2 v0 v1 v2 S = some ((r9, S9)) → AW g l (axRm (2) 0 0) mt_X10_isRest (axMQ g 0 0 (.inl (some (.int r9)), S9)) 0 0 S 2 [(0, .ref v0), (1, .int v1), (2, .int v2)] []) : ∀ (n : Nat) (v0 : Nat) (v1 : Int32) (v2 : Int32) (v3 : Int32) (S : AxS), F_X10_isRest_14 N K2 n v0 v1 v2 v3 S = some ((r9, S9)) → AW g l (axRm (2) 0 0) mt_X10_isRest (axMQ g 0 0 (.inl (some (.int r9)), S9)) 0 0 S 14 [(0, .ref v0), (1, .int v1), (2, .int v2), (3, .int v3)] [] := by
  intro n
  induction n with
  | zero => intro v0 v1 v2 v3 S h; cases h
  | succ n ih => intro v0 v1 v2 v3 S h; exact L1_X10_isRest_14b N K2 hK2 (F_X10_isRest_14 N K2 n) ih v0 v1 v2 v3 S h
theorem L1_X10_isRest_2b {g : AxG} {l : Launch} {r9 : Int32} {S9 : AxS} (N : Nat) (K2 : Nat → Int32 → Int32 → AxS → Option (Int32 × AxS)) (hK2 : ∀ (v0 : Nat) (v1 : Int32) (v2 : Int32) (S : AxS), K2 v0 v1 v2 S = some ((r9, S9)) → AW g l (axRm (2) 0 0) mt_X10_isRest (axMQ g 0 0 (.inl (some (.int r9)), S9)) 0 0 S 2 [(0, .ref v0), (1, .int v1), (2, .int v2)] []) (v0 : Nat) (v1 : Int32) (v2 : Int32) (S : AxS) (h : F_X10_isRest_2b N K2 v0 v1 v2 S = some ((r9, S9))) : AW g l (axRm (2) 0 0) mt_X10_isRest (axMQ g 0 0 (.inl (some (.int r9)), S9)) 0 0 S 2 [(0, .ref v0), (1, .int v1), (2, .int v2)] [] := by
  unfold F_X10_isRest_2b at h
  refine aw_iload_n 2 dX10_isRest_2 rfl rfl ?_
  refine aw_aload_n 0 dX10_isRest_3 rfl rfl ?_
  refine aw_getR axc10 12 rfl rfl wd_1297 dX10_isRest_4 h (fun a1 h => ?_)
  refine aw_iconst 3 dX10_isRest_7 rfl ?_
  refine aw_iald dX10_isRest_8 h (fun x2 h => ?_)
  refine aw_icmp_ge 53 dX10_isRest_9 (by decide) h (fun h => ?_) (fun h => ?_)
  · refine aw_iconst 1 dX10_isRest_53 rfl ?_
    exact aw_zret dX10_isRest_54 rfl (Nat.le_refl _) (Nat.le_refl _) h
  · refine aw_iconst 0 dX10_isRest_12 rfl ?_
    refine aw_istore_n 3 [(3, .int 0), (0, .ref v0), (1, .int v1), (2, .int v2)] dX10_isRest_13 rfl rfl rfl ?_
    refine aw_env [(0, .ref v0), (1, .int v1), (2, .int v2), (3, .int 0)] [1, 2, 3, 0] rfl ?_
    exact L1_X10_isRest_14 N K2 hK2 N v0 v1 v2 0 S h
theorem L1_X10_isRest_2 {g : AxG} {l : Launch} {r9 : Int32} {S9 : AxS} (N : Nat)  : ∀ (n : Nat) (v0 : Nat) (v1 : Int32) (v2 : Int32) (S : AxS), F_X10_isRest_2 N  n v0 v1 v2 S = some ((r9, S9)) → AW g l (axRm (2) 0 0) mt_X10_isRest (axMQ g 0 0 (.inl (some (.int r9)), S9)) 0 0 S 2 [(0, .ref v0), (1, .int v1), (2, .int v2)] [] := by
  intro n
  induction n with
  | zero => intro v0 v1 v2 S h; cases h
  | succ n ih => intro v0 v1 v2 S h; exact L1_X10_isRest_2b N (F_X10_isRest_2 N  n) ih v0 v1 v2 S h
theorem L1_X10_isRest {g : AxG} {l : Launch} (N : Nat) {v0 : Nat} {v1 : Int32} {S : AxS} {r9 : Int32} {S9 : AxS} (h : F_X10_isRest N v0 v1 S = some ((r9, S9))) : AxMet g l yX10_isRest cX10_isRest 4 (some .boolean) (2) 0 0 [.ref v0, .int v1] S ((.inl (some (.int r9)), S9)) := by
  refine ax_met (own := RX10) (ini := false) (by decide +kernel) rfl (fun h => nomatch h) rfl ?_
  show AW g l (axRm (2) 0 0) mt_X10_isRest (axMQ g 0 0 (.inl (some (.int r9)), S9)) 0 0 S 0 [(0, .ref v0), (1, .int v1)] []
  unfold F_X10_isRest at h
  refine aw_iconst 0 dX10_isRest_0 rfl ?_
  refine aw_istore_n 2 [(2, .int 0), (0, .ref v0), (1, .int v1)] dX10_isRest_1 rfl rfl rfl ?_
  refine aw_env [(0, .ref v0), (1, .int v1), (2, .int 0)] [1, 2, 0] rfl ?_
  exact L1_X10_isRest_2 N  N v0 v1 0 S h
