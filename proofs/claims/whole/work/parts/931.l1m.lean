theorem dX10_knownHere_0 : decode cX10_knownHere 0 = .ok (.aload_n 0, 1) := by decide +kernel
theorem dX10_knownHere_1 : decode cX10_knownHere 1 = .ok (.iconst 1, 1) := by decide +kernel
theorem dX10_knownHere_2 : decode cX10_knownHere 2 = .ok (.bipush 19, 2) := by decide +kernel
theorem dX10_knownHere_4 : decode cX10_knownHere 4 = .ok (.bipush 11, 2) := by decide +kernel
theorem dX10_knownHere_6 : decode cX10_knownHere 6 = .ok (.bipush 19, 2) := by decide +kernel
theorem dX10_knownHere_8 : decode cX10_knownHere 8 = .ok (.iconst 0, 1) := by decide +kernel
theorem dX10_knownHere_9 : decode cX10_knownHere 9 = .ok (.iconst 0, 1) := by decide +kernel
theorem dX10_knownHere_10 : decode cX10_knownHere 10 = .ok (.iconst 0, 1) := by decide +kernel
theorem dX10_knownHere_11 : decode cX10_knownHere 11 = .ok (.invokevirtual 244, 3) := by decide +kernel
theorem dX10_knownHere_14 : decode cX10_knownHere 14 = .ok (.ifCond .eq 5, 3) := by decide +kernel
theorem dX10_knownHere_17 : decode cX10_knownHere 17 = .ok (.iconst 0, 1) := by decide +kernel
theorem dX10_knownHere_18 : decode cX10_knownHere 18 = .ok (.ireturn, 1) := by decide +kernel
theorem dX10_knownHere_19 : decode cX10_knownHere 19 = .ok (.aload_n 0, 1) := by decide +kernel
theorem dX10_knownHere_20 : decode cX10_knownHere 20 = .ok (.bipush 16, 2) := by decide +kernel
theorem dX10_knownHere_22 : decode cX10_knownHere 22 = .ok (.iconst 1, 1) := by decide +kernel
theorem dX10_knownHere_23 : decode cX10_knownHere 23 = .ok (.bipush 9, 2) := by decide +kernel
theorem dX10_knownHere_25 : decode cX10_knownHere 25 = .ok (.iconst 4, 1) := by decide +kernel
theorem dX10_knownHere_26 : decode cX10_knownHere 26 = .ok (.iconst 0, 1) := by decide +kernel
theorem dX10_knownHere_27 : decode cX10_knownHere 27 = .ok (.iconst 0, 1) := by decide +kernel
theorem dX10_knownHere_28 : decode cX10_knownHere 28 = .ok (.iconst 0, 1) := by decide +kernel
theorem dX10_knownHere_29 : decode cX10_knownHere 29 = .ok (.invokevirtual 244, 3) := by decide +kernel
theorem dX10_knownHere_32 : decode cX10_knownHere 32 = .ok (.ifCond .eq 5, 3) := by decide +kernel
theorem dX10_knownHere_35 : decode cX10_knownHere 35 = .ok (.iconst 1, 1) := by decide +kernel
theorem dX10_knownHere_36 : decode cX10_knownHere 36 = .ok (.ireturn, 1) := by decide +kernel
theorem dX10_knownHere_37 : decode cX10_knownHere 37 = .ok (.aload_n 0, 1) := by decide +kernel
theorem dX10_knownHere_38 : decode cX10_knownHere 38 = .ok (.bipush 14, 2) := by decide +kernel
theorem dX10_knownHere_40 : decode cX10_knownHere 40 = .ok (.bipush 9, 2) := by decide +kernel
theorem dX10_knownHere_42 : decode cX10_knownHere 42 = .ok (.bipush 7, 2) := by decide +kernel
theorem dX10_knownHere_44 : decode cX10_knownHere 44 = .ok (.bipush 8, 2) := by decide +kernel
theorem dX10_knownHere_46 : decode cX10_knownHere 46 = .ok (.bipush 20, 2) := by decide +kernel
theorem dX10_knownHere_48 : decode cX10_knownHere 48 = .ok (.iconst 0, 1) := by decide +kernel
theorem dX10_knownHere_49 : decode cX10_knownHere 49 = .ok (.iconst 0, 1) := by decide +kernel
theorem dX10_knownHere_50 : decode cX10_knownHere 50 = .ok (.invokevirtual 244, 3) := by decide +kernel
theorem dX10_knownHere_53 : decode cX10_knownHere 53 = .ok (.ifCond .eq 5, 3) := by decide +kernel
theorem dX10_knownHere_56 : decode cX10_knownHere 56 = .ok (.iconst 2, 1) := by decide +kernel
theorem dX10_knownHere_57 : decode cX10_knownHere 57 = .ok (.ireturn, 1) := by decide +kernel
theorem dX10_knownHere_58 : decode cX10_knownHere 58 = .ok (.aload_n 0, 1) := by decide +kernel
theorem dX10_knownHere_59 : decode cX10_knownHere 59 = .ok (.bipush 17, 2) := by decide +kernel
theorem dX10_knownHere_61 : decode cX10_knownHere 61 = .ok (.bipush 21, 2) := by decide +kernel
theorem dX10_knownHere_63 : decode cX10_knownHere 63 = .ok (.bipush 9, 2) := by decide +kernel
theorem dX10_knownHere_65 : decode cX10_knownHere 65 = .ok (.iconst 5, 1) := by decide +kernel
theorem dX10_knownHere_66 : decode cX10_knownHere 66 = .ok (.bipush 20, 2) := by decide +kernel
theorem dX10_knownHere_68 : decode cX10_knownHere 68 = .ok (.iconst 0, 1) := by decide +kernel
theorem dX10_knownHere_69 : decode cX10_knownHere 69 = .ok (.iconst 0, 1) := by decide +kernel
theorem dX10_knownHere_70 : decode cX10_knownHere 70 = .ok (.invokevirtual 244, 3) := by decide +kernel
theorem dX10_knownHere_73 : decode cX10_knownHere 73 = .ok (.ifCond .eq 5, 3) := by decide +kernel
theorem dX10_knownHere_76 : decode cX10_knownHere 76 = .ok (.iconst 3, 1) := by decide +kernel
theorem dX10_knownHere_77 : decode cX10_knownHere 77 = .ok (.ireturn, 1) := by decide +kernel
theorem dX10_knownHere_78 : decode cX10_knownHere 78 = .ok (.aload_n 0, 1) := by decide +kernel
theorem dX10_knownHere_79 : decode cX10_knownHere 79 = .ok (.bipush 23, 2) := by decide +kernel
theorem dX10_knownHere_81 : decode cX10_knownHere 81 = .ok (.iconst 1, 1) := by decide +kernel
theorem dX10_knownHere_82 : decode cX10_knownHere 82 = .ok (.bipush 24, 2) := by decide +kernel
theorem dX10_knownHere_84 : decode cX10_knownHere 84 = .ok (.iconst 0, 1) := by decide +kernel
theorem dX10_knownHere_85 : decode cX10_knownHere 85 = .ok (.iconst 0, 1) := by decide +kernel
theorem dX10_knownHere_86 : decode cX10_knownHere 86 = .ok (.iconst 0, 1) := by decide +kernel
theorem dX10_knownHere_87 : decode cX10_knownHere 87 = .ok (.iconst 0, 1) := by decide +kernel
theorem dX10_knownHere_88 : decode cX10_knownHere 88 = .ok (.invokevirtual 244, 3) := by decide +kernel
theorem dX10_knownHere_91 : decode cX10_knownHere 91 = .ok (.ifCond .eq 5, 3) := by decide +kernel
theorem dX10_knownHere_94 : decode cX10_knownHere 94 = .ok (.iconst 4, 1) := by decide +kernel
theorem dX10_knownHere_95 : decode cX10_knownHere 95 = .ok (.ireturn, 1) := by decide +kernel
theorem dX10_knownHere_96 : decode cX10_knownHere 96 = .ok (.aload_n 0, 1) := by decide +kernel
theorem dX10_knownHere_97 : decode cX10_knownHere 97 = .ok (.bipush 19, 2) := by decide +kernel
theorem dX10_knownHere_99 : decode cX10_knownHere 99 = .ok (.bipush 20, 2) := by decide +kernel
theorem dX10_knownHere_101 : decode cX10_knownHere 101 = .ok (.bipush 15, 2) := by decide +kernel
theorem dX10_knownHere_103 : decode cX10_knownHere 103 = .ok (.bipush 18, 2) := by decide +kernel
theorem dX10_knownHere_105 : decode cX10_knownHere 105 = .ok (.bipush 13, 2) := by decide +kernel
theorem dX10_knownHere_107 : decode cX10_knownHere 107 = .ok (.iconst 0, 1) := by decide +kernel
theorem dX10_knownHere_108 : decode cX10_knownHere 108 = .ok (.iconst 0, 1) := by decide +kernel
theorem dX10_knownHere_109 : decode cX10_knownHere 109 = .ok (.invokevirtual 244, 3) := by decide +kernel
theorem dX10_knownHere_112 : decode cX10_knownHere 112 = .ok (.ifCond .eq 5, 3) := by decide +kernel
theorem dX10_knownHere_115 : decode cX10_knownHere 115 = .ok (.iconst 5, 1) := by decide +kernel
theorem dX10_knownHere_116 : decode cX10_knownHere 116 = .ok (.ireturn, 1) := by decide +kernel
theorem dX10_knownHere_117 : decode cX10_knownHere 117 = .ok (.aload_n 0, 1) := by decide +kernel
theorem dX10_knownHere_118 : decode cX10_knownHere 118 = .ok (.iconst 3, 1) := by decide +kernel
theorem dX10_knownHere_119 : decode cX10_knownHere 119 = .ok (.bipush 8, 2) := by decide +kernel
theorem dX10_knownHere_121 : decode cX10_knownHere 121 = .ok (.iconst 5, 1) := by decide +kernel
theorem dX10_knownHere_122 : decode cX10_knownHere 122 = .ok (.bipush 19, 2) := by decide +kernel
theorem dX10_knownHere_124 : decode cX10_knownHere 124 = .ok (.bipush 20, 2) := by decide +kernel
theorem dX10_knownHere_126 : decode cX10_knownHere 126 = .ok (.iconst 0, 1) := by decide +kernel
theorem dX10_knownHere_127 : decode cX10_knownHere 127 = .ok (.iconst 0, 1) := by decide +kernel
theorem dX10_knownHere_128 : decode cX10_knownHere 128 = .ok (.invokevirtual 244, 3) := by decide +kernel
theorem dX10_knownHere_131 : decode cX10_knownHere 131 = .ok (.ifCond .eq 8, 3) := by decide +kernel
theorem dX10_knownHere_134 : decode cX10_knownHere 134 = .ok (.bipush 6, 2) := by decide +kernel
theorem dX10_knownHere_136 : decode cX10_knownHere 136 = .ok (.goto 4, 3) := by decide +kernel
theorem dX10_knownHere_139 : decode cX10_knownHere 139 = .ok (.iconst (-1), 1) := by decide +kernel
theorem dX10_knownHere_140 : decode cX10_knownHere 140 = .ok (.ireturn, 1) := by decide +kernel
abbrev mt_X10_knownHere : AxM := (RX10, cX10_knownHere, 1, (some .int), false, [])
theorem L1_X10_knownHere {g : AxG} {l : Launch} (N : Nat) {v0 : Nat} {S : AxS} {r9 : Int32} {S9 : AxS} (h : F_X10_knownHere N v0 S = some ((r9, S9))) : AxMet g l yX10_knownHere cX10_knownHere 1 (some .int) (5) 0 0 [.ref v0] S ((.inl (some (.int r9)), S9)) := by
  refine ax_met (own := RX10) (ini := false) (by decide +kernel) rfl (fun h => nomatch h) rfl ?_
  show AW g l (axRm (5) 0 0) mt_X10_knownHere (axMQ g 0 0 (.inl (some (.int r9)), S9)) 0 0 S 0 [(0, .ref v0)] []
  unfold F_X10_knownHere at h
  refine aw_aload_n 0 dX10_knownHere_0 rfl rfl ?_
  refine aw_iconst 1 dX10_knownHere_1 rfl ?_
  refine aw_bipush 19 dX10_knownHere_2 (by decide) ?_
  refine aw_bipush 11 dX10_knownHere_4 (by decide) ?_
  refine aw_bipush 19 dX10_knownHere_6 (by decide) ?_
  refine aw_iconst 0 dX10_knownHere_8 rfl ?_
  refine aw_iconst 0 dX10_knownHere_9 rfl ?_
  refine aw_iconst 0 dX10_knownHere_10 rfl ?_
  obtain ⟨hL1, h⟩ := ax_is_spec h
  refine aw_doneI (rest := []) h (fun r9 S9 hF => aw_runV (As := [.int 1, .int 19, .int 11, .int 19, .int 0, .int 0, .int 0]) (rest := []) (L1_X10_takes N hF) axc10 hL1 wd_1555 wd_1552 wd_1554 wd_58 wd_97 pd_X10_takes rfl (ax_rm (by omega) rfl) ax_hf0 (Nat.le_of_ble_eq_true rfl) rfl dX10_knownHere_11) (fun x3 T2 h => ?_)
  refine aw_if_eq 19 dX10_knownHere_14 (by decide) h (fun h => ?_) (fun h => ?_)
  · refine aw_aload_n 0 dX10_knownHere_19 rfl rfl ?_
    refine aw_bipush 16 dX10_knownHere_20 (by decide) ?_
    refine aw_iconst 1 dX10_knownHere_22 rfl ?_
    refine aw_bipush 9 dX10_knownHere_23 (by decide) ?_
    refine aw_iconst 4 dX10_knownHere_25 rfl ?_
    refine aw_iconst 0 dX10_knownHere_26 rfl ?_
    refine aw_iconst 0 dX10_knownHere_27 rfl ?_
    refine aw_iconst 0 dX10_knownHere_28 rfl ?_
    obtain ⟨hL4, h⟩ := ax_is_spec h
    refine aw_doneI (rest := []) h (fun r9 S9 hF => aw_runV (As := [.int 16, .int 1, .int 9, .int 4, .int 0, .int 0, .int 0]) (rest := []) (L1_X10_takes N hF) axc10 hL4 wd_1555 wd_1552 wd_1554 wd_58 wd_97 pd_X10_takes rfl (ax_rm (by omega) rfl) ax_hf0 (Nat.le_of_ble_eq_true rfl) rfl dX10_knownHere_29) (fun x6 T5 h => ?_)
    refine aw_if_eq 37 dX10_knownHere_32 (by decide) h (fun h => ?_) (fun h => ?_)
    · refine aw_aload_n 0 dX10_knownHere_37 rfl rfl ?_
      refine aw_bipush 14 dX10_knownHere_38 (by decide) ?_
      refine aw_bipush 9 dX10_knownHere_40 (by decide) ?_
      refine aw_bipush 7 dX10_knownHere_42 (by decide) ?_
      refine aw_bipush 8 dX10_knownHere_44 (by decide) ?_
      refine aw_bipush 20 dX10_knownHere_46 (by decide) ?_
      refine aw_iconst 0 dX10_knownHere_48 rfl ?_
      refine aw_iconst 0 dX10_knownHere_49 rfl ?_
      obtain ⟨hL7, h⟩ := ax_is_spec h
      refine aw_doneI (rest := []) h (fun r9 S9 hF => aw_runV (As := [.int 14, .int 9, .int 7, .int 8, .int 20, .int 0, .int 0]) (rest := []) (L1_X10_takes N hF) axc10 hL7 wd_1555 wd_1552 wd_1554 wd_58 wd_97 pd_X10_takes rfl (ax_rm (by omega) rfl) ax_hf0 (Nat.le_of_ble_eq_true rfl) rfl dX10_knownHere_50) (fun x9 T8 h => ?_)
      refine aw_if_eq 58 dX10_knownHere_53 (by decide) h (fun h => ?_) (fun h => ?_)
      · refine aw_aload_n 0 dX10_knownHere_58 rfl rfl ?_
        refine aw_bipush 17 dX10_knownHere_59 (by decide) ?_
        refine aw_bipush 21 dX10_knownHere_61 (by decide) ?_
        refine aw_bipush 9 dX10_knownHere_63 (by decide) ?_
        refine aw_iconst 5 dX10_knownHere_65 rfl ?_
        refine aw_bipush 20 dX10_knownHere_66 (by decide) ?_
        refine aw_iconst 0 dX10_knownHere_68 rfl ?_
        refine aw_iconst 0 dX10_knownHere_69 rfl ?_
        obtain ⟨hL10, h⟩ := ax_is_spec h
        refine aw_doneI (rest := []) h (fun r9 S9 hF => aw_runV (As := [.int 17, .int 21, .int 9, .int 5, .int 20, .int 0, .int 0]) (rest := []) (L1_X10_takes N hF) axc10 hL10 wd_1555 wd_1552 wd_1554 wd_58 wd_97 pd_X10_takes rfl (ax_rm (by omega) rfl) ax_hf0 (Nat.le_of_ble_eq_true rfl) rfl dX10_knownHere_70) (fun x12 T11 h => ?_)
        refine aw_if_eq 78 dX10_knownHere_73 (by decide) h (fun h => ?_) (fun h => ?_)
        · refine aw_aload_n 0 dX10_knownHere_78 rfl rfl ?_
          refine aw_bipush 23 dX10_knownHere_79 (by decide) ?_
          refine aw_iconst 1 dX10_knownHere_81 rfl ?_
          refine aw_bipush 24 dX10_knownHere_82 (by decide) ?_
          refine aw_iconst 0 dX10_knownHere_84 rfl ?_
          refine aw_iconst 0 dX10_knownHere_85 rfl ?_
          refine aw_iconst 0 dX10_knownHere_86 rfl ?_
          refine aw_iconst 0 dX10_knownHere_87 rfl ?_
          obtain ⟨hL13, h⟩ := ax_is_spec h
          refine aw_doneI (rest := []) h (fun r9 S9 hF => aw_runV (As := [.int 23, .int 1, .int 24, .int 0, .int 0, .int 0, .int 0]) (rest := []) (L1_X10_takes N hF) axc10 hL13 wd_1555 wd_1552 wd_1554 wd_58 wd_97 pd_X10_takes rfl (ax_rm (by omega) rfl) ax_hf0 (Nat.le_of_ble_eq_true rfl) rfl dX10_knownHere_88) (fun x15 T14 h => ?_)
          refine aw_if_eq 96 dX10_knownHere_91 (by decide) h (fun h => ?_) (fun h => ?_)
          · refine aw_aload_n 0 dX10_knownHere_96 rfl rfl ?_
            refine aw_bipush 19 dX10_knownHere_97 (by decide) ?_
            refine aw_bipush 20 dX10_knownHere_99 (by decide) ?_
            refine aw_bipush 15 dX10_knownHere_101 (by decide) ?_
            refine aw_bipush 18 dX10_knownHere_103 (by decide) ?_
            refine aw_bipush 13 dX10_knownHere_105 (by decide) ?_
            refine aw_iconst 0 dX10_knownHere_107 rfl ?_
            refine aw_iconst 0 dX10_knownHere_108 rfl ?_
            obtain ⟨hL16, h⟩ := ax_is_spec h
            refine aw_doneI (rest := []) h (fun r9 S9 hF => aw_runV (As := [.int 19, .int 20, .int 15, .int 18, .int 13, .int 0, .int 0]) (rest := []) (L1_X10_takes N hF) axc10 hL16 wd_1555 wd_1552 wd_1554 wd_58 wd_97 pd_X10_takes rfl (ax_rm (by omega) rfl) ax_hf0 (Nat.le_of_ble_eq_true rfl) rfl dX10_knownHere_109) (fun x18 T17 h => ?_)
            refine aw_if_eq 117 dX10_knownHere_112 (by decide) h (fun h => ?_) (fun h => ?_)
            · refine aw_aload_n 0 dX10_knownHere_117 rfl rfl ?_
              refine aw_iconst 3 dX10_knownHere_118 rfl ?_
              refine aw_bipush 8 dX10_knownHere_119 (by decide) ?_
              refine aw_iconst 5 dX10_knownHere_121 rfl ?_
              refine aw_bipush 19 dX10_knownHere_122 (by decide) ?_
              refine aw_bipush 20 dX10_knownHere_124 (by decide) ?_
              refine aw_iconst 0 dX10_knownHere_126 rfl ?_
              refine aw_iconst 0 dX10_knownHere_127 rfl ?_
              obtain ⟨hL19, h⟩ := ax_is_spec h
              refine aw_doneI (rest := []) h (fun r9 S9 hF => aw_runV (As := [.int 3, .int 8, .int 5, .int 19, .int 20, .int 0, .int 0]) (rest := []) (L1_X10_takes N hF) axc10 hL19 wd_1555 wd_1552 wd_1554 wd_58 wd_97 pd_X10_takes rfl (ax_rm (by omega) rfl) ax_hf0 (Nat.le_of_ble_eq_true rfl) rfl dX10_knownHere_128) (fun x21 T20 h => ?_)
              refine aw_if_eq 139 dX10_knownHere_131 (by decide) h (fun h => ?_) (fun h => ?_)
              · refine aw_iconst (-1) dX10_knownHere_139 rfl ?_
                exact aw_iret dX10_knownHere_140 rfl (Nat.le_refl _) (Nat.le_refl _) h
              · refine aw_bipush 6 dX10_knownHere_134 (by decide) ?_
                refine aw_goto 140 dX10_knownHere_136 (by decide) ?_
                exact aw_iret dX10_knownHere_140 rfl (Nat.le_refl _) (Nat.le_refl _) h
            · refine aw_iconst 5 dX10_knownHere_115 rfl ?_
              exact aw_iret dX10_knownHere_116 rfl (Nat.le_refl _) (Nat.le_refl _) h
          · refine aw_iconst 4 dX10_knownHere_94 rfl ?_
            exact aw_iret dX10_knownHere_95 rfl (Nat.le_refl _) (Nat.le_refl _) h
        · refine aw_iconst 3 dX10_knownHere_76 rfl ?_
          exact aw_iret dX10_knownHere_77 rfl (Nat.le_refl _) (Nat.le_refl _) h
      · refine aw_iconst 2 dX10_knownHere_56 rfl ?_
        exact aw_iret dX10_knownHere_57 rfl (Nat.le_refl _) (Nat.le_refl _) h
    · refine aw_iconst 1 dX10_knownHere_35 rfl ?_
      exact aw_iret dX10_knownHere_36 rfl (Nat.le_refl _) (Nat.le_refl _) h
  · refine aw_iconst 0 dX10_knownHere_17 rfl ?_
    exact aw_iret dX10_knownHere_18 rfl (Nat.le_refl _) (Nat.le_refl _) h

theorem dX10_one_0 : decode cX10_one 0 = .ok (.aload_n 0, 1) := by decide +kernel
theorem dX10_one_1 : decode cX10_one 1 = .ok (.getfield 120, 3) := by decide +kernel
theorem dX10_one_4 : decode cX10_one 4 = .ok (.ifCond .eq 4, 3) := by decide +kernel
theorem dX10_one_7 : decode cX10_one 7 = .ok (.return_, 1) := by decide +kernel
theorem dX10_one_8 : decode cX10_one 8 = .ok (.aload_n 0, 1) := by decide +kernel
theorem dX10_one_9 : decode cX10_one 9 = .ok (.invokevirtual 126, 3) := by decide +kernel
theorem dX10_one_12 : decode cX10_one 12 = .ok (.aload_n 0, 1) := by decide +kernel
theorem dX10_one_13 : decode cX10_one 13 = .ok (.bipush 12, 2) := by decide +kernel
theorem dX10_one_15 : decode cX10_one 15 = .ok (.iconst 5, 1) := by decide +kernel
theorem dX10_one_16 : decode cX10_one 16 = .ok (.iconst 1, 1) := by decide +kernel
theorem dX10_one_17 : decode cX10_one 17 = .ok (.bipush 19, 2) := by decide +kernel
theorem dX10_one_19 : decode cX10_one 19 = .ok (.bipush 20, 2) := by decide +kernel
theorem dX10_one_21 : decode cX10_one 21 = .ok (.iconst 0, 1) := by decide +kernel
theorem dX10_one_22 : decode cX10_one 22 = .ok (.iconst 0, 1) := by decide +kernel
theorem dX10_one_23 : decode cX10_one 23 = .ok (.invokevirtual 159, 3) := by decide +kernel
theorem dX10_one_26 : decode cX10_one 26 = .ok (.ifCond .eq 8, 3) := by decide +kernel
theorem dX10_one_29 : decode cX10_one 29 = .ok (.bipush 7, 2) := by decide +kernel
theorem dX10_one_31 : decode cX10_one 31 = .ok (.goto 27, 3) := by decide +kernel
theorem dX10_one_34 : decode cX10_one 34 = .ok (.aload_n 0, 1) := by decide +kernel
theorem dX10_one_35 : decode cX10_one 35 = .ok (.bipush 13, 2) := by decide +kernel
theorem dX10_one_37 : decode cX10_one 37 = .ok (.bipush 15, 2) := by decide +kernel
theorem dX10_one_39 : decode cX10_one 39 = .ok (.bipush 19, 2) := by decide +kernel
theorem dX10_one_41 : decode cX10_one 41 = .ok (.bipush 20, 2) := by decide +kernel
theorem dX10_one_43 : decode cX10_one 43 = .ok (.iconst 0, 1) := by decide +kernel
theorem dX10_one_44 : decode cX10_one 44 = .ok (.iconst 0, 1) := by decide +kernel
theorem dX10_one_45 : decode cX10_one 45 = .ok (.iconst 0, 1) := by decide +kernel
theorem dX10_one_46 : decode cX10_one 46 = .ok (.invokevirtual 159, 3) := by decide +kernel
theorem dX10_one_49 : decode cX10_one 49 = .ok (.ifCond .eq 8, 3) := by decide +kernel
theorem dX10_one_52 : decode cX10_one 52 = .ok (.bipush 8, 2) := by decide +kernel
theorem dX10_one_54 : decode cX10_one 54 = .ok (.goto 4, 3) := by decide +kernel
theorem dX10_one_57 : decode cX10_one 57 = .ok (.iconst (-1), 1) := by decide +kernel
theorem dX10_one_58 : decode cX10_one 58 = .ok (.istore_n 1, 1) := by decide +kernel
theorem dX10_one_59 : decode cX10_one 59 = .ok (.iload_n 1, 1) := by decide +kernel
theorem dX10_one_60 : decode cX10_one 60 = .ok (.iconst (-1), 1) := by decide +kernel
theorem dX10_one_61 : decode cX10_one 61 = .ok (.if_icmp .eq 58, 3) := by decide +kernel
theorem dX10_one_64 : decode cX10_one 64 = .ok (.aload_n 0, 1) := by decide +kernel
theorem dX10_one_65 : decode cX10_one 65 = .ok (.invokevirtual 247, 3) := by decide +kernel
theorem dX10_one_68 : decode cX10_one 68 = .ok (.ifCond .ne 4, 3) := by decide +kernel
theorem dX10_one_71 : decode cX10_one 71 = .ok (.return_, 1) := by decide +kernel
theorem dX10_one_72 : decode cX10_one 72 = .ok (.aload_n 0, 1) := by decide +kernel
theorem dX10_one_73 : decode cX10_one 73 = .ok (.invokevirtual 163, 3) := by decide +kernel
theorem dX10_one_76 : decode cX10_one 76 = .ok (.aload_n 0, 1) := by decide +kernel
theorem dX10_one_77 : decode cX10_one 77 = .ok (.bipush 91, 2) := by decide +kernel
theorem dX10_one_79 : decode cX10_one 79 = .ok (.invokevirtual 189, 3) := by decide +kernel
theorem dX10_one_82 : decode cX10_one 82 = .ok (.aload_n 0, 1) := by decide +kernel
theorem dX10_one_83 : decode cX10_one 83 = .ok (.invokevirtual 251, 3) := by decide +kernel
theorem dX10_one_86 : decode cX10_one 86 = .ok (.aload_n 0, 1) := by decide +kernel
theorem dX10_one_87 : decode cX10_one 87 = .ok (.bipush 44, 2) := by decide +kernel
theorem dX10_one_89 : decode cX10_one 89 = .ok (.invokevirtual 189, 3) := by decide +kernel
theorem dX10_one_92 : decode cX10_one 92 = .ok (.aload_n 0, 1) := by decide +kernel
theorem dX10_one_93 : decode cX10_one 93 = .ok (.invokevirtual 251, 3) := by decide +kernel
theorem dX10_one_96 : decode cX10_one 96 = .ok (.aload_n 0, 1) := by decide +kernel
theorem dX10_one_97 : decode cX10_one 97 = .ok (.bipush 93, 2) := by decide +kernel
theorem dX10_one_99 : decode cX10_one 99 = .ok (.invokevirtual 189, 3) := by decide +kernel
theorem dX10_one_102 : decode cX10_one 102 = .ok (.aload_n 0, 1) := by decide +kernel
theorem dX10_one_103 : decode cX10_one 103 = .ok (.iload_n 1, 1) := by decide +kernel
theorem dX10_one_104 : decode cX10_one 104 = .ok (.iconst 0, 1) := by decide +kernel
theorem dX10_one_105 : decode cX10_one 105 = .ok (.invokevirtual 238, 3) := by decide +kernel
theorem dX10_one_108 : decode cX10_one 108 = .ok (.aload_n 0, 1) := by decide +kernel
theorem dX10_one_109 : decode cX10_one 109 = .ok (.dup, 1) := by decide +kernel
theorem dX10_one_110 : decode cX10_one 110 = .ok (.getfield 169, 3) := by decide +kernel
theorem dX10_one_113 : decode cX10_one 113 = .ok (.iconst 1, 1) := by decide +kernel
theorem dX10_one_114 : decode cX10_one 114 = .ok (.isub, 1) := by decide +kernel
theorem dX10_one_115 : decode cX10_one 115 = .ok (.putfield 169, 3) := by decide +kernel
theorem dX10_one_118 : decode cX10_one 118 = .ok (.return_, 1) := by decide +kernel
theorem dX10_one_119 : decode cX10_one 119 = .ok (.aload_n 0, 1) := by decide +kernel
theorem dX10_one_120 : decode cX10_one 120 = .ok (.aload_n 0, 1) := by decide +kernel
theorem dX10_one_121 : decode cX10_one 121 = .ok (.getfield 113, 3) := by decide +kernel
theorem dX10_one_124 : decode cX10_one 124 = .ok (.invokevirtual 116, 3) := by decide +kernel
theorem dX10_one_127 : decode cX10_one 127 = .ok (.bipush 40, 2) := by decide +kernel
theorem dX10_one_129 : decode cX10_one 129 = .ok (.if_icmp .ne 42, 3) := by decide +kernel
theorem dX10_one_132 : decode cX10_one 132 = .ok (.aload_n 0, 1) := by decide +kernel
theorem dX10_one_133 : decode cX10_one 133 = .ok (.invokevirtual 247, 3) := by decide +kernel
theorem dX10_one_136 : decode cX10_one 136 = .ok (.ifCond .ne 4, 3) := by decide +kernel
theorem dX10_one_139 : decode cX10_one 139 = .ok (.return_, 1) := by decide +kernel
theorem dX10_one_140 : decode cX10_one 140 = .ok (.aload_n 0, 1) := by decide +kernel
theorem dX10_one_141 : decode cX10_one 141 = .ok (.dup, 1) := by decide +kernel
theorem dX10_one_142 : decode cX10_one 142 = .ok (.getfield 113, 3) := by decide +kernel
theorem dX10_one_145 : decode cX10_one 145 = .ok (.iconst 1, 1) := by decide +kernel
theorem dX10_one_146 : decode cX10_one 146 = .ok (.iadd, 1) := by decide +kernel
theorem dX10_one_147 : decode cX10_one 147 = .ok (.putfield 113, 3) := by decide +kernel
theorem dX10_one_150 : decode cX10_one 150 = .ok (.aload_n 0, 1) := by decide +kernel
theorem dX10_one_151 : decode cX10_one 151 = .ok (.invokevirtual 251, 3) := by decide +kernel
theorem dX10_one_154 : decode cX10_one 154 = .ok (.aload_n 0, 1) := by decide +kernel
theorem dX10_one_155 : decode cX10_one 155 = .ok (.bipush 41, 2) := by decide +kernel
theorem dX10_one_157 : decode cX10_one 157 = .ok (.invokevirtual 189, 3) := by decide +kernel
theorem dX10_one_160 : decode cX10_one 160 = .ok (.aload_n 0, 1) := by decide +kernel
theorem dX10_one_161 : decode cX10_one 161 = .ok (.dup, 1) := by decide +kernel
theorem dX10_one_162 : decode cX10_one 162 = .ok (.getfield 169, 3) := by decide +kernel
theorem dX10_one_165 : decode cX10_one 165 = .ok (.iconst 1, 1) := by decide +kernel
theorem dX10_one_166 : decode cX10_one 166 = .ok (.isub, 1) := by decide +kernel
theorem dX10_one_167 : decode cX10_one 167 = .ok (.putfield 169, 3) := by decide +kernel
theorem dX10_one_170 : decode cX10_one 170 = .ok (.return_, 1) := by decide +kernel
theorem dX10_one_171 : decode cX10_one 171 = .ok (.aload_n 0, 1) := by decide +kernel
theorem dX10_one_172 : decode cX10_one 172 = .ok (.invokevirtual 254, 3) := by decide +kernel
theorem dX10_one_175 : decode cX10_one 175 = .ok (.istore_n 2, 1) := by decide +kernel
theorem dX10_one_176 : decode cX10_one 176 = .ok (.iload_n 2, 1) := by decide +kernel
theorem dX10_one_177 : decode cX10_one 177 = .ok (.iconst (-1), 1) := by decide +kernel
theorem dX10_one_178 : decode cX10_one 178 = .ok (.if_icmp .eq 12, 3) := by decide +kernel
theorem dX10_one_181 : decode cX10_one 181 = .ok (.aload_n 0, 1) := by decide +kernel
theorem dX10_one_182 : decode cX10_one 182 = .ok (.iconst 1, 1) := by decide +kernel
theorem dX10_one_183 : decode cX10_one 183 = .ok (.iload_n 2, 1) := by decide +kernel
theorem dX10_one_184 : decode cX10_one 184 = .ok (.invokevirtual 238, 3) := by decide +kernel
theorem dX10_one_187 : decode cX10_one 187 = .ok (.goto 16, 3) := by decide +kernel
theorem dX10_one_190 : decode cX10_one 190 = .ok (.aload_n 0, 1) := by decide +kernel
theorem dX10_one_191 : decode cX10_one 191 = .ok (.iconst 0, 1) := by decide +kernel
theorem dX10_one_192 : decode cX10_one 192 = .ok (.aload_n 0, 1) := by decide +kernel
theorem dX10_one_193 : decode cX10_one 193 = .ok (.iconst 0, 1) := by decide +kernel
theorem dX10_one_194 : decode cX10_one 194 = .ok (.sipush 999, 3) := by decide +kernel
theorem dX10_one_197 : decode cX10_one 197 = .ok (.invokevirtual 183, 3) := by decide +kernel
theorem dX10_one_200 : decode cX10_one 200 = .ok (.invokevirtual 238, 3) := by decide +kernel
theorem dX10_one_203 : decode cX10_one 203 = .ok (.return_, 1) := by decide +kernel
abbrev mt_X10_one : AxM := (RX10, cX10_one, 3, none, false, [])
theorem L1_X10_one_58 {g : AxG} {l : Launch} {S9 : AxS} (N : Nat) (kr : Nat → AxS → Option (AxS)) (d : Nat) (hkr : ∀ (a0 : Nat) (S : AxS) {S9 : AxS}, kr a0 S = some S9 → AxMet g l yX10_sum cX10_sum 2 none d 0 0 [.ref a0] S ((.inl none, S9)))  (v0 : Nat) (w0 : Int32) (S : AxS) (h : F_X10_one_58 N kr  v0 w0 S = some S9) : AW g l (axRm (d + 6) 0 0) mt_X10_one (axMQ g 0 0 (.inl none, S9)) 0 0 S 58 [(0, .ref v0)] [.int w0] := by
  unfold F_X10_one_58 at h
  refine aw_istore_n 1 [(1, .int w0), (0, .ref v0)] dX10_one_58 rfl rfl rfl ?_
  refine aw_iload_n 0 dX10_one_59 rfl rfl ?_
  refine aw_iconst (-1) dX10_one_60 rfl ?_
  refine aw_icmp_eq 119 dX10_one_61 (by decide) h (fun h => ?_) (fun h => ?_)
  · refine aw_aload_n 1 dX10_one_119 rfl rfl ?_
    refine aw_aload_n 1 dX10_one_120 rfl rfl ?_
    refine aw_getI axc10 4 rfl rfl wd_1289 dX10_one_121 h (fun x1 h => ?_)
    obtain ⟨hL2, h⟩ := ax_is_spec h
    refine aw_doneI (rest := []) h (fun r9 S9 hF => aw_runV (As := [.int x1]) (rest := []) (L1_X10_byteAt N hF) axc10 hL2 wd_1464 wd_1461 wd_1463 wd_41 wd_97 pd_X10_byteAt rfl (ax_rm (by omega) rfl) ax_hf0 (Nat.le_of_ble_eq_true rfl) rfl dX10_one_124) (fun x4 T3 h => ?_)
    refine aw_bipush 40 dX10_one_127 (by decide) ?_
    refine aw_icmp_ne 171 dX10_one_129 (by decide) h (fun h => ?_) (fun h => ?_)
    · refine aw_aload_n 1 dX10_one_171 rfl rfl ?_
      obtain ⟨hL5, h⟩ := ax_is_spec h
      refine aw_doneI (rest := []) h (fun r9 S9 hF => aw_runV (As := []) (rest := []) (L1_X10_knownHere N hF) axc10 hL5 wd_1551 wd_1548 wd_1550 wd_57 wd_97 pd_X10_knownHere rfl (ax_rm (by omega) rfl) ax_hf0 (Nat.le_of_ble_eq_true rfl) rfl dX10_one_172) (fun x7 T6 h => ?_)
      refine aw_istore_n 2 [(2, .int x7), (1, .int w0), (0, .ref v0)] dX10_one_175 rfl rfl rfl ?_
      refine aw_iload_n 0 dX10_one_176 rfl rfl ?_
      refine aw_iconst (-1) dX10_one_177 rfl ?_
      refine aw_icmp_eq 190 dX10_one_178 (by decide) h (fun h => ?_) (fun h => ?_)
      · refine aw_aload_n 2 dX10_one_190 rfl rfl ?_
        refine aw_iconst 0 dX10_one_191 rfl ?_
        refine aw_aload_n 2 dX10_one_192 rfl rfl ?_
        refine aw_iconst 0 dX10_one_193 rfl ?_
        refine aw_sipush 999 dX10_one_194 (by decide) ?_
        obtain ⟨hL8, h⟩ := ax_is_spec h
        refine aw_doneI (rest := [.int 0, .ref v0]) h (fun r9 S9 hF => aw_runV (As := [.int 0, .int 999]) (rest := [.int 0, .ref v0]) (L1_X10_number N hF) axc10 hL8 wd_1508 wd_1505 wd_1507 wd_49 wd_97 pd_X10_number rfl (ax_rm (by omega) rfl) ax_hf0 (Nat.le_of_ble_eq_true rfl) rfl dX10_one_197) (fun x10 T9 h => ?_)
        obtain ⟨hL11, h⟩ := ax_is_spec h
        refine aw_doneV (rest := []) h (fun S9 hF => aw_runV (As := [.int 0, .int x10]) (rest := []) (L1_X10_notes N hF) axc10 hL11 wd_1547 wd_1544 wd_1546 wd_56 wd_97 pd_X10_notes rfl (ax_rm (by omega) rfl) ax_hf0 (Nat.le_of_ble_eq_true rfl) rfl dX10_one_200) (fun T12 h => ?_)
        exact aw_vret dX10_one_203 rfl (Nat.le_refl _) (Nat.le_refl _) h
      · refine aw_aload_n 2 dX10_one_181 rfl rfl ?_
        refine aw_iconst 1 dX10_one_182 rfl ?_
        refine aw_iload_n 0 dX10_one_183 rfl rfl ?_
        obtain ⟨hL14, h⟩ := ax_is_spec h
        refine aw_doneV (rest := []) h (fun S9 hF => aw_runV (As := [.int 1, .int x7]) (rest := []) (L1_X10_notes N hF) axc10 hL14 wd_1547 wd_1544 wd_1546 wd_56 wd_97 pd_X10_notes rfl (ax_rm (by omega) rfl) ax_hf0 (Nat.le_of_ble_eq_true rfl) rfl dX10_one_184) (fun T15 h => ?_)
        refine aw_goto 203 dX10_one_187 (by decide) ?_
        exact aw_vret dX10_one_203 rfl (Nat.le_refl _) (Nat.le_refl _) h
    · refine aw_aload_n 1 dX10_one_132 rfl rfl ?_
      obtain ⟨hL17, h⟩ := ax_is_spec h
      refine aw_doneI (rest := []) h (fun r9 S9 hF => aw_runV (As := []) (rest := []) (L1_X10_opensOne N hF) axc10 hL17 wd_1543 wd_1540 wd_1542 wd_55 wd_97 pd_X10_opensOne rfl (ax_rm (by omega) rfl) ax_hf0 (Nat.le_of_ble_eq_true rfl) rfl dX10_one_133) (fun x19 T18 h => ?_)
      refine aw_if_ne 140 dX10_one_136 (by decide) h (fun h => ?_) (fun h => ?_)
      · refine aw_aload_n 1 dX10_one_140 rfl rfl ?_
        refine aw_dup rfl dX10_one_141 ?_
        refine aw_getI axc10 4 rfl rfl wd_1289 dX10_one_142 h (fun x20 h => ?_)
        refine aw_iconst 1 dX10_one_145 rfl ?_
        refine aw_iadd dX10_one_146 ?_
        refine aw_putI axc10 4 rfl rfl wd_1289 rfl rfl rfl dX10_one_147 h (fun T21 h => ?_)
        refine aw_aload_n 1 dX10_one_150 rfl rfl ?_
        obtain ⟨hL22, h⟩ := ax_is_spec h
        refine aw_doneV (rest := []) h (fun S9 hF => aw_runV (As := []) (rest := []) (hkr v0 T21 hF) axc10 hL22 wd_1531 wd_1528 wd_1530 wd_52 wd_97 pd_X10_sum rfl (ax_rm (by omega) rfl) ax_hf0 (Nat.le_of_ble_eq_true rfl) rfl dX10_one_151) (fun T23 h => ?_)
        refine aw_aload_n 1 dX10_one_154 rfl rfl ?_
        refine aw_bipush 41 dX10_one_155 (by decide) ?_
        obtain ⟨hL25, h⟩ := ax_is_spec h
        refine aw_doneV (rest := []) h (fun S9 hF => aw_runV (As := [.int 41]) (rest := []) (L1_X10_sign N hF) axc10 hL25 wd_1519 wd_1516 wd_1518 wd_50 wd_97 pd_X10_sign rfl (ax_rm (by omega) rfl) ax_hf0 (Nat.le_of_ble_eq_true rfl) rfl dX10_one_157) (fun T26 h => ?_)
        refine aw_aload_n 1 dX10_one_160 rfl rfl ?_
        refine aw_dup rfl dX10_one_161 ?_
        refine aw_getI axc10 8 rfl rfl wd_1293 dX10_one_162 h (fun x28 h => ?_)
        refine aw_iconst 1 dX10_one_165 rfl ?_
        refine aw_isub dX10_one_166 ?_
        refine aw_putI axc10 8 rfl rfl wd_1293 rfl rfl rfl dX10_one_167 h (fun T29 h => ?_)
        exact aw_vret dX10_one_170 rfl (Nat.le_refl _) (Nat.le_refl _) h
      · exact aw_vret dX10_one_139 rfl (Nat.le_refl _) (Nat.le_refl _) h
  · refine aw_aload_n 1 dX10_one_64 rfl rfl ?_
    obtain ⟨hL30, h⟩ := ax_is_spec h
    refine aw_doneI (rest := []) h (fun r9 S9 hF => aw_runV (As := []) (rest := []) (L1_X10_opensOne N hF) axc10 hL30 wd_1543 wd_1540 wd_1542 wd_55 wd_97 pd_X10_opensOne rfl (ax_rm (by omega) rfl) ax_hf0 (Nat.le_of_ble_eq_true rfl) rfl dX10_one_65) (fun x32 T31 h => ?_)
    refine aw_if_ne 72 dX10_one_68 (by decide) h (fun h => ?_) (fun h => ?_)
    · refine aw_aload_n 1 dX10_one_72 rfl rfl ?_
      obtain ⟨hL33, h⟩ := ax_is_spec h
      refine aw_doneV (rest := []) h (fun S9 hF => aw_runV (As := []) (rest := []) (L1_X10_skipWord N hF) axc10 hL33 wd_1504 wd_1501 wd_1503 wd_48 wd_97 pd_X10_skipWord rfl (ax_rm (by omega) rfl) ax_hf0 (Nat.le_of_ble_eq_true rfl) rfl dX10_one_73) (fun T34 h => ?_)
      refine aw_aload_n 1 dX10_one_76 rfl rfl ?_
      refine aw_bipush 91 dX10_one_77 (by decide) ?_
      obtain ⟨hL36, h⟩ := ax_is_spec h
      refine aw_doneV (rest := []) h (fun S9 hF => aw_runV (As := [.int 91]) (rest := []) (L1_X10_sign N hF) axc10 hL36 wd_1519 wd_1516 wd_1518 wd_50 wd_97 pd_X10_sign rfl (ax_rm (by omega) rfl) ax_hf0 (Nat.le_of_ble_eq_true rfl) rfl dX10_one_79) (fun T37 h => ?_)
      refine aw_aload_n 1 dX10_one_82 rfl rfl ?_
      obtain ⟨hL39, h⟩ := ax_is_spec h
      refine aw_doneV (rest := []) h (fun S9 hF => aw_runV (As := []) (rest := []) (hkr v0 T37 hF) axc10 hL39 wd_1531 wd_1528 wd_1530 wd_52 wd_97 pd_X10_sum rfl (ax_rm (by omega) rfl) ax_hf0 (Nat.le_of_ble_eq_true rfl) rfl dX10_one_83) (fun T40 h => ?_)
      refine aw_aload_n 1 dX10_one_86 rfl rfl ?_
      refine aw_bipush 44 dX10_one_87 (by decide) ?_
      obtain ⟨hL42, h⟩ := ax_is_spec h
      refine aw_doneV (rest := []) h (fun S9 hF => aw_runV (As := [.int 44]) (rest := []) (L1_X10_sign N hF) axc10 hL42 wd_1519 wd_1516 wd_1518 wd_50 wd_97 pd_X10_sign rfl (ax_rm (by omega) rfl) ax_hf0 (Nat.le_of_ble_eq_true rfl) rfl dX10_one_89) (fun T43 h => ?_)
      refine aw_aload_n 1 dX10_one_92 rfl rfl ?_
      obtain ⟨hL45, h⟩ := ax_is_spec h
      refine aw_doneV (rest := []) h (fun S9 hF => aw_runV (As := []) (rest := []) (hkr v0 T43 hF) axc10 hL45 wd_1531 wd_1528 wd_1530 wd_52 wd_97 pd_X10_sum rfl (ax_rm (by omega) rfl) ax_hf0 (Nat.le_of_ble_eq_true rfl) rfl dX10_one_93) (fun T46 h => ?_)
      refine aw_aload_n 1 dX10_one_96 rfl rfl ?_
      refine aw_bipush 93 dX10_one_97 (by decide) ?_
      obtain ⟨hL48, h⟩ := ax_is_spec h
      refine aw_doneV (rest := []) h (fun S9 hF => aw_runV (As := [.int 93]) (rest := []) (L1_X10_sign N hF) axc10 hL48 wd_1519 wd_1516 wd_1518 wd_50 wd_97 pd_X10_sign rfl (ax_rm (by omega) rfl) ax_hf0 (Nat.le_of_ble_eq_true rfl) rfl dX10_one_99) (fun T49 h => ?_)
      refine aw_aload_n 1 dX10_one_102 rfl rfl ?_
      refine aw_iload_n 0 dX10_one_103 rfl rfl ?_
      refine aw_iconst 0 dX10_one_104 rfl ?_
      obtain ⟨hL51, h⟩ := ax_is_spec h
      refine aw_doneV (rest := []) h (fun S9 hF => aw_runV (As := [.int w0, .int 0]) (rest := []) (L1_X10_notes N hF) axc10 hL51 wd_1547 wd_1544 wd_1546 wd_56 wd_97 pd_X10_notes rfl (ax_rm (by omega) rfl) ax_hf0 (Nat.le_of_ble_eq_true rfl) rfl dX10_one_105) (fun T52 h => ?_)
      refine aw_aload_n 1 dX10_one_108 rfl rfl ?_
      refine aw_dup rfl dX10_one_109 ?_
      refine aw_getI axc10 8 rfl rfl wd_1293 dX10_one_110 h (fun x54 h => ?_)
      refine aw_iconst 1 dX10_one_113 rfl ?_
      refine aw_isub dX10_one_114 ?_
      refine aw_putI axc10 8 rfl rfl wd_1293 rfl rfl rfl dX10_one_115 h (fun T55 h => ?_)
      exact aw_vret dX10_one_118 rfl (Nat.le_refl _) (Nat.le_refl _) h
    · exact aw_vret dX10_one_71 rfl (Nat.le_refl _) (Nat.le_refl _) h
theorem L1_X10_one {g : AxG} {l : Launch} (N : Nat) (kr : Nat → AxS → Option (AxS)) (d : Nat) (hkr : ∀ (a0 : Nat) (S : AxS) {S9 : AxS}, kr a0 S = some S9 → AxMet g l yX10_sum cX10_sum 2 none d 0 0 [.ref a0] S ((.inl none, S9))) {v0 : Nat} {S : AxS} {S9 : AxS} (h : F_X10_one N kr v0 S = some S9) : AxMet g l yX10_one cX10_one 3 none (d + 6) 0 0 [.ref v0] S ((.inl none, S9)) := by
  refine ax_met (own := RX10) (ini := false) (by decide +kernel) rfl (fun h => nomatch h) rfl ?_
  show AW g l (axRm (d + 6) 0 0) mt_X10_one (axMQ g 0 0 (.inl none, S9)) 0 0 S 0 [(0, .ref v0)] []
  unfold F_X10_one at h
  refine aw_aload_n 0 dX10_one_0 rfl rfl ?_
  refine aw_getI axc10 5 rfl rfl wd_1290 dX10_one_1 h (fun x1 h => ?_)
  refine aw_if_eq 8 dX10_one_4 (by decide) h (fun h => ?_) (fun h => ?_)
  · refine aw_aload_n 0 dX10_one_8 rfl rfl ?_
    obtain ⟨hL2, h⟩ := ax_is_spec h
    refine aw_doneV (rest := []) h (fun S9 hF => aw_runV (As := []) (rest := []) (L1_X10_blanks N hF) axc10 hL2 wd_1460 wd_1457 wd_1459 wd_40 wd_97 pd_X10_blanks rfl (ax_rm (by omega) rfl) ax_hf0 (Nat.le_of_ble_eq_true rfl) rfl dX10_one_9) (fun T3 h => ?_)
    refine aw_aload_n 0 dX10_one_12 rfl rfl ?_
    refine aw_bipush 12 dX10_one_13 (by decide) ?_
    refine aw_iconst 5 dX10_one_15 rfl ?_
    refine aw_iconst 1 dX10_one_16 rfl ?_
    refine aw_bipush 19 dX10_one_17 (by decide) ?_
    refine aw_bipush 20 dX10_one_19 (by decide) ?_
    refine aw_iconst 0 dX10_one_21 rfl ?_
    refine aw_iconst 0 dX10_one_22 rfl ?_
    obtain ⟨hL5, h⟩ := ax_is_spec h
    refine aw_doneI (rest := []) h (fun r9 S9 hF => aw_runV (As := [.int 12, .int 5, .int 1, .int 19, .int 20, .int 0, .int 0]) (rest := []) (L1_X10_isWord N hF) axc10 hL5 wd_1476 wd_1473 wd_1475 wd_44 wd_97 pd_X10_isWord rfl (ax_rm (by omega) rfl) ax_hf0 (Nat.le_of_ble_eq_true rfl) rfl dX10_one_23) (fun x7 T6 h => ?_)
    refine aw_if_eq 34 dX10_one_26 (by decide) h (fun h => ?_) (fun h => ?_)
    · refine aw_aload_n 0 dX10_one_34 rfl rfl ?_
      refine aw_bipush 13 dX10_one_35 (by decide) ?_
      refine aw_bipush 15 dX10_one_37 (by decide) ?_
      refine aw_bipush 19 dX10_one_39 (by decide) ?_
      refine aw_bipush 20 dX10_one_41 (by decide) ?_
      refine aw_iconst 0 dX10_one_43 rfl ?_
      refine aw_iconst 0 dX10_one_44 rfl ?_
      refine aw_iconst 0 dX10_one_45 rfl ?_
      obtain ⟨hL8, h⟩ := ax_is_spec h
      refine aw_doneI (rest := []) h (fun r9 S9 hF => aw_runV (As := [.int 13, .int 15, .int 19, .int 20, .int 0, .int 0, .int 0]) (rest := []) (L1_X10_isWord N hF) axc10 hL8 wd_1476 wd_1473 wd_1475 wd_44 wd_97 pd_X10_isWord rfl (ax_rm (by omega) rfl) ax_hf0 (Nat.le_of_ble_eq_true rfl) rfl dX10_one_46) (fun x10 T9 h => ?_)
      refine aw_if_eq 57 dX10_one_49 (by decide) h (fun h => ?_) (fun h => ?_)
      · refine aw_iconst (-1) dX10_one_57 rfl ?_
        refine aw_env [(0, .ref v0)] [0] rfl ?_
        exact L1_X10_one_58 N kr d hkr  v0 ((-1)) T9 h
      · refine aw_bipush 8 dX10_one_52 (by decide) ?_
        refine aw_goto 58 dX10_one_54 (by decide) ?_
        refine aw_env [(0, .ref v0)] [0] rfl ?_
        exact L1_X10_one_58 N kr d hkr  v0 8 T9 h
    · refine aw_bipush 7 dX10_one_29 (by decide) ?_
      refine aw_goto 58 dX10_one_31 (by decide) ?_
      refine aw_env [(0, .ref v0)] [0] rfl ?_
      exact L1_X10_one_58 N kr d hkr  v0 7 T6 h
  · exact aw_vret dX10_one_7 rfl (Nat.le_refl _) (Nat.le_refl _) h

theorem dX10_product_0 : decode cX10_product 0 = .ok (.aload_n 0, 1) := by decide +kernel
theorem dX10_product_1 : decode cX10_product 1 = .ok (.invokevirtual 241, 3) := by decide +kernel
theorem dX10_product_4 : decode cX10_product 4 = .ok (.aload_n 0, 1) := by decide +kernel
theorem dX10_product_5 : decode cX10_product 5 = .ok (.getfield 120, 3) := by decide +kernel
theorem dX10_product_8 : decode cX10_product 8 = .ok (.ifCond .ne 64, 3) := by decide +kernel
theorem dX10_product_11 : decode cX10_product 11 = .ok (.aload_n 0, 1) := by decide +kernel
theorem dX10_product_12 : decode cX10_product 12 = .ok (.bipush 42, 2) := by decide +kernel
theorem dX10_product_14 : decode cX10_product 14 = .ok (.invokevirtual 235, 3) := by decide +kernel
theorem dX10_product_17 : decode cX10_product 17 = .ok (.ifCond .eq 7, 3) := by decide +kernel
theorem dX10_product_20 : decode cX10_product 20 = .ok (.iconst 4, 1) := by decide +kernel
theorem dX10_product_21 : decode cX10_product 21 = .ok (.goto 31, 3) := by decide +kernel
theorem dX10_product_24 : decode cX10_product 24 = .ok (.aload_n 0, 1) := by decide +kernel
theorem dX10_product_25 : decode cX10_product 25 = .ok (.bipush 47, 2) := by decide +kernel
theorem dX10_product_27 : decode cX10_product 27 = .ok (.invokevirtual 235, 3) := by decide +kernel
theorem dX10_product_30 : decode cX10_product 30 = .ok (.ifCond .eq 7, 3) := by decide +kernel
theorem dX10_product_33 : decode cX10_product 33 = .ok (.iconst 5, 1) := by decide +kernel
theorem dX10_product_34 : decode cX10_product 34 = .ok (.goto 18, 3) := by decide +kernel
theorem dX10_product_37 : decode cX10_product 37 = .ok (.aload_n 0, 1) := by decide +kernel
theorem dX10_product_38 : decode cX10_product 38 = .ok (.bipush 37, 2) := by decide +kernel
theorem dX10_product_40 : decode cX10_product 40 = .ok (.invokevirtual 235, 3) := by decide +kernel
theorem dX10_product_43 : decode cX10_product 43 = .ok (.ifCond .eq 8, 3) := by decide +kernel
theorem dX10_product_46 : decode cX10_product 46 = .ok (.bipush 6, 2) := by decide +kernel
theorem dX10_product_48 : decode cX10_product 48 = .ok (.goto 4, 3) := by decide +kernel
theorem dX10_product_51 : decode cX10_product 51 = .ok (.iconst (-1), 1) := by decide +kernel
theorem dX10_product_52 : decode cX10_product 52 = .ok (.istore_n 1, 1) := by decide +kernel
theorem dX10_product_53 : decode cX10_product 53 = .ok (.iload_n 1, 1) := by decide +kernel
theorem dX10_product_54 : decode cX10_product 54 = .ok (.iconst (-1), 1) := by decide +kernel
theorem dX10_product_55 : decode cX10_product 55 = .ok (.if_icmp .ne 4, 3) := by decide +kernel
theorem dX10_product_58 : decode cX10_product 58 = .ok (.return_, 1) := by decide +kernel
theorem dX10_product_59 : decode cX10_product 59 = .ok (.aload_n 0, 1) := by decide +kernel
theorem dX10_product_60 : decode cX10_product 60 = .ok (.invokevirtual 241, 3) := by decide +kernel
theorem dX10_product_63 : decode cX10_product 63 = .ok (.aload_n 0, 1) := by decide +kernel
theorem dX10_product_64 : decode cX10_product 64 = .ok (.iload_n 1, 1) := by decide +kernel
theorem dX10_product_65 : decode cX10_product 65 = .ok (.iconst 0, 1) := by decide +kernel
theorem dX10_product_66 : decode cX10_product 66 = .ok (.invokevirtual 238, 3) := by decide +kernel
theorem dX10_product_69 : decode cX10_product 69 = .ok (.goto (-65), 3) := by decide +kernel
theorem dX10_product_72 : decode cX10_product 72 = .ok (.return_, 1) := by decide +kernel
abbrev mt_X10_product : AxM := (RX10, cX10_product, 2, none, false, [])
theorem L1_X10_product_52 {g : AxG} {l : Launch} {S9 : AxS} (N : Nat) (kr : Nat → AxS → Option (AxS)) (d : Nat) (hkr : ∀ (a0 : Nat) (S : AxS) {S9 : AxS}, kr a0 S = some S9 → AxMet g l yX10_sum cX10_sum 2 none d 0 0 [.ref a0] S ((.inl none, S9))) (K4 : Nat → AxS → Option (AxS)) (hK4 : ∀ (v0 : Nat) (S : AxS), K4 v0 S = some S9 → AW g l (axRm (d + 7) 0 0) mt_X10_product (axMQ g 0 0 (.inl none, S9)) 0 0 S 4 [(0, .ref v0)] []) (v0 : Nat) (w0 : Int32) (S : AxS) (h : F_X10_product_52 N kr K4 v0 w0 S = some S9) : AW g l (axRm (d + 7) 0 0) mt_X10_product (axMQ g 0 0 (.inl none, S9)) 0 0 S 52 [(0, .ref v0)] [.int w0] := by
  unfold F_X10_product_52 at h
  refine aw_istore_n 1 [(1, .int w0), (0, .ref v0)] dX10_product_52 rfl rfl rfl ?_
  refine aw_iload_n 0 dX10_product_53 rfl rfl ?_
  refine aw_iconst (-1) dX10_product_54 rfl ?_
  refine aw_icmp_ne 59 dX10_product_55 (by decide) h (fun h => ?_) (fun h => ?_)
  · refine aw_aload_n 1 dX10_product_59 rfl rfl ?_
    obtain ⟨hL1, h⟩ := ax_is_spec h
    refine aw_doneV (rest := []) h (fun S9 hF => aw_runV (As := []) (rest := []) (L1_X10_one N kr d hkr hF) axc10 hL1 wd_1539 wd_1536 wd_1538 wd_54 wd_97 pd_X10_one rfl (ax_rm (by omega) rfl) ax_hf0 (Nat.le_of_ble_eq_true rfl) rfl dX10_product_60) (fun T2 h => ?_)
    refine aw_aload_n 1 dX10_product_63 rfl rfl ?_
    refine aw_iload_n 0 dX10_product_64 rfl rfl ?_
    refine aw_iconst 0 dX10_product_65 rfl ?_
    obtain ⟨hL4, h⟩ := ax_is_spec h
    refine aw_doneV (rest := []) h (fun S9 hF => aw_runV (As := [.int w0, .int 0]) (rest := []) (L1_X10_notes N hF) axc10 hL4 wd_1547 wd_1544 wd_1546 wd_56 wd_97 pd_X10_notes rfl (ax_rm (by omega) rfl) ax_hf0 (Nat.le_of_ble_eq_true rfl) rfl dX10_product_66) (fun T5 h => ?_)
    refine aw_goto 4 dX10_product_69 (by decide) ?_
    refine aw_env [(0, .ref v0)] [1] rfl ?_
    exact hK4 v0 T5 h
  · exact aw_vret dX10_product_58 rfl (Nat.le_refl _) (Nat.le_refl _) h
theorem L1_X10_product_4b {g : AxG} {l : Launch} {S9 : AxS} (N : Nat) (kr : Nat → AxS → Option (AxS)) (d : Nat) (hkr : ∀ (a0 : Nat) (S : AxS) {S9 : AxS}, kr a0 S = some S9 → AxMet g l yX10_sum cX10_sum 2 none d 0 0 [.ref a0] S ((.inl none, S9))) (K4 : Nat → AxS → Option (AxS)) (hK4 : ∀ (v0 : Nat) (S : AxS), K4 v0 S = some S9 → AW g l (axRm (d + 7) 0 0) mt_X10_product (axMQ g 0 0 (.inl none, S9)) 0 0 S 4 [(0, .ref v0)] []) (v0 : Nat) (S : AxS) (h : F_X10_product_4b N kr K4 v0 S = some S9) : AW g l (axRm (d + 7) 0 0) mt_X10_product (axMQ g 0 0 (.inl none, S9)) 0 0 S 4 [(0, .ref v0)] [] := by
  unfold F_X10_product_4b at h
  refine aw_aload_n 0 dX10_product_4 rfl rfl ?_
  refine aw_getI axc10 5 rfl rfl wd_1290 dX10_product_5 h (fun x1 h => ?_)
  refine aw_if_ne 72 dX10_product_8 (by decide) h (fun h => ?_) (fun h => ?_)
  · exact aw_vret dX10_product_72 rfl (Nat.le_refl _) (Nat.le_refl _) h
  · refine aw_aload_n 0 dX10_product_11 rfl rfl ?_
    refine aw_bipush 42 dX10_product_12 (by decide) ?_
    obtain ⟨hL2, h⟩ := ax_is_spec h
    refine aw_doneI (rest := []) h (fun r9 S9 hF => aw_runV (As := [.int 42]) (rest := []) (L1_X10_takesSign N hF) axc10 hL2 wd_1559 wd_1556 wd_1558 wd_59 wd_97 pd_X10_takesSign rfl (ax_rm (by omega) rfl) ax_hf0 (Nat.le_of_ble_eq_true rfl) rfl dX10_product_14) (fun x4 T3 h => ?_)
    refine aw_if_eq 24 dX10_product_17 (by decide) h (fun h => ?_) (fun h => ?_)
    · refine aw_aload_n 0 dX10_product_24 rfl rfl ?_
      refine aw_bipush 47 dX10_product_25 (by decide) ?_
      obtain ⟨hL5, h⟩ := ax_is_spec h
      refine aw_doneI (rest := []) h (fun r9 S9 hF => aw_runV (As := [.int 47]) (rest := []) (L1_X10_takesSign N hF) axc10 hL5 wd_1559 wd_1556 wd_1558 wd_59 wd_97 pd_X10_takesSign rfl (ax_rm (by omega) rfl) ax_hf0 (Nat.le_of_ble_eq_true rfl) rfl dX10_product_27) (fun x7 T6 h => ?_)
      refine aw_if_eq 37 dX10_product_30 (by decide) h (fun h => ?_) (fun h => ?_)
      · refine aw_aload_n 0 dX10_product_37 rfl rfl ?_
        refine aw_bipush 37 dX10_product_38 (by decide) ?_
        obtain ⟨hL8, h⟩ := ax_is_spec h
        refine aw_doneI (rest := []) h (fun r9 S9 hF => aw_runV (As := [.int 37]) (rest := []) (L1_X10_takesSign N hF) axc10 hL8 wd_1559 wd_1556 wd_1558 wd_59 wd_97 pd_X10_takesSign rfl (ax_rm (by omega) rfl) ax_hf0 (Nat.le_of_ble_eq_true rfl) rfl dX10_product_40) (fun x10 T9 h => ?_)
        refine aw_if_eq 51 dX10_product_43 (by decide) h (fun h => ?_) (fun h => ?_)
        · refine aw_iconst (-1) dX10_product_51 rfl ?_
          refine aw_env [(0, .ref v0)] [0] rfl ?_
          exact L1_X10_product_52 N kr d hkr K4 hK4 v0 ((-1)) T9 h
        · refine aw_bipush 6 dX10_product_46 (by decide) ?_
          refine aw_goto 52 dX10_product_48 (by decide) ?_
          refine aw_env [(0, .ref v0)] [0] rfl ?_
          exact L1_X10_product_52 N kr d hkr K4 hK4 v0 6 T9 h
      · refine aw_iconst 5 dX10_product_33 rfl ?_
        refine aw_goto 52 dX10_product_34 (by decide) ?_
        refine aw_env [(0, .ref v0)] [0] rfl ?_
        exact L1_X10_product_52 N kr d hkr K4 hK4 v0 5 T6 h
    · refine aw_iconst 4 dX10_product_20 rfl ?_
      refine aw_goto 52 dX10_product_21 (by decide) ?_
      refine aw_env [(0, .ref v0)] [0] rfl ?_
      exact L1_X10_product_52 N kr d hkr K4 hK4 v0 4 T3 h
theorem L1_X10_product_4 {g : AxG} {l : Launch} {S9 : AxS} (N : Nat) (kr : Nat → AxS → Option (AxS)) (d : Nat) (hkr : ∀ (a0 : Nat) (S : AxS) {S9 : AxS}, kr a0 S = some S9 → AxMet g l yX10_sum cX10_sum 2 none d 0 0 [.ref a0] S ((.inl none, S9)))  : ∀ (n : Nat) (v0 : Nat) (S : AxS), F_X10_product_4 N kr  n v0 S = some S9 → AW g l (axRm (d + 7) 0 0) mt_X10_product (axMQ g 0 0 (.inl none, S9)) 0 0 S 4 [(0, .ref v0)] [] := by
  intro n
  induction n with
  | zero => intro v0 S h; cases h
  | succ n ih => intro v0 S h; exact L1_X10_product_4b N kr d hkr (F_X10_product_4 N kr  n) ih v0 S h
theorem L1_X10_product {g : AxG} {l : Launch} (N : Nat) (kr : Nat → AxS → Option (AxS)) (d : Nat) (hkr : ∀ (a0 : Nat) (S : AxS) {S9 : AxS}, kr a0 S = some S9 → AxMet g l yX10_sum cX10_sum 2 none d 0 0 [.ref a0] S ((.inl none, S9))) {v0 : Nat} {S : AxS} {S9 : AxS} (h : F_X10_product N kr v0 S = some S9) : AxMet g l yX10_product cX10_product 2 none (d + 7) 0 0 [.ref v0] S ((.inl none, S9)) := by
  refine ax_met (own := RX10) (ini := false) (by decide +kernel) rfl (fun h => nomatch h) rfl ?_
  show AW g l (axRm (d + 7) 0 0) mt_X10_product (axMQ g 0 0 (.inl none, S9)) 0 0 S 0 [(0, .ref v0)] []
  unfold F_X10_product at h
  refine aw_aload_n 0 dX10_product_0 rfl rfl ?_
  obtain ⟨hL1, h⟩ := ax_is_spec h
  refine aw_doneV (rest := []) h (fun S9 hF => aw_runV (As := []) (rest := []) (L1_X10_one N kr d hkr hF) axc10 hL1 wd_1539 wd_1536 wd_1538 wd_54 wd_97 pd_X10_one rfl (ax_rm (by omega) rfl) ax_hf0 (Nat.le_of_ble_eq_true rfl) rfl dX10_product_1) (fun T2 h => ?_)
  refine aw_env [(0, .ref v0)] [0] rfl ?_
  exact L1_X10_product_4 N kr d hkr  N v0 T2 h

theorem dX10_sum_0 : decode cX10_sum 0 = .ok (.aload_n 0, 1) := by decide +kernel
theorem dX10_sum_1 : decode cX10_sum 1 = .ok (.invokevirtual 232, 3) := by decide +kernel
theorem dX10_sum_4 : decode cX10_sum 4 = .ok (.aload_n 0, 1) := by decide +kernel
theorem dX10_sum_5 : decode cX10_sum 5 = .ok (.getfield 120, 3) := by decide +kernel
theorem dX10_sum_8 : decode cX10_sum 8 = .ok (.ifCond .ne 50, 3) := by decide +kernel
theorem dX10_sum_11 : decode cX10_sum 11 = .ok (.aload_n 0, 1) := by decide +kernel
theorem dX10_sum_12 : decode cX10_sum 12 = .ok (.bipush 43, 2) := by decide +kernel
theorem dX10_sum_14 : decode cX10_sum 14 = .ok (.invokevirtual 235, 3) := by decide +kernel
theorem dX10_sum_17 : decode cX10_sum 17 = .ok (.ifCond .eq 7, 3) := by decide +kernel
theorem dX10_sum_20 : decode cX10_sum 20 = .ok (.iconst 2, 1) := by decide +kernel
theorem dX10_sum_21 : decode cX10_sum 21 = .ok (.goto 17, 3) := by decide +kernel
theorem dX10_sum_24 : decode cX10_sum 24 = .ok (.aload_n 0, 1) := by decide +kernel
theorem dX10_sum_25 : decode cX10_sum 25 = .ok (.bipush 45, 2) := by decide +kernel
theorem dX10_sum_27 : decode cX10_sum 27 = .ok (.invokevirtual 235, 3) := by decide +kernel
theorem dX10_sum_30 : decode cX10_sum 30 = .ok (.ifCond .eq 7, 3) := by decide +kernel
theorem dX10_sum_33 : decode cX10_sum 33 = .ok (.iconst 3, 1) := by decide +kernel
theorem dX10_sum_34 : decode cX10_sum 34 = .ok (.goto 4, 3) := by decide +kernel
theorem dX10_sum_37 : decode cX10_sum 37 = .ok (.iconst (-1), 1) := by decide +kernel
theorem dX10_sum_38 : decode cX10_sum 38 = .ok (.istore_n 1, 1) := by decide +kernel
theorem dX10_sum_39 : decode cX10_sum 39 = .ok (.iload_n 1, 1) := by decide +kernel
theorem dX10_sum_40 : decode cX10_sum 40 = .ok (.iconst (-1), 1) := by decide +kernel
theorem dX10_sum_41 : decode cX10_sum 41 = .ok (.if_icmp .ne 4, 3) := by decide +kernel
theorem dX10_sum_44 : decode cX10_sum 44 = .ok (.return_, 1) := by decide +kernel
theorem dX10_sum_45 : decode cX10_sum 45 = .ok (.aload_n 0, 1) := by decide +kernel
theorem dX10_sum_46 : decode cX10_sum 46 = .ok (.invokevirtual 232, 3) := by decide +kernel
theorem dX10_sum_49 : decode cX10_sum 49 = .ok (.aload_n 0, 1) := by decide +kernel
theorem dX10_sum_50 : decode cX10_sum 50 = .ok (.iload_n 1, 1) := by decide +kernel
theorem dX10_sum_51 : decode cX10_sum 51 = .ok (.iconst 0, 1) := by decide +kernel
theorem dX10_sum_52 : decode cX10_sum 52 = .ok (.invokevirtual 238, 3) := by decide +kernel
theorem dX10_sum_55 : decode cX10_sum 55 = .ok (.goto (-51), 3) := by decide +kernel
theorem dX10_sum_58 : decode cX10_sum 58 = .ok (.return_, 1) := by decide +kernel
abbrev mt_X10_sum : AxM := (RX10, cX10_sum, 2, none, false, [])
theorem L1_X10_sum_38 {g : AxG} {l : Launch} {S9 : AxS} (N : Nat) (kr : Nat → AxS → Option (AxS)) (d : Nat) (hkr : ∀ (a0 : Nat) (S : AxS) {S9 : AxS}, kr a0 S = some S9 → AxMet g l yX10_sum cX10_sum 2 none d 0 0 [.ref a0] S ((.inl none, S9))) (K4 : Nat → AxS → Option (AxS)) (hK4 : ∀ (v0 : Nat) (S : AxS), K4 v0 S = some S9 → AW g l (axRm (d + 8) 0 0) mt_X10_sum (axMQ g 0 0 (.inl none, S9)) 0 0 S 4 [(0, .ref v0)] []) (v0 : Nat) (w0 : Int32) (S : AxS) (h : F_X10_sum_38 N kr K4 v0 w0 S = some S9) : AW g l (axRm (d + 8) 0 0) mt_X10_sum (axMQ g 0 0 (.inl none, S9)) 0 0 S 38 [(0, .ref v0)] [.int w0] := by
  unfold F_X10_sum_38 at h
  refine aw_istore_n 1 [(1, .int w0), (0, .ref v0)] dX10_sum_38 rfl rfl rfl ?_
  refine aw_iload_n 0 dX10_sum_39 rfl rfl ?_
  refine aw_iconst (-1) dX10_sum_40 rfl ?_
  refine aw_icmp_ne 45 dX10_sum_41 (by decide) h (fun h => ?_) (fun h => ?_)
  · refine aw_aload_n 1 dX10_sum_45 rfl rfl ?_
    obtain ⟨hL1, h⟩ := ax_is_spec h
    refine aw_doneV (rest := []) h (fun S9 hF => aw_runV (As := []) (rest := []) (L1_X10_product N kr d hkr hF) axc10 hL1 wd_1535 wd_1532 wd_1534 wd_53 wd_97 pd_X10_product rfl (ax_rm (by omega) rfl) ax_hf0 (Nat.le_of_ble_eq_true rfl) rfl dX10_sum_46) (fun T2 h => ?_)
    refine aw_aload_n 1 dX10_sum_49 rfl rfl ?_
    refine aw_iload_n 0 dX10_sum_50 rfl rfl ?_
    refine aw_iconst 0 dX10_sum_51 rfl ?_
    obtain ⟨hL4, h⟩ := ax_is_spec h
    refine aw_doneV (rest := []) h (fun S9 hF => aw_runV (As := [.int w0, .int 0]) (rest := []) (L1_X10_notes N hF) axc10 hL4 wd_1547 wd_1544 wd_1546 wd_56 wd_97 pd_X10_notes rfl (ax_rm (by omega) rfl) ax_hf0 (Nat.le_of_ble_eq_true rfl) rfl dX10_sum_52) (fun T5 h => ?_)
    refine aw_goto 4 dX10_sum_55 (by decide) ?_
    refine aw_env [(0, .ref v0)] [1] rfl ?_
    exact hK4 v0 T5 h
  · exact aw_vret dX10_sum_44 rfl (Nat.le_refl _) (Nat.le_refl _) h
theorem L1_X10_sum_4b {g : AxG} {l : Launch} {S9 : AxS} (N : Nat) (kr : Nat → AxS → Option (AxS)) (d : Nat) (hkr : ∀ (a0 : Nat) (S : AxS) {S9 : AxS}, kr a0 S = some S9 → AxMet g l yX10_sum cX10_sum 2 none d 0 0 [.ref a0] S ((.inl none, S9))) (K4 : Nat → AxS → Option (AxS)) (hK4 : ∀ (v0 : Nat) (S : AxS), K4 v0 S = some S9 → AW g l (axRm (d + 8) 0 0) mt_X10_sum (axMQ g 0 0 (.inl none, S9)) 0 0 S 4 [(0, .ref v0)] []) (v0 : Nat) (S : AxS) (h : F_X10_sum_4b N kr K4 v0 S = some S9) : AW g l (axRm (d + 8) 0 0) mt_X10_sum (axMQ g 0 0 (.inl none, S9)) 0 0 S 4 [(0, .ref v0)] [] := by
  unfold F_X10_sum_4b at h
  refine aw_aload_n 0 dX10_sum_4 rfl rfl ?_
  refine aw_getI axc10 5 rfl rfl wd_1290 dX10_sum_5 h (fun x1 h => ?_)
  refine aw_if_ne 58 dX10_sum_8 (by decide) h (fun h => ?_) (fun h => ?_)
  · exact aw_vret dX10_sum_58 rfl (Nat.le_refl _) (Nat.le_refl _) h
  · refine aw_aload_n 0 dX10_sum_11 rfl rfl ?_
    refine aw_bipush 43 dX10_sum_12 (by decide) ?_
    obtain ⟨hL2, h⟩ := ax_is_spec h
    refine aw_doneI (rest := []) h (fun r9 S9 hF => aw_runV (As := [.int 43]) (rest := []) (L1_X10_takesSign N hF) axc10 hL2 wd_1559 wd_1556 wd_1558 wd_59 wd_97 pd_X10_takesSign rfl (ax_rm (by omega) rfl) ax_hf0 (Nat.le_of_ble_eq_true rfl) rfl dX10_sum_14) (fun x4 T3 h => ?_)
    refine aw_if_eq 24 dX10_sum_17 (by decide) h (fun h => ?_) (fun h => ?_)
    · refine aw_aload_n 0 dX10_sum_24 rfl rfl ?_
      refine aw_bipush 45 dX10_sum_25 (by decide) ?_
      obtain ⟨hL5, h⟩ := ax_is_spec h
      refine aw_doneI (rest := []) h (fun r9 S9 hF => aw_runV (As := [.int 45]) (rest := []) (L1_X10_takesSign N hF) axc10 hL5 wd_1559 wd_1556 wd_1558 wd_59 wd_97 pd_X10_takesSign rfl (ax_rm (by omega) rfl) ax_hf0 (Nat.le_of_ble_eq_true rfl) rfl dX10_sum_27) (fun x7 T6 h => ?_)
      refine aw_if_eq 37 dX10_sum_30 (by decide) h (fun h => ?_) (fun h => ?_)
      · refine aw_iconst (-1) dX10_sum_37 rfl ?_
        refine aw_env [(0, .ref v0)] [0] rfl ?_
        exact L1_X10_sum_38 N kr d hkr K4 hK4 v0 ((-1)) T6 h
      · refine aw_iconst 3 dX10_sum_33 rfl ?_
        refine aw_goto 38 dX10_sum_34 (by decide) ?_
        refine aw_env [(0, .ref v0)] [0] rfl ?_
        exact L1_X10_sum_38 N kr d hkr K4 hK4 v0 3 T6 h
    · refine aw_iconst 2 dX10_sum_20 rfl ?_
      refine aw_goto 38 dX10_sum_21 (by decide) ?_
      refine aw_env [(0, .ref v0)] [0] rfl ?_
      exact L1_X10_sum_38 N kr d hkr K4 hK4 v0 2 T3 h
theorem L1_X10_sum_4 {g : AxG} {l : Launch} {S9 : AxS} (N : Nat) (kr : Nat → AxS → Option (AxS)) (d : Nat) (hkr : ∀ (a0 : Nat) (S : AxS) {S9 : AxS}, kr a0 S = some S9 → AxMet g l yX10_sum cX10_sum 2 none d 0 0 [.ref a0] S ((.inl none, S9)))  : ∀ (n : Nat) (v0 : Nat) (S : AxS), F_X10_sum_4 N kr  n v0 S = some S9 → AW g l (axRm (d + 8) 0 0) mt_X10_sum (axMQ g 0 0 (.inl none, S9)) 0 0 S 4 [(0, .ref v0)] [] := by
  intro n
  induction n with
  | zero => intro v0 S h; cases h
  | succ n ih => intro v0 S h; exact L1_X10_sum_4b N kr d hkr (F_X10_sum_4 N kr  n) ih v0 S h
theorem L1_X10_sum {g : AxG} {l : Launch} (N : Nat) (kr : Nat → AxS → Option (AxS)) (d : Nat) (hkr : ∀ (a0 : Nat) (S : AxS) {S9 : AxS}, kr a0 S = some S9 → AxMet g l yX10_sum cX10_sum 2 none d 0 0 [.ref a0] S ((.inl none, S9))) {v0 : Nat} {S : AxS} {S9 : AxS} (h : F_X10_sum N kr v0 S = some S9) : AxMet g l yX10_sum cX10_sum 2 none (d + 8) 0 0 [.ref v0] S ((.inl none, S9)) := by
  refine ax_met (own := RX10) (ini := false) (by decide +kernel) rfl (fun h => nomatch h) rfl ?_
  show AW g l (axRm (d + 8) 0 0) mt_X10_sum (axMQ g 0 0 (.inl none, S9)) 0 0 S 0 [(0, .ref v0)] []
  unfold F_X10_sum at h
  refine aw_aload_n 0 dX10_sum_0 rfl rfl ?_
  obtain ⟨hL1, h⟩ := ax_is_spec h
  refine aw_doneV (rest := []) h (fun S9 hF => aw_runV (As := []) (rest := []) (L1_X10_product N kr d hkr hF) axc10 hL1 wd_1535 wd_1532 wd_1534 wd_53 wd_97 pd_X10_product rfl (ax_rm (by omega) rfl) ax_hf0 (Nat.le_of_ble_eq_true rfl) rfl dX10_sum_1) (fun T2 h => ?_)
  refine aw_env [(0, .ref v0)] [0] rfl ?_
  exact L1_X10_sum_4 N kr d hkr  N v0 T2 h
theorem L1GG_X10_sum {g : AxG} {l : Launch} (N : Nat) : ∀ (n : Nat) (v0 : Nat) (S : AxS) {S9 : AxS}, GG_X10_sum N n v0 S = some S9 → AxMet g l yX10_sum cX10_sum 2 none (8 * n) 0 0 [.ref v0] S ((.inl none, S9)) := by
  intro n
  induction n with
  | zero => intro v0 S S9 h; cases h
  | succ n ih =>
    intro v0 S S9 h
    have h9 := L1_X10_sum (g := g) (l := l) N (GG_X10_sum N n) (8 * n) (fun a0 S S9 h => ih a0 S h) h
    exact h9
theorem L1G_X10_sum {g : AxG} {l : Launch} (N : Nat) {v0 : Nat} {S : AxS} {S9 : AxS} (h : G_X10_sum N v0 S = some S9) : AxMet g l yX10_sum cX10_sum 2 none (72) 0 0 [.ref v0] S ((.inl none, S9)) := L1GG_X10_sum N 9 v0 S h


theorem dX10_law_0 : decode cX10_law 0 = .ok (.aload_n 0, 1) := by decide +kernel
theorem dX10_law_1 : decode cX10_law 1 = .ok (.iconst 0, 1) := by decide +kernel
theorem dX10_law_2 : decode cX10_law 2 = .ok (.putfield 104, 3) := by decide +kernel
theorem dX10_law_5 : decode cX10_law 5 = .ok (.aload_n 0, 1) := by decide +kernel
theorem dX10_law_6 : decode cX10_law 6 = .ok (.iload_n 1, 1) := by decide +kernel
theorem dX10_law_7 : decode cX10_law 7 = .ok (.iconst 0, 1) := by decide +kernel
theorem dX10_law_8 : decode cX10_law 8 = .ok (.aload_n 0, 1) := by decide +kernel
theorem dX10_law_9 : decode cX10_law 9 = .ok (.getfield 107, 3) := by decide +kernel
theorem dX10_law_12 : decode cX10_law 12 = .ok (.invokestatic 138, 3) := by decide +kernel
theorem dX10_law_15 : decode cX10_law 15 = .ok (.ifCond .eq 10, 3) := by decide +kernel
theorem dX10_law_18 : decode cX10_law 18 = .ok (.iload_n 1, 1) := by decide +kernel
theorem dX10_law_19 : decode cX10_law 19 = .ok (.sipush 150, 3) := by decide +kernel
theorem dX10_law_22 : decode cX10_law 22 = .ok (.if_icmp .le 7, 3) := by decide +kernel
theorem dX10_law_25 : decode cX10_law 25 = .ok (.iconst 1, 1) := by decide +kernel
theorem dX10_law_26 : decode cX10_law 26 = .ok (.goto 4, 3) := by decide +kernel
theorem dX10_law_29 : decode cX10_law 29 = .ok (.iconst 0, 1) := by decide +kernel
theorem dX10_law_30 : decode cX10_law 30 = .ok (.iconst 1, 1) := by decide +kernel
theorem dX10_law_31 : decode cX10_law 31 = .ok (.iconst 1, 1) := by decide +kernel
theorem dX10_law_32 : decode cX10_law 32 = .ok (.invokevirtual 193, 3) := by decide +kernel
theorem dX10_law_35 : decode cX10_law 35 = .ok (.ifCond .eq 5, 3) := by decide +kernel
theorem dX10_law_38 : decode cX10_law 38 = .ok (.iconst 0, 1) := by decide +kernel
theorem dX10_law_39 : decode cX10_law 39 = .ok (.ireturn, 1) := by decide +kernel
theorem dX10_law_40 : decode cX10_law 40 = .ok (.aload_n 0, 1) := by decide +kernel
theorem dX10_law_41 : decode cX10_law 41 = .ok (.iload_n 1, 1) := by decide +kernel
theorem dX10_law_42 : decode cX10_law 42 = .ok (.invokevirtual 197, 3) := by decide +kernel
theorem dX10_law_45 : decode cX10_law 45 = .ok (.aload_n 0, 1) := by decide +kernel
theorem dX10_law_46 : decode cX10_law 46 = .ok (.iconst 0, 1) := by decide +kernel
theorem dX10_law_47 : decode cX10_law 47 = .ok (.putfield 229, 3) := by decide +kernel
theorem dX10_law_50 : decode cX10_law 50 = .ok (.aload_n 0, 1) := by decide +kernel
theorem dX10_law_51 : decode cX10_law 51 = .ok (.invokevirtual 251, 3) := by decide +kernel
theorem dX10_law_54 : decode cX10_law 54 = .ok (.aload_n 0, 1) := by decide +kernel
theorem dX10_law_55 : decode cX10_law 55 = .ok (.invokevirtual 126, 3) := by decide +kernel
theorem dX10_law_58 : decode cX10_law 58 = .ok (.aload_n 0, 1) := by decide +kernel
theorem dX10_law_59 : decode cX10_law 59 = .ok (.getfield 120, 3) := by decide +kernel
theorem dX10_law_62 : decode cX10_law 62 = .ok (.ifCond .ne 23, 3) := by decide +kernel
theorem dX10_law_65 : decode cX10_law 65 = .ok (.aload_n 0, 1) := by decide +kernel
theorem dX10_law_66 : decode cX10_law 66 = .ok (.getfield 113, 3) := by decide +kernel
theorem dX10_law_69 : decode cX10_law 69 = .ok (.aload_n 0, 1) := by decide +kernel
theorem dX10_law_70 : decode cX10_law 70 = .ok (.getfield 110, 3) := by decide +kernel
theorem dX10_law_73 : decode cX10_law 73 = .ok (.if_icmp .ge 12, 3) := by decide +kernel
theorem dX10_law_76 : decode cX10_law 76 = .ok (.aload_n 0, 1) := by decide +kernel
theorem dX10_law_77 : decode cX10_law 77 = .ok (.iconst 1, 1) := by decide +kernel
theorem dX10_law_78 : decode cX10_law 78 = .ok (.aload_n 0, 1) := by decide +kernel
theorem dX10_law_79 : decode cX10_law 79 = .ok (.getfield 113, 3) := by decide +kernel
theorem dX10_law_82 : decode cX10_law 82 = .ok (.invokevirtual 133, 3) := by decide +kernel
theorem dX10_law_85 : decode cX10_law 85 = .ok (.aload_n 0, 1) := by decide +kernel
theorem dX10_law_86 : decode cX10_law 86 = .ok (.getfield 120, 3) := by decide +kernel
theorem dX10_law_89 : decode cX10_law 89 = .ok (.ifCond .eq 8, 3) := by decide +kernel
theorem dX10_law_92 : decode cX10_law 92 = .ok (.aload_n 0, 1) := by decide +kernel
theorem dX10_law_93 : decode cX10_law 93 = .ok (.invokevirtual 203, 3) := by decide +kernel
theorem dX10_law_96 : decode cX10_law 96 = .ok (.ireturn, 1) := by decide +kernel
theorem dX10_law_97 : decode cX10_law 97 = .ok (.aload_n 0, 1) := by decide +kernel
theorem dX10_law_98 : decode cX10_law 98 = .ok (.iconst (-1), 1) := by decide +kernel
theorem dX10_law_99 : decode cX10_law 99 = .ok (.putfield 9, 3) := by decide +kernel
theorem dX10_law_102 : decode cX10_law 102 = .ok (.aload_n 0, 1) := by decide +kernel
theorem dX10_law_103 : decode cX10_law 103 = .ok (.aload_n 0, 1) := by decide +kernel
theorem dX10_law_104 : decode cX10_law 104 = .ok (.getfield 229, 3) := by decide +kernel
theorem dX10_law_107 : decode cX10_law 107 = .ok (.putfield 214, 3) := by decide +kernel
theorem dX10_law_110 : decode cX10_law 110 = .ok (.aload_n 0, 1) := by decide +kernel
theorem dX10_law_111 : decode cX10_law 111 = .ok (.getfield 43, 3) := by decide +kernel
theorem dX10_law_114 : decode cX10_law 114 = .ok (.aload_n 0, 1) := by decide +kernel
theorem dX10_law_115 : decode cX10_law 115 = .ok (.getfield 40, 3) := by decide +kernel
theorem dX10_law_118 : decode cX10_law 118 = .ok (.aload_n 0, 1) := by decide +kernel
theorem dX10_law_119 : decode cX10_law 119 = .ok (.getfield 214, 3) := by decide +kernel
theorem dX10_law_122 : decode cX10_law 122 = .ok (.invokestatic 206, 3) := by decide +kernel
theorem dX10_law_125 : decode cX10_law 125 = .ok (.iconst 1, 1) := by decide +kernel
theorem dX10_law_126 : decode cX10_law 126 = .ok (.ireturn, 1) := by decide +kernel
abbrev mt_X10_law : AxM := (RX10, cX10_law, 2, (some .int), false, [])
theorem L1_X10_law_85 {g : AxG} {l : Launch} {r9 : Int32} {S9 : AxS} (N : Nat)  (v0 : Nat) (S : AxS) (h : F_X10_law_85 N  v0 S = some ((r9, S9))) : AW g l (axRm (73) 0 0) mt_X10_law (axMQ g 0 0 (.inl (some (.int r9)), S9)) 0 0 S 85 [(0, .ref v0)] [] := by
  unfold F_X10_law_85 at h
  refine aw_aload_n 0 dX10_law_85 rfl rfl ?_
  refine aw_getI axc10 5 rfl rfl wd_1290 dX10_law_86 h (fun x1 h => ?_)
  refine aw_if_eq 97 dX10_law_89 (by decide) h (fun h => ?_) (fun h => ?_)
  · refine aw_aload_n 0 dX10_law_97 rfl rfl ?_
    refine aw_iconst (-1) dX10_law_98 rfl ?_
    refine aw_putI axc10 3 rfl rfl wd_1288 rfl rfl rfl dX10_law_99 h (fun T2 h => ?_)
    refine aw_aload_n 0 dX10_law_102 rfl rfl ?_
    refine aw_aload_n 0 dX10_law_103 rfl rfl ?_
    refine aw_getI axc10 18 rfl rfl wd_1303 dX10_law_104 h (fun x3 h => ?_)
    refine aw_putI axc10 17 rfl rfl wd_1302 rfl rfl rfl dX10_law_107 h (fun T4 h => ?_)
    refine aw_aload_n 0 dX10_law_110 rfl rfl ?_
    refine aw_getR axc10 20 rfl rfl wd_1305 dX10_law_111 h (fun a5 h => ?_)
    refine aw_aload_n 0 dX10_law_114 rfl rfl ?_
    refine aw_getR axc10 19 rfl rfl wd_1304 dX10_law_115 h (fun a6 h => ?_)
    refine aw_aload_n 0 dX10_law_118 rfl rfl ?_
    refine aw_getI axc10 17 rfl rfl wd_1302 dX10_law_119 h (fun x7 h => ?_)
    refine aw_doneV (rest := []) h (fun S9 hF => aw_runS (As := [.ref a5, .ref a6, .int x7]) (rest := []) (L1_X10_lays N hF) wd_1280 wd_1278 wd_1279 wd_97 pd_X10_lays.2 rfl (ax_rm (by omega) rfl) ax_hf0 (Nat.le_of_ble_eq_true rfl) rfl dX10_law_122) (fun T8 h => ?_)
    refine aw_iconst 1 dX10_law_125 rfl ?_
    exact aw_iret dX10_law_126 rfl (Nat.le_refl _) (Nat.le_refl _) h
  · refine aw_aload_n 0 dX10_law_92 rfl rfl ?_
    obtain ⟨hL10, h⟩ := ax_is_spec h
    refine aw_doneI (rest := []) h (fun r9 S9 hF => aw_runV (As := []) (rest := []) (L1_X10_ends N hF) axc10 hL10 wd_1523 wd_1520 wd_1522 wd_51 wd_97 pd_X10_ends rfl (ax_rm (by omega) rfl) ax_hf0 (Nat.le_of_ble_eq_true rfl) rfl dX10_law_93) (fun x12 T11 h => ?_)
    exact aw_iret dX10_law_96 rfl (Nat.le_refl _) (Nat.le_refl _) h
theorem L1_X10_law_30 {g : AxG} {l : Launch} {r9 : Int32} {S9 : AxS} (N : Nat)  (v0 : Nat) (v1 : Int32) (w0 : Int32) (w1 : Nat) (S : AxS) (h : F_X10_law_30 N  v0 v1 w0 w1 S = some ((r9, S9))) : AW g l (axRm (73) 0 0) mt_X10_law (axMQ g 0 0 (.inl (some (.int r9)), S9)) 0 0 S 30 [(0, .ref v0), (1, .int v1)] [.int w0, .ref w1] := by
  unfold F_X10_law_30 at h
  refine aw_iconst 1 dX10_law_30 rfl ?_
  refine aw_iconst 1 dX10_law_31 rfl ?_
  obtain ⟨hL1, h⟩ := ax_is_spec h
  refine aw_doneI (rest := []) h (fun r9 S9 hF => aw_runV (As := [.int w0, .int 1, .int 1]) (rest := []) (L1_X10_bad N hF) axc10 hL1 wd_1452 wd_1449 wd_1451 wd_38 wd_97 pd_X10_bad rfl (ax_rm (by omega) rfl) ax_hf0 (Nat.le_of_ble_eq_true rfl) rfl dX10_law_32) (fun x3 T2 h => ?_)
  refine aw_if_eq 40 dX10_law_35 (by decide) h (fun h => ?_) (fun h => ?_)
  · refine aw_aload_n 0 dX10_law_40 rfl rfl ?_
    refine aw_iload_n 1 dX10_law_41 rfl rfl ?_
    obtain ⟨hL4, h⟩ := ax_is_spec h
    refine aw_doneV (rest := []) h (fun S9 hF => aw_runV (As := [.int v1]) (rest := []) (L1_X10_starts N hF) axc10 hL4 wd_1456 wd_1453 wd_1455 wd_39 wd_97 pd_X10_starts rfl (ax_rm (by omega) rfl) ax_hf0 (Nat.le_of_ble_eq_true rfl) rfl dX10_law_42) (fun T5 h => ?_)
    refine aw_aload_n 0 dX10_law_45 rfl rfl ?_
    refine aw_iconst 0 dX10_law_46 rfl ?_
    refine aw_putI axc10 18 rfl rfl wd_1303 rfl rfl rfl dX10_law_47 h (fun T7 h => ?_)
    refine aw_aload_n 0 dX10_law_50 rfl rfl ?_
    obtain ⟨hL8, h⟩ := ax_is_spec h
    refine aw_doneV (rest := []) h (fun S9 hF => aw_runV (As := []) (rest := []) (L1G_X10_sum N hF) axc10 hL8 wd_1531 wd_1528 wd_1530 wd_52 wd_97 pd_X10_sum rfl (ax_rm (by omega) rfl) ax_hf0 (Nat.le_of_ble_eq_true rfl) rfl dX10_law_51) (fun T9 h => ?_)
    refine aw_aload_n 0 dX10_law_54 rfl rfl ?_
    obtain ⟨hL11, h⟩ := ax_is_spec h
    refine aw_doneV (rest := []) h (fun S9 hF => aw_runV (As := []) (rest := []) (L1_X10_blanks N hF) axc10 hL11 wd_1460 wd_1457 wd_1459 wd_40 wd_97 pd_X10_blanks rfl (ax_rm (by omega) rfl) ax_hf0 (Nat.le_of_ble_eq_true rfl) rfl dX10_law_55) (fun T12 h => ?_)
    refine aw_aload_n 0 dX10_law_58 rfl rfl ?_
    refine aw_getI axc10 5 rfl rfl wd_1290 dX10_law_59 h (fun x14 h => ?_)
    refine aw_if_ne 85 dX10_law_62 (by decide) h (fun h => ?_) (fun h => ?_)
    · refine aw_env [(0, .ref v0)] [0] rfl ?_
      exact L1_X10_law_85 N  v0 T12 h
    · refine aw_aload_n 0 dX10_law_65 rfl rfl ?_
      refine aw_getI axc10 4 rfl rfl wd_1289 dX10_law_66 h (fun x15 h => ?_)
      refine aw_aload_n 0 dX10_law_69 rfl rfl ?_
      refine aw_getI axc10 2 rfl rfl wd_1287 dX10_law_70 h (fun x16 h => ?_)
      refine aw_icmp_ge 85 dX10_law_73 (by decide) h (fun h => ?_) (fun h => ?_)
      · refine aw_env [(0, .ref v0)] [0] rfl ?_
        exact L1_X10_law_85 N  v0 T12 h
      · refine aw_aload_n 0 dX10_law_76 rfl rfl ?_
        refine aw_iconst 1 dX10_law_77 rfl ?_
        refine aw_aload_n 0 dX10_law_78 rfl rfl ?_
        refine aw_getI axc10 4 rfl rfl wd_1289 dX10_law_79 h (fun x17 h => ?_)
        obtain ⟨hL18, h⟩ := ax_is_spec h
        refine aw_doneV (rest := []) h (fun S9 hF => aw_runV (As := [.int 1, .int x17]) (rest := []) (L1_X10_wrong N hF) axc10 hL18 wd_1493 wd_1490 wd_1492 wd_46 wd_97 pd_X10_wrong rfl (ax_rm (by omega) rfl) ax_hf0 (Nat.le_of_ble_eq_true rfl) rfl dX10_law_82) (fun T19 h => ?_)
        refine aw_env [(0, .ref v0)] [0] rfl ?_
        exact L1_X10_law_85 N  v0 T19 h
  · refine aw_iconst 0 dX10_law_38 rfl ?_
    exact aw_iret dX10_law_39 rfl (Nat.le_refl _) (Nat.le_refl _) h
theorem L1_X10_law_25 {g : AxG} {l : Launch} {r9 : Int32} {S9 : AxS} (N : Nat)  (v0 : Nat) (v1 : Int32) (w0 : Nat) (S : AxS) (h : F_X10_law_25 N  v0 v1 w0 S = some ((r9, S9))) : AW g l (axRm (73) 0 0) mt_X10_law (axMQ g 0 0 (.inl (some (.int r9)), S9)) 0 0 S 25 [(0, .ref v0), (1, .int v1)] [.ref w0] := by
  unfold F_X10_law_25 at h
  refine aw_iconst 1 dX10_law_25 rfl ?_
  refine aw_goto 30 dX10_law_26 (by decide) ?_
  refine aw_env [(0, .ref v0), (1, .int v1)] [0, 1] rfl ?_
  exact L1_X10_law_30 N  v0 v1 1 w0 S h
theorem L1_X10_law {g : AxG} {l : Launch} (N : Nat) {v0 : Nat} {v1 : Int32} {S : AxS} {r9 : Int32} {S9 : AxS} (h : F_X10_law N v0 v1 S = some ((r9, S9))) : AxMet g l yX10_law cX10_law 2 (some .int) (73) 0 0 [.ref v0, .int v1] S ((.inl (some (.int r9)), S9)) := by
  refine ax_met (own := RX10) (ini := false) (by decide +kernel) rfl (fun h => nomatch h) rfl ?_
  show AW g l (axRm (73) 0 0) mt_X10_law (axMQ g 0 0 (.inl (some (.int r9)), S9)) 0 0 S 0 [(0, .ref v0), (1, .int v1)] []
  unfold F_X10_law at h
  refine aw_aload_n 0 dX10_law_0 rfl rfl ?_
  refine aw_iconst 0 dX10_law_1 rfl ?_
  refine aw_putI axc10 0 rfl rfl wd_1285 rfl rfl rfl dX10_law_2 h (fun T1 h => ?_)
  refine aw_aload_n 0 dX10_law_5 rfl rfl ?_
  refine aw_iload_n 1 dX10_law_6 rfl rfl ?_
  refine aw_iconst 0 dX10_law_7 rfl ?_
  refine aw_aload_n 0 dX10_law_8 rfl rfl ?_
  refine aw_getI axc10 1 rfl rfl wd_1286 dX10_law_9 h (fun x2 h => ?_)
  refine aw_doneI (rest := [.ref v0]) h (fun r9 S9 hF => aw_runS (As := [.int v1, .int 0, .int x2]) (rest := [.ref v0]) (L1_X10_in N hF) wd_1448 wd_1446 wd_1447 wd_97 pd_X10_in.2 rfl (ax_rm (by omega) rfl) ax_hf0 (Nat.le_of_ble_eq_true rfl) rfl dX10_law_12) (fun x4 T3 h => ?_)
  refine aw_if_eq 25 dX10_law_15 (by decide) h (fun h => ?_) (fun h => ?_)
  · refine aw_env [(0, .ref v0), (1, .int v1)] [0, 1] rfl ?_
    exact L1_X10_law_25 N  v0 v1 v0 T3 h
  · refine aw_iload_n 1 dX10_law_18 rfl rfl ?_
    refine aw_sipush 150 dX10_law_19 (by decide) ?_
    refine aw_icmp_le 29 dX10_law_22 (by decide) h (fun h => ?_) (fun h => ?_)
    · refine aw_iconst 0 dX10_law_29 rfl ?_
      refine aw_env [(0, .ref v0), (1, .int v1)] [0, 1] rfl ?_
      exact L1_X10_law_30 N  v0 v1 0 v0 T3 h
    · refine aw_env [(0, .ref v0), (1, .int v1)] [0, 1] rfl ?_
      exact L1_X10_law_25 N  v0 v1 v0 T3 h

theorem dX10_by_0 : decode cX10_by 0 = .ok (.iload_n 0, 1) := by decide +kernel
theorem dX10_by_1 : decode cX10_by 1 = .ok (.tableswitch 96 2 7 #[39, 43, 47, 51, 73, 90], 39) := by decide +kernel
theorem dX10_by_40 : decode cX10_by 40 = .ok (.iload_n 1, 1) := by decide +kernel
theorem dX10_by_41 : decode cX10_by 41 = .ok (.iload_n 2, 1) := by decide +kernel
theorem dX10_by_42 : decode cX10_by 42 = .ok (.iadd, 1) := by decide +kernel
theorem dX10_by_43 : decode cX10_by 43 = .ok (.ireturn, 1) := by decide +kernel
theorem dX10_by_44 : decode cX10_by 44 = .ok (.iload_n 1, 1) := by decide +kernel
theorem dX10_by_45 : decode cX10_by 45 = .ok (.iload_n 2, 1) := by decide +kernel
theorem dX10_by_46 : decode cX10_by 46 = .ok (.isub, 1) := by decide +kernel
theorem dX10_by_47 : decode cX10_by 47 = .ok (.ireturn, 1) := by decide +kernel
theorem dX10_by_48 : decode cX10_by 48 = .ok (.iload_n 1, 1) := by decide +kernel
theorem dX10_by_49 : decode cX10_by 49 = .ok (.iload_n 2, 1) := by decide +kernel
theorem dX10_by_50 : decode cX10_by 50 = .ok (.imul, 1) := by decide +kernel
theorem dX10_by_51 : decode cX10_by 51 = .ok (.ireturn, 1) := by decide +kernel
theorem dX10_by_52 : decode cX10_by 52 = .ok (.iload_n 2, 1) := by decide +kernel
theorem dX10_by_53 : decode cX10_by 53 = .ok (.ifCond .ne 7, 3) := by decide +kernel
theorem dX10_by_56 : decode cX10_by 56 = .ok (.iconst 0, 1) := by decide +kernel
theorem dX10_by_57 : decode cX10_by 57 = .ok (.goto 16, 3) := by decide +kernel
theorem dX10_by_60 : decode cX10_by 60 = .ok (.iload_n 2, 1) := by decide +kernel
theorem dX10_by_61 : decode cX10_by 61 = .ok (.iconst (-1), 1) := by decide +kernel
theorem dX10_by_62 : decode cX10_by 62 = .ok (.if_icmp .ne 8, 3) := by decide +kernel
theorem dX10_by_65 : decode cX10_by 65 = .ok (.iload_n 1, 1) := by decide +kernel
theorem dX10_by_66 : decode cX10_by 66 = .ok (.ineg, 1) := by decide +kernel
theorem dX10_by_67 : decode cX10_by 67 = .ok (.goto 6, 3) := by decide +kernel
theorem dX10_by_70 : decode cX10_by 70 = .ok (.iload_n 1, 1) := by decide +kernel
theorem dX10_by_71 : decode cX10_by 71 = .ok (.iload_n 2, 1) := by decide +kernel
theorem dX10_by_72 : decode cX10_by 72 = .ok (.idiv, 1) := by decide +kernel
theorem dX10_by_73 : decode cX10_by 73 = .ok (.ireturn, 1) := by decide +kernel
theorem dX10_by_74 : decode cX10_by 74 = .ok (.iload_n 2, 1) := by decide +kernel
theorem dX10_by_75 : decode cX10_by 75 = .ok (.ifCond .eq 8, 3) := by decide +kernel
theorem dX10_by_78 : decode cX10_by 78 = .ok (.iload_n 2, 1) := by decide +kernel
theorem dX10_by_79 : decode cX10_by 79 = .ok (.iconst (-1), 1) := by decide +kernel
theorem dX10_by_80 : decode cX10_by 80 = .ok (.if_icmp .ne 7, 3) := by decide +kernel
theorem dX10_by_83 : decode cX10_by 83 = .ok (.iconst 0, 1) := by decide +kernel
theorem dX10_by_84 : decode cX10_by 84 = .ok (.goto 6, 3) := by decide +kernel
theorem dX10_by_87 : decode cX10_by 87 = .ok (.iload_n 1, 1) := by decide +kernel
theorem dX10_by_88 : decode cX10_by 88 = .ok (.iload_n 2, 1) := by decide +kernel
theorem dX10_by_89 : decode cX10_by 89 = .ok (.irem, 1) := by decide +kernel
theorem dX10_by_90 : decode cX10_by 90 = .ok (.ireturn, 1) := by decide +kernel
theorem dX10_by_91 : decode cX10_by 91 = .ok (.iload_n 1, 1) := by decide +kernel
theorem dX10_by_92 : decode cX10_by 92 = .ok (.iload_n 2, 1) := by decide +kernel
theorem dX10_by_93 : decode cX10_by 93 = .ok (.invokestatic 172, 3) := by decide +kernel
theorem dX10_by_96 : decode cX10_by 96 = .ok (.ireturn, 1) := by decide +kernel
theorem dX10_by_97 : decode cX10_by 97 = .ok (.iload_n 1, 1) := by decide +kernel
theorem dX10_by_98 : decode cX10_by 98 = .ok (.iload_n 2, 1) := by decide +kernel
theorem dX10_by_99 : decode cX10_by 99 = .ok (.invokestatic 257, 3) := by decide +kernel
theorem dX10_by_102 : decode cX10_by 102 = .ok (.ireturn, 1) := by decide +kernel
abbrev mt_X10_by : AxM := (RX10, cX10_by, 3, (some .int), false, [])
theorem L1_X10_by {g : AxG} {l : Launch} (N : Nat) {v0 : Int32} {v1 : Int32} {v2 : Int32} {S : AxS} {r9 : Int32} {S9 : AxS} (h : F_X10_by N v0 v1 v2 S = some ((r9, S9))) : AxMet g l yX10_by cX10_by 3 (some .int) (1) 0 0 [.int v0, .int v1, .int v2] S ((.inl (some (.int r9)), S9)) := by
  refine ax_met (own := RX10) (ini := false) (by decide +kernel) rfl (fun h => nomatch h) rfl ?_
  show AW g l (axRm (1) 0 0) mt_X10_by (axMQ g 0 0 (.inl (some (.int r9)), S9)) 0 0 S 0 [(0, .int v0), (1, .int v1), (2, .int v2)] []
  unfold F_X10_by at h
  refine aw_iload_n 0 dX10_by_0 rfl rfl ?_
  refine aw_case 2 h (fun h => ?_) (fun c1 h => ?_)
  · refine aw_tswIn 40 (off := 39) dX10_by_1 (by decide) (by decide) (by decide) (by decide) ?_
    refine aw_iload_n 1 dX10_by_40 rfl rfl ?_
    refine aw_iload_n 2 dX10_by_41 rfl rfl ?_
    refine aw_iadd dX10_by_42 ?_
    exact aw_iret dX10_by_43 rfl (Nat.le_refl _) (Nat.le_refl _) h
  refine aw_case 3 h (fun h => ?_) (fun c2 h => ?_)
  · refine aw_tswIn 44 (off := 43) dX10_by_1 (by decide) (by decide) (by decide) (by decide) ?_
    refine aw_iload_n 1 dX10_by_44 rfl rfl ?_
    refine aw_iload_n 2 dX10_by_45 rfl rfl ?_
    refine aw_isub dX10_by_46 ?_
    exact aw_iret dX10_by_47 rfl (Nat.le_refl _) (Nat.le_refl _) h
  refine aw_case 4 h (fun h => ?_) (fun c3 h => ?_)
  · refine aw_tswIn 48 (off := 47) dX10_by_1 (by decide) (by decide) (by decide) (by decide) ?_
    refine aw_iload_n 1 dX10_by_48 rfl rfl ?_
    refine aw_iload_n 2 dX10_by_49 rfl rfl ?_
    refine aw_imul dX10_by_50 ?_
    exact aw_iret dX10_by_51 rfl (Nat.le_refl _) (Nat.le_refl _) h
  refine aw_case 5 h (fun h => ?_) (fun c4 h => ?_)
  · refine aw_tswIn 52 (off := 51) dX10_by_1 (by decide) (by decide) (by decide) (by decide) ?_
    refine aw_iload_n 2 dX10_by_52 rfl rfl ?_
    refine aw_if_ne 60 dX10_by_53 (by decide) h (fun h => ?_) (fun h => ?_)
    · refine aw_iload_n 2 dX10_by_60 rfl rfl ?_
      refine aw_iconst (-1) dX10_by_61 rfl ?_
      refine aw_icmp_ne 70 dX10_by_62 (by decide) h (fun h => ?_) (fun h => ?_)
      · refine aw_iload_n 1 dX10_by_70 rfl rfl ?_
        refine aw_iload_n 2 dX10_by_71 rfl rfl ?_
        refine aw_idiv dX10_by_72 h (fun h => ?_)
        exact aw_iret dX10_by_73 rfl (Nat.le_refl _) (Nat.le_refl _) h
      · refine aw_iload_n 1 dX10_by_65 rfl rfl ?_
        refine aw_ineg dX10_by_66 ?_
        refine aw_goto 73 dX10_by_67 (by decide) ?_
        exact aw_iret dX10_by_73 rfl (Nat.le_refl _) (Nat.le_refl _) h
    · refine aw_iconst 0 dX10_by_56 rfl ?_
      refine aw_goto 73 dX10_by_57 (by decide) ?_
      exact aw_iret dX10_by_73 rfl (Nat.le_refl _) (Nat.le_refl _) h
  refine aw_case 6 h (fun h => ?_) (fun c5 h => ?_)
  · refine aw_tswIn 74 (off := 73) dX10_by_1 (by decide) (by decide) (by decide) (by decide) ?_
    refine aw_iload_n 2 dX10_by_74 rfl rfl ?_
    refine aw_if_eq 83 dX10_by_75 (by decide) h (fun h => ?_) (fun h => ?_)
    · refine aw_iconst 0 dX10_by_83 rfl ?_
      refine aw_goto 90 dX10_by_84 (by decide) ?_
      exact aw_iret dX10_by_90 rfl (Nat.le_refl _) (Nat.le_refl _) h
    · refine aw_iload_n 2 dX10_by_78 rfl rfl ?_
      refine aw_iconst (-1) dX10_by_79 rfl ?_
      refine aw_icmp_ne 87 dX10_by_80 (by decide) h (fun h => ?_) (fun h => ?_)
      · refine aw_iload_n 1 dX10_by_87 rfl rfl ?_
        refine aw_iload_n 2 dX10_by_88 rfl rfl ?_
        refine aw_irem dX10_by_89 h (fun h => ?_)
        exact aw_iret dX10_by_90 rfl (Nat.le_refl _) (Nat.le_refl _) h
      · refine aw_iconst 0 dX10_by_83 rfl ?_
        refine aw_goto 90 dX10_by_84 (by decide) ?_
        exact aw_iret dX10_by_90 rfl (Nat.le_refl _) (Nat.le_refl _) h
  refine aw_case 7 h (fun h => ?_) (fun c8 h => ?_)
  · refine aw_tswIn 91 (off := 90) dX10_by_1 (by decide) (by decide) (by decide) (by decide) ?_
    refine aw_iload_n 1 dX10_by_91 rfl rfl ?_
    refine aw_iload_n 2 dX10_by_92 rfl rfl ?_
    refine aw_doneI (rest := []) h (fun r9 S9 hF => aw_runS (As := [.int v1, .int v2]) (rest := []) (L1_X10_less N hF) wd_1500 wd_1498 wd_1499 wd_97 pd_X10_less.2 rfl (ax_rm (by omega) rfl) ax_hf0 (Nat.le_of_ble_eq_true rfl) rfl dX10_by_93) (fun x7 T6 h => ?_)
    exact aw_iret dX10_by_96 rfl (Nat.le_refl _) (Nat.le_refl _) h
  refine aw_tswOut 97 dX10_by_1 (by have q0 := ax_i32ne c1 (v := 2) (i := 2) (by decide); have q1 := ax_i32ne c2 (v := 3) (i := 3) (by decide); have q2 := ax_i32ne c3 (v := 4) (i := 4) (by decide); have q3 := ax_i32ne c4 (v := 5) (i := 5) (by decide); have q4 := ax_i32ne c5 (v := 6) (i := 6) (by decide); have q5 := ax_i32ne c8 (v := 7) (i := 7) (by decide); omega) (by decide) ?_
  refine aw_iload_n 1 dX10_by_97 rfl rfl ?_
  refine aw_iload_n 2 dX10_by_98 rfl rfl ?_
  refine aw_doneI (rest := []) h (fun r9 S9 hF => aw_runS (As := [.int v1, .int v2]) (rest := []) (L1_X10_more N hF) wd_1614 wd_1612 wd_1613 wd_97 pd_X10_more.2 rfl (ax_rm (by omega) rfl) ax_hf0 (Nat.le_of_ble_eq_true rfl) rfl dX10_by_99) (fun x10 T9 h => ?_)
  exact aw_iret dX10_by_102 rfl (Nat.le_refl _) (Nat.le_refl _) h

theorem dX10_byLaw_0 : decode cX10_byLaw 0 = .ok (.iconst 0, 1) := by decide +kernel
theorem dX10_byLaw_1 : decode cX10_byLaw 1 = .ok (.istore_n 1, 1) := by decide +kernel
theorem dX10_byLaw_2 : decode cX10_byLaw 2 = .ok (.aload_n 0, 1) := by decide +kernel
theorem dX10_byLaw_3 : decode cX10_byLaw 3 = .ok (.getfield 52, 3) := by decide +kernel
theorem dX10_byLaw_6 : decode cX10_byLaw 6 = .ok (.iconst 0, 1) := by decide +kernel
theorem dX10_byLaw_7 : decode cX10_byLaw 7 = .ok (.aload_n 0, 1) := by decide +kernel
theorem dX10_byLaw_8 : decode cX10_byLaw 8 = .ok (.getfield 55, 3) := by decide +kernel
theorem dX10_byLaw_11 : decode cX10_byLaw 11 = .ok (.iconst 0, 1) := by decide +kernel
theorem dX10_byLaw_12 : decode cX10_byLaw 12 = .ok (.iaload, 1) := by decide +kernel
theorem dX10_byLaw_13 : decode cX10_byLaw 13 = .ok (.bipush 10, 2) := by decide +kernel
theorem dX10_byLaw_15 : decode cX10_byLaw 15 = .ok (.idiv, 1) := by decide +kernel
theorem dX10_byLaw_16 : decode cX10_byLaw 16 = .ok (.iastore, 1) := by decide +kernel
theorem dX10_byLaw_17 : decode cX10_byLaw 17 = .ok (.iconst 0, 1) := by decide +kernel
theorem dX10_byLaw_18 : decode cX10_byLaw 18 = .ok (.istore_n 2, 1) := by decide +kernel
theorem dX10_byLaw_19 : decode cX10_byLaw 19 = .ok (.iload_n 2, 1) := by decide +kernel
theorem dX10_byLaw_20 : decode cX10_byLaw 20 = .ok (.aload_n 0, 1) := by decide +kernel
theorem dX10_byLaw_21 : decode cX10_byLaw 21 = .ok (.getfield 214, 3) := by decide +kernel
theorem dX10_byLaw_24 : decode cX10_byLaw 24 = .ok (.if_icmp .ge 104, 3) := by decide +kernel
theorem dX10_byLaw_27 : decode cX10_byLaw 27 = .ok (.aload_n 0, 1) := by decide +kernel
theorem dX10_byLaw_28 : decode cX10_byLaw 28 = .ok (.getfield 40, 3) := by decide +kernel
theorem dX10_byLaw_31 : decode cX10_byLaw 31 = .ok (.iload_n 2, 1) := by decide +kernel
theorem dX10_byLaw_32 : decode cX10_byLaw 32 = .ok (.aaload, 1) := by decide +kernel
theorem dX10_byLaw_33 : decode cX10_byLaw 33 = .ok (.iconst 0, 1) := by decide +kernel
theorem dX10_byLaw_34 : decode cX10_byLaw 34 = .ok (.iaload, 1) := by decide +kernel
theorem dX10_byLaw_35 : decode cX10_byLaw 35 = .ok (.iconst 2, 1) := by decide +kernel
theorem dX10_byLaw_36 : decode cX10_byLaw 36 = .ok (.if_icmp .ge 50, 3) := by decide +kernel
theorem dX10_byLaw_39 : decode cX10_byLaw 39 = .ok (.aload_n 0, 1) := by decide +kernel
theorem dX10_byLaw_40 : decode cX10_byLaw 40 = .ok (.getfield 52, 3) := by decide +kernel
theorem dX10_byLaw_43 : decode cX10_byLaw 43 = .ok (.iload_n 1, 1) := by decide +kernel
theorem dX10_byLaw_44 : decode cX10_byLaw 44 = .ok (.aload_n 0, 1) := by decide +kernel
theorem dX10_byLaw_45 : decode cX10_byLaw 45 = .ok (.getfield 40, 3) := by decide +kernel
theorem dX10_byLaw_48 : decode cX10_byLaw 48 = .ok (.iload_n 2, 1) := by decide +kernel
theorem dX10_byLaw_49 : decode cX10_byLaw 49 = .ok (.aaload, 1) := by decide +kernel
theorem dX10_byLaw_50 : decode cX10_byLaw 50 = .ok (.iconst 0, 1) := by decide +kernel
theorem dX10_byLaw_51 : decode cX10_byLaw 51 = .ok (.iaload, 1) := by decide +kernel
theorem dX10_byLaw_52 : decode cX10_byLaw 52 = .ok (.ifCond .ne 14, 3) := by decide +kernel
theorem dX10_byLaw_55 : decode cX10_byLaw 55 = .ok (.aload_n 0, 1) := by decide +kernel
theorem dX10_byLaw_56 : decode cX10_byLaw 56 = .ok (.getfield 40, 3) := by decide +kernel
theorem dX10_byLaw_59 : decode cX10_byLaw 59 = .ok (.iload_n 2, 1) := by decide +kernel
theorem dX10_byLaw_60 : decode cX10_byLaw 60 = .ok (.aaload, 1) := by decide +kernel
theorem dX10_byLaw_61 : decode cX10_byLaw 61 = .ok (.iconst 1, 1) := by decide +kernel
theorem dX10_byLaw_62 : decode cX10_byLaw 62 = .ok (.iaload, 1) := by decide +kernel
theorem dX10_byLaw_63 : decode cX10_byLaw 63 = .ok (.goto 16, 3) := by decide +kernel
theorem dX10_byLaw_66 : decode cX10_byLaw 66 = .ok (.aload_n 0, 1) := by decide +kernel
theorem dX10_byLaw_67 : decode cX10_byLaw 67 = .ok (.getfield 55, 3) := by decide +kernel
theorem dX10_byLaw_70 : decode cX10_byLaw 70 = .ok (.aload_n 0, 1) := by decide +kernel
theorem dX10_byLaw_71 : decode cX10_byLaw 71 = .ok (.getfield 40, 3) := by decide +kernel
theorem dX10_byLaw_74 : decode cX10_byLaw 74 = .ok (.iload_n 2, 1) := by decide +kernel
theorem dX10_byLaw_75 : decode cX10_byLaw 75 = .ok (.aaload, 1) := by decide +kernel
theorem dX10_byLaw_76 : decode cX10_byLaw 76 = .ok (.iconst 1, 1) := by decide +kernel
theorem dX10_byLaw_77 : decode cX10_byLaw 77 = .ok (.iaload, 1) := by decide +kernel
theorem dX10_byLaw_78 : decode cX10_byLaw 78 = .ok (.iaload, 1) := by decide +kernel
theorem dX10_byLaw_79 : decode cX10_byLaw 79 = .ok (.iastore, 1) := by decide +kernel
theorem dX10_byLaw_80 : decode cX10_byLaw 80 = .ok (.iinc 1 1, 3) := by decide +kernel
theorem dX10_byLaw_83 : decode cX10_byLaw 83 = .ok (.goto 39, 3) := by decide +kernel
theorem dX10_byLaw_86 : decode cX10_byLaw 86 = .ok (.iinc 1 (-1), 3) := by decide +kernel
theorem dX10_byLaw_89 : decode cX10_byLaw 89 = .ok (.aload_n 0, 1) := by decide +kernel
theorem dX10_byLaw_90 : decode cX10_byLaw 90 = .ok (.getfield 52, 3) := by decide +kernel
theorem dX10_byLaw_93 : decode cX10_byLaw 93 = .ok (.iload_n 1, 1) := by decide +kernel
theorem dX10_byLaw_94 : decode cX10_byLaw 94 = .ok (.iconst 1, 1) := by decide +kernel
theorem dX10_byLaw_95 : decode cX10_byLaw 95 = .ok (.isub, 1) := by decide +kernel
theorem dX10_byLaw_96 : decode cX10_byLaw 96 = .ok (.aload_n 0, 1) := by decide +kernel
theorem dX10_byLaw_97 : decode cX10_byLaw 97 = .ok (.getfield 40, 3) := by decide +kernel
theorem dX10_byLaw_100 : decode cX10_byLaw 100 = .ok (.iload_n 2, 1) := by decide +kernel
theorem dX10_byLaw_101 : decode cX10_byLaw 101 = .ok (.aaload, 1) := by decide +kernel
theorem dX10_byLaw_102 : decode cX10_byLaw 102 = .ok (.iconst 0, 1) := by decide +kernel
theorem dX10_byLaw_103 : decode cX10_byLaw 103 = .ok (.iaload, 1) := by decide +kernel
theorem dX10_byLaw_104 : decode cX10_byLaw 104 = .ok (.aload_n 0, 1) := by decide +kernel
theorem dX10_byLaw_105 : decode cX10_byLaw 105 = .ok (.getfield 52, 3) := by decide +kernel
theorem dX10_byLaw_108 : decode cX10_byLaw 108 = .ok (.iload_n 1, 1) := by decide +kernel
theorem dX10_byLaw_109 : decode cX10_byLaw 109 = .ok (.iconst 1, 1) := by decide +kernel
theorem dX10_byLaw_110 : decode cX10_byLaw 110 = .ok (.isub, 1) := by decide +kernel
theorem dX10_byLaw_111 : decode cX10_byLaw 111 = .ok (.iaload, 1) := by decide +kernel
theorem dX10_byLaw_112 : decode cX10_byLaw 112 = .ok (.aload_n 0, 1) := by decide +kernel
theorem dX10_byLaw_113 : decode cX10_byLaw 113 = .ok (.getfield 52, 3) := by decide +kernel
theorem dX10_byLaw_116 : decode cX10_byLaw 116 = .ok (.iload_n 1, 1) := by decide +kernel
theorem dX10_byLaw_117 : decode cX10_byLaw 117 = .ok (.iaload, 1) := by decide +kernel
theorem dX10_byLaw_118 : decode cX10_byLaw 118 = .ok (.invokestatic 260, 3) := by decide +kernel
theorem dX10_byLaw_121 : decode cX10_byLaw 121 = .ok (.iastore, 1) := by decide +kernel
theorem dX10_byLaw_122 : decode cX10_byLaw 122 = .ok (.iinc 2 1, 3) := by decide +kernel
theorem dX10_byLaw_125 : decode cX10_byLaw 125 = .ok (.goto (-106), 3) := by decide +kernel
theorem dX10_byLaw_128 : decode cX10_byLaw 128 = .ok (.sipush 999, 3) := by decide +kernel
theorem dX10_byLaw_131 : decode cX10_byLaw 131 = .ok (.iconst 0, 1) := by decide +kernel
theorem dX10_byLaw_132 : decode cX10_byLaw 132 = .ok (.aload_n 0, 1) := by decide +kernel
theorem dX10_byLaw_133 : decode cX10_byLaw 133 = .ok (.getfield 52, 3) := by decide +kernel
theorem dX10_byLaw_136 : decode cX10_byLaw 136 = .ok (.iconst 0, 1) := by decide +kernel
theorem dX10_byLaw_137 : decode cX10_byLaw 137 = .ok (.iaload, 1) := by decide +kernel
theorem dX10_byLaw_138 : decode cX10_byLaw 138 = .ok (.invokestatic 257, 3) := by decide +kernel
theorem dX10_byLaw_141 : decode cX10_byLaw 141 = .ok (.invokestatic 172, 3) := by decide +kernel
theorem dX10_byLaw_144 : decode cX10_byLaw 144 = .ok (.ireturn, 1) := by decide +kernel
abbrev mt_X10_byLaw : AxM := (RX10, cX10_byLaw, 3, (some .int), false, [])
theorem L1_X10_byLaw_122 {g : AxG} {l : Launch} {r9 : Int32} {S9 : AxS} (N : Nat) (K19 : Nat → Int32 → Int32 → AxS → Option (Int32 × AxS)) (hK19 : ∀ (v0 : Nat) (v1 : Int32) (v2 : Int32) (S : AxS), K19 v0 v1 v2 S = some ((r9, S9)) → AW g l (axRm (2) 0 0) mt_X10_byLaw (axMQ g 0 0 (.inl (some (.int r9)), S9)) 0 0 S 19 [(0, .ref v0), (1, .int v1), (2, .int v2)] []) (v0 : Nat) (v1 : Int32) (v2 : Int32) (S : AxS) (h : F_X10_byLaw_122 N K19 v0 v1 v2 S = some ((r9, S9))) : AW g l (axRm (2) 0 0) mt_X10_byLaw (axMQ g 0 0 (.inl (some (.int r9)), S9)) 0 0 S 122 [(0, .ref v0), (1, .int v1), (2, .int v2)] [] := by
  unfold F_X10_byLaw_122 at h
  refine aw_iinc 2 [(2, .int (v2 + 1)), (0, .ref v0), (1, .int v1)] (v2 + 1) dX10_byLaw_122 rfl rfl rfl rfl ?_
  refine aw_goto 19 dX10_byLaw_125 (by decide) ?_
  refine aw_env [(0, .ref v0), (1, .int v1), (2, .int (v2 + 1))] [1, 2, 0] rfl ?_
  exact hK19 v0 v1 (v2 + 1) S h
theorem L1_X10_byLaw_79 {g : AxG} {l : Launch} {r9 : Int32} {S9 : AxS} (N : Nat) (K19 : Nat → Int32 → Int32 → AxS → Option (Int32 × AxS)) (hK19 : ∀ (v0 : Nat) (v1 : Int32) (v2 : Int32) (S : AxS), K19 v0 v1 v2 S = some ((r9, S9)) → AW g l (axRm (2) 0 0) mt_X10_byLaw (axMQ g 0 0 (.inl (some (.int r9)), S9)) 0 0 S 19 [(0, .ref v0), (1, .int v1), (2, .int v2)] []) (v0 : Nat) (v1 : Int32) (v2 : Int32) (w0 : Int32) (w1 : Int32) (w2 : Nat) (S : AxS) (h : F_X10_byLaw_79 N K19 v0 v1 v2 w0 w1 w2 S = some ((r9, S9))) : AW g l (axRm (2) 0 0) mt_X10_byLaw (axMQ g 0 0 (.inl (some (.int r9)), S9)) 0 0 S 79 [(0, .ref v0), (1, .int v1), (2, .int v2)] [.int w0, .int w1, .ref w2] := by
  unfold F_X10_byLaw_79 at h
  refine aw_iast dX10_byLaw_79 h (fun T1 h => ?_)
  refine aw_iinc 1 [(1, .int (v1 + 1)), (0, .ref v0), (2, .int v2)] (v1 + 1) dX10_byLaw_80 rfl rfl rfl rfl ?_
  refine aw_goto 122 dX10_byLaw_83 (by decide) ?_
  refine aw_env [(0, .ref v0), (1, .int (v1 + 1)), (2, .int v2)] [1, 0, 2] rfl ?_
  exact L1_X10_byLaw_122 N K19 hK19 v0 (v1 + 1) v2 T1 h
theorem L1_X10_byLaw_19b {g : AxG} {l : Launch} {r9 : Int32} {S9 : AxS} (N : Nat) (K19 : Nat → Int32 → Int32 → AxS → Option (Int32 × AxS)) (hK19 : ∀ (v0 : Nat) (v1 : Int32) (v2 : Int32) (S : AxS), K19 v0 v1 v2 S = some ((r9, S9)) → AW g l (axRm (2) 0 0) mt_X10_byLaw (axMQ g 0 0 (.inl (some (.int r9)), S9)) 0 0 S 19 [(0, .ref v0), (1, .int v1), (2, .int v2)] []) (v0 : Nat) (v1 : Int32) (v2 : Int32) (S : AxS) (h : F_X10_byLaw_19b N K19 v0 v1 v2 S = some ((r9, S9))) : AW g l (axRm (2) 0 0) mt_X10_byLaw (axMQ g 0 0 (.inl (some (.int r9)), S9)) 0 0 S 19 [(0, .ref v0), (1, .int v1), (2, .int v2)] [] := by
  unfold F_X10_byLaw_19b at h
  refine aw_iload_n 2 dX10_byLaw_19 rfl rfl ?_
  refine aw_aload_n 0 dX10_byLaw_20 rfl rfl ?_
  refine aw_getI axc10 17 rfl rfl wd_1302 dX10_byLaw_21 h (fun x1 h => ?_)
  refine aw_icmp_ge 128 dX10_byLaw_24 (by decide) h (fun h => ?_) (fun h => ?_)
  · refine aw_sipush 999 dX10_byLaw_128 (by decide) ?_
    refine aw_iconst 0 dX10_byLaw_131 rfl ?_
    refine aw_aload_n 0 dX10_byLaw_132 rfl rfl ?_
    refine aw_getR axc10 23 rfl rfl wd_1308 dX10_byLaw_133 h (fun a2 h => ?_)
    refine aw_iconst 0 dX10_byLaw_136 rfl ?_
    refine aw_iald dX10_byLaw_137 h (fun x3 h => ?_)
    refine aw_doneI (rest := [.int 999]) h (fun r9 S9 hF => aw_runS (As := [.int 0, .int x3]) (rest := [.int 999]) (L1_X10_more N hF) wd_1614 wd_1612 wd_1613 wd_97 pd_X10_more.2 rfl (ax_rm (by omega) rfl) ax_hf0 (Nat.le_of_ble_eq_true rfl) rfl dX10_byLaw_138) (fun x5 T4 h => ?_)
    refine aw_doneI (rest := []) h (fun r9 S9 hF => aw_runS (As := [.int 999, .int x5]) (rest := []) (L1_X10_less N hF) wd_1500 wd_1498 wd_1499 wd_97 pd_X10_less.2 rfl (ax_rm (by omega) rfl) ax_hf0 (Nat.le_of_ble_eq_true rfl) rfl dX10_byLaw_141) (fun x7 T6 h => ?_)
    exact aw_iret dX10_byLaw_144 rfl (Nat.le_refl _) (Nat.le_refl _) h
  · refine aw_aload_n 0 dX10_byLaw_27 rfl rfl ?_
    refine aw_getR axc10 19 rfl rfl wd_1304 dX10_byLaw_28 h (fun a8 h => ?_)
    refine aw_iload_n 2 dX10_byLaw_31 rfl rfl ?_
    refine aw_aald dX10_byLaw_32 h (fun a9 h => ?_)
    refine aw_iconst 0 dX10_byLaw_33 rfl ?_
    refine aw_iald dX10_byLaw_34 h (fun x10 h => ?_)
    refine aw_iconst 2 dX10_byLaw_35 rfl ?_
    refine aw_icmp_ge 86 dX10_byLaw_36 (by decide) h (fun h => ?_) (fun h => ?_)
    · refine aw_iinc 1 [(1, .int (v1 + (-1))), (0, .ref v0), (2, .int v2)] (v1 + (-1)) dX10_byLaw_86 rfl rfl rfl rfl ?_
      refine aw_aload_n 1 dX10_byLaw_89 rfl rfl ?_
      refine aw_getR axc10 23 rfl rfl wd_1308 dX10_byLaw_90 h (fun a11 h => ?_)
      refine aw_iload_n 0 dX10_byLaw_93 rfl rfl ?_
      refine aw_iconst 1 dX10_byLaw_94 rfl ?_
      refine aw_isub dX10_byLaw_95 ?_
      refine aw_aload_n 1 dX10_byLaw_96 rfl rfl ?_
      refine aw_getR axc10 19 rfl rfl wd_1304 dX10_byLaw_97 h (fun a12 h => ?_)
      refine aw_iload_n 2 dX10_byLaw_100 rfl rfl ?_
      refine aw_aald dX10_byLaw_101 h (fun a13 h => ?_)
      refine aw_iconst 0 dX10_byLaw_102 rfl ?_
      refine aw_iald dX10_byLaw_103 h (fun x14 h => ?_)
      refine aw_aload_n 1 dX10_byLaw_104 rfl rfl ?_
      refine aw_getR axc10 23 rfl rfl wd_1308 dX10_byLaw_105 h (fun a15 h => ?_)
      refine aw_iload_n 0 dX10_byLaw_108 rfl rfl ?_
      refine aw_iconst 1 dX10_byLaw_109 rfl ?_
      refine aw_isub dX10_byLaw_110 ?_
      refine aw_iald dX10_byLaw_111 h (fun x16 h => ?_)
      refine aw_aload_n 1 dX10_byLaw_112 rfl rfl ?_
      refine aw_getR axc10 23 rfl rfl wd_1308 dX10_byLaw_113 h (fun a17 h => ?_)
      refine aw_iload_n 0 dX10_byLaw_116 rfl rfl ?_
      refine aw_iald dX10_byLaw_117 h (fun x18 h => ?_)
      refine aw_doneI (rest := [.int ((v1 + (-1)) - 1), .ref a11]) h (fun r9 S9 hF => aw_runS (As := [.int x14, .int x16, .int x18]) (rest := [.int ((v1 + (-1)) - 1), .ref a11]) (L1_X10_by N hF) wd_1621 wd_1619 wd_1620 wd_97 pd_X10_by.2 rfl (ax_rm (by omega) rfl) ax_hf0 (Nat.le_of_ble_eq_true rfl) rfl dX10_byLaw_118) (fun x20 T19 h => ?_)
      refine aw_iast dX10_byLaw_121 h (fun T21 h => ?_)
      refine aw_env [(0, .ref v0), (1, .int (v1 + (-1))), (2, .int v2)] [1, 0, 2] rfl ?_
      exact L1_X10_byLaw_122 N K19 hK19 v0 (v1 + (-1)) v2 T21 h
    · refine aw_aload_n 0 dX10_byLaw_39 rfl rfl ?_
      refine aw_getR axc10 23 rfl rfl wd_1308 dX10_byLaw_40 h (fun a22 h => ?_)
      refine aw_iload_n 1 dX10_byLaw_43 rfl rfl ?_
      refine aw_aload_n 0 dX10_byLaw_44 rfl rfl ?_
      refine aw_getR axc10 19 rfl rfl wd_1304 dX10_byLaw_45 h (fun a23 h => ?_)
      refine aw_iload_n 2 dX10_byLaw_48 rfl rfl ?_
      refine aw_aald dX10_byLaw_49 h (fun a24 h => ?_)
      refine aw_iconst 0 dX10_byLaw_50 rfl ?_
      refine aw_iald dX10_byLaw_51 h (fun x25 h => ?_)
      refine aw_if_ne 66 dX10_byLaw_52 (by decide) h (fun h => ?_) (fun h => ?_)
      · refine aw_aload_n 0 dX10_byLaw_66 rfl rfl ?_
        refine aw_getR axc10 24 rfl rfl wd_1309 dX10_byLaw_67 h (fun a26 h => ?_)
        refine aw_aload_n 0 dX10_byLaw_70 rfl rfl ?_
        refine aw_getR axc10 19 rfl rfl wd_1304 dX10_byLaw_71 h (fun a27 h => ?_)
        refine aw_iload_n 2 dX10_byLaw_74 rfl rfl ?_
        refine aw_aald dX10_byLaw_75 h (fun a28 h => ?_)
        refine aw_iconst 1 dX10_byLaw_76 rfl ?_
        refine aw_iald dX10_byLaw_77 h (fun x29 h => ?_)
        refine aw_iald dX10_byLaw_78 h (fun x30 h => ?_)
        refine aw_env [(0, .ref v0), (1, .int v1), (2, .int v2)] [0, 1, 2] rfl ?_
        exact L1_X10_byLaw_79 N K19 hK19 v0 v1 v2 x30 v1 a22 S h
      · refine aw_aload_n 0 dX10_byLaw_55 rfl rfl ?_
        refine aw_getR axc10 19 rfl rfl wd_1304 dX10_byLaw_56 h (fun a31 h => ?_)
        refine aw_iload_n 2 dX10_byLaw_59 rfl rfl ?_
        refine aw_aald dX10_byLaw_60 h (fun a32 h => ?_)
        refine aw_iconst 1 dX10_byLaw_61 rfl ?_
        refine aw_iald dX10_byLaw_62 h (fun x33 h => ?_)
        refine aw_goto 79 dX10_byLaw_63 (by decide) ?_
        refine aw_env [(0, .ref v0), (1, .int v1), (2, .int v2)] [0, 1, 2] rfl ?_
        exact L1_X10_byLaw_79 N K19 hK19 v0 v1 v2 x33 v1 a22 S h
theorem L1_X10_byLaw_19 {g : AxG} {l : Launch} {r9 : Int32} {S9 : AxS} (N : Nat)  : ∀ (n : Nat) (v0 : Nat) (v1 : Int32) (v2 : Int32) (S : AxS), F_X10_byLaw_19 N  n v0 v1 v2 S = some ((r9, S9)) → AW g l (axRm (2) 0 0) mt_X10_byLaw (axMQ g 0 0 (.inl (some (.int r9)), S9)) 0 0 S 19 [(0, .ref v0), (1, .int v1), (2, .int v2)] [] := by
  intro n
  induction n with
  | zero => intro v0 v1 v2 S h; cases h
  | succ n ih => intro v0 v1 v2 S h; exact L1_X10_byLaw_19b N (F_X10_byLaw_19 N  n) ih v0 v1 v2 S h
theorem L1_X10_byLaw {g : AxG} {l : Launch} (N : Nat) {v0 : Nat} {S : AxS} {r9 : Int32} {S9 : AxS} (h : F_X10_byLaw N v0 S = some ((r9, S9))) : AxMet g l yX10_byLaw cX10_byLaw 3 (some .int) (2) 0 0 [.ref v0] S ((.inl (some (.int r9)), S9)) := by
  refine ax_met (own := RX10) (ini := false) (by decide +kernel) rfl (fun h => nomatch h) rfl ?_
  show AW g l (axRm (2) 0 0) mt_X10_byLaw (axMQ g 0 0 (.inl (some (.int r9)), S9)) 0 0 S 0 [(0, .ref v0)] []
  unfold F_X10_byLaw at h
  refine aw_iconst 0 dX10_byLaw_0 rfl ?_
  refine aw_istore_n 1 [(1, .int 0), (0, .ref v0)] dX10_byLaw_1 rfl rfl rfl ?_
  refine aw_aload_n 1 dX10_byLaw_2 rfl rfl ?_
  refine aw_getR axc10 23 rfl rfl wd_1308 dX10_byLaw_3 h (fun a1 h => ?_)
  refine aw_iconst 0 dX10_byLaw_6 rfl ?_
  refine aw_aload_n 1 dX10_byLaw_7 rfl rfl ?_
  refine aw_getR axc10 24 rfl rfl wd_1309 dX10_byLaw_8 h (fun a2 h => ?_)
  refine aw_iconst 0 dX10_byLaw_11 rfl ?_
  refine aw_iald dX10_byLaw_12 h (fun x3 h => ?_)
  refine aw_bipush 10 dX10_byLaw_13 (by decide) ?_
  refine aw_idiv dX10_byLaw_15 h (fun h => ?_)
  refine aw_iast dX10_byLaw_16 h (fun T4 h => ?_)
  refine aw_iconst 0 dX10_byLaw_17 rfl ?_
  refine aw_istore_n 2 [(2, .int 0), (1, .int 0), (0, .ref v0)] dX10_byLaw_18 rfl rfl rfl ?_
  refine aw_env [(0, .ref v0), (1, .int 0), (2, .int 0)] [2, 1, 0] rfl ?_
  exact L1_X10_byLaw_19 N  N v0 0 0 T4 h

theorem dX10_stepHere_0 : decode cX10_stepHere 0 = .ok (.aload_n 0, 1) := by decide +kernel
theorem dX10_stepHere_1 : decode cX10_stepHere 1 = .ok (.bipush 16, 2) := by decide +kernel
theorem dX10_stepHere_3 : decode cX10_stepHere 3 = .ok (.iconst 1, 1) := by decide +kernel
theorem dX10_stepHere_4 : decode cX10_stepHere 4 = .ok (.bipush 25, 2) := by decide +kernel
theorem dX10_stepHere_6 : decode cX10_stepHere 6 = .ok (.iconst 0, 1) := by decide +kernel
theorem dX10_stepHere_7 : decode cX10_stepHere 7 = .ok (.iconst 0, 1) := by decide +kernel
theorem dX10_stepHere_8 : decode cX10_stepHere 8 = .ok (.iconst 0, 1) := by decide +kernel
theorem dX10_stepHere_9 : decode cX10_stepHere 9 = .ok (.iconst 0, 1) := by decide +kernel
theorem dX10_stepHere_10 : decode cX10_stepHere 10 = .ok (.invokevirtual 159, 3) := by decide +kernel
theorem dX10_stepHere_13 : decode cX10_stepHere 13 = .ok (.ifCond .eq 5, 3) := by decide +kernel
theorem dX10_stepHere_16 : decode cX10_stepHere 16 = .ok (.iconst 0, 1) := by decide +kernel
theorem dX10_stepHere_17 : decode cX10_stepHere 17 = .ok (.ireturn, 1) := by decide +kernel
theorem dX10_stepHere_18 : decode cX10_stepHere 18 = .ok (.aload_n 0, 1) := by decide +kernel
theorem dX10_stepHere_19 : decode cX10_stepHere 19 = .ok (.iconst 1, 1) := by decide +kernel
theorem dX10_stepHere_20 : decode cX10_stepHere 20 = .ok (.bipush 12, 2) := by decide +kernel
theorem dX10_stepHere_22 : decode cX10_stepHere 22 = .ok (.bipush 13, 2) := by decide +kernel
theorem dX10_stepHere_24 : decode cX10_stepHere 24 = .ok (.bipush 19, 2) := by decide +kernel
theorem dX10_stepHere_26 : decode cX10_stepHere 26 = .ok (.iconst 0, 1) := by decide +kernel
theorem dX10_stepHere_27 : decode cX10_stepHere 27 = .ok (.iconst 0, 1) := by decide +kernel
theorem dX10_stepHere_28 : decode cX10_stepHere 28 = .ok (.iconst 0, 1) := by decide +kernel
theorem dX10_stepHere_29 : decode cX10_stepHere 29 = .ok (.invokevirtual 159, 3) := by decide +kernel
theorem dX10_stepHere_32 : decode cX10_stepHere 32 = .ok (.ifCond .eq 5, 3) := by decide +kernel
theorem dX10_stepHere_35 : decode cX10_stepHere 35 = .ok (.iconst 1, 1) := by decide +kernel
theorem dX10_stepHere_36 : decode cX10_stepHere 36 = .ok (.ireturn, 1) := by decide +kernel
theorem dX10_stepHere_37 : decode cX10_stepHere 37 = .ok (.aload_n 0, 1) := by decide +kernel
theorem dX10_stepHere_38 : decode cX10_stepHere 38 = .ok (.bipush 23, 2) := by decide +kernel
theorem dX10_stepHere_40 : decode cX10_stepHere 40 = .ok (.iconst 1, 1) := by decide +kernel
theorem dX10_stepHere_41 : decode cX10_stepHere 41 = .ok (.bipush 24, 2) := by decide +kernel
theorem dX10_stepHere_43 : decode cX10_stepHere 43 = .ok (.iconst 0, 1) := by decide +kernel
theorem dX10_stepHere_44 : decode cX10_stepHere 44 = .ok (.iconst 0, 1) := by decide +kernel
theorem dX10_stepHere_45 : decode cX10_stepHere 45 = .ok (.iconst 0, 1) := by decide +kernel
theorem dX10_stepHere_46 : decode cX10_stepHere 46 = .ok (.iconst 0, 1) := by decide +kernel
theorem dX10_stepHere_47 : decode cX10_stepHere 47 = .ok (.invokevirtual 159, 3) := by decide +kernel
theorem dX10_stepHere_50 : decode cX10_stepHere 50 = .ok (.ifCond .eq 5, 3) := by decide +kernel
theorem dX10_stepHere_53 : decode cX10_stepHere 53 = .ok (.iconst 2, 1) := by decide +kernel
theorem dX10_stepHere_54 : decode cX10_stepHere 54 = .ok (.ireturn, 1) := by decide +kernel
theorem dX10_stepHere_55 : decode cX10_stepHere 55 = .ok (.aload_n 0, 1) := by decide +kernel
theorem dX10_stepHere_56 : decode cX10_stepHere 56 = .ok (.bipush 18, 2) := by decide +kernel
theorem dX10_stepHere_58 : decode cX10_stepHere 58 = .ok (.iconst 5, 1) := by decide +kernel
theorem dX10_stepHere_59 : decode cX10_stepHere 59 = .ok (.iconst 3, 1) := by decide +kernel
theorem dX10_stepHere_60 : decode cX10_stepHere 60 = .ok (.iconst 5, 1) := by decide +kernel
theorem dX10_stepHere_61 : decode cX10_stepHere 61 = .ok (.bipush 9, 2) := by decide +kernel
theorem dX10_stepHere_63 : decode cX10_stepHere 63 = .ok (.bipush 16, 2) := by decide +kernel
theorem dX10_stepHere_65 : decode cX10_stepHere 65 = .ok (.bipush 20, 2) := by decide +kernel
theorem dX10_stepHere_67 : decode cX10_stepHere 67 = .ok (.invokevirtual 159, 3) := by decide +kernel
theorem dX10_stepHere_70 : decode cX10_stepHere 70 = .ok (.ifCond .eq 5, 3) := by decide +kernel
theorem dX10_stepHere_73 : decode cX10_stepHere 73 = .ok (.iconst 3, 1) := by decide +kernel
theorem dX10_stepHere_74 : decode cX10_stepHere 74 = .ok (.ireturn, 1) := by decide +kernel
theorem dX10_stepHere_75 : decode cX10_stepHere 75 = .ok (.aload_n 0, 1) := by decide +kernel
theorem dX10_stepHere_76 : decode cX10_stepHere 76 = .ok (.bipush 19, 2) := by decide +kernel
theorem dX10_stepHere_78 : decode cX10_stepHere 78 = .ok (.bipush 23, 2) := by decide +kernel
theorem dX10_stepHere_80 : decode cX10_stepHere 80 = .ok (.iconst 1, 1) := by decide +kernel
theorem dX10_stepHere_81 : decode cX10_stepHere 81 = .ok (.bipush 16, 2) := by decide +kernel
theorem dX10_stepHere_83 : decode cX10_stepHere 83 = .ok (.iconst 0, 1) := by decide +kernel
theorem dX10_stepHere_84 : decode cX10_stepHere 84 = .ok (.iconst 0, 1) := by decide +kernel
theorem dX10_stepHere_85 : decode cX10_stepHere 85 = .ok (.iconst 0, 1) := by decide +kernel
theorem dX10_stepHere_86 : decode cX10_stepHere 86 = .ok (.invokevirtual 159, 3) := by decide +kernel
theorem dX10_stepHere_89 : decode cX10_stepHere 89 = .ok (.ifCond .eq 5, 3) := by decide +kernel
theorem dX10_stepHere_92 : decode cX10_stepHere 92 = .ok (.iconst 4, 1) := by decide +kernel
theorem dX10_stepHere_93 : decode cX10_stepHere 93 = .ok (.ireturn, 1) := by decide +kernel
theorem dX10_stepHere_94 : decode cX10_stepHere 94 = .ok (.aload_n 0, 1) := by decide +kernel
theorem dX10_stepHere_95 : decode cX10_stepHere 95 = .ok (.bipush 14, 2) := by decide +kernel
theorem dX10_stepHere_97 : decode cX10_stepHere 97 = .ok (.bipush 9, 2) := by decide +kernel
theorem dX10_stepHere_99 : decode cX10_stepHere 99 = .ok (.bipush 7, 2) := by decide +kernel
theorem dX10_stepHere_101 : decode cX10_stepHere 101 = .ok (.bipush 8, 2) := by decide +kernel
theorem dX10_stepHere_103 : decode cX10_stepHere 103 = .ok (.bipush 20, 2) := by decide +kernel
theorem dX10_stepHere_105 : decode cX10_stepHere 105 = .ok (.iconst 0, 1) := by decide +kernel
theorem dX10_stepHere_106 : decode cX10_stepHere 106 = .ok (.iconst 0, 1) := by decide +kernel
theorem dX10_stepHere_107 : decode cX10_stepHere 107 = .ok (.invokevirtual 159, 3) := by decide +kernel
theorem dX10_stepHere_110 : decode cX10_stepHere 110 = .ok (.ifCond .eq 5, 3) := by decide +kernel
theorem dX10_stepHere_113 : decode cX10_stepHere 113 = .ok (.iconst 5, 1) := by decide +kernel
theorem dX10_stepHere_114 : decode cX10_stepHere 114 = .ok (.ireturn, 1) := by decide +kernel
theorem dX10_stepHere_115 : decode cX10_stepHere 115 = .ok (.aload_n 0, 1) := by decide +kernel
theorem dX10_stepHere_116 : decode cX10_stepHere 116 = .ok (.iconst 1, 1) := by decide +kernel
theorem dX10_stepHere_117 : decode cX10_stepHere 117 = .ok (.bipush 7, 2) := by decide +kernel
theorem dX10_stepHere_119 : decode cX10_stepHere 119 = .ok (.iconst 1, 1) := by decide +kernel
theorem dX10_stepHere_120 : decode cX10_stepHere 120 = .ok (.bipush 9, 2) := by decide +kernel
theorem dX10_stepHere_122 : decode cX10_stepHere 122 = .ok (.bipush 14, 2) := by decide +kernel
theorem dX10_stepHere_124 : decode cX10_stepHere 124 = .ok (.iconst 0, 1) := by decide +kernel
theorem dX10_stepHere_125 : decode cX10_stepHere 125 = .ok (.iconst 0, 1) := by decide +kernel
theorem dX10_stepHere_126 : decode cX10_stepHere 126 = .ok (.invokevirtual 159, 3) := by decide +kernel
theorem dX10_stepHere_129 : decode cX10_stepHere 129 = .ok (.ifCond .eq 8, 3) := by decide +kernel
theorem dX10_stepHere_132 : decode cX10_stepHere 132 = .ok (.bipush 6, 2) := by decide +kernel
theorem dX10_stepHere_134 : decode cX10_stepHere 134 = .ok (.goto 4, 3) := by decide +kernel
theorem dX10_stepHere_137 : decode cX10_stepHere 137 = .ok (.iconst (-1), 1) := by decide +kernel
theorem dX10_stepHere_138 : decode cX10_stepHere 138 = .ok (.ireturn, 1) := by decide +kernel
abbrev mt_X10_stepHere : AxM := (RX10, cX10_stepHere, 1, (some .int), false, [])
theorem L1_X10_stepHere {g : AxG} {l : Launch} (N : Nat) {v0 : Nat} {S : AxS} {r9 : Int32} {S9 : AxS} (h : F_X10_stepHere N v0 S = some ((r9, S9))) : AxMet g l yX10_stepHere cX10_stepHere 1 (some .int) (4) 0 0 [.ref v0] S ((.inl (some (.int r9)), S9)) := by
  refine ax_met (own := RX10) (ini := false) (by decide +kernel) rfl (fun h => nomatch h) rfl ?_
  show AW g l (axRm (4) 0 0) mt_X10_stepHere (axMQ g 0 0 (.inl (some (.int r9)), S9)) 0 0 S 0 [(0, .ref v0)] []
  unfold F_X10_stepHere at h
  refine aw_aload_n 0 dX10_stepHere_0 rfl rfl ?_
  refine aw_bipush 16 dX10_stepHere_1 (by decide) ?_
  refine aw_iconst 1 dX10_stepHere_3 rfl ?_
  refine aw_bipush 25 dX10_stepHere_4 (by decide) ?_
  refine aw_iconst 0 dX10_stepHere_6 rfl ?_
  refine aw_iconst 0 dX10_stepHere_7 rfl ?_
  refine aw_iconst 0 dX10_stepHere_8 rfl ?_
  refine aw_iconst 0 dX10_stepHere_9 rfl ?_
  obtain ⟨hL1, h⟩ := ax_is_spec h
  refine aw_doneI (rest := []) h (fun r9 S9 hF => aw_runV (As := [.int 16, .int 1, .int 25, .int 0, .int 0, .int 0, .int 0]) (rest := []) (L1_X10_isWord N hF) axc10 hL1 wd_1476 wd_1473 wd_1475 wd_44 wd_97 pd_X10_isWord rfl (ax_rm (by omega) rfl) ax_hf0 (Nat.le_of_ble_eq_true rfl) rfl dX10_stepHere_10) (fun x3 T2 h => ?_)
  refine aw_if_eq 18 dX10_stepHere_13 (by decide) h (fun h => ?_) (fun h => ?_)
  · refine aw_aload_n 0 dX10_stepHere_18 rfl rfl ?_
    refine aw_iconst 1 dX10_stepHere_19 rfl ?_
    refine aw_bipush 12 dX10_stepHere_20 (by decide) ?_
    refine aw_bipush 13 dX10_stepHere_22 (by decide) ?_
    refine aw_bipush 19 dX10_stepHere_24 (by decide) ?_
    refine aw_iconst 0 dX10_stepHere_26 rfl ?_
    refine aw_iconst 0 dX10_stepHere_27 rfl ?_
    refine aw_iconst 0 dX10_stepHere_28 rfl ?_
    obtain ⟨hL4, h⟩ := ax_is_spec h
    refine aw_doneI (rest := []) h (fun r9 S9 hF => aw_runV (As := [.int 1, .int 12, .int 13, .int 19, .int 0, .int 0, .int 0]) (rest := []) (L1_X10_isWord N hF) axc10 hL4 wd_1476 wd_1473 wd_1475 wd_44 wd_97 pd_X10_isWord rfl (ax_rm (by omega) rfl) ax_hf0 (Nat.le_of_ble_eq_true rfl) rfl dX10_stepHere_29) (fun x6 T5 h => ?_)
    refine aw_if_eq 37 dX10_stepHere_32 (by decide) h (fun h => ?_) (fun h => ?_)
    · refine aw_aload_n 0 dX10_stepHere_37 rfl rfl ?_
      refine aw_bipush 23 dX10_stepHere_38 (by decide) ?_
      refine aw_iconst 1 dX10_stepHere_40 rfl ?_
      refine aw_bipush 24 dX10_stepHere_41 (by decide) ?_
      refine aw_iconst 0 dX10_stepHere_43 rfl ?_
      refine aw_iconst 0 dX10_stepHere_44 rfl ?_
      refine aw_iconst 0 dX10_stepHere_45 rfl ?_
      refine aw_iconst 0 dX10_stepHere_46 rfl ?_
      obtain ⟨hL7, h⟩ := ax_is_spec h
      refine aw_doneI (rest := []) h (fun r9 S9 hF => aw_runV (As := [.int 23, .int 1, .int 24, .int 0, .int 0, .int 0, .int 0]) (rest := []) (L1_X10_isWord N hF) axc10 hL7 wd_1476 wd_1473 wd_1475 wd_44 wd_97 pd_X10_isWord rfl (ax_rm (by omega) rfl) ax_hf0 (Nat.le_of_ble_eq_true rfl) rfl dX10_stepHere_47) (fun x9 T8 h => ?_)
      refine aw_if_eq 55 dX10_stepHere_50 (by decide) h (fun h => ?_) (fun h => ?_)
      · refine aw_aload_n 0 dX10_stepHere_55 rfl rfl ?_
        refine aw_bipush 18 dX10_stepHere_56 (by decide) ?_
        refine aw_iconst 5 dX10_stepHere_58 rfl ?_
        refine aw_iconst 3 dX10_stepHere_59 rfl ?_
        refine aw_iconst 5 dX10_stepHere_60 rfl ?_
        refine aw_bipush 9 dX10_stepHere_61 (by decide) ?_
        refine aw_bipush 16 dX10_stepHere_63 (by decide) ?_
        refine aw_bipush 20 dX10_stepHere_65 (by decide) ?_
        obtain ⟨hL10, h⟩ := ax_is_spec h
        refine aw_doneI (rest := []) h (fun r9 S9 hF => aw_runV (As := [.int 18, .int 5, .int 3, .int 5, .int 9, .int 16, .int 20]) (rest := []) (L1_X10_isWord N hF) axc10 hL10 wd_1476 wd_1473 wd_1475 wd_44 wd_97 pd_X10_isWord rfl (ax_rm (by omega) rfl) ax_hf0 (Nat.le_of_ble_eq_true rfl) rfl dX10_stepHere_67) (fun x12 T11 h => ?_)
        refine aw_if_eq 75 dX10_stepHere_70 (by decide) h (fun h => ?_) (fun h => ?_)
        · refine aw_aload_n 0 dX10_stepHere_75 rfl rfl ?_
          refine aw_bipush 19 dX10_stepHere_76 (by decide) ?_
          refine aw_bipush 23 dX10_stepHere_78 (by decide) ?_
          refine aw_iconst 1 dX10_stepHere_80 rfl ?_
          refine aw_bipush 16 dX10_stepHere_81 (by decide) ?_
          refine aw_iconst 0 dX10_stepHere_83 rfl ?_
          refine aw_iconst 0 dX10_stepHere_84 rfl ?_
          refine aw_iconst 0 dX10_stepHere_85 rfl ?_
          obtain ⟨hL13, h⟩ := ax_is_spec h
          refine aw_doneI (rest := []) h (fun r9 S9 hF => aw_runV (As := [.int 19, .int 23, .int 1, .int 16, .int 0, .int 0, .int 0]) (rest := []) (L1_X10_isWord N hF) axc10 hL13 wd_1476 wd_1473 wd_1475 wd_44 wd_97 pd_X10_isWord rfl (ax_rm (by omega) rfl) ax_hf0 (Nat.le_of_ble_eq_true rfl) rfl dX10_stepHere_86) (fun x15 T14 h => ?_)
          refine aw_if_eq 94 dX10_stepHere_89 (by decide) h (fun h => ?_) (fun h => ?_)
          · refine aw_aload_n 0 dX10_stepHere_94 rfl rfl ?_
            refine aw_bipush 14 dX10_stepHere_95 (by decide) ?_
            refine aw_bipush 9 dX10_stepHere_97 (by decide) ?_
            refine aw_bipush 7 dX10_stepHere_99 (by decide) ?_
            refine aw_bipush 8 dX10_stepHere_101 (by decide) ?_
            refine aw_bipush 20 dX10_stepHere_103 (by decide) ?_
            refine aw_iconst 0 dX10_stepHere_105 rfl ?_
            refine aw_iconst 0 dX10_stepHere_106 rfl ?_
            obtain ⟨hL16, h⟩ := ax_is_spec h
            refine aw_doneI (rest := []) h (fun r9 S9 hF => aw_runV (As := [.int 14, .int 9, .int 7, .int 8, .int 20, .int 0, .int 0]) (rest := []) (L1_X10_isWord N hF) axc10 hL16 wd_1476 wd_1473 wd_1475 wd_44 wd_97 pd_X10_isWord rfl (ax_rm (by omega) rfl) ax_hf0 (Nat.le_of_ble_eq_true rfl) rfl dX10_stepHere_107) (fun x18 T17 h => ?_)
            refine aw_if_eq 115 dX10_stepHere_110 (by decide) h (fun h => ?_) (fun h => ?_)
            · refine aw_aload_n 0 dX10_stepHere_115 rfl rfl ?_
              refine aw_iconst 1 dX10_stepHere_116 rfl ?_
              refine aw_bipush 7 dX10_stepHere_117 (by decide) ?_
              refine aw_iconst 1 dX10_stepHere_119 rfl ?_
              refine aw_bipush 9 dX10_stepHere_120 (by decide) ?_
              refine aw_bipush 14 dX10_stepHere_122 (by decide) ?_
              refine aw_iconst 0 dX10_stepHere_124 rfl ?_
              refine aw_iconst 0 dX10_stepHere_125 rfl ?_
              obtain ⟨hL19, h⟩ := ax_is_spec h
              refine aw_doneI (rest := []) h (fun r9 S9 hF => aw_runV (As := [.int 1, .int 7, .int 1, .int 9, .int 14, .int 0, .int 0]) (rest := []) (L1_X10_isWord N hF) axc10 hL19 wd_1476 wd_1473 wd_1475 wd_44 wd_97 pd_X10_isWord rfl (ax_rm (by omega) rfl) ax_hf0 (Nat.le_of_ble_eq_true rfl) rfl dX10_stepHere_126) (fun x21 T20 h => ?_)
              refine aw_if_eq 137 dX10_stepHere_129 (by decide) h (fun h => ?_) (fun h => ?_)
              · refine aw_iconst (-1) dX10_stepHere_137 rfl ?_
                exact aw_iret dX10_stepHere_138 rfl (Nat.le_refl _) (Nat.le_refl _) h
              · refine aw_bipush 6 dX10_stepHere_132 (by decide) ?_
                refine aw_goto 138 dX10_stepHere_134 (by decide) ?_
                exact aw_iret dX10_stepHere_138 rfl (Nat.le_refl _) (Nat.le_refl _) h
            · refine aw_iconst 5 dX10_stepHere_113 rfl ?_
              exact aw_iret dX10_stepHere_114 rfl (Nat.le_refl _) (Nat.le_refl _) h
          · refine aw_iconst 4 dX10_stepHere_92 rfl ?_
            exact aw_iret dX10_stepHere_93 rfl (Nat.le_refl _) (Nat.le_refl _) h
        · refine aw_iconst 3 dX10_stepHere_73 rfl ?_
          exact aw_iret dX10_stepHere_74 rfl (Nat.le_refl _) (Nat.le_refl _) h
      · refine aw_iconst 2 dX10_stepHere_53 rfl ?_
        exact aw_iret dX10_stepHere_54 rfl (Nat.le_refl _) (Nat.le_refl _) h
    · refine aw_iconst 1 dX10_stepHere_35 rfl ?_
      exact aw_iret dX10_stepHere_36 rfl (Nat.le_refl _) (Nat.le_refl _) h
  · refine aw_iconst 0 dX10_stepHere_16 rfl ?_
    exact aw_iret dX10_stepHere_17 rfl (Nat.le_refl _) (Nat.le_refl _) h
