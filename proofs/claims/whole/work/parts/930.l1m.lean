theorem dX10_kindHere_0 : decode cX10_kindHere 0 = .ok (.aload_n 0, 1) := by decide +kernel
theorem dX10_kindHere_1 : decode cX10_kindHere 1 = .ok (.bipush 22, 2) := by decide +kernel
theorem dX10_kindHere_3 : decode cX10_kindHere 3 = .ok (.bipush 9, 2) := by decide +kernel
theorem dX10_kindHere_5 : decode cX10_kindHere 5 = .ok (.bipush 12, 2) := by decide +kernel
theorem dX10_kindHere_7 : decode cX10_kindHere 7 = .ok (.bipush 12, 2) := by decide +kernel
theorem dX10_kindHere_9 : decode cX10_kindHere 9 = .ok (.iconst 1, 1) := by decide +kernel
theorem dX10_kindHere_10 : decode cX10_kindHere 10 = .ok (.bipush 7, 2) := by decide +kernel
theorem dX10_kindHere_12 : decode cX10_kindHere 12 = .ok (.iconst 5, 1) := by decide +kernel
theorem dX10_kindHere_13 : decode cX10_kindHere 13 = .ok (.invokevirtual 159, 3) := by decide +kernel
theorem dX10_kindHere_16 : decode cX10_kindHere 16 = .ok (.ifCond .eq 5, 3) := by decide +kernel
theorem dX10_kindHere_19 : decode cX10_kindHere 19 = .ok (.iconst 0, 1) := by decide +kernel
theorem dX10_kindHere_20 : decode cX10_kindHere 20 = .ok (.ireturn, 1) := by decide +kernel
theorem dX10_kindHere_21 : decode cX10_kindHere 21 = .ok (.aload_n 0, 1) := by decide +kernel
theorem dX10_kindHere_22 : decode cX10_kindHere 22 = .ok (.iconst 3, 1) := by decide +kernel
theorem dX10_kindHere_23 : decode cX10_kindHere 23 = .ok (.iconst 5, 1) := by decide +kernel
theorem dX10_kindHere_24 : decode cX10_kindHere 24 = .ok (.bipush 12, 2) := by decide +kernel
theorem dX10_kindHere_26 : decode cX10_kindHere 26 = .ok (.bipush 12, 2) := by decide +kernel
theorem dX10_kindHere_28 : decode cX10_kindHere 28 = .ok (.iconst 0, 1) := by decide +kernel
theorem dX10_kindHere_29 : decode cX10_kindHere 29 = .ok (.iconst 0, 1) := by decide +kernel
theorem dX10_kindHere_30 : decode cX10_kindHere 30 = .ok (.iconst 0, 1) := by decide +kernel
theorem dX10_kindHere_31 : decode cX10_kindHere 31 = .ok (.invokevirtual 159, 3) := by decide +kernel
theorem dX10_kindHere_34 : decode cX10_kindHere 34 = .ok (.ifCond .eq 5, 3) := by decide +kernel
theorem dX10_kindHere_37 : decode cX10_kindHere 37 = .ok (.iconst 1, 1) := by decide +kernel
theorem dX10_kindHere_38 : decode cX10_kindHere 38 = .ok (.ireturn, 1) := by decide +kernel
theorem dX10_kindHere_39 : decode cX10_kindHere 39 = .ok (.aload_n 0, 1) := by decide +kernel
theorem dX10_kindHere_40 : decode cX10_kindHere 40 = .ok (.bipush 13, 2) := by decide +kernel
theorem dX10_kindHere_42 : decode cX10_kindHere 42 = .ok (.bipush 15, 2) := by decide +kernel
theorem dX10_kindHere_44 : decode cX10_kindHere 44 = .ok (.bipush 14, 2) := by decide +kernel
theorem dX10_kindHere_46 : decode cX10_kindHere 46 = .ok (.bipush 11, 2) := by decide +kernel
theorem dX10_kindHere_48 : decode cX10_kindHere 48 = .ok (.iconst 0, 1) := by decide +kernel
theorem dX10_kindHere_49 : decode cX10_kindHere 49 = .ok (.iconst 0, 1) := by decide +kernel
theorem dX10_kindHere_50 : decode cX10_kindHere 50 = .ok (.iconst 0, 1) := by decide +kernel
theorem dX10_kindHere_51 : decode cX10_kindHere 51 = .ok (.invokevirtual 159, 3) := by decide +kernel
theorem dX10_kindHere_54 : decode cX10_kindHere 54 = .ok (.ifCond .eq 5, 3) := by decide +kernel
theorem dX10_kindHere_57 : decode cX10_kindHere 57 = .ok (.iconst 2, 1) := by decide +kernel
theorem dX10_kindHere_58 : decode cX10_kindHere 58 = .ok (.ireturn, 1) := by decide +kernel
theorem dX10_kindHere_59 : decode cX10_kindHere 59 = .ok (.aload_n 0, 1) := by decide +kernel
theorem dX10_kindHere_60 : decode cX10_kindHere 60 = .ok (.bipush 8, 2) := by decide +kernel
theorem dX10_kindHere_62 : decode cX10_kindHere 62 = .ok (.iconst 5, 1) := by decide +kernel
theorem dX10_kindHere_63 : decode cX10_kindHere 63 = .ok (.bipush 9, 2) := by decide +kernel
theorem dX10_kindHere_65 : decode cX10_kindHere 65 = .ok (.bipush 18, 2) := by decide +kernel
theorem dX10_kindHere_67 : decode cX10_kindHere 67 = .ok (.iconst 0, 1) := by decide +kernel
theorem dX10_kindHere_68 : decode cX10_kindHere 68 = .ok (.iconst 0, 1) := by decide +kernel
theorem dX10_kindHere_69 : decode cX10_kindHere 69 = .ok (.iconst 0, 1) := by decide +kernel
theorem dX10_kindHere_70 : decode cX10_kindHere 70 = .ok (.invokevirtual 159, 3) := by decide +kernel
theorem dX10_kindHere_73 : decode cX10_kindHere 73 = .ok (.ifCond .eq 5, 3) := by decide +kernel
theorem dX10_kindHere_76 : decode cX10_kindHere 76 = .ok (.iconst 3, 1) := by decide +kernel
theorem dX10_kindHere_77 : decode cX10_kindHere 77 = .ok (.ireturn, 1) := by decide +kernel
theorem dX10_kindHere_78 : decode cX10_kindHere 78 = .ok (.aload_n 0, 1) := by decide +kernel
theorem dX10_kindHere_79 : decode cX10_kindHere 79 = .ok (.bipush 15, 2) := by decide +kernel
theorem dX10_kindHere_81 : decode cX10_kindHere 81 = .ok (.bipush 23, 2) := by decide +kernel
theorem dX10_kindHere_83 : decode cX10_kindHere 83 = .ok (.iconst 5, 1) := by decide +kernel
theorem dX10_kindHere_84 : decode cX10_kindHere 84 = .ok (.iconst 0, 1) := by decide +kernel
theorem dX10_kindHere_85 : decode cX10_kindHere 85 = .ok (.iconst 0, 1) := by decide +kernel
theorem dX10_kindHere_86 : decode cX10_kindHere 86 = .ok (.iconst 0, 1) := by decide +kernel
theorem dX10_kindHere_87 : decode cX10_kindHere 87 = .ok (.iconst 0, 1) := by decide +kernel
theorem dX10_kindHere_88 : decode cX10_kindHere 88 = .ok (.invokevirtual 159, 3) := by decide +kernel
theorem dX10_kindHere_91 : decode cX10_kindHere 91 = .ok (.ifCond .eq 5, 3) := by decide +kernel
theorem dX10_kindHere_94 : decode cX10_kindHere 94 = .ok (.iconst 4, 1) := by decide +kernel
theorem dX10_kindHere_95 : decode cX10_kindHere 95 = .ok (.ireturn, 1) := by decide +kernel
theorem dX10_kindHere_96 : decode cX10_kindHere 96 = .ok (.aload_n 0, 1) := by decide +kernel
theorem dX10_kindHere_97 : decode cX10_kindHere 97 = .ok (.bipush 18, 2) := by decide +kernel
theorem dX10_kindHere_99 : decode cX10_kindHere 99 = .ok (.iconst 1, 1) := by decide +kernel
theorem dX10_kindHere_100 : decode cX10_kindHere 100 = .ok (.bipush 20, 2) := by decide +kernel
theorem dX10_kindHere_102 : decode cX10_kindHere 102 = .ok (.iconst 5, 1) := by decide +kernel
theorem dX10_kindHere_103 : decode cX10_kindHere 103 = .ok (.iconst 0, 1) := by decide +kernel
theorem dX10_kindHere_104 : decode cX10_kindHere 104 = .ok (.iconst 0, 1) := by decide +kernel
theorem dX10_kindHere_105 : decode cX10_kindHere 105 = .ok (.iconst 0, 1) := by decide +kernel
theorem dX10_kindHere_106 : decode cX10_kindHere 106 = .ok (.invokevirtual 159, 3) := by decide +kernel
theorem dX10_kindHere_109 : decode cX10_kindHere 109 = .ok (.ifCond .eq 5, 3) := by decide +kernel
theorem dX10_kindHere_112 : decode cX10_kindHere 112 = .ok (.iconst 5, 1) := by decide +kernel
theorem dX10_kindHere_113 : decode cX10_kindHere 113 = .ok (.ireturn, 1) := by decide +kernel
theorem dX10_kindHere_114 : decode cX10_kindHere 114 = .ok (.aload_n 0, 1) := by decide +kernel
theorem dX10_kindHere_115 : decode cX10_kindHere 115 = .ok (.iconst 3, 1) := by decide +kernel
theorem dX10_kindHere_116 : decode cX10_kindHere 116 = .ok (.bipush 8, 2) := by decide +kernel
theorem dX10_kindHere_118 : decode cX10_kindHere 118 = .ok (.iconst 5, 1) := by decide +kernel
theorem dX10_kindHere_119 : decode cX10_kindHere 119 = .ok (.bipush 19, 2) := by decide +kernel
theorem dX10_kindHere_121 : decode cX10_kindHere 121 = .ok (.bipush 20, 2) := by decide +kernel
theorem dX10_kindHere_123 : decode cX10_kindHere 123 = .ok (.iconst 0, 1) := by decide +kernel
theorem dX10_kindHere_124 : decode cX10_kindHere 124 = .ok (.iconst 0, 1) := by decide +kernel
theorem dX10_kindHere_125 : decode cX10_kindHere 125 = .ok (.invokevirtual 159, 3) := by decide +kernel
theorem dX10_kindHere_128 : decode cX10_kindHere 128 = .ok (.ifCond .eq 6, 3) := by decide +kernel
theorem dX10_kindHere_131 : decode cX10_kindHere 131 = .ok (.bipush 6, 2) := by decide +kernel
theorem dX10_kindHere_133 : decode cX10_kindHere 133 = .ok (.ireturn, 1) := by decide +kernel
theorem dX10_kindHere_134 : decode cX10_kindHere 134 = .ok (.aload_n 0, 1) := by decide +kernel
theorem dX10_kindHere_135 : decode cX10_kindHere 135 = .ok (.bipush 8, 2) := by decide +kernel
theorem dX10_kindHere_137 : decode cX10_kindHere 137 = .ok (.iconst 1, 1) := by decide +kernel
theorem dX10_kindHere_138 : decode cX10_kindHere 138 = .ok (.bipush 18, 2) := by decide +kernel
theorem dX10_kindHere_140 : decode cX10_kindHere 140 = .ok (.bipush 22, 2) := by decide +kernel
theorem dX10_kindHere_142 : decode cX10_kindHere 142 = .ok (.iconst 5, 1) := by decide +kernel
theorem dX10_kindHere_143 : decode cX10_kindHere 143 = .ok (.bipush 19, 2) := by decide +kernel
theorem dX10_kindHere_145 : decode cX10_kindHere 145 = .ok (.bipush 20, 2) := by decide +kernel
theorem dX10_kindHere_147 : decode cX10_kindHere 147 = .ok (.invokevirtual 159, 3) := by decide +kernel
theorem dX10_kindHere_150 : decode cX10_kindHere 150 = .ok (.ifCond .eq 8, 3) := by decide +kernel
theorem dX10_kindHere_153 : decode cX10_kindHere 153 = .ok (.bipush 7, 2) := by decide +kernel
theorem dX10_kindHere_155 : decode cX10_kindHere 155 = .ok (.goto 4, 3) := by decide +kernel
theorem dX10_kindHere_158 : decode cX10_kindHere 158 = .ok (.iconst (-1), 1) := by decide +kernel
theorem dX10_kindHere_159 : decode cX10_kindHere 159 = .ok (.ireturn, 1) := by decide +kernel
abbrev mt_X10_kindHere : AxM := (RX10, cX10_kindHere, 1, (some .int), false, [])
theorem L1_X10_kindHere {g : AxG} {l : Launch} (N : Nat) {v0 : Nat} {S : AxS} {r9 : Int32} {S9 : AxS} (h : F_X10_kindHere N v0 S = some ((r9, S9))) : AxMet g l yX10_kindHere cX10_kindHere 1 (some .int) (4) 0 0 [.ref v0] S ((.inl (some (.int r9)), S9)) := by
  refine ax_met (own := RX10) (ini := false) (by decide +kernel) rfl (fun h => nomatch h) rfl ?_
  show AW g l (axRm (4) 0 0) mt_X10_kindHere (axMQ g 0 0 (.inl (some (.int r9)), S9)) 0 0 S 0 [(0, .ref v0)] []
  unfold F_X10_kindHere at h
  refine aw_aload_n 0 dX10_kindHere_0 rfl rfl ?_
  refine aw_bipush 22 dX10_kindHere_1 (by decide) ?_
  refine aw_bipush 9 dX10_kindHere_3 (by decide) ?_
  refine aw_bipush 12 dX10_kindHere_5 (by decide) ?_
  refine aw_bipush 12 dX10_kindHere_7 (by decide) ?_
  refine aw_iconst 1 dX10_kindHere_9 rfl ?_
  refine aw_bipush 7 dX10_kindHere_10 (by decide) ?_
  refine aw_iconst 5 dX10_kindHere_12 rfl ?_
  obtain ⟨hL1, h⟩ := ax_is_spec h
  refine aw_doneI (rest := []) h (fun r9 S9 hF => aw_runV (As := [.int 22, .int 9, .int 12, .int 12, .int 1, .int 7, .int 5]) (rest := []) (L1_X10_isWord N hF) axc10 hL1 wd_1476 wd_1473 wd_1475 wd_44 wd_97 pd_X10_isWord rfl (ax_rm (by omega) rfl) ax_hf0 (Nat.le_of_ble_eq_true rfl) rfl dX10_kindHere_13) (fun x3 T2 h => ?_)
  refine aw_if_eq 21 dX10_kindHere_16 (by decide) h (fun h => ?_) (fun h => ?_)
  · refine aw_aload_n 0 dX10_kindHere_21 rfl rfl ?_
    refine aw_iconst 3 dX10_kindHere_22 rfl ?_
    refine aw_iconst 5 dX10_kindHere_23 rfl ?_
    refine aw_bipush 12 dX10_kindHere_24 (by decide) ?_
    refine aw_bipush 12 dX10_kindHere_26 (by decide) ?_
    refine aw_iconst 0 dX10_kindHere_28 rfl ?_
    refine aw_iconst 0 dX10_kindHere_29 rfl ?_
    refine aw_iconst 0 dX10_kindHere_30 rfl ?_
    obtain ⟨hL4, h⟩ := ax_is_spec h
    refine aw_doneI (rest := []) h (fun r9 S9 hF => aw_runV (As := [.int 3, .int 5, .int 12, .int 12, .int 0, .int 0, .int 0]) (rest := []) (L1_X10_isWord N hF) axc10 hL4 wd_1476 wd_1473 wd_1475 wd_44 wd_97 pd_X10_isWord rfl (ax_rm (by omega) rfl) ax_hf0 (Nat.le_of_ble_eq_true rfl) rfl dX10_kindHere_31) (fun x6 T5 h => ?_)
    refine aw_if_eq 39 dX10_kindHere_34 (by decide) h (fun h => ?_) (fun h => ?_)
    · refine aw_aload_n 0 dX10_kindHere_39 rfl rfl ?_
      refine aw_bipush 13 dX10_kindHere_40 (by decide) ?_
      refine aw_bipush 15 dX10_kindHere_42 (by decide) ?_
      refine aw_bipush 14 dX10_kindHere_44 (by decide) ?_
      refine aw_bipush 11 dX10_kindHere_46 (by decide) ?_
      refine aw_iconst 0 dX10_kindHere_48 rfl ?_
      refine aw_iconst 0 dX10_kindHere_49 rfl ?_
      refine aw_iconst 0 dX10_kindHere_50 rfl ?_
      obtain ⟨hL7, h⟩ := ax_is_spec h
      refine aw_doneI (rest := []) h (fun r9 S9 hF => aw_runV (As := [.int 13, .int 15, .int 14, .int 11, .int 0, .int 0, .int 0]) (rest := []) (L1_X10_isWord N hF) axc10 hL7 wd_1476 wd_1473 wd_1475 wd_44 wd_97 pd_X10_isWord rfl (ax_rm (by omega) rfl) ax_hf0 (Nat.le_of_ble_eq_true rfl) rfl dX10_kindHere_51) (fun x9 T8 h => ?_)
      refine aw_if_eq 59 dX10_kindHere_54 (by decide) h (fun h => ?_) (fun h => ?_)
      · refine aw_aload_n 0 dX10_kindHere_59 rfl rfl ?_
        refine aw_bipush 8 dX10_kindHere_60 (by decide) ?_
        refine aw_iconst 5 dX10_kindHere_62 rfl ?_
        refine aw_bipush 9 dX10_kindHere_63 (by decide) ?_
        refine aw_bipush 18 dX10_kindHere_65 (by decide) ?_
        refine aw_iconst 0 dX10_kindHere_67 rfl ?_
        refine aw_iconst 0 dX10_kindHere_68 rfl ?_
        refine aw_iconst 0 dX10_kindHere_69 rfl ?_
        obtain ⟨hL10, h⟩ := ax_is_spec h
        refine aw_doneI (rest := []) h (fun r9 S9 hF => aw_runV (As := [.int 8, .int 5, .int 9, .int 18, .int 0, .int 0, .int 0]) (rest := []) (L1_X10_isWord N hF) axc10 hL10 wd_1476 wd_1473 wd_1475 wd_44 wd_97 pd_X10_isWord rfl (ax_rm (by omega) rfl) ax_hf0 (Nat.le_of_ble_eq_true rfl) rfl dX10_kindHere_70) (fun x12 T11 h => ?_)
        refine aw_if_eq 78 dX10_kindHere_73 (by decide) h (fun h => ?_) (fun h => ?_)
        · refine aw_aload_n 0 dX10_kindHere_78 rfl rfl ?_
          refine aw_bipush 15 dX10_kindHere_79 (by decide) ?_
          refine aw_bipush 23 dX10_kindHere_81 (by decide) ?_
          refine aw_iconst 5 dX10_kindHere_83 rfl ?_
          refine aw_iconst 0 dX10_kindHere_84 rfl ?_
          refine aw_iconst 0 dX10_kindHere_85 rfl ?_
          refine aw_iconst 0 dX10_kindHere_86 rfl ?_
          refine aw_iconst 0 dX10_kindHere_87 rfl ?_
          obtain ⟨hL13, h⟩ := ax_is_spec h
          refine aw_doneI (rest := []) h (fun r9 S9 hF => aw_runV (As := [.int 15, .int 23, .int 5, .int 0, .int 0, .int 0, .int 0]) (rest := []) (L1_X10_isWord N hF) axc10 hL13 wd_1476 wd_1473 wd_1475 wd_44 wd_97 pd_X10_isWord rfl (ax_rm (by omega) rfl) ax_hf0 (Nat.le_of_ble_eq_true rfl) rfl dX10_kindHere_88) (fun x15 T14 h => ?_)
          refine aw_if_eq 96 dX10_kindHere_91 (by decide) h (fun h => ?_) (fun h => ?_)
          · refine aw_aload_n 0 dX10_kindHere_96 rfl rfl ?_
            refine aw_bipush 18 dX10_kindHere_97 (by decide) ?_
            refine aw_iconst 1 dX10_kindHere_99 rfl ?_
            refine aw_bipush 20 dX10_kindHere_100 (by decide) ?_
            refine aw_iconst 5 dX10_kindHere_102 rfl ?_
            refine aw_iconst 0 dX10_kindHere_103 rfl ?_
            refine aw_iconst 0 dX10_kindHere_104 rfl ?_
            refine aw_iconst 0 dX10_kindHere_105 rfl ?_
            obtain ⟨hL16, h⟩ := ax_is_spec h
            refine aw_doneI (rest := []) h (fun r9 S9 hF => aw_runV (As := [.int 18, .int 1, .int 20, .int 5, .int 0, .int 0, .int 0]) (rest := []) (L1_X10_isWord N hF) axc10 hL16 wd_1476 wd_1473 wd_1475 wd_44 wd_97 pd_X10_isWord rfl (ax_rm (by omega) rfl) ax_hf0 (Nat.le_of_ble_eq_true rfl) rfl dX10_kindHere_106) (fun x18 T17 h => ?_)
            refine aw_if_eq 114 dX10_kindHere_109 (by decide) h (fun h => ?_) (fun h => ?_)
            · refine aw_aload_n 0 dX10_kindHere_114 rfl rfl ?_
              refine aw_iconst 3 dX10_kindHere_115 rfl ?_
              refine aw_bipush 8 dX10_kindHere_116 (by decide) ?_
              refine aw_iconst 5 dX10_kindHere_118 rfl ?_
              refine aw_bipush 19 dX10_kindHere_119 (by decide) ?_
              refine aw_bipush 20 dX10_kindHere_121 (by decide) ?_
              refine aw_iconst 0 dX10_kindHere_123 rfl ?_
              refine aw_iconst 0 dX10_kindHere_124 rfl ?_
              obtain ⟨hL19, h⟩ := ax_is_spec h
              refine aw_doneI (rest := []) h (fun r9 S9 hF => aw_runV (As := [.int 3, .int 8, .int 5, .int 19, .int 20, .int 0, .int 0]) (rest := []) (L1_X10_isWord N hF) axc10 hL19 wd_1476 wd_1473 wd_1475 wd_44 wd_97 pd_X10_isWord rfl (ax_rm (by omega) rfl) ax_hf0 (Nat.le_of_ble_eq_true rfl) rfl dX10_kindHere_125) (fun x21 T20 h => ?_)
              refine aw_if_eq 134 dX10_kindHere_128 (by decide) h (fun h => ?_) (fun h => ?_)
              · refine aw_aload_n 0 dX10_kindHere_134 rfl rfl ?_
                refine aw_bipush 8 dX10_kindHere_135 (by decide) ?_
                refine aw_iconst 1 dX10_kindHere_137 rfl ?_
                refine aw_bipush 18 dX10_kindHere_138 (by decide) ?_
                refine aw_bipush 22 dX10_kindHere_140 (by decide) ?_
                refine aw_iconst 5 dX10_kindHere_142 rfl ?_
                refine aw_bipush 19 dX10_kindHere_143 (by decide) ?_
                refine aw_bipush 20 dX10_kindHere_145 (by decide) ?_
                obtain ⟨hL22, h⟩ := ax_is_spec h
                refine aw_doneI (rest := []) h (fun r9 S9 hF => aw_runV (As := [.int 8, .int 1, .int 18, .int 22, .int 5, .int 19, .int 20]) (rest := []) (L1_X10_isWord N hF) axc10 hL22 wd_1476 wd_1473 wd_1475 wd_44 wd_97 pd_X10_isWord rfl (ax_rm (by omega) rfl) ax_hf0 (Nat.le_of_ble_eq_true rfl) rfl dX10_kindHere_147) (fun x24 T23 h => ?_)
                refine aw_if_eq 158 dX10_kindHere_150 (by decide) h (fun h => ?_) (fun h => ?_)
                · refine aw_iconst (-1) dX10_kindHere_158 rfl ?_
                  exact aw_iret dX10_kindHere_159 rfl (Nat.le_refl _) (Nat.le_refl _) h
                · refine aw_bipush 7 dX10_kindHere_153 (by decide) ?_
                  refine aw_goto 159 dX10_kindHere_155 (by decide) ?_
                  exact aw_iret dX10_kindHere_159 rfl (Nat.le_refl _) (Nat.le_refl _) h
              · refine aw_bipush 6 dX10_kindHere_131 (by decide) ?_
                exact aw_iret dX10_kindHere_133 rfl (Nat.le_refl _) (Nat.le_refl _) h
            · refine aw_iconst 5 dX10_kindHere_112 rfl ?_
              exact aw_iret dX10_kindHere_113 rfl (Nat.le_refl _) (Nat.le_refl _) h
          · refine aw_iconst 4 dX10_kindHere_94 rfl ?_
            exact aw_iret dX10_kindHere_95 rfl (Nat.le_refl _) (Nat.le_refl _) h
        · refine aw_iconst 3 dX10_kindHere_76 rfl ?_
          exact aw_iret dX10_kindHere_77 rfl (Nat.le_refl _) (Nat.le_refl _) h
      · refine aw_iconst 2 dX10_kindHere_57 rfl ?_
        exact aw_iret dX10_kindHere_58 rfl (Nat.le_refl _) (Nat.le_refl _) h
    · refine aw_iconst 1 dX10_kindHere_37 rfl ?_
      exact aw_iret dX10_kindHere_38 rfl (Nat.le_refl _) (Nat.le_refl _) h
  · refine aw_iconst 0 dX10_kindHere_19 rfl ?_
    exact aw_iret dX10_kindHere_20 rfl (Nat.le_refl _) (Nat.le_refl _) h

theorem dX10_isFull_0 : decode cX10_isFull 0 = .ok (.iload_n 1, 1) := by decide +kernel
theorem dX10_isFull_1 : decode cX10_isFull 1 = .ok (.iconst 4, 1) := by decide +kernel
theorem dX10_isFull_2 : decode cX10_isFull 2 = .ok (.if_icmp .ge 12, 3) := by decide +kernel
theorem dX10_isFull_5 : decode cX10_isFull 5 = .ok (.aload_n 0, 1) := by decide +kernel
theorem dX10_isFull_6 : decode cX10_isFull 6 = .ok (.getfield 20, 3) := by decide +kernel
theorem dX10_isFull_9 : decode cX10_isFull 9 = .ok (.iload_n 1, 1) := by decide +kernel
theorem dX10_isFull_10 : decode cX10_isFull 10 = .ok (.iaload, 1) := by decide +kernel
theorem dX10_isFull_11 : decode cX10_isFull 11 = .ok (.goto 4, 3) := by decide +kernel
theorem dX10_isFull_14 : decode cX10_isFull 14 = .ok (.iconst 0, 1) := by decide +kernel
theorem dX10_isFull_15 : decode cX10_isFull 15 = .ok (.istore_n 2, 1) := by decide +kernel
theorem dX10_isFull_16 : decode cX10_isFull 16 = .ok (.iload_n 1, 1) := by decide +kernel
theorem dX10_isFull_17 : decode cX10_isFull 17 = .ok (.ifCond .ne 9, 3) := by decide +kernel
theorem dX10_isFull_20 : decode cX10_isFull 20 = .ok (.iload_n 2, 1) := by decide +kernel
theorem dX10_isFull_21 : decode cX10_isFull 21 = .ok (.bipush 6, 2) := by decide +kernel
theorem dX10_isFull_23 : decode cX10_isFull 23 = .ok (.if_icmp .eq 44, 3) := by decide +kernel
theorem dX10_isFull_26 : decode cX10_isFull 26 = .ok (.iload_n 1, 1) := by decide +kernel
theorem dX10_isFull_27 : decode cX10_isFull 27 = .ok (.iconst 1, 1) := by decide +kernel
theorem dX10_isFull_28 : decode cX10_isFull 28 = .ok (.if_icmp .ne 9, 3) := by decide +kernel
theorem dX10_isFull_31 : decode cX10_isFull 31 = .ok (.iload_n 2, 1) := by decide +kernel
theorem dX10_isFull_32 : decode cX10_isFull 32 = .ok (.bipush 8, 2) := by decide +kernel
theorem dX10_isFull_34 : decode cX10_isFull 34 = .ok (.if_icmp .eq 33, 3) := by decide +kernel
theorem dX10_isFull_37 : decode cX10_isFull 37 = .ok (.iload_n 1, 1) := by decide +kernel
theorem dX10_isFull_38 : decode cX10_isFull 38 = .ok (.iconst 2, 1) := by decide +kernel
theorem dX10_isFull_39 : decode cX10_isFull 39 = .ok (.if_icmp .ne 18, 3) := by decide +kernel
theorem dX10_isFull_42 : decode cX10_isFull 42 = .ok (.iload_n 2, 1) := by decide +kernel
theorem dX10_isFull_43 : decode cX10_isFull 43 = .ok (.bipush 8, 2) := by decide +kernel
theorem dX10_isFull_45 : decode cX10_isFull 45 = .ok (.aload_n 0, 1) := by decide +kernel
theorem dX10_isFull_46 : decode cX10_isFull 46 = .ok (.getfield 20, 3) := by decide +kernel
theorem dX10_isFull_49 : decode cX10_isFull 49 = .ok (.iconst 1, 1) := by decide +kernel
theorem dX10_isFull_50 : decode cX10_isFull 50 = .ok (.iaload, 1) := by decide +kernel
theorem dX10_isFull_51 : decode cX10_isFull 51 = .ok (.invokestatic 172, 3) := by decide +kernel
theorem dX10_isFull_54 : decode cX10_isFull 54 = .ok (.if_icmp .eq 13, 3) := by decide +kernel
theorem dX10_isFull_57 : decode cX10_isFull 57 = .ok (.iload_n 1, 1) := by decide +kernel
theorem dX10_isFull_58 : decode cX10_isFull 58 = .ok (.iconst 3, 1) := by decide +kernel
theorem dX10_isFull_59 : decode cX10_isFull 59 = .ok (.if_icmp .ne 12, 3) := by decide +kernel
theorem dX10_isFull_62 : decode cX10_isFull 62 = .ok (.iload_n 2, 1) := by decide +kernel
theorem dX10_isFull_63 : decode cX10_isFull 63 = .ok (.iconst 4, 1) := by decide +kernel
theorem dX10_isFull_64 : decode cX10_isFull 64 = .ok (.if_icmp .ne 7, 3) := by decide +kernel
theorem dX10_isFull_67 : decode cX10_isFull 67 = .ok (.iconst 1, 1) := by decide +kernel
theorem dX10_isFull_68 : decode cX10_isFull 68 = .ok (.goto 4, 3) := by decide +kernel
theorem dX10_isFull_71 : decode cX10_isFull 71 = .ok (.iconst 0, 1) := by decide +kernel
theorem dX10_isFull_72 : decode cX10_isFull 72 = .ok (.ireturn, 1) := by decide +kernel
abbrev mt_X10_isFull : AxM := (RX10, cX10_isFull, 3, (some .boolean), false, [])
theorem L1_X10_isFull_57 {g : AxG} {l : Launch} {r9 : Int32} {S9 : AxS} (N : Nat)  (v1 : Int32) (v2 : Int32) (S : AxS) (h : F_X10_isFull_57 N  v1 v2 S = some ((r9, S9))) : AW g l (axRm (1) 0 0) mt_X10_isFull (axMQ g 0 0 (.inl (some (.int r9)), S9)) 0 0 S 57 [(1, .int v1), (2, .int v2)] [] := by
  unfold F_X10_isFull_57 at h
  refine aw_iload_n 0 dX10_isFull_57 rfl rfl ?_
  refine aw_iconst 3 dX10_isFull_58 rfl ?_
  refine aw_icmp_ne 71 dX10_isFull_59 (by decide) h (fun h => ?_) (fun h => ?_)
  · refine aw_iconst 0 dX10_isFull_71 rfl ?_
    exact aw_zret dX10_isFull_72 rfl (Nat.le_refl _) (Nat.le_refl _) h
  · refine aw_iload_n 1 dX10_isFull_62 rfl rfl ?_
    refine aw_iconst 4 dX10_isFull_63 rfl ?_
    refine aw_icmp_ne 71 dX10_isFull_64 (by decide) h (fun h => ?_) (fun h => ?_)
    · refine aw_iconst 0 dX10_isFull_71 rfl ?_
      exact aw_zret dX10_isFull_72 rfl (Nat.le_refl _) (Nat.le_refl _) h
    · refine aw_iconst 1 dX10_isFull_67 rfl ?_
      refine aw_goto 72 dX10_isFull_68 (by decide) ?_
      exact aw_zret dX10_isFull_72 rfl (Nat.le_refl _) (Nat.le_refl _) h
theorem L1_X10_isFull_37 {g : AxG} {l : Launch} {r9 : Int32} {S9 : AxS} (N : Nat)  (v0 : Nat) (v1 : Int32) (v2 : Int32) (S : AxS) (h : F_X10_isFull_37 N  v0 v1 v2 S = some ((r9, S9))) : AW g l (axRm (1) 0 0) mt_X10_isFull (axMQ g 0 0 (.inl (some (.int r9)), S9)) 0 0 S 37 [(0, .ref v0), (1, .int v1), (2, .int v2)] [] := by
  unfold F_X10_isFull_37 at h
  refine aw_iload_n 1 dX10_isFull_37 rfl rfl ?_
  refine aw_iconst 2 dX10_isFull_38 rfl ?_
  refine aw_icmp_ne 57 dX10_isFull_39 (by decide) h (fun h => ?_) (fun h => ?_)
  · refine aw_env [(1, .int v1), (2, .int v2)] [1, 2] rfl ?_
    exact L1_X10_isFull_57 N  v1 v2 S h
  · refine aw_iload_n 2 dX10_isFull_42 rfl rfl ?_
    refine aw_bipush 8 dX10_isFull_43 (by decide) ?_
    refine aw_aload_n 0 dX10_isFull_45 rfl rfl ?_
    refine aw_getR axc10 11 rfl rfl wd_1296 dX10_isFull_46 h (fun a1 h => ?_)
    refine aw_iconst 1 dX10_isFull_49 rfl ?_
    refine aw_iald dX10_isFull_50 h (fun x2 h => ?_)
    refine aw_doneI (rest := [.int v2]) h (fun r9 S9 hF => aw_runS (As := [.int 8, .int x2]) (rest := [.int v2]) (L1_X10_less N hF) wd_1500 wd_1498 wd_1499 wd_97 pd_X10_less.2 rfl (ax_rm (by omega) rfl) ax_hf0 (Nat.le_of_ble_eq_true rfl) rfl dX10_isFull_51) (fun x4 T3 h => ?_)
    refine aw_icmp_eq 67 dX10_isFull_54 (by decide) h (fun h => ?_) (fun h => ?_)
    · refine aw_iconst 1 dX10_isFull_67 rfl ?_
      refine aw_goto 72 dX10_isFull_68 (by decide) ?_
      exact aw_zret dX10_isFull_72 rfl (Nat.le_refl _) (Nat.le_refl _) h
    · refine aw_env [(1, .int v1), (2, .int v2)] [1, 2] rfl ?_
      exact L1_X10_isFull_57 N  v1 v2 T3 h
theorem L1_X10_isFull_26 {g : AxG} {l : Launch} {r9 : Int32} {S9 : AxS} (N : Nat)  (v0 : Nat) (v1 : Int32) (v2 : Int32) (S : AxS) (h : F_X10_isFull_26 N  v0 v1 v2 S = some ((r9, S9))) : AW g l (axRm (1) 0 0) mt_X10_isFull (axMQ g 0 0 (.inl (some (.int r9)), S9)) 0 0 S 26 [(0, .ref v0), (1, .int v1), (2, .int v2)] [] := by
  unfold F_X10_isFull_26 at h
  refine aw_iload_n 1 dX10_isFull_26 rfl rfl ?_
  refine aw_iconst 1 dX10_isFull_27 rfl ?_
  refine aw_icmp_ne 37 dX10_isFull_28 (by decide) h (fun h => ?_) (fun h => ?_)
  · refine aw_env [(0, .ref v0), (1, .int v1), (2, .int v2)] [0, 1, 2] rfl ?_
    exact L1_X10_isFull_37 N  v0 v1 v2 S h
  · refine aw_iload_n 2 dX10_isFull_31 rfl rfl ?_
    refine aw_bipush 8 dX10_isFull_32 (by decide) ?_
    refine aw_icmp_eq 67 dX10_isFull_34 (by decide) h (fun h => ?_) (fun h => ?_)
    · refine aw_iconst 1 dX10_isFull_67 rfl ?_
      refine aw_goto 72 dX10_isFull_68 (by decide) ?_
      exact aw_zret dX10_isFull_72 rfl (Nat.le_refl _) (Nat.le_refl _) h
    · refine aw_env [(0, .ref v0), (1, .int v1), (2, .int v2)] [0, 1, 2] rfl ?_
      exact L1_X10_isFull_37 N  v0 v1 v2 S h
theorem L1_X10_isFull_15 {g : AxG} {l : Launch} {r9 : Int32} {S9 : AxS} (N : Nat)  (v0 : Nat) (v1 : Int32) (w0 : Int32) (S : AxS) (h : F_X10_isFull_15 N  v0 v1 w0 S = some ((r9, S9))) : AW g l (axRm (1) 0 0) mt_X10_isFull (axMQ g 0 0 (.inl (some (.int r9)), S9)) 0 0 S 15 [(0, .ref v0), (1, .int v1)] [.int w0] := by
  unfold F_X10_isFull_15 at h
  refine aw_istore_n 2 [(2, .int w0), (0, .ref v0), (1, .int v1)] dX10_isFull_15 rfl rfl rfl ?_
  refine aw_iload_n 2 dX10_isFull_16 rfl rfl ?_
  refine aw_if_ne 26 dX10_isFull_17 (by decide) h (fun h => ?_) (fun h => ?_)
  · refine aw_env [(0, .ref v0), (1, .int v1), (2, .int w0)] [1, 2, 0] rfl ?_
    exact L1_X10_isFull_26 N  v0 v1 w0 S h
  · refine aw_iload_n 0 dX10_isFull_20 rfl rfl ?_
    refine aw_bipush 6 dX10_isFull_21 (by decide) ?_
    refine aw_icmp_eq 67 dX10_isFull_23 (by decide) h (fun h => ?_) (fun h => ?_)
    · refine aw_iconst 1 dX10_isFull_67 rfl ?_
      refine aw_goto 72 dX10_isFull_68 (by decide) ?_
      exact aw_zret dX10_isFull_72 rfl (Nat.le_refl _) (Nat.le_refl _) h
    · refine aw_env [(0, .ref v0), (1, .int v1), (2, .int w0)] [1, 2, 0] rfl ?_
      exact L1_X10_isFull_26 N  v0 v1 w0 S h
theorem L1_X10_isFull {g : AxG} {l : Launch} (N : Nat) {v0 : Nat} {v1 : Int32} {S : AxS} {r9 : Int32} {S9 : AxS} (h : F_X10_isFull N v0 v1 S = some ((r9, S9))) : AxMet g l yX10_isFull cX10_isFull 3 (some .boolean) (1) 0 0 [.ref v0, .int v1] S ((.inl (some (.int r9)), S9)) := by
  refine ax_met (own := RX10) (ini := false) (by decide +kernel) rfl (fun h => nomatch h) rfl ?_
  show AW g l (axRm (1) 0 0) mt_X10_isFull (axMQ g 0 0 (.inl (some (.int r9)), S9)) 0 0 S 0 [(0, .ref v0), (1, .int v1)] []
  unfold F_X10_isFull at h
  refine aw_iload_n 1 dX10_isFull_0 rfl rfl ?_
  refine aw_iconst 4 dX10_isFull_1 rfl ?_
  refine aw_icmp_ge 14 dX10_isFull_2 (by decide) h (fun h => ?_) (fun h => ?_)
  · refine aw_iconst 0 dX10_isFull_14 rfl ?_
    refine aw_env [(0, .ref v0), (1, .int v1)] [0, 1] rfl ?_
    exact L1_X10_isFull_15 N  v0 v1 0 S h
  · refine aw_aload_n 0 dX10_isFull_5 rfl rfl ?_
    refine aw_getR axc10 11 rfl rfl wd_1296 dX10_isFull_6 h (fun a1 h => ?_)
    refine aw_iload_n 1 dX10_isFull_9 rfl rfl ?_
    refine aw_iald dX10_isFull_10 h (fun x2 h => ?_)
    refine aw_goto 15 dX10_isFull_11 (by decide) ?_
    refine aw_env [(0, .ref v0), (1, .int v1)] [0, 1] rfl ?_
    exact L1_X10_isFull_15 N  v0 v1 x2 S h

theorem dX10_mostOf_0 : decode cX10_mostOf 0 = .ok (.iload_n 0, 1) := by decide +kernel
theorem dX10_mostOf_1 : decode cX10_mostOf 1 = .ok (.tableswitch 55 0 5 #[39, 42, 45, 48, 51, 39], 39) := by decide +kernel
theorem dX10_mostOf_40 : decode cX10_mostOf 40 = .ok (.bipush 20, 2) := by decide +kernel
theorem dX10_mostOf_42 : decode cX10_mostOf 42 = .ok (.ireturn, 1) := by decide +kernel
theorem dX10_mostOf_43 : decode cX10_mostOf 43 = .ok (.bipush 9, 2) := by decide +kernel
theorem dX10_mostOf_45 : decode cX10_mostOf 45 = .ok (.ireturn, 1) := by decide +kernel
theorem dX10_mostOf_46 : decode cX10_mostOf 46 = .ok (.bipush 40, 2) := by decide +kernel
theorem dX10_mostOf_48 : decode cX10_mostOf 48 = .ok (.ireturn, 1) := by decide +kernel
theorem dX10_mostOf_49 : decode cX10_mostOf 49 = .ok (.bipush 99, 2) := by decide +kernel
theorem dX10_mostOf_51 : decode cX10_mostOf 51 = .ok (.ireturn, 1) := by decide +kernel
theorem dX10_mostOf_52 : decode cX10_mostOf 52 = .ok (.sipush 9999, 3) := by decide +kernel
theorem dX10_mostOf_55 : decode cX10_mostOf 55 = .ok (.ireturn, 1) := by decide +kernel
theorem dX10_mostOf_56 : decode cX10_mostOf 56 = .ok (.sipush 999, 3) := by decide +kernel
theorem dX10_mostOf_59 : decode cX10_mostOf 59 = .ok (.ireturn, 1) := by decide +kernel
abbrev mt_X10_mostOf : AxM := (RX10, cX10_mostOf, 1, (some .int), false, [])
theorem L1_X10_mostOf {g : AxG} {l : Launch} (N : Nat) {v0 : Int32} {S : AxS} {r9 : Int32} {S9 : AxS} (h : F_X10_mostOf N v0 S = some ((r9, S9))) : AxMet g l yX10_mostOf cX10_mostOf 1 (some .int) (0) 0 0 [.int v0] S ((.inl (some (.int r9)), S9)) := by
  refine ax_met (own := RX10) (ini := false) (by decide +kernel) rfl (fun h => nomatch h) rfl ?_
  show AW g l (axRm (0) 0 0) mt_X10_mostOf (axMQ g 0 0 (.inl (some (.int r9)), S9)) 0 0 S 0 [(0, .int v0)] []
  unfold F_X10_mostOf at h
  refine aw_iload_n 0 dX10_mostOf_0 rfl rfl ?_
  refine aw_case 0 h (fun h => ?_) (fun c1 h => ?_)
  · refine aw_tswIn 40 (off := 39) dX10_mostOf_1 (by decide) (by decide) (by decide) (by decide) ?_
    refine aw_bipush 20 dX10_mostOf_40 (by decide) ?_
    exact aw_iret dX10_mostOf_42 rfl (Nat.le_refl _) (Nat.le_refl _) h
  refine aw_case 1 h (fun h => ?_) (fun c2 h => ?_)
  · refine aw_tswIn 43 (off := 42) dX10_mostOf_1 (by decide) (by decide) (by decide) (by decide) ?_
    refine aw_bipush 9 dX10_mostOf_43 (by decide) ?_
    exact aw_iret dX10_mostOf_45 rfl (Nat.le_refl _) (Nat.le_refl _) h
  refine aw_case 2 h (fun h => ?_) (fun c3 h => ?_)
  · refine aw_tswIn 46 (off := 45) dX10_mostOf_1 (by decide) (by decide) (by decide) (by decide) ?_
    refine aw_bipush 40 dX10_mostOf_46 (by decide) ?_
    exact aw_iret dX10_mostOf_48 rfl (Nat.le_refl _) (Nat.le_refl _) h
  refine aw_case 3 h (fun h => ?_) (fun c4 h => ?_)
  · refine aw_tswIn 49 (off := 48) dX10_mostOf_1 (by decide) (by decide) (by decide) (by decide) ?_
    refine aw_bipush 99 dX10_mostOf_49 (by decide) ?_
    exact aw_iret dX10_mostOf_51 rfl (Nat.le_refl _) (Nat.le_refl _) h
  refine aw_case 4 h (fun h => ?_) (fun c5 h => ?_)
  · refine aw_tswIn 52 (off := 51) dX10_mostOf_1 (by decide) (by decide) (by decide) (by decide) ?_
    refine aw_sipush 9999 dX10_mostOf_52 (by decide) ?_
    exact aw_iret dX10_mostOf_55 rfl (Nat.le_refl _) (Nat.le_refl _) h
  refine aw_case 5 h (fun h => ?_) (fun c6 h => ?_)
  · refine aw_tswIn 40 (off := 39) dX10_mostOf_1 (by decide) (by decide) (by decide) (by decide) ?_
    refine aw_bipush 20 dX10_mostOf_40 (by decide) ?_
    exact aw_iret dX10_mostOf_42 rfl (Nat.le_refl _) (Nat.le_refl _) h
  refine aw_tswOut 56 dX10_mostOf_1 (by have q0 := ax_i32ne c1 (v := 0) (i := 0) (by decide); have q1 := ax_i32ne c2 (v := 1) (i := 1) (by decide); have q2 := ax_i32ne c3 (v := 2) (i := 2) (by decide); have q3 := ax_i32ne c4 (v := 3) (i := 3) (by decide); have q4 := ax_i32ne c5 (v := 4) (i := 4) (by decide); have q5 := ax_i32ne c6 (v := 5) (i := 5) (by decide); omega) (by decide) ?_
  refine aw_sipush 999 dX10_mostOf_56 (by decide) ?_
  exact aw_iret dX10_mostOf_59 rfl (Nat.le_refl _) (Nat.le_refl _) h

theorem dX10_clause_0 : decode cX10_clause 0 = .ok (.aload_n 0, 1) := by decide +kernel
theorem dX10_clause_1 : decode cX10_clause 1 = .ok (.invokevirtual 176, 3) := by decide +kernel
theorem dX10_clause_4 : decode cX10_clause 4 = .ok (.istore_n 1, 1) := by decide +kernel
theorem dX10_clause_5 : decode cX10_clause 5 = .ok (.iload_n 1, 1) := by decide +kernel
theorem dX10_clause_6 : decode cX10_clause 6 = .ok (.iconst (-1), 1) := by decide +kernel
theorem dX10_clause_7 : decode cX10_clause 7 = .ok (.if_icmp .ne 15, 3) := by decide +kernel
theorem dX10_clause_10 : decode cX10_clause 10 = .ok (.aload_n 0, 1) := by decide +kernel
theorem dX10_clause_11 : decode cX10_clause 11 = .ok (.iconst 1, 1) := by decide +kernel
theorem dX10_clause_12 : decode cX10_clause 12 = .ok (.aload_n 0, 1) := by decide +kernel
theorem dX10_clause_13 : decode cX10_clause 13 = .ok (.getfield 113, 3) := by decide +kernel
theorem dX10_clause_16 : decode cX10_clause 16 = .ok (.invokevirtual 133, 3) := by decide +kernel
theorem dX10_clause_19 : decode cX10_clause 19 = .ok (.goto 29, 3) := by decide +kernel
theorem dX10_clause_22 : decode cX10_clause 22 = .ok (.aload_n 0, 1) := by decide +kernel
theorem dX10_clause_23 : decode cX10_clause 23 = .ok (.getfield 166, 3) := by decide +kernel
theorem dX10_clause_26 : decode cX10_clause 26 = .ok (.bipush 60, 2) := by decide +kernel
theorem dX10_clause_28 : decode cX10_clause 28 = .ok (.if_icmp .eq 11, 3) := by decide +kernel
theorem dX10_clause_31 : decode cX10_clause 31 = .ok (.aload_n 0, 1) := by decide +kernel
theorem dX10_clause_32 : decode cX10_clause 32 = .ok (.iload_n 1, 1) := by decide +kernel
theorem dX10_clause_33 : decode cX10_clause 33 = .ok (.invokevirtual 180, 3) := by decide +kernel
theorem dX10_clause_36 : decode cX10_clause 36 = .ok (.ifCond .eq 12, 3) := by decide +kernel
theorem dX10_clause_39 : decode cX10_clause 39 = .ok (.aload_n 0, 1) := by decide +kernel
theorem dX10_clause_40 : decode cX10_clause 40 = .ok (.iconst 3, 1) := by decide +kernel
theorem dX10_clause_41 : decode cX10_clause 41 = .ok (.aload_n 0, 1) := by decide +kernel
theorem dX10_clause_42 : decode cX10_clause 42 = .ok (.getfield 113, 3) := by decide +kernel
theorem dX10_clause_45 : decode cX10_clause 45 = .ok (.invokevirtual 133, 3) := by decide +kernel
theorem dX10_clause_48 : decode cX10_clause 48 = .ok (.aload_n 0, 1) := by decide +kernel
theorem dX10_clause_49 : decode cX10_clause 49 = .ok (.getfield 120, 3) := by decide +kernel
theorem dX10_clause_52 : decode cX10_clause 52 = .ok (.ifCond .eq 4, 3) := by decide +kernel
theorem dX10_clause_55 : decode cX10_clause 55 = .ok (.return_, 1) := by decide +kernel
theorem dX10_clause_56 : decode cX10_clause 56 = .ok (.aload_n 0, 1) := by decide +kernel
theorem dX10_clause_57 : decode cX10_clause 57 = .ok (.invokevirtual 163, 3) := by decide +kernel
theorem dX10_clause_60 : decode cX10_clause 60 = .ok (.aload_n 0, 1) := by decide +kernel
theorem dX10_clause_61 : decode cX10_clause 61 = .ok (.dup, 1) := by decide +kernel
theorem dX10_clause_62 : decode cX10_clause 62 = .ok (.getfield 166, 3) := by decide +kernel
theorem dX10_clause_65 : decode cX10_clause 65 = .ok (.iconst 1, 1) := by decide +kernel
theorem dX10_clause_66 : decode cX10_clause 66 = .ok (.iadd, 1) := by decide +kernel
theorem dX10_clause_67 : decode cX10_clause 67 = .ok (.putfield 166, 3) := by decide +kernel
theorem dX10_clause_70 : decode cX10_clause 70 = .ok (.iload_n 1, 1) := by decide +kernel
theorem dX10_clause_71 : decode cX10_clause 71 = .ok (.bipush 7, 2) := by decide +kernel
theorem dX10_clause_73 : decode cX10_clause 73 = .ok (.if_icmp .ne 36, 3) := by decide +kernel
theorem dX10_clause_76 : decode cX10_clause 76 = .ok (.aload_n 0, 1) := by decide +kernel
theorem dX10_clause_77 : decode cX10_clause 77 = .ok (.iconst 0, 1) := by decide +kernel
theorem dX10_clause_78 : decode cX10_clause 78 = .ok (.bipush 11, 2) := by decide +kernel
theorem dX10_clause_80 : decode cX10_clause 80 = .ok (.invokevirtual 183, 3) := by decide +kernel
theorem dX10_clause_83 : decode cX10_clause 83 = .ok (.istore_n 2, 1) := by decide +kernel
theorem dX10_clause_84 : decode cX10_clause 84 = .ok (.aload_n 0, 1) := by decide +kernel
theorem dX10_clause_85 : decode cX10_clause 85 = .ok (.iconst 0, 1) := by decide +kernel
theorem dX10_clause_86 : decode cX10_clause 86 = .ok (.bipush 99, 2) := by decide +kernel
theorem dX10_clause_88 : decode cX10_clause 88 = .ok (.invokevirtual 183, 3) := by decide +kernel
theorem dX10_clause_91 : decode cX10_clause 91 = .ok (.istore_n 3, 1) := by decide +kernel
theorem dX10_clause_92 : decode cX10_clause 92 = .ok (.aload_n 0, 1) := by decide +kernel
theorem dX10_clause_93 : decode cX10_clause 93 = .ok (.getfield 120, 3) := by decide +kernel
theorem dX10_clause_96 : decode cX10_clause 96 = .ok (.ifCond .ne 10, 3) := by decide +kernel
theorem dX10_clause_99 : decode cX10_clause 99 = .ok (.aload_n 0, 1) := by decide +kernel
theorem dX10_clause_100 : decode cX10_clause 100 = .ok (.getfield 26, 3) := by decide +kernel
theorem dX10_clause_103 : decode cX10_clause 103 = .ok (.iload_n 2, 1) := by decide +kernel
theorem dX10_clause_104 : decode cX10_clause 104 = .ok (.iload_n 3, 1) := by decide +kernel
theorem dX10_clause_105 : decode cX10_clause 105 = .ok (.iastore, 1) := by decide +kernel
theorem dX10_clause_106 : decode cX10_clause 106 = .ok (.goto 81, 3) := by decide +kernel
theorem dX10_clause_109 : decode cX10_clause 109 = .ok (.aload_n 0, 1) := by decide +kernel
theorem dX10_clause_110 : decode cX10_clause 110 = .ok (.iload_n 1, 1) := by decide +kernel
theorem dX10_clause_111 : decode cX10_clause 111 = .ok (.ifCond .eq 8, 3) := by decide +kernel
theorem dX10_clause_114 : decode cX10_clause 114 = .ok (.iload_n 1, 1) := by decide +kernel
theorem dX10_clause_115 : decode cX10_clause 115 = .ok (.iconst 3, 1) := by decide +kernel
theorem dX10_clause_116 : decode cX10_clause 116 = .ok (.if_icmp .ne 7, 3) := by decide +kernel
theorem dX10_clause_119 : decode cX10_clause 119 = .ok (.iconst 1, 1) := by decide +kernel
theorem dX10_clause_120 : decode cX10_clause 120 = .ok (.goto 4, 3) := by decide +kernel
theorem dX10_clause_123 : decode cX10_clause 123 = .ok (.iconst 0, 1) := by decide +kernel
theorem dX10_clause_124 : decode cX10_clause 124 = .ok (.iload_n 1, 1) := by decide +kernel
theorem dX10_clause_125 : decode cX10_clause 125 = .ok (.invokestatic 186, 3) := by decide +kernel
theorem dX10_clause_128 : decode cX10_clause 128 = .ok (.invokevirtual 183, 3) := by decide +kernel
theorem dX10_clause_131 : decode cX10_clause 131 = .ok (.istore_n 2, 1) := by decide +kernel
theorem dX10_clause_132 : decode cX10_clause 132 = .ok (.aload_n 0, 1) := by decide +kernel
theorem dX10_clause_133 : decode cX10_clause 133 = .ok (.getfield 120, 3) := by decide +kernel
theorem dX10_clause_136 : decode cX10_clause 136 = .ok (.ifCond .ne 15, 3) := by decide +kernel
theorem dX10_clause_139 : decode cX10_clause 139 = .ok (.iload_n 1, 1) := by decide +kernel
theorem dX10_clause_140 : decode cX10_clause 140 = .ok (.iconst 3, 1) := by decide +kernel
theorem dX10_clause_141 : decode cX10_clause 141 = .ok (.if_icmp .le 10, 3) := by decide +kernel
theorem dX10_clause_144 : decode cX10_clause 144 = .ok (.aload_n 0, 1) := by decide +kernel
theorem dX10_clause_145 : decode cX10_clause 145 = .ok (.getfield 20, 3) := by decide +kernel
theorem dX10_clause_148 : decode cX10_clause 148 = .ok (.iload_n 1, 1) := by decide +kernel
theorem dX10_clause_149 : decode cX10_clause 149 = .ok (.iload_n 2, 1) := by decide +kernel
theorem dX10_clause_150 : decode cX10_clause 150 = .ok (.iastore, 1) := by decide +kernel
theorem dX10_clause_151 : decode cX10_clause 151 = .ok (.aload_n 0, 1) := by decide +kernel
theorem dX10_clause_152 : decode cX10_clause 152 = .ok (.getfield 120, 3) := by decide +kernel
theorem dX10_clause_155 : decode cX10_clause 155 = .ok (.ifCond .ne 32, 3) := by decide +kernel
theorem dX10_clause_158 : decode cX10_clause 158 = .ok (.iload_n 1, 1) := by decide +kernel
theorem dX10_clause_159 : decode cX10_clause 159 = .ok (.iconst 4, 1) := by decide +kernel
theorem dX10_clause_160 : decode cX10_clause 160 = .ok (.if_icmp .ge 27, 3) := by decide +kernel
theorem dX10_clause_163 : decode cX10_clause 163 = .ok (.aload_n 0, 1) := by decide +kernel
theorem dX10_clause_164 : decode cX10_clause 164 = .ok (.getfield 34, 3) := by decide +kernel
theorem dX10_clause_167 : decode cX10_clause 167 = .ok (.iload_n 1, 1) := by decide +kernel
theorem dX10_clause_168 : decode cX10_clause 168 = .ok (.aaload, 1) := by decide +kernel
theorem dX10_clause_169 : decode cX10_clause 169 = .ok (.aload_n 0, 1) := by decide +kernel
theorem dX10_clause_170 : decode cX10_clause 170 = .ok (.getfield 20, 3) := by decide +kernel
theorem dX10_clause_173 : decode cX10_clause 173 = .ok (.iload_n 1, 1) := by decide +kernel
theorem dX10_clause_174 : decode cX10_clause 174 = .ok (.iaload, 1) := by decide +kernel
theorem dX10_clause_175 : decode cX10_clause 175 = .ok (.iload_n 2, 1) := by decide +kernel
theorem dX10_clause_176 : decode cX10_clause 176 = .ok (.iastore, 1) := by decide +kernel
theorem dX10_clause_177 : decode cX10_clause 177 = .ok (.aload_n 0, 1) := by decide +kernel
theorem dX10_clause_178 : decode cX10_clause 178 = .ok (.getfield 20, 3) := by decide +kernel
theorem dX10_clause_181 : decode cX10_clause 181 = .ok (.iload_n 1, 1) := by decide +kernel
theorem dX10_clause_182 : decode cX10_clause 182 = .ok (.dup2, 1) := by decide +kernel
theorem dX10_clause_183 : decode cX10_clause 183 = .ok (.iaload, 1) := by decide +kernel
theorem dX10_clause_184 : decode cX10_clause 184 = .ok (.iconst 1, 1) := by decide +kernel
theorem dX10_clause_185 : decode cX10_clause 185 = .ok (.iadd, 1) := by decide +kernel
theorem dX10_clause_186 : decode cX10_clause 186 = .ok (.iastore, 1) := by decide +kernel
theorem dX10_clause_187 : decode cX10_clause 187 = .ok (.aload_n 0, 1) := by decide +kernel
theorem dX10_clause_188 : decode cX10_clause 188 = .ok (.bipush 59, 2) := by decide +kernel
theorem dX10_clause_190 : decode cX10_clause 190 = .ok (.invokevirtual 189, 3) := by decide +kernel
theorem dX10_clause_193 : decode cX10_clause 193 = .ok (.return_, 1) := by decide +kernel
abbrev mt_X10_clause : AxM := (RX10, cX10_clause, 4, none, false, [])
theorem L1_X10_clause_187 {g : AxG} {l : Launch} {S9 : AxS} (N : Nat)  (v0 : Nat) (S : AxS) (h : F_X10_clause_187 N  v0 S = some S9) : AW g l (axRm (5) 0 0) mt_X10_clause (axMQ g 0 0 (.inl none, S9)) 0 0 S 187 [(0, .ref v0)] [] := by
  unfold F_X10_clause_187 at h
  refine aw_aload_n 0 dX10_clause_187 rfl rfl ?_
  refine aw_bipush 59 dX10_clause_188 (by decide) ?_
  obtain ⟨hL1, h⟩ := ax_is_spec h
  refine aw_doneV (rest := []) h (fun S9 hF => aw_runV (As := [.int 59]) (rest := []) (L1_X10_sign N hF) axc10 hL1 wd_1519 wd_1516 wd_1518 wd_50 wd_97 pd_X10_sign rfl (ax_rm (by omega) rfl) ax_hf0 (Nat.le_of_ble_eq_true rfl) rfl dX10_clause_190) (fun T2 h => ?_)
  exact aw_vret dX10_clause_193 rfl (Nat.le_refl _) (Nat.le_refl _) h
theorem L1_X10_clause_151 {g : AxG} {l : Launch} {S9 : AxS} (N : Nat)  (v0 : Nat) (v1 : Int32) (v2 : Int32) (S : AxS) (h : F_X10_clause_151 N  v0 v1 v2 S = some S9) : AW g l (axRm (5) 0 0) mt_X10_clause (axMQ g 0 0 (.inl none, S9)) 0 0 S 151 [(0, .ref v0), (1, .int v1), (2, .int v2)] [] := by
  unfold F_X10_clause_151 at h
  refine aw_aload_n 0 dX10_clause_151 rfl rfl ?_
  refine aw_getI axc10 5 rfl rfl wd_1290 dX10_clause_152 h (fun x1 h => ?_)
  refine aw_if_ne 187 dX10_clause_155 (by decide) h (fun h => ?_) (fun h => ?_)
  · refine aw_env [(0, .ref v0)] [0] rfl ?_
    exact L1_X10_clause_187 N  v0 S h
  · refine aw_iload_n 1 dX10_clause_158 rfl rfl ?_
    refine aw_iconst 4 dX10_clause_159 rfl ?_
    refine aw_icmp_ge 187 dX10_clause_160 (by decide) h (fun h => ?_) (fun h => ?_)
    · refine aw_env [(0, .ref v0)] [0] rfl ?_
      exact L1_X10_clause_187 N  v0 S h
    · refine aw_aload_n 0 dX10_clause_163 rfl rfl ?_
      refine aw_getR axc10 15 rfl rfl wd_1300 dX10_clause_164 h (fun a2 h => ?_)
      refine aw_iload_n 1 dX10_clause_167 rfl rfl ?_
      refine aw_aald dX10_clause_168 h (fun a3 h => ?_)
      refine aw_aload_n 0 dX10_clause_169 rfl rfl ?_
      refine aw_getR axc10 11 rfl rfl wd_1296 dX10_clause_170 h (fun a4 h => ?_)
      refine aw_iload_n 1 dX10_clause_173 rfl rfl ?_
      refine aw_iald dX10_clause_174 h (fun x5 h => ?_)
      refine aw_iload_n 2 dX10_clause_175 rfl rfl ?_
      refine aw_iast dX10_clause_176 h (fun T6 h => ?_)
      refine aw_aload_n 0 dX10_clause_177 rfl rfl ?_
      refine aw_getR axc10 11 rfl rfl wd_1296 dX10_clause_178 h (fun a7 h => ?_)
      refine aw_iload_n 1 dX10_clause_181 rfl rfl ?_
      refine aw_dup2 rfl rfl dX10_clause_182 ?_
      refine aw_iald dX10_clause_183 h (fun x8 h => ?_)
      refine aw_iconst 1 dX10_clause_184 rfl ?_
      refine aw_iadd dX10_clause_185 ?_
      refine aw_iast dX10_clause_186 h (fun T9 h => ?_)
      refine aw_env [(0, .ref v0)] [0] rfl ?_
      exact L1_X10_clause_187 N  v0 T9 h
theorem L1_X10_clause_124 {g : AxG} {l : Launch} {S9 : AxS} (N : Nat)  (v0 : Nat) (v1 : Int32) (w0 : Int32) (w1 : Nat) (S : AxS) (h : F_X10_clause_124 N  v0 v1 w0 w1 S = some S9) : AW g l (axRm (5) 0 0) mt_X10_clause (axMQ g 0 0 (.inl none, S9)) 0 0 S 124 [(0, .ref v0), (1, .int v1)] [.int w0, .ref w1] := by
  unfold F_X10_clause_124 at h
  refine aw_iload_n 1 dX10_clause_124 rfl rfl ?_
  refine aw_doneI (rest := [.int w0, .ref w1]) h (fun r9 S9 hF => aw_runS (As := [.int v1]) (rest := [.int w0, .ref w1]) (L1_X10_mostOf N hF) wd_1515 wd_1513 wd_1514 wd_97 pd_X10_mostOf.2 rfl (ax_rm (by omega) rfl) ax_hf0 (Nat.le_of_ble_eq_true rfl) rfl dX10_clause_125) (fun x2 T1 h => ?_)
  obtain ⟨hL3, h⟩ := ax_is_spec h
  refine aw_doneI (rest := []) h (fun r9 S9 hF => aw_runV (As := [.int w0, .int x2]) (rest := []) (L1_X10_number N hF) axc10 hL3 wd_1508 wd_1505 wd_1507 wd_49 wd_97 pd_X10_number rfl (ax_rm (by omega) rfl) ax_hf0 (Nat.le_of_ble_eq_true rfl) rfl dX10_clause_128) (fun x5 T4 h => ?_)
  refine aw_istore_n 2 [(2, .int x5), (0, .ref v0), (1, .int v1)] dX10_clause_131 rfl rfl rfl ?_
  refine aw_aload_n 1 dX10_clause_132 rfl rfl ?_
  refine aw_getI axc10 5 rfl rfl wd_1290 dX10_clause_133 h (fun x6 h => ?_)
  refine aw_if_ne 151 dX10_clause_136 (by decide) h (fun h => ?_) (fun h => ?_)
  · refine aw_env [(0, .ref v0), (1, .int v1), (2, .int x5)] [1, 2, 0] rfl ?_
    exact L1_X10_clause_151 N  v0 v1 x5 T4 h
  · refine aw_iload_n 2 dX10_clause_139 rfl rfl ?_
    refine aw_iconst 3 dX10_clause_140 rfl ?_
    refine aw_icmp_le 151 dX10_clause_141 (by decide) h (fun h => ?_) (fun h => ?_)
    · refine aw_env [(0, .ref v0), (1, .int v1), (2, .int x5)] [1, 2, 0] rfl ?_
      exact L1_X10_clause_151 N  v0 v1 x5 T4 h
    · refine aw_aload_n 1 dX10_clause_144 rfl rfl ?_
      refine aw_getR axc10 11 rfl rfl wd_1296 dX10_clause_145 h (fun a7 h => ?_)
      refine aw_iload_n 2 dX10_clause_148 rfl rfl ?_
      refine aw_iload_n 0 dX10_clause_149 rfl rfl ?_
      refine aw_iast dX10_clause_150 h (fun T8 h => ?_)
      refine aw_env [(0, .ref v0), (1, .int v1), (2, .int x5)] [1, 2, 0] rfl ?_
      exact L1_X10_clause_151 N  v0 v1 x5 T8 h
theorem L1_X10_clause_119 {g : AxG} {l : Launch} {S9 : AxS} (N : Nat)  (v0 : Nat) (v1 : Int32) (w0 : Nat) (S : AxS) (h : F_X10_clause_119 N  v0 v1 w0 S = some S9) : AW g l (axRm (5) 0 0) mt_X10_clause (axMQ g 0 0 (.inl none, S9)) 0 0 S 119 [(0, .ref v0), (1, .int v1)] [.ref w0] := by
  unfold F_X10_clause_119 at h
  refine aw_iconst 1 dX10_clause_119 rfl ?_
  refine aw_goto 124 dX10_clause_120 (by decide) ?_
  refine aw_env [(0, .ref v0), (1, .int v1)] [0, 1] rfl ?_
  exact L1_X10_clause_124 N  v0 v1 1 w0 S h
theorem L1_X10_clause_106 {g : AxG} {l : Launch} {S9 : AxS} (N : Nat)  (v0 : Nat) (S : AxS) (h : F_X10_clause_106 N  v0 S = some S9) : AW g l (axRm (5) 0 0) mt_X10_clause (axMQ g 0 0 (.inl none, S9)) 0 0 S 106 [(0, .ref v0)] [] := by
  unfold F_X10_clause_106 at h
  refine aw_goto 187 dX10_clause_106 (by decide) ?_
  refine aw_env [(0, .ref v0)] [0] rfl ?_
  exact L1_X10_clause_187 N  v0 S h
theorem L1_X10_clause_48 {g : AxG} {l : Launch} {S9 : AxS} (N : Nat)  (v0 : Nat) (v1 : Int32) (S : AxS) (h : F_X10_clause_48 N  v0 v1 S = some S9) : AW g l (axRm (5) 0 0) mt_X10_clause (axMQ g 0 0 (.inl none, S9)) 0 0 S 48 [(0, .ref v0), (1, .int v1)] [] := by
  unfold F_X10_clause_48 at h
  refine aw_aload_n 0 dX10_clause_48 rfl rfl ?_
  refine aw_getI axc10 5 rfl rfl wd_1290 dX10_clause_49 h (fun x1 h => ?_)
  refine aw_if_eq 56 dX10_clause_52 (by decide) h (fun h => ?_) (fun h => ?_)
  · refine aw_aload_n 0 dX10_clause_56 rfl rfl ?_
    obtain ⟨hL2, h⟩ := ax_is_spec h
    refine aw_doneV (rest := []) h (fun S9 hF => aw_runV (As := []) (rest := []) (L1_X10_skipWord N hF) axc10 hL2 wd_1504 wd_1501 wd_1503 wd_48 wd_97 pd_X10_skipWord rfl (ax_rm (by omega) rfl) ax_hf0 (Nat.le_of_ble_eq_true rfl) rfl dX10_clause_57) (fun T3 h => ?_)
    refine aw_aload_n 0 dX10_clause_60 rfl rfl ?_
    refine aw_dup rfl dX10_clause_61 ?_
    refine aw_getI axc10 7 rfl rfl wd_1292 dX10_clause_62 h (fun x5 h => ?_)
    refine aw_iconst 1 dX10_clause_65 rfl ?_
    refine aw_iadd dX10_clause_66 ?_
    refine aw_putI axc10 7 rfl rfl wd_1292 rfl rfl rfl dX10_clause_67 h (fun T6 h => ?_)
    refine aw_iload_n 1 dX10_clause_70 rfl rfl ?_
    refine aw_bipush 7 dX10_clause_71 (by decide) ?_
    refine aw_icmp_ne 109 dX10_clause_73 (by decide) h (fun h => ?_) (fun h => ?_)
    · refine aw_aload_n 0 dX10_clause_109 rfl rfl ?_
      refine aw_iload_n 1 dX10_clause_110 rfl rfl ?_
      refine aw_if_eq 119 dX10_clause_111 (by decide) h (fun h => ?_) (fun h => ?_)
      · refine aw_env [(0, .ref v0), (1, .int v1)] [0, 1] rfl ?_
        exact L1_X10_clause_119 N  v0 v1 v0 T6 h
      · refine aw_iload_n 1 dX10_clause_114 rfl rfl ?_
        refine aw_iconst 3 dX10_clause_115 rfl ?_
        refine aw_icmp_ne 123 dX10_clause_116 (by decide) h (fun h => ?_) (fun h => ?_)
        · refine aw_iconst 0 dX10_clause_123 rfl ?_
          refine aw_env [(0, .ref v0), (1, .int v1)] [0, 1] rfl ?_
          exact L1_X10_clause_124 N  v0 v1 0 v0 T6 h
        · refine aw_env [(0, .ref v0), (1, .int v1)] [0, 1] rfl ?_
          exact L1_X10_clause_119 N  v0 v1 v0 T6 h
    · refine aw_aload_n 0 dX10_clause_76 rfl rfl ?_
      refine aw_iconst 0 dX10_clause_77 rfl ?_
      refine aw_bipush 11 dX10_clause_78 (by decide) ?_
      obtain ⟨hL7, h⟩ := ax_is_spec h
      refine aw_doneI (rest := []) h (fun r9 S9 hF => aw_runV (As := [.int 0, .int 11]) (rest := []) (L1_X10_number N hF) axc10 hL7 wd_1508 wd_1505 wd_1507 wd_49 wd_97 pd_X10_number rfl (ax_rm (by omega) rfl) ax_hf0 (Nat.le_of_ble_eq_true rfl) rfl dX10_clause_80) (fun x9 T8 h => ?_)
      refine aw_istore_n 2 [(2, .int x9), (0, .ref v0), (1, .int v1)] dX10_clause_83 rfl rfl rfl ?_
      refine aw_aload_n 1 dX10_clause_84 rfl rfl ?_
      refine aw_iconst 0 dX10_clause_85 rfl ?_
      refine aw_bipush 99 dX10_clause_86 (by decide) ?_
      obtain ⟨hL10, h⟩ := ax_is_spec h
      refine aw_doneI (rest := []) h (fun r9 S9 hF => aw_runV (As := [.int 0, .int 99]) (rest := []) (L1_X10_number N hF) axc10 hL10 wd_1508 wd_1505 wd_1507 wd_49 wd_97 pd_X10_number rfl (ax_rm (by omega) rfl) ax_hf0 (Nat.le_of_ble_eq_true rfl) rfl dX10_clause_88) (fun x12 T11 h => ?_)
      refine aw_istore_n 3 [(3, .int x12), (2, .int x9), (0, .ref v0), (1, .int v1)] dX10_clause_91 rfl rfl rfl ?_
      refine aw_aload_n 2 dX10_clause_92 rfl rfl ?_
      refine aw_getI axc10 5 rfl rfl wd_1290 dX10_clause_93 h (fun x13 h => ?_)
      refine aw_if_ne 106 dX10_clause_96 (by decide) h (fun h => ?_) (fun h => ?_)
      · refine aw_env [(0, .ref v0)] [2] rfl ?_
        exact L1_X10_clause_106 N  v0 T11 h
      · refine aw_aload_n 2 dX10_clause_99 rfl rfl ?_
        refine aw_getR axc10 13 rfl rfl wd_1298 dX10_clause_100 h (fun a14 h => ?_)
        refine aw_iload_n 1 dX10_clause_103 rfl rfl ?_
        refine aw_iload_n 0 dX10_clause_104 rfl rfl ?_
        refine aw_iast dX10_clause_105 h (fun T15 h => ?_)
        refine aw_env [(0, .ref v0)] [2] rfl ?_
        exact L1_X10_clause_106 N  v0 T15 h
  · exact aw_vret dX10_clause_55 rfl (Nat.le_refl _) (Nat.le_refl _) h
theorem L1_X10_clause_39 {g : AxG} {l : Launch} {S9 : AxS} (N : Nat)  (v0 : Nat) (v1 : Int32) (S : AxS) (h : F_X10_clause_39 N  v0 v1 S = some S9) : AW g l (axRm (5) 0 0) mt_X10_clause (axMQ g 0 0 (.inl none, S9)) 0 0 S 39 [(0, .ref v0), (1, .int v1)] [] := by
  unfold F_X10_clause_39 at h
  refine aw_aload_n 0 dX10_clause_39 rfl rfl ?_
  refine aw_iconst 3 dX10_clause_40 rfl ?_
  refine aw_aload_n 0 dX10_clause_41 rfl rfl ?_
  refine aw_getI axc10 4 rfl rfl wd_1289 dX10_clause_42 h (fun x1 h => ?_)
  obtain ⟨hL2, h⟩ := ax_is_spec h
  refine aw_doneV (rest := []) h (fun S9 hF => aw_runV (As := [.int 3, .int x1]) (rest := []) (L1_X10_wrong N hF) axc10 hL2 wd_1493 wd_1490 wd_1492 wd_46 wd_97 pd_X10_wrong rfl (ax_rm (by omega) rfl) ax_hf0 (Nat.le_of_ble_eq_true rfl) rfl dX10_clause_45) (fun T3 h => ?_)
  refine aw_env [(0, .ref v0), (1, .int v1)] [0, 1] rfl ?_
  exact L1_X10_clause_48 N  v0 v1 T3 h
theorem L1_X10_clause {g : AxG} {l : Launch} (N : Nat) {v0 : Nat} {S : AxS} {S9 : AxS} (h : F_X10_clause N v0 S = some S9) : AxMet g l yX10_clause cX10_clause 4 none (5) 0 0 [.ref v0] S ((.inl none, S9)) := by
  refine ax_met (own := RX10) (ini := false) (by decide +kernel) rfl (fun h => nomatch h) rfl ?_
  show AW g l (axRm (5) 0 0) mt_X10_clause (axMQ g 0 0 (.inl none, S9)) 0 0 S 0 [(0, .ref v0)] []
  unfold F_X10_clause at h
  refine aw_aload_n 0 dX10_clause_0 rfl rfl ?_
  obtain ⟨hL1, h⟩ := ax_is_spec h
  refine aw_doneI (rest := []) h (fun r9 S9 hF => aw_runV (As := []) (rest := []) (L1_X10_kindHere N hF) axc10 hL1 wd_1472 wd_1469 wd_1471 wd_43 wd_97 pd_X10_kindHere rfl (ax_rm (by omega) rfl) ax_hf0 (Nat.le_of_ble_eq_true rfl) rfl dX10_clause_1) (fun x3 T2 h => ?_)
  refine aw_istore_n 1 [(1, .int x3), (0, .ref v0)] dX10_clause_4 rfl rfl rfl ?_
  refine aw_iload_n 0 dX10_clause_5 rfl rfl ?_
  refine aw_iconst (-1) dX10_clause_6 rfl ?_
  refine aw_icmp_ne 22 dX10_clause_7 (by decide) h (fun h => ?_) (fun h => ?_)
  · refine aw_aload_n 1 dX10_clause_22 rfl rfl ?_
    refine aw_getI axc10 7 rfl rfl wd_1292 dX10_clause_23 h (fun x4 h => ?_)
    refine aw_bipush 60 dX10_clause_26 (by decide) ?_
    refine aw_icmp_eq 39 dX10_clause_28 (by decide) h (fun h => ?_) (fun h => ?_)
    · refine aw_env [(0, .ref v0), (1, .int x3)] [1, 0] rfl ?_
      exact L1_X10_clause_39 N  v0 x3 T2 h
    · refine aw_aload_n 1 dX10_clause_31 rfl rfl ?_
      refine aw_iload_n 0 dX10_clause_32 rfl rfl ?_
      obtain ⟨hL5, h⟩ := ax_is_spec h
      refine aw_doneI (rest := []) h (fun r9 S9 hF => aw_runV (As := [.int x3]) (rest := []) (L1_X10_isFull N hF) axc10 hL5 wd_1497 wd_1494 wd_1496 wd_47 wd_97 pd_X10_isFull rfl (ax_rm (by omega) rfl) ax_hf0 (Nat.le_of_ble_eq_true rfl) rfl dX10_clause_33) (fun x7 T6 h => ?_)
      refine aw_if_eq 48 dX10_clause_36 (by decide) h (fun h => ?_) (fun h => ?_)
      · refine aw_env [(0, .ref v0), (1, .int x3)] [1, 0] rfl ?_
        exact L1_X10_clause_48 N  v0 x3 T6 h
      · refine aw_env [(0, .ref v0), (1, .int x3)] [1, 0] rfl ?_
        exact L1_X10_clause_39 N  v0 x3 T6 h
  · refine aw_aload_n 1 dX10_clause_10 rfl rfl ?_
    refine aw_iconst 1 dX10_clause_11 rfl ?_
    refine aw_aload_n 1 dX10_clause_12 rfl rfl ?_
    refine aw_getI axc10 4 rfl rfl wd_1289 dX10_clause_13 h (fun x8 h => ?_)
    obtain ⟨hL9, h⟩ := ax_is_spec h
    refine aw_doneV (rest := []) h (fun S9 hF => aw_runV (As := [.int 1, .int x8]) (rest := []) (L1_X10_wrong N hF) axc10 hL9 wd_1493 wd_1490 wd_1492 wd_46 wd_97 pd_X10_wrong rfl (ax_rm (by omega) rfl) ax_hf0 (Nat.le_of_ble_eq_true rfl) rfl dX10_clause_16) (fun T10 h => ?_)
    refine aw_goto 48 dX10_clause_19 (by decide) ?_
    refine aw_env [(0, .ref v0), (1, .int x3)] [1, 0] rfl ?_
    exact L1_X10_clause_48 N  v0 x3 T10 h

theorem dX10_lays_0 : decode cX10_lays 0 = .ok (.iconst 0, 1) := by decide +kernel
theorem dX10_lays_1 : decode cX10_lays 1 = .ok (.istore_n 3, 1) := by decide +kernel
theorem dX10_lays_2 : decode cX10_lays 2 = .ok (.iload_n 3, 1) := by decide +kernel
theorem dX10_lays_3 : decode cX10_lays 3 = .ok (.iload_n 2, 1) := by decide +kernel
theorem dX10_lays_4 : decode cX10_lays 4 = .ok (.if_icmp .ge 39, 3) := by decide +kernel
theorem dX10_lays_7 : decode cX10_lays 7 = .ok (.iconst 0, 1) := by decide +kernel
theorem dX10_lays_8 : decode cX10_lays 8 = .ok (.istore 4, 2) := by decide +kernel
theorem dX10_lays_10 : decode cX10_lays 10 = .ok (.iload 4, 2) := by decide +kernel
theorem dX10_lays_12 : decode cX10_lays 12 = .ok (.aload_n 1, 1) := by decide +kernel
theorem dX10_lays_13 : decode cX10_lays 13 = .ok (.iload_n 3, 1) := by decide +kernel
theorem dX10_lays_14 : decode cX10_lays 14 = .ok (.aaload, 1) := by decide +kernel
theorem dX10_lays_15 : decode cX10_lays 15 = .ok (.arraylength, 1) := by decide +kernel
theorem dX10_lays_16 : decode cX10_lays 16 = .ok (.if_icmp .ge 21, 3) := by decide +kernel
theorem dX10_lays_19 : decode cX10_lays 19 = .ok (.aload_n 1, 1) := by decide +kernel
theorem dX10_lays_20 : decode cX10_lays 20 = .ok (.iload_n 3, 1) := by decide +kernel
theorem dX10_lays_21 : decode cX10_lays 21 = .ok (.aaload, 1) := by decide +kernel
theorem dX10_lays_22 : decode cX10_lays 22 = .ok (.iload 4, 2) := by decide +kernel
theorem dX10_lays_24 : decode cX10_lays 24 = .ok (.aload_n 0, 1) := by decide +kernel
theorem dX10_lays_25 : decode cX10_lays 25 = .ok (.iload_n 3, 1) := by decide +kernel
theorem dX10_lays_26 : decode cX10_lays 26 = .ok (.aaload, 1) := by decide +kernel
theorem dX10_lays_27 : decode cX10_lays 27 = .ok (.iload 4, 2) := by decide +kernel
theorem dX10_lays_29 : decode cX10_lays 29 = .ok (.iaload, 1) := by decide +kernel
theorem dX10_lays_30 : decode cX10_lays 30 = .ok (.iastore, 1) := by decide +kernel
theorem dX10_lays_31 : decode cX10_lays 31 = .ok (.iinc 4 1, 3) := by decide +kernel
theorem dX10_lays_34 : decode cX10_lays 34 = .ok (.goto (-24), 3) := by decide +kernel
theorem dX10_lays_37 : decode cX10_lays 37 = .ok (.iinc 3 1, 3) := by decide +kernel
theorem dX10_lays_40 : decode cX10_lays 40 = .ok (.goto (-38), 3) := by decide +kernel
theorem dX10_lays_43 : decode cX10_lays 43 = .ok (.return_, 1) := by decide +kernel
abbrev mt_X10_lays : AxM := (RX10, cX10_lays, 5, none, false, [])
theorem L1_X10_lays_10b {g : AxG} {l : Launch} {S9 : AxS} (N : Nat) (K2 : Nat → Nat → Int32 → Int32 → AxS → Option (AxS)) (hK2 : ∀ (v0 : Nat) (v1 : Nat) (v2 : Int32) (v3 : Int32) (S : AxS), K2 v0 v1 v2 v3 S = some S9 → AW g l (axRm (0) 0 0) mt_X10_lays (axMQ g 0 0 (.inl none, S9)) 0 0 S 2 [(0, .ref v0), (1, .ref v1), (2, .int v2), (3, .int v3)] []) (K10 : Nat → Nat → Int32 → Int32 → Int32 → AxS → Option (AxS)) (hK10 : ∀ (v0 : Nat) (v1 : Nat) (v2 : Int32) (v3 : Int32) (v4 : Int32) (S : AxS), K10 v0 v1 v2 v3 v4 S = some S9 → AW g l (axRm (0) 0 0) mt_X10_lays (axMQ g 0 0 (.inl none, S9)) 0 0 S 10 [(0, .ref v0), (1, .ref v1), (2, .int v2), (3, .int v3), (4, .int v4)] []) (v0 : Nat) (v1 : Nat) (v2 : Int32) (v3 : Int32) (v4 : Int32) (S : AxS) (h : F_X10_lays_10b N K2 K10 v0 v1 v2 v3 v4 S = some S9) : AW g l (axRm (0) 0 0) mt_X10_lays (axMQ g 0 0 (.inl none, S9)) 0 0 S 10 [(0, .ref v0), (1, .ref v1), (2, .int v2), (3, .int v3), (4, .int v4)] [] := by
  unfold F_X10_lays_10b at h
  refine aw_iload 4 dX10_lays_10 rfl ?_
  refine aw_aload_n 1 dX10_lays_12 rfl rfl ?_
  refine aw_iload_n 3 dX10_lays_13 rfl rfl ?_
  refine aw_aald dX10_lays_14 h (fun a1 h => ?_)
  refine aw_alen dX10_lays_15 h (fun x2 h => ?_)
  refine aw_icmp_ge 37 dX10_lays_16 (by decide) h (fun h => ?_) (fun h => ?_)
  · refine aw_iinc 3 [(3, .int (v3 + 1)), (0, .ref v0), (1, .ref v1), (2, .int v2), (4, .int v4)] (v3 + 1) dX10_lays_37 rfl rfl rfl rfl ?_
    refine aw_goto 2 dX10_lays_40 (by decide) ?_
    refine aw_env [(0, .ref v0), (1, .ref v1), (2, .int v2), (3, .int (v3 + 1))] [1, 2, 3, 0] rfl ?_
    exact hK2 v0 v1 v2 (v3 + 1) S h
  · refine aw_aload_n 1 dX10_lays_19 rfl rfl ?_
    refine aw_iload_n 3 dX10_lays_20 rfl rfl ?_
    refine aw_aald dX10_lays_21 h (fun a3 h => ?_)
    refine aw_iload 4 dX10_lays_22 rfl ?_
    refine aw_aload_n 0 dX10_lays_24 rfl rfl ?_
    refine aw_iload_n 3 dX10_lays_25 rfl rfl ?_
    refine aw_aald dX10_lays_26 h (fun a4 h => ?_)
    refine aw_iload 4 dX10_lays_27 rfl ?_
    refine aw_iald dX10_lays_29 h (fun x5 h => ?_)
    refine aw_iast dX10_lays_30 h (fun T6 h => ?_)
    refine aw_iinc 4 [(4, .int (v4 + 1)), (0, .ref v0), (1, .ref v1), (2, .int v2), (3, .int v3)] (v4 + 1) dX10_lays_31 rfl rfl rfl rfl ?_
    refine aw_goto 10 dX10_lays_34 (by decide) ?_
    refine aw_env [(0, .ref v0), (1, .ref v1), (2, .int v2), (3, .int v3), (4, .int (v4 + 1))] [1, 2, 3, 4, 0] rfl ?_
    exact hK10 v0 v1 v2 v3 (v4 + 1) T6 h
theorem L1_X10_lays_10 {g : AxG} {l : Launch} {S9 : AxS} (N : Nat) (K2 : Nat → Nat → Int32 → Int32 → AxS → Option (AxS)) (hK2 : ∀ (v0 : Nat) (v1 : Nat) (v2 : Int32) (v3 : Int32) (S : AxS), K2 v0 v1 v2 v3 S = some S9 → AW g l (axRm (0) 0 0) mt_X10_lays (axMQ g 0 0 (.inl none, S9)) 0 0 S 2 [(0, .ref v0), (1, .ref v1), (2, .int v2), (3, .int v3)] []) : ∀ (n : Nat) (v0 : Nat) (v1 : Nat) (v2 : Int32) (v3 : Int32) (v4 : Int32) (S : AxS), F_X10_lays_10 N K2 n v0 v1 v2 v3 v4 S = some S9 → AW g l (axRm (0) 0 0) mt_X10_lays (axMQ g 0 0 (.inl none, S9)) 0 0 S 10 [(0, .ref v0), (1, .ref v1), (2, .int v2), (3, .int v3), (4, .int v4)] [] := by
  intro n
  induction n with
  | zero => intro v0 v1 v2 v3 v4 S h; cases h
  | succ n ih => intro v0 v1 v2 v3 v4 S h; exact L1_X10_lays_10b N K2 hK2 (F_X10_lays_10 N K2 n) ih v0 v1 v2 v3 v4 S h
theorem L1_X10_lays_2b {g : AxG} {l : Launch} {S9 : AxS} (N : Nat) (K2 : Nat → Nat → Int32 → Int32 → AxS → Option (AxS)) (hK2 : ∀ (v0 : Nat) (v1 : Nat) (v2 : Int32) (v3 : Int32) (S : AxS), K2 v0 v1 v2 v3 S = some S9 → AW g l (axRm (0) 0 0) mt_X10_lays (axMQ g 0 0 (.inl none, S9)) 0 0 S 2 [(0, .ref v0), (1, .ref v1), (2, .int v2), (3, .int v3)] []) (v0 : Nat) (v1 : Nat) (v2 : Int32) (v3 : Int32) (S : AxS) (h : F_X10_lays_2b N K2 v0 v1 v2 v3 S = some S9) : AW g l (axRm (0) 0 0) mt_X10_lays (axMQ g 0 0 (.inl none, S9)) 0 0 S 2 [(0, .ref v0), (1, .ref v1), (2, .int v2), (3, .int v3)] [] := by
  unfold F_X10_lays_2b at h
  refine aw_iload_n 3 dX10_lays_2 rfl rfl ?_
  refine aw_iload_n 2 dX10_lays_3 rfl rfl ?_
  refine aw_icmp_ge 43 dX10_lays_4 (by decide) h (fun h => ?_) (fun h => ?_)
  · exact aw_vret dX10_lays_43 rfl (Nat.le_refl _) (Nat.le_refl _) h
  · refine aw_iconst 0 dX10_lays_7 rfl ?_
    refine aw_istore [(4, .int 0), (0, .ref v0), (1, .ref v1), (2, .int v2), (3, .int v3)] dX10_lays_8 rfl rfl ?_
    refine aw_env [(0, .ref v0), (1, .ref v1), (2, .int v2), (3, .int v3), (4, .int 0)] [1, 2, 3, 4, 0] rfl ?_
    exact L1_X10_lays_10 N K2 hK2 N v0 v1 v2 v3 0 S h
theorem L1_X10_lays_2 {g : AxG} {l : Launch} {S9 : AxS} (N : Nat)  : ∀ (n : Nat) (v0 : Nat) (v1 : Nat) (v2 : Int32) (v3 : Int32) (S : AxS), F_X10_lays_2 N  n v0 v1 v2 v3 S = some S9 → AW g l (axRm (0) 0 0) mt_X10_lays (axMQ g 0 0 (.inl none, S9)) 0 0 S 2 [(0, .ref v0), (1, .ref v1), (2, .int v2), (3, .int v3)] [] := by
  intro n
  induction n with
  | zero => intro v0 v1 v2 v3 S h; cases h
  | succ n ih => intro v0 v1 v2 v3 S h; exact L1_X10_lays_2b N (F_X10_lays_2 N  n) ih v0 v1 v2 v3 S h
theorem L1_X10_lays {g : AxG} {l : Launch} (N : Nat) {v0 : Nat} {v1 : Nat} {v2 : Int32} {S : AxS} {S9 : AxS} (h : F_X10_lays N v0 v1 v2 S = some S9) : AxMet g l yX10_lays cX10_lays 5 none (0) 0 0 [.ref v0, .ref v1, .int v2] S ((.inl none, S9)) := by
  refine ax_met (own := RX10) (ini := false) (by decide +kernel) rfl (fun h => nomatch h) rfl ?_
  show AW g l (axRm (0) 0 0) mt_X10_lays (axMQ g 0 0 (.inl none, S9)) 0 0 S 0 [(0, .ref v0), (1, .ref v1), (2, .int v2)] []
  unfold F_X10_lays at h
  refine aw_iconst 0 dX10_lays_0 rfl ?_
  refine aw_istore_n 3 [(3, .int 0), (0, .ref v0), (1, .ref v1), (2, .int v2)] dX10_lays_1 rfl rfl rfl ?_
  refine aw_env [(0, .ref v0), (1, .ref v1), (2, .int v2), (3, .int 0)] [1, 2, 3, 0] rfl ?_
  exact L1_X10_lays_2 N  N v0 v1 v2 0 S h

theorem dX10_begins_0 : decode cX10_begins 0 = .ok (.iconst 0, 1) := by decide +kernel
theorem dX10_begins_1 : decode cX10_begins 1 = .ok (.istore_n 3, 1) := by decide +kernel
theorem dX10_begins_2 : decode cX10_begins 2 = .ok (.iload_n 3, 1) := by decide +kernel
theorem dX10_begins_3 : decode cX10_begins 3 = .ok (.bipush 29, 2) := by decide +kernel
theorem dX10_begins_5 : decode cX10_begins 5 = .ok (.if_icmp .ge 13, 3) := by decide +kernel
theorem dX10_begins_8 : decode cX10_begins 8 = .ok (.aload_n 1, 1) := by decide +kernel
theorem dX10_begins_9 : decode cX10_begins 9 = .ok (.iload_n 3, 1) := by decide +kernel
theorem dX10_begins_10 : decode cX10_begins 10 = .ok (.iconst 0, 1) := by decide +kernel
theorem dX10_begins_11 : decode cX10_begins 11 = .ok (.iastore, 1) := by decide +kernel
theorem dX10_begins_12 : decode cX10_begins 12 = .ok (.iinc 3 1, 3) := by decide +kernel
theorem dX10_begins_15 : decode cX10_begins 15 = .ok (.goto (-13), 3) := by decide +kernel
theorem dX10_begins_18 : decode cX10_begins 18 = .ok (.aload_n 1, 1) := by decide +kernel
theorem dX10_begins_19 : decode cX10_begins 19 = .ok (.iconst 0, 1) := by decide +kernel
theorem dX10_begins_20 : decode cX10_begins 20 = .ok (.iload_n 2, 1) := by decide +kernel
theorem dX10_begins_21 : decode cX10_begins 21 = .ok (.iastore, 1) := by decide +kernel
theorem dX10_begins_22 : decode cX10_begins 22 = .ok (.aload_n 1, 1) := by decide +kernel
theorem dX10_begins_23 : decode cX10_begins 23 = .ok (.iconst 1, 1) := by decide +kernel
theorem dX10_begins_24 : decode cX10_begins 24 = .ok (.aload_n 0, 1) := by decide +kernel
theorem dX10_begins_25 : decode cX10_begins 25 = .ok (.getfield 23, 3) := by decide +kernel
theorem dX10_begins_28 : decode cX10_begins 28 = .ok (.bipush 6, 2) := by decide +kernel
theorem dX10_begins_30 : decode cX10_begins 30 = .ok (.iaload, 1) := by decide +kernel
theorem dX10_begins_31 : decode cX10_begins 31 = .ok (.iastore, 1) := by decide +kernel
theorem dX10_begins_32 : decode cX10_begins 32 = .ok (.iconst 0, 1) := by decide +kernel
theorem dX10_begins_33 : decode cX10_begins 33 = .ok (.istore_n 3, 1) := by decide +kernel
theorem dX10_begins_34 : decode cX10_begins 34 = .ok (.iload_n 3, 1) := by decide +kernel
theorem dX10_begins_35 : decode cX10_begins 35 = .ok (.bipush 8, 2) := by decide +kernel
theorem dX10_begins_37 : decode cX10_begins 37 = .ok (.if_icmp .ge 16, 3) := by decide +kernel
theorem dX10_begins_40 : decode cX10_begins 40 = .ok (.aload_n 1, 1) := by decide +kernel
theorem dX10_begins_41 : decode cX10_begins 41 = .ok (.bipush 13, 2) := by decide +kernel
theorem dX10_begins_43 : decode cX10_begins 43 = .ok (.iload_n 3, 1) := by decide +kernel
theorem dX10_begins_44 : decode cX10_begins 44 = .ok (.iadd, 1) := by decide +kernel
theorem dX10_begins_45 : decode cX10_begins 45 = .ok (.iload_n 3, 1) := by decide +kernel
theorem dX10_begins_46 : decode cX10_begins 46 = .ok (.iastore, 1) := by decide +kernel
theorem dX10_begins_47 : decode cX10_begins 47 = .ok (.iinc 3 1, 3) := by decide +kernel
theorem dX10_begins_50 : decode cX10_begins 50 = .ok (.goto (-16), 3) := by decide +kernel
theorem dX10_begins_53 : decode cX10_begins 53 = .ok (.return_, 1) := by decide +kernel
abbrev mt_X10_begins : AxM := (RX10, cX10_begins, 4, none, false, [])
theorem L1_X10_begins_34b {g : AxG} {l : Launch} {S9 : AxS} (N : Nat) (K34 : Nat → Int32 → AxS → Option (AxS)) (hK34 : ∀ (v1 : Nat) (v3 : Int32) (S : AxS), K34 v1 v3 S = some S9 → AW g l (axRm (0) 0 0) mt_X10_begins (axMQ g 0 0 (.inl none, S9)) 0 0 S 34 [(1, .ref v1), (3, .int v3)] []) (v1 : Nat) (v3 : Int32) (S : AxS) (h : F_X10_begins_34b N K34 v1 v3 S = some S9) : AW g l (axRm (0) 0 0) mt_X10_begins (axMQ g 0 0 (.inl none, S9)) 0 0 S 34 [(1, .ref v1), (3, .int v3)] [] := by
  unfold F_X10_begins_34b at h
  refine aw_iload_n 1 dX10_begins_34 rfl rfl ?_
  refine aw_bipush 8 dX10_begins_35 (by decide) ?_
  refine aw_icmp_ge 53 dX10_begins_37 (by decide) h (fun h => ?_) (fun h => ?_)
  · exact aw_vret dX10_begins_53 rfl (Nat.le_refl _) (Nat.le_refl _) h
  · refine aw_aload_n 0 dX10_begins_40 rfl rfl ?_
    refine aw_bipush 13 dX10_begins_41 (by decide) ?_
    refine aw_iload_n 1 dX10_begins_43 rfl rfl ?_
    refine aw_iadd dX10_begins_44 ?_
    refine aw_iload_n 1 dX10_begins_45 rfl rfl ?_
    refine aw_iast dX10_begins_46 h (fun T1 h => ?_)
    refine aw_iinc 1 [(3, .int (v3 + 1)), (1, .ref v1)] (v3 + 1) dX10_begins_47 rfl rfl rfl rfl ?_
    refine aw_goto 34 dX10_begins_50 (by decide) ?_
    refine aw_env [(1, .ref v1), (3, .int (v3 + 1))] [1, 0] rfl ?_
    exact hK34 v1 (v3 + 1) T1 h
theorem L1_X10_begins_34 {g : AxG} {l : Launch} {S9 : AxS} (N : Nat)  : ∀ (n : Nat) (v1 : Nat) (v3 : Int32) (S : AxS), F_X10_begins_34 N  n v1 v3 S = some S9 → AW g l (axRm (0) 0 0) mt_X10_begins (axMQ g 0 0 (.inl none, S9)) 0 0 S 34 [(1, .ref v1), (3, .int v3)] [] := by
  intro n
  induction n with
  | zero => intro v1 v3 S h; cases h
  | succ n ih => intro v1 v3 S h; exact L1_X10_begins_34b N (F_X10_begins_34 N  n) ih v1 v3 S h
theorem L1_X10_begins_2b {g : AxG} {l : Launch} {S9 : AxS} (N : Nat) (K2 : Nat → Nat → Int32 → Int32 → AxS → Option (AxS)) (hK2 : ∀ (v0 : Nat) (v1 : Nat) (v2 : Int32) (v3 : Int32) (S : AxS), K2 v0 v1 v2 v3 S = some S9 → AW g l (axRm (0) 0 0) mt_X10_begins (axMQ g 0 0 (.inl none, S9)) 0 0 S 2 [(0, .ref v0), (1, .ref v1), (2, .int v2), (3, .int v3)] []) (v0 : Nat) (v1 : Nat) (v2 : Int32) (v3 : Int32) (S : AxS) (h : F_X10_begins_2b N K2 v0 v1 v2 v3 S = some S9) : AW g l (axRm (0) 0 0) mt_X10_begins (axMQ g 0 0 (.inl none, S9)) 0 0 S 2 [(0, .ref v0), (1, .ref v1), (2, .int v2), (3, .int v3)] [] := by
  unfold F_X10_begins_2b at h
  refine aw_iload_n 3 dX10_begins_2 rfl rfl ?_
  refine aw_bipush 29 dX10_begins_3 (by decide) ?_
  refine aw_icmp_ge 18 dX10_begins_5 (by decide) h (fun h => ?_) (fun h => ?_)
  · refine aw_aload_n 1 dX10_begins_18 rfl rfl ?_
    refine aw_iconst 0 dX10_begins_19 rfl ?_
    refine aw_iload_n 2 dX10_begins_20 rfl rfl ?_
    refine aw_iast dX10_begins_21 h (fun T1 h => ?_)
    refine aw_aload_n 1 dX10_begins_22 rfl rfl ?_
    refine aw_iconst 1 dX10_begins_23 rfl ?_
    refine aw_aload_n 0 dX10_begins_24 rfl rfl ?_
    refine aw_getR axc10 12 rfl rfl wd_1297 dX10_begins_25 h (fun a2 h => ?_)
    refine aw_bipush 6 dX10_begins_28 (by decide) ?_
    refine aw_iald dX10_begins_30 h (fun x3 h => ?_)
    refine aw_iast dX10_begins_31 h (fun T4 h => ?_)
    refine aw_iconst 0 dX10_begins_32 rfl ?_
    refine aw_istore_n 3 [(3, .int 0), (0, .ref v0), (1, .ref v1), (2, .int v2)] dX10_begins_33 rfl rfl rfl ?_
    refine aw_env [(1, .ref v1), (3, .int 0)] [2, 0] rfl ?_
    exact L1_X10_begins_34 N  N v1 0 T4 h
  · refine aw_aload_n 1 dX10_begins_8 rfl rfl ?_
    refine aw_iload_n 3 dX10_begins_9 rfl rfl ?_
    refine aw_iconst 0 dX10_begins_10 rfl ?_
    refine aw_iast dX10_begins_11 h (fun T5 h => ?_)
    refine aw_iinc 3 [(3, .int (v3 + 1)), (0, .ref v0), (1, .ref v1), (2, .int v2)] (v3 + 1) dX10_begins_12 rfl rfl rfl rfl ?_
    refine aw_goto 2 dX10_begins_15 (by decide) ?_
    refine aw_env [(0, .ref v0), (1, .ref v1), (2, .int v2), (3, .int (v3 + 1))] [1, 2, 3, 0] rfl ?_
    exact hK2 v0 v1 v2 (v3 + 1) T5 h
theorem L1_X10_begins_2 {g : AxG} {l : Launch} {S9 : AxS} (N : Nat)  : ∀ (n : Nat) (v0 : Nat) (v1 : Nat) (v2 : Int32) (v3 : Int32) (S : AxS), F_X10_begins_2 N  n v0 v1 v2 v3 S = some S9 → AW g l (axRm (0) 0 0) mt_X10_begins (axMQ g 0 0 (.inl none, S9)) 0 0 S 2 [(0, .ref v0), (1, .ref v1), (2, .int v2), (3, .int v3)] [] := by
  intro n
  induction n with
  | zero => intro v0 v1 v2 v3 S h; cases h
  | succ n ih => intro v0 v1 v2 v3 S h; exact L1_X10_begins_2b N (F_X10_begins_2 N  n) ih v0 v1 v2 v3 S h
theorem L1_X10_begins {g : AxG} {l : Launch} (N : Nat) {v0 : Nat} {v1 : Nat} {v2 : Int32} {S : AxS} {S9 : AxS} (h : F_X10_begins N v0 v1 v2 S = some S9) : AxMet g l yX10_begins cX10_begins 4 none (0) 0 0 [.ref v0, .ref v1, .int v2] S ((.inl none, S9)) := by
  refine ax_met (own := RX10) (ini := false) (by decide +kernel) rfl (fun h => nomatch h) rfl ?_
  show AW g l (axRm (0) 0 0) mt_X10_begins (axMQ g 0 0 (.inl none, S9)) 0 0 S 0 [(0, .ref v0), (1, .ref v1), (2, .int v2)] []
  unfold F_X10_begins at h
  refine aw_iconst 0 dX10_begins_0 rfl ?_
  refine aw_istore_n 3 [(3, .int 0), (0, .ref v0), (1, .ref v1), (2, .int v2)] dX10_begins_1 rfl rfl rfl ?_
  refine aw_env [(0, .ref v0), (1, .ref v1), (2, .int v2), (3, .int 0)] [1, 2, 3, 0] rfl ?_
  exact L1_X10_begins_2 N  N v0 v1 v2 0 S h

theorem dX10_beginsAnew_0 : decode cX10_beginsAnew 0 = .ok (.iconst 0, 1) := by decide +kernel
theorem dX10_beginsAnew_1 : decode cX10_beginsAnew 1 = .ok (.istore_n 1, 1) := by decide +kernel
theorem dX10_beginsAnew_2 : decode cX10_beginsAnew 2 = .ok (.iload_n 1, 1) := by decide +kernel
theorem dX10_beginsAnew_3 : decode cX10_beginsAnew 3 = .ok (.bipush 7, 2) := by decide +kernel
theorem dX10_beginsAnew_5 : decode cX10_beginsAnew 5 = .ok (.if_icmp .ge 21, 3) := by decide +kernel
theorem dX10_beginsAnew_8 : decode cX10_beginsAnew 8 = .ok (.aload_n 0, 1) := by decide +kernel
theorem dX10_beginsAnew_9 : decode cX10_beginsAnew 9 = .ok (.getfield 23, 3) := by decide +kernel
theorem dX10_beginsAnew_12 : decode cX10_beginsAnew 12 = .ok (.iload_n 1, 1) := by decide +kernel
theorem dX10_beginsAnew_13 : decode cX10_beginsAnew 13 = .ok (.aload_n 0, 1) := by decide +kernel
theorem dX10_beginsAnew_14 : decode cX10_beginsAnew 14 = .ok (.getfield 20, 3) := by decide +kernel
theorem dX10_beginsAnew_17 : decode cX10_beginsAnew 17 = .ok (.iload_n 1, 1) := by decide +kernel
theorem dX10_beginsAnew_18 : decode cX10_beginsAnew 18 = .ok (.iaload, 1) := by decide +kernel
theorem dX10_beginsAnew_19 : decode cX10_beginsAnew 19 = .ok (.iastore, 1) := by decide +kernel
theorem dX10_beginsAnew_20 : decode cX10_beginsAnew 20 = .ok (.iinc 1 1, 3) := by decide +kernel
theorem dX10_beginsAnew_23 : decode cX10_beginsAnew 23 = .ok (.goto (-21), 3) := by decide +kernel
theorem dX10_beginsAnew_26 : decode cX10_beginsAnew 26 = .ok (.iconst 0, 1) := by decide +kernel
theorem dX10_beginsAnew_27 : decode cX10_beginsAnew 27 = .ok (.istore_n 1, 1) := by decide +kernel
theorem dX10_beginsAnew_28 : decode cX10_beginsAnew 28 = .ok (.iload_n 1, 1) := by decide +kernel
theorem dX10_beginsAnew_29 : decode cX10_beginsAnew 29 = .ok (.bipush 12, 2) := by decide +kernel
theorem dX10_beginsAnew_31 : decode cX10_beginsAnew 31 = .ok (.if_icmp .ge 21, 3) := by decide +kernel
theorem dX10_beginsAnew_34 : decode cX10_beginsAnew 34 = .ok (.aload_n 0, 1) := by decide +kernel
theorem dX10_beginsAnew_35 : decode cX10_beginsAnew 35 = .ok (.getfield 29, 3) := by decide +kernel
theorem dX10_beginsAnew_38 : decode cX10_beginsAnew 38 = .ok (.iload_n 1, 1) := by decide +kernel
theorem dX10_beginsAnew_39 : decode cX10_beginsAnew 39 = .ok (.aload_n 0, 1) := by decide +kernel
theorem dX10_beginsAnew_40 : decode cX10_beginsAnew 40 = .ok (.getfield 26, 3) := by decide +kernel
theorem dX10_beginsAnew_43 : decode cX10_beginsAnew 43 = .ok (.iload_n 1, 1) := by decide +kernel
theorem dX10_beginsAnew_44 : decode cX10_beginsAnew 44 = .ok (.iaload, 1) := by decide +kernel
theorem dX10_beginsAnew_45 : decode cX10_beginsAnew 45 = .ok (.iastore, 1) := by decide +kernel
theorem dX10_beginsAnew_46 : decode cX10_beginsAnew 46 = .ok (.iinc 1 1, 3) := by decide +kernel
theorem dX10_beginsAnew_49 : decode cX10_beginsAnew 49 = .ok (.goto (-21), 3) := by decide +kernel
theorem dX10_beginsAnew_52 : decode cX10_beginsAnew 52 = .ok (.aload_n 0, 1) := by decide +kernel
theorem dX10_beginsAnew_53 : decode cX10_beginsAnew 53 = .ok (.getfield 34, 3) := by decide +kernel
theorem dX10_beginsAnew_56 : decode cX10_beginsAnew 56 = .ok (.aload_n 0, 1) := by decide +kernel
theorem dX10_beginsAnew_57 : decode cX10_beginsAnew 57 = .ok (.getfield 37, 3) := by decide +kernel
theorem dX10_beginsAnew_60 : decode cX10_beginsAnew 60 = .ok (.iconst 4, 1) := by decide +kernel
theorem dX10_beginsAnew_61 : decode cX10_beginsAnew 61 = .ok (.invokestatic 206, 3) := by decide +kernel
theorem dX10_beginsAnew_64 : decode cX10_beginsAnew 64 = .ok (.aload_n 0, 1) := by decide +kernel
theorem dX10_beginsAnew_65 : decode cX10_beginsAnew 65 = .ok (.aload_n 0, 1) := by decide +kernel
theorem dX10_beginsAnew_66 : decode cX10_beginsAnew 66 = .ok (.getfield 61, 3) := by decide +kernel
theorem dX10_beginsAnew_69 : decode cX10_beginsAnew 69 = .ok (.aload_n 0, 1) := by decide +kernel
theorem dX10_beginsAnew_70 : decode cX10_beginsAnew 70 = .ok (.getfield 23, 3) := by decide +kernel
theorem dX10_beginsAnew_73 : decode cX10_beginsAnew 73 = .ok (.iconst 4, 1) := by decide +kernel
theorem dX10_beginsAnew_74 : decode cX10_beginsAnew 74 = .ok (.iaload, 1) := by decide +kernel
theorem dX10_beginsAnew_75 : decode cX10_beginsAnew 75 = .ok (.invokevirtual 210, 3) := by decide +kernel
theorem dX10_beginsAnew_78 : decode cX10_beginsAnew 78 = .ok (.aload_n 0, 1) := by decide +kernel
theorem dX10_beginsAnew_79 : decode cX10_beginsAnew 79 = .ok (.iconst 0, 1) := by decide +kernel
theorem dX10_beginsAnew_80 : decode cX10_beginsAnew 80 = .ok (.putfield 214, 3) := by decide +kernel
theorem dX10_beginsAnew_83 : decode cX10_beginsAnew 83 = .ok (.aload_n 0, 1) := by decide +kernel
theorem dX10_beginsAnew_84 : decode cX10_beginsAnew 84 = .ok (.iconst 0, 1) := by decide +kernel
theorem dX10_beginsAnew_85 : decode cX10_beginsAnew 85 = .ok (.putfield 217, 3) := by decide +kernel
theorem dX10_beginsAnew_88 : decode cX10_beginsAnew 88 = .ok (.aload_n 0, 1) := by decide +kernel
theorem dX10_beginsAnew_89 : decode cX10_beginsAnew 89 = .ok (.iconst 0, 1) := by decide +kernel
theorem dX10_beginsAnew_90 : decode cX10_beginsAnew 90 = .ok (.putfield 220, 3) := by decide +kernel
theorem dX10_beginsAnew_93 : decode cX10_beginsAnew 93 = .ok (.aload_n 0, 1) := by decide +kernel
theorem dX10_beginsAnew_94 : decode cX10_beginsAnew 94 = .ok (.iconst 0, 1) := by decide +kernel
theorem dX10_beginsAnew_95 : decode cX10_beginsAnew 95 = .ok (.putfield 223, 3) := by decide +kernel
theorem dX10_beginsAnew_98 : decode cX10_beginsAnew 98 = .ok (.aload_n 0, 1) := by decide +kernel
theorem dX10_beginsAnew_99 : decode cX10_beginsAnew 99 = .ok (.iconst 0, 1) := by decide +kernel
theorem dX10_beginsAnew_100 : decode cX10_beginsAnew 100 = .ok (.putfield 226, 3) := by decide +kernel
theorem dX10_beginsAnew_103 : decode cX10_beginsAnew 103 = .ok (.return_, 1) := by decide +kernel
abbrev mt_X10_beginsAnew : AxM := (RX10, cX10_beginsAnew, 2, none, false, [])
theorem L1_X10_beginsAnew_28b {g : AxG} {l : Launch} {S9 : AxS} (N : Nat) (K28 : Nat → Int32 → AxS → Option (AxS)) (hK28 : ∀ (v0 : Nat) (v1 : Int32) (S : AxS), K28 v0 v1 S = some S9 → AW g l (axRm (1) 0 0) mt_X10_beginsAnew (axMQ g 0 0 (.inl none, S9)) 0 0 S 28 [(0, .ref v0), (1, .int v1)] []) (v0 : Nat) (v1 : Int32) (S : AxS) (h : F_X10_beginsAnew_28b N K28 v0 v1 S = some S9) : AW g l (axRm (1) 0 0) mt_X10_beginsAnew (axMQ g 0 0 (.inl none, S9)) 0 0 S 28 [(0, .ref v0), (1, .int v1)] [] := by
  unfold F_X10_beginsAnew_28b at h
  refine aw_iload_n 1 dX10_beginsAnew_28 rfl rfl ?_
  refine aw_bipush 12 dX10_beginsAnew_29 (by decide) ?_
  refine aw_icmp_ge 52 dX10_beginsAnew_31 (by decide) h (fun h => ?_) (fun h => ?_)
  · refine aw_aload_n 0 dX10_beginsAnew_52 rfl rfl ?_
    refine aw_getR axc10 15 rfl rfl wd_1300 dX10_beginsAnew_53 h (fun a1 h => ?_)
    refine aw_aload_n 0 dX10_beginsAnew_56 rfl rfl ?_
    refine aw_getR axc10 16 rfl rfl wd_1301 dX10_beginsAnew_57 h (fun a2 h => ?_)
    refine aw_iconst 4 dX10_beginsAnew_60 rfl ?_
    refine aw_doneV (rest := []) h (fun S9 hF => aw_runS (As := [.ref a1, .ref a2, .int 4]) (rest := []) (L1_X10_lays N hF) wd_1280 wd_1278 wd_1279 wd_97 pd_X10_lays.2 rfl (ax_rm (by omega) rfl) ax_hf0 (Nat.le_of_ble_eq_true rfl) rfl dX10_beginsAnew_61) (fun T3 h => ?_)
    refine aw_aload_n 0 dX10_beginsAnew_64 rfl rfl ?_
    refine aw_aload_n 0 dX10_beginsAnew_65 rfl rfl ?_
    refine aw_getR axc10 27 rfl rfl wd_1312 dX10_beginsAnew_66 h (fun a5 h => ?_)
    refine aw_aload_n 0 dX10_beginsAnew_69 rfl rfl ?_
    refine aw_getR axc10 12 rfl rfl wd_1297 dX10_beginsAnew_70 h (fun a6 h => ?_)
    refine aw_iconst 4 dX10_beginsAnew_73 rfl ?_
    refine aw_iald dX10_beginsAnew_74 h (fun x7 h => ?_)
    obtain ⟨hL8, h⟩ := ax_is_spec h
    refine aw_doneV (rest := []) h (fun S9 hF => aw_runV (As := [.ref a5, .int x7]) (rest := []) (L1_X10_begins N hF) axc10 hL8 wd_1284 wd_1281 wd_1283 wd_37 wd_97 pd_X10_begins rfl (ax_rm (by omega) rfl) ax_hf0 (Nat.le_of_ble_eq_true rfl) rfl dX10_beginsAnew_75) (fun T9 h => ?_)
    refine aw_aload_n 0 dX10_beginsAnew_78 rfl rfl ?_
    refine aw_iconst 0 dX10_beginsAnew_79 rfl ?_
    refine aw_putI axc10 17 rfl rfl wd_1302 rfl rfl rfl dX10_beginsAnew_80 h (fun T11 h => ?_)
    refine aw_aload_n 0 dX10_beginsAnew_83 rfl rfl ?_
    refine aw_iconst 0 dX10_beginsAnew_84 rfl ?_
    refine aw_putI axc10 31 rfl rfl wd_1316 rfl rfl rfl dX10_beginsAnew_85 h (fun T12 h => ?_)
    refine aw_aload_n 0 dX10_beginsAnew_88 rfl rfl ?_
    refine aw_iconst 0 dX10_beginsAnew_89 rfl ?_
    refine aw_putI axc10 32 rfl rfl wd_1317 rfl rfl rfl dX10_beginsAnew_90 h (fun T13 h => ?_)
    refine aw_aload_n 0 dX10_beginsAnew_93 rfl rfl ?_
    refine aw_iconst 0 dX10_beginsAnew_94 rfl ?_
    refine aw_putI axc10 33 rfl rfl wd_1318 rfl rfl rfl dX10_beginsAnew_95 h (fun T14 h => ?_)
    refine aw_aload_n 0 dX10_beginsAnew_98 rfl rfl ?_
    refine aw_iconst 0 dX10_beginsAnew_99 rfl ?_
    refine aw_putI axc10 34 rfl rfl wd_1319 rfl rfl rfl dX10_beginsAnew_100 h (fun T15 h => ?_)
    exact aw_vret dX10_beginsAnew_103 rfl (Nat.le_refl _) (Nat.le_refl _) h
  · refine aw_aload_n 0 dX10_beginsAnew_34 rfl rfl ?_
    refine aw_getR axc10 14 rfl rfl wd_1299 dX10_beginsAnew_35 h (fun a16 h => ?_)
    refine aw_iload_n 1 dX10_beginsAnew_38 rfl rfl ?_
    refine aw_aload_n 0 dX10_beginsAnew_39 rfl rfl ?_
    refine aw_getR axc10 13 rfl rfl wd_1298 dX10_beginsAnew_40 h (fun a17 h => ?_)
    refine aw_iload_n 1 dX10_beginsAnew_43 rfl rfl ?_
    refine aw_iald dX10_beginsAnew_44 h (fun x18 h => ?_)
    refine aw_iast dX10_beginsAnew_45 h (fun T19 h => ?_)
    refine aw_iinc 1 [(1, .int (v1 + 1)), (0, .ref v0)] (v1 + 1) dX10_beginsAnew_46 rfl rfl rfl rfl ?_
    refine aw_goto 28 dX10_beginsAnew_49 (by decide) ?_
    refine aw_env [(0, .ref v0), (1, .int (v1 + 1))] [1, 0] rfl ?_
    exact hK28 v0 (v1 + 1) T19 h
theorem L1_X10_beginsAnew_28 {g : AxG} {l : Launch} {S9 : AxS} (N : Nat)  : ∀ (n : Nat) (v0 : Nat) (v1 : Int32) (S : AxS), F_X10_beginsAnew_28 N  n v0 v1 S = some S9 → AW g l (axRm (1) 0 0) mt_X10_beginsAnew (axMQ g 0 0 (.inl none, S9)) 0 0 S 28 [(0, .ref v0), (1, .int v1)] [] := by
  intro n
  induction n with
  | zero => intro v0 v1 S h; cases h
  | succ n ih => intro v0 v1 S h; exact L1_X10_beginsAnew_28b N (F_X10_beginsAnew_28 N  n) ih v0 v1 S h
theorem L1_X10_beginsAnew_2b {g : AxG} {l : Launch} {S9 : AxS} (N : Nat) (K2 : Nat → Int32 → AxS → Option (AxS)) (hK2 : ∀ (v0 : Nat) (v1 : Int32) (S : AxS), K2 v0 v1 S = some S9 → AW g l (axRm (1) 0 0) mt_X10_beginsAnew (axMQ g 0 0 (.inl none, S9)) 0 0 S 2 [(0, .ref v0), (1, .int v1)] []) (v0 : Nat) (v1 : Int32) (S : AxS) (h : F_X10_beginsAnew_2b N K2 v0 v1 S = some S9) : AW g l (axRm (1) 0 0) mt_X10_beginsAnew (axMQ g 0 0 (.inl none, S9)) 0 0 S 2 [(0, .ref v0), (1, .int v1)] [] := by
  unfold F_X10_beginsAnew_2b at h
  refine aw_iload_n 1 dX10_beginsAnew_2 rfl rfl ?_
  refine aw_bipush 7 dX10_beginsAnew_3 (by decide) ?_
  refine aw_icmp_ge 26 dX10_beginsAnew_5 (by decide) h (fun h => ?_) (fun h => ?_)
  · refine aw_iconst 0 dX10_beginsAnew_26 rfl ?_
    refine aw_istore_n 1 [(1, .int 0), (0, .ref v0)] dX10_beginsAnew_27 rfl rfl rfl ?_
    refine aw_env [(0, .ref v0), (1, .int 0)] [1, 0] rfl ?_
    exact L1_X10_beginsAnew_28 N  N v0 0 S h
  · refine aw_aload_n 0 dX10_beginsAnew_8 rfl rfl ?_
    refine aw_getR axc10 12 rfl rfl wd_1297 dX10_beginsAnew_9 h (fun a1 h => ?_)
    refine aw_iload_n 1 dX10_beginsAnew_12 rfl rfl ?_
    refine aw_aload_n 0 dX10_beginsAnew_13 rfl rfl ?_
    refine aw_getR axc10 11 rfl rfl wd_1296 dX10_beginsAnew_14 h (fun a2 h => ?_)
    refine aw_iload_n 1 dX10_beginsAnew_17 rfl rfl ?_
    refine aw_iald dX10_beginsAnew_18 h (fun x3 h => ?_)
    refine aw_iast dX10_beginsAnew_19 h (fun T4 h => ?_)
    refine aw_iinc 1 [(1, .int (v1 + 1)), (0, .ref v0)] (v1 + 1) dX10_beginsAnew_20 rfl rfl rfl rfl ?_
    refine aw_goto 2 dX10_beginsAnew_23 (by decide) ?_
    refine aw_env [(0, .ref v0), (1, .int (v1 + 1))] [1, 0] rfl ?_
    exact hK2 v0 (v1 + 1) T4 h
theorem L1_X10_beginsAnew_2 {g : AxG} {l : Launch} {S9 : AxS} (N : Nat)  : ∀ (n : Nat) (v0 : Nat) (v1 : Int32) (S : AxS), F_X10_beginsAnew_2 N  n v0 v1 S = some S9 → AW g l (axRm (1) 0 0) mt_X10_beginsAnew (axMQ g 0 0 (.inl none, S9)) 0 0 S 2 [(0, .ref v0), (1, .int v1)] [] := by
  intro n
  induction n with
  | zero => intro v0 v1 S h; cases h
  | succ n ih => intro v0 v1 S h; exact L1_X10_beginsAnew_2b N (F_X10_beginsAnew_2 N  n) ih v0 v1 S h
theorem L1_X10_beginsAnew {g : AxG} {l : Launch} (N : Nat) {v0 : Nat} {S : AxS} {S9 : AxS} (h : F_X10_beginsAnew N v0 S = some S9) : AxMet g l yX10_beginsAnew cX10_beginsAnew 2 none (1) 0 0 [.ref v0] S ((.inl none, S9)) := by
  refine ax_met (own := RX10) (ini := false) (by decide +kernel) rfl (fun h => nomatch h) rfl ?_
  show AW g l (axRm (1) 0 0) mt_X10_beginsAnew (axMQ g 0 0 (.inl none, S9)) 0 0 S 0 [(0, .ref v0)] []
  unfold F_X10_beginsAnew at h
  refine aw_iconst 0 dX10_beginsAnew_0 rfl ?_
  refine aw_istore_n 1 [(1, .int 0), (0, .ref v0)] dX10_beginsAnew_1 rfl rfl rfl ?_
  refine aw_env [(0, .ref v0), (1, .int 0)] [1, 0] rfl ?_
  exact L1_X10_beginsAnew_2 N  N v0 0 S h

theorem dX10_abbey_0 : decode cX10_abbey 0 = .ok (.aload_n 0, 1) := by decide +kernel
theorem dX10_abbey_1 : decode cX10_abbey 1 = .ok (.iconst 0, 1) := by decide +kernel
theorem dX10_abbey_2 : decode cX10_abbey 2 = .ok (.putfield 104, 3) := by decide +kernel
theorem dX10_abbey_5 : decode cX10_abbey 5 = .ok (.aload_n 0, 1) := by decide +kernel
theorem dX10_abbey_6 : decode cX10_abbey 6 = .ok (.iload_n 1, 1) := by decide +kernel
theorem dX10_abbey_7 : decode cX10_abbey 7 = .ok (.iconst 0, 1) := by decide +kernel
theorem dX10_abbey_8 : decode cX10_abbey 8 = .ok (.aload_n 0, 1) := by decide +kernel
theorem dX10_abbey_9 : decode cX10_abbey 9 = .ok (.getfield 107, 3) := by decide +kernel
theorem dX10_abbey_12 : decode cX10_abbey 12 = .ok (.invokestatic 138, 3) := by decide +kernel
theorem dX10_abbey_15 : decode cX10_abbey 15 = .ok (.ifCond .ne 7, 3) := by decide +kernel
theorem dX10_abbey_18 : decode cX10_abbey 18 = .ok (.iconst 1, 1) := by decide +kernel
theorem dX10_abbey_19 : decode cX10_abbey 19 = .ok (.goto 4, 3) := by decide +kernel
theorem dX10_abbey_22 : decode cX10_abbey 22 = .ok (.iconst 0, 1) := by decide +kernel
theorem dX10_abbey_23 : decode cX10_abbey 23 = .ok (.iconst 1, 1) := by decide +kernel
theorem dX10_abbey_24 : decode cX10_abbey 24 = .ok (.iconst 1, 1) := by decide +kernel
theorem dX10_abbey_25 : decode cX10_abbey 25 = .ok (.invokevirtual 193, 3) := by decide +kernel
theorem dX10_abbey_28 : decode cX10_abbey 28 = .ok (.ifCond .eq 5, 3) := by decide +kernel
theorem dX10_abbey_31 : decode cX10_abbey 31 = .ok (.iconst 0, 1) := by decide +kernel
theorem dX10_abbey_32 : decode cX10_abbey 32 = .ok (.ireturn, 1) := by decide +kernel
theorem dX10_abbey_33 : decode cX10_abbey 33 = .ok (.aload_n 0, 1) := by decide +kernel
theorem dX10_abbey_34 : decode cX10_abbey 34 = .ok (.iload_n 1, 1) := by decide +kernel
theorem dX10_abbey_35 : decode cX10_abbey 35 = .ok (.invokevirtual 197, 3) := by decide +kernel
theorem dX10_abbey_38 : decode cX10_abbey 38 = .ok (.aload_n 0, 1) := by decide +kernel
theorem dX10_abbey_39 : decode cX10_abbey 39 = .ok (.invokevirtual 98, 3) := by decide +kernel
theorem dX10_abbey_42 : decode cX10_abbey 42 = .ok (.aload_n 0, 1) := by decide +kernel
theorem dX10_abbey_43 : decode cX10_abbey 43 = .ok (.getfield 120, 3) := by decide +kernel
theorem dX10_abbey_46 : decode cX10_abbey 46 = .ok (.ifCond .ne 25, 3) := by decide +kernel
theorem dX10_abbey_49 : decode cX10_abbey 49 = .ok (.aload_n 0, 1) := by decide +kernel
theorem dX10_abbey_50 : decode cX10_abbey 50 = .ok (.getfield 113, 3) := by decide +kernel
theorem dX10_abbey_53 : decode cX10_abbey 53 = .ok (.aload_n 0, 1) := by decide +kernel
theorem dX10_abbey_54 : decode cX10_abbey 54 = .ok (.getfield 110, 3) := by decide +kernel
theorem dX10_abbey_57 : decode cX10_abbey 57 = .ok (.if_icmp .ge 14, 3) := by decide +kernel
theorem dX10_abbey_60 : decode cX10_abbey 60 = .ok (.aload_n 0, 1) := by decide +kernel
theorem dX10_abbey_61 : decode cX10_abbey 61 = .ok (.invokevirtual 200, 3) := by decide +kernel
theorem dX10_abbey_64 : decode cX10_abbey 64 = .ok (.aload_n 0, 1) := by decide +kernel
theorem dX10_abbey_65 : decode cX10_abbey 65 = .ok (.invokevirtual 126, 3) := by decide +kernel
theorem dX10_abbey_68 : decode cX10_abbey 68 = .ok (.goto (-26), 3) := by decide +kernel
theorem dX10_abbey_71 : decode cX10_abbey 71 = .ok (.aload_n 0, 1) := by decide +kernel
theorem dX10_abbey_72 : decode cX10_abbey 72 = .ok (.getfield 120, 3) := by decide +kernel
theorem dX10_abbey_75 : decode cX10_abbey 75 = .ok (.ifCond .eq 8, 3) := by decide +kernel
theorem dX10_abbey_78 : decode cX10_abbey 78 = .ok (.aload_n 0, 1) := by decide +kernel
theorem dX10_abbey_79 : decode cX10_abbey 79 = .ok (.invokevirtual 203, 3) := by decide +kernel
theorem dX10_abbey_82 : decode cX10_abbey 82 = .ok (.ireturn, 1) := by decide +kernel
theorem dX10_abbey_83 : decode cX10_abbey 83 = .ok (.aload_n 0, 1) := by decide +kernel
theorem dX10_abbey_84 : decode cX10_abbey 84 = .ok (.iconst (-1), 1) := by decide +kernel
theorem dX10_abbey_85 : decode cX10_abbey 85 = .ok (.putfield 9, 3) := by decide +kernel
theorem dX10_abbey_88 : decode cX10_abbey 88 = .ok (.aload_n 0, 1) := by decide +kernel
theorem dX10_abbey_89 : decode cX10_abbey 89 = .ok (.invokevirtual 101, 3) := by decide +kernel
theorem dX10_abbey_92 : decode cX10_abbey 92 = .ok (.aload_n 0, 1) := by decide +kernel
theorem dX10_abbey_93 : decode cX10_abbey 93 = .ok (.getfield 23, 3) := by decide +kernel
theorem dX10_abbey_96 : decode cX10_abbey 96 = .ok (.iconst 2, 1) := by decide +kernel
theorem dX10_abbey_97 : decode cX10_abbey 97 = .ok (.iaload, 1) := by decide +kernel
theorem dX10_abbey_98 : decode cX10_abbey 98 = .ok (.ireturn, 1) := by decide +kernel
abbrev mt_X10_abbey : AxM := (RX10, cX10_abbey, 2, (some .int), false, [])
theorem L1_X10_abbey_71 {g : AxG} {l : Launch} {r9 : Int32} {S9 : AxS} (N : Nat)  (v0 : Nat) (S : AxS) (h : F_X10_abbey_71 N  v0 S = some ((r9, S9))) : AW g l (axRm (6) 0 0) mt_X10_abbey (axMQ g 0 0 (.inl (some (.int r9)), S9)) 0 0 S 71 [(0, .ref v0)] [] := by
  unfold F_X10_abbey_71 at h
  refine aw_aload_n 0 dX10_abbey_71 rfl rfl ?_
  refine aw_getI axc10 5 rfl rfl wd_1290 dX10_abbey_72 h (fun x1 h => ?_)
  refine aw_if_eq 83 dX10_abbey_75 (by decide) h (fun h => ?_) (fun h => ?_)
  · refine aw_aload_n 0 dX10_abbey_83 rfl rfl ?_
    refine aw_iconst (-1) dX10_abbey_84 rfl ?_
    refine aw_putI axc10 3 rfl rfl wd_1288 rfl rfl rfl dX10_abbey_85 h (fun T2 h => ?_)
    refine aw_aload_n 0 dX10_abbey_88 rfl rfl ?_
    obtain ⟨hL3, h⟩ := ax_is_spec h
    refine aw_doneV (rest := []) h (fun S9 hF => aw_runV (As := []) (rest := []) (L1_X10_beginsAnew N hF) axc10 hL3 wd_1277 wd_1274 wd_1276 wd_36 wd_97 pd_X10_beginsAnew rfl (ax_rm (by omega) rfl) ax_hf0 (Nat.le_of_ble_eq_true rfl) rfl dX10_abbey_89) (fun T4 h => ?_)
    refine aw_aload_n 0 dX10_abbey_92 rfl rfl ?_
    refine aw_getR axc10 12 rfl rfl wd_1297 dX10_abbey_93 h (fun a6 h => ?_)
    refine aw_iconst 2 dX10_abbey_96 rfl ?_
    refine aw_iald dX10_abbey_97 h (fun x7 h => ?_)
    exact aw_iret dX10_abbey_98 rfl (Nat.le_refl _) (Nat.le_refl _) h
  · refine aw_aload_n 0 dX10_abbey_78 rfl rfl ?_
    obtain ⟨hL8, h⟩ := ax_is_spec h
    refine aw_doneI (rest := []) h (fun r9 S9 hF => aw_runV (As := []) (rest := []) (L1_X10_ends N hF) axc10 hL8 wd_1523 wd_1520 wd_1522 wd_51 wd_97 pd_X10_ends rfl (ax_rm (by omega) rfl) ax_hf0 (Nat.le_of_ble_eq_true rfl) rfl dX10_abbey_79) (fun x10 T9 h => ?_)
    exact aw_iret dX10_abbey_82 rfl (Nat.le_refl _) (Nat.le_refl _) h
theorem L1_X10_abbey_42b {g : AxG} {l : Launch} {r9 : Int32} {S9 : AxS} (N : Nat) (K42 : Nat → AxS → Option (Int32 × AxS)) (hK42 : ∀ (v0 : Nat) (S : AxS), K42 v0 S = some ((r9, S9)) → AW g l (axRm (6) 0 0) mt_X10_abbey (axMQ g 0 0 (.inl (some (.int r9)), S9)) 0 0 S 42 [(0, .ref v0)] []) (v0 : Nat) (S : AxS) (h : F_X10_abbey_42b N K42 v0 S = some ((r9, S9))) : AW g l (axRm (6) 0 0) mt_X10_abbey (axMQ g 0 0 (.inl (some (.int r9)), S9)) 0 0 S 42 [(0, .ref v0)] [] := by
  unfold F_X10_abbey_42b at h
  refine aw_aload_n 0 dX10_abbey_42 rfl rfl ?_
  refine aw_getI axc10 5 rfl rfl wd_1290 dX10_abbey_43 h (fun x1 h => ?_)
  refine aw_if_ne 71 dX10_abbey_46 (by decide) h (fun h => ?_) (fun h => ?_)
  · refine aw_env [(0, .ref v0)] [0] rfl ?_
    exact L1_X10_abbey_71 N  v0 S h
  · refine aw_aload_n 0 dX10_abbey_49 rfl rfl ?_
    refine aw_getI axc10 4 rfl rfl wd_1289 dX10_abbey_50 h (fun x2 h => ?_)
    refine aw_aload_n 0 dX10_abbey_53 rfl rfl ?_
    refine aw_getI axc10 2 rfl rfl wd_1287 dX10_abbey_54 h (fun x3 h => ?_)
    refine aw_icmp_ge 71 dX10_abbey_57 (by decide) h (fun h => ?_) (fun h => ?_)
    · refine aw_env [(0, .ref v0)] [0] rfl ?_
      exact L1_X10_abbey_71 N  v0 S h
    · refine aw_aload_n 0 dX10_abbey_60 rfl rfl ?_
      obtain ⟨hL4, h⟩ := ax_is_spec h
      refine aw_doneV (rest := []) h (fun S9 hF => aw_runV (As := []) (rest := []) (L1_X10_clause N hF) axc10 hL4 wd_1468 wd_1465 wd_1467 wd_42 wd_97 pd_X10_clause rfl (ax_rm (by omega) rfl) ax_hf0 (Nat.le_of_ble_eq_true rfl) rfl dX10_abbey_61) (fun T5 h => ?_)
      refine aw_aload_n 0 dX10_abbey_64 rfl rfl ?_
      obtain ⟨hL7, h⟩ := ax_is_spec h
      refine aw_doneV (rest := []) h (fun S9 hF => aw_runV (As := []) (rest := []) (L1_X10_blanks N hF) axc10 hL7 wd_1460 wd_1457 wd_1459 wd_40 wd_97 pd_X10_blanks rfl (ax_rm (by omega) rfl) ax_hf0 (Nat.le_of_ble_eq_true rfl) rfl dX10_abbey_65) (fun T8 h => ?_)
      refine aw_goto 42 dX10_abbey_68 (by decide) ?_
      refine aw_env [(0, .ref v0)] [0] rfl ?_
      exact hK42 v0 T8 h
theorem L1_X10_abbey_42 {g : AxG} {l : Launch} {r9 : Int32} {S9 : AxS} (N : Nat)  : ∀ (n : Nat) (v0 : Nat) (S : AxS), F_X10_abbey_42 N  n v0 S = some ((r9, S9)) → AW g l (axRm (6) 0 0) mt_X10_abbey (axMQ g 0 0 (.inl (some (.int r9)), S9)) 0 0 S 42 [(0, .ref v0)] [] := by
  intro n
  induction n with
  | zero => intro v0 S h; cases h
  | succ n ih => intro v0 S h; exact L1_X10_abbey_42b N (F_X10_abbey_42 N  n) ih v0 S h
theorem L1_X10_abbey_23 {g : AxG} {l : Launch} {r9 : Int32} {S9 : AxS} (N : Nat)  (v0 : Nat) (v1 : Int32) (w0 : Int32) (w1 : Nat) (S : AxS) (h : F_X10_abbey_23 N  v0 v1 w0 w1 S = some ((r9, S9))) : AW g l (axRm (6) 0 0) mt_X10_abbey (axMQ g 0 0 (.inl (some (.int r9)), S9)) 0 0 S 23 [(0, .ref v0), (1, .int v1)] [.int w0, .ref w1] := by
  unfold F_X10_abbey_23 at h
  refine aw_iconst 1 dX10_abbey_23 rfl ?_
  refine aw_iconst 1 dX10_abbey_24 rfl ?_
  obtain ⟨hL1, h⟩ := ax_is_spec h
  refine aw_doneI (rest := []) h (fun r9 S9 hF => aw_runV (As := [.int w0, .int 1, .int 1]) (rest := []) (L1_X10_bad N hF) axc10 hL1 wd_1452 wd_1449 wd_1451 wd_38 wd_97 pd_X10_bad rfl (ax_rm (by omega) rfl) ax_hf0 (Nat.le_of_ble_eq_true rfl) rfl dX10_abbey_25) (fun x3 T2 h => ?_)
  refine aw_if_eq 33 dX10_abbey_28 (by decide) h (fun h => ?_) (fun h => ?_)
  · refine aw_aload_n 0 dX10_abbey_33 rfl rfl ?_
    refine aw_iload_n 1 dX10_abbey_34 rfl rfl ?_
    obtain ⟨hL4, h⟩ := ax_is_spec h
    refine aw_doneV (rest := []) h (fun S9 hF => aw_runV (As := [.int v1]) (rest := []) (L1_X10_starts N hF) axc10 hL4 wd_1456 wd_1453 wd_1455 wd_39 wd_97 pd_X10_starts rfl (ax_rm (by omega) rfl) ax_hf0 (Nat.le_of_ble_eq_true rfl) rfl dX10_abbey_35) (fun T5 h => ?_)
    refine aw_aload_n 0 dX10_abbey_38 rfl rfl ?_
    obtain ⟨hL7, h⟩ := ax_is_spec h
    refine aw_doneV (rest := []) h (fun S9 hF => aw_runV (As := []) (rest := []) (L1_X10_tellsNothing N hF) axc10 hL7 wd_1273 wd_1270 wd_1272 wd_35 wd_97 pd_X10_tellsNothing rfl (ax_rm (by omega) rfl) ax_hf0 (Nat.le_of_ble_eq_true rfl) rfl dX10_abbey_39) (fun T8 h => ?_)
    refine aw_env [(0, .ref v0)] [0] rfl ?_
    exact L1_X10_abbey_42 N  N v0 T8 h
  · refine aw_iconst 0 dX10_abbey_31 rfl ?_
    exact aw_iret dX10_abbey_32 rfl (Nat.le_refl _) (Nat.le_refl _) h
theorem L1_X10_abbey {g : AxG} {l : Launch} (N : Nat) {v0 : Nat} {v1 : Int32} {S : AxS} {r9 : Int32} {S9 : AxS} (h : F_X10_abbey N v0 v1 S = some ((r9, S9))) : AxMet g l yX10_abbey cX10_abbey 2 (some .int) (6) 0 0 [.ref v0, .int v1] S ((.inl (some (.int r9)), S9)) := by
  refine ax_met (own := RX10) (ini := false) (by decide +kernel) rfl (fun h => nomatch h) rfl ?_
  show AW g l (axRm (6) 0 0) mt_X10_abbey (axMQ g 0 0 (.inl (some (.int r9)), S9)) 0 0 S 0 [(0, .ref v0), (1, .int v1)] []
  unfold F_X10_abbey at h
  refine aw_aload_n 0 dX10_abbey_0 rfl rfl ?_
  refine aw_iconst 0 dX10_abbey_1 rfl ?_
  refine aw_putI axc10 0 rfl rfl wd_1285 rfl rfl rfl dX10_abbey_2 h (fun T1 h => ?_)
  refine aw_aload_n 0 dX10_abbey_5 rfl rfl ?_
  refine aw_iload_n 1 dX10_abbey_6 rfl rfl ?_
  refine aw_iconst 0 dX10_abbey_7 rfl ?_
  refine aw_aload_n 0 dX10_abbey_8 rfl rfl ?_
  refine aw_getI axc10 1 rfl rfl wd_1286 dX10_abbey_9 h (fun x2 h => ?_)
  refine aw_doneI (rest := [.ref v0]) h (fun r9 S9 hF => aw_runS (As := [.int v1, .int 0, .int x2]) (rest := [.ref v0]) (L1_X10_in N hF) wd_1448 wd_1446 wd_1447 wd_97 pd_X10_in.2 rfl (ax_rm (by omega) rfl) ax_hf0 (Nat.le_of_ble_eq_true rfl) rfl dX10_abbey_12) (fun x4 T3 h => ?_)
  refine aw_if_ne 22 dX10_abbey_15 (by decide) h (fun h => ?_) (fun h => ?_)
  · refine aw_iconst 0 dX10_abbey_22 rfl ?_
    refine aw_env [(0, .ref v0), (1, .int v1)] [0, 1] rfl ?_
    exact L1_X10_abbey_23 N  v0 v1 0 v0 T3 h
  · refine aw_iconst 1 dX10_abbey_18 rfl ?_
    refine aw_goto 23 dX10_abbey_19 (by decide) ?_
    refine aw_env [(0, .ref v0), (1, .int v1)] [0, 1] rfl ?_
    exact L1_X10_abbey_23 N  v0 v1 1 v0 T3 h

theorem dX10_copies_0 : decode cX10_copies 0 = .ok (.iconst 0, 1) := by decide +kernel
theorem dX10_copies_1 : decode cX10_copies 1 = .ok (.istore_n 2, 1) := by decide +kernel
theorem dX10_copies_2 : decode cX10_copies 2 = .ok (.iload_n 2, 1) := by decide +kernel
theorem dX10_copies_3 : decode cX10_copies 3 = .ok (.bipush 29, 2) := by decide +kernel
theorem dX10_copies_5 : decode cX10_copies 5 = .ok (.if_icmp .ge 15, 3) := by decide +kernel
theorem dX10_copies_8 : decode cX10_copies 8 = .ok (.aload_n 1, 1) := by decide +kernel
theorem dX10_copies_9 : decode cX10_copies 9 = .ok (.iload_n 2, 1) := by decide +kernel
theorem dX10_copies_10 : decode cX10_copies 10 = .ok (.aload_n 0, 1) := by decide +kernel
theorem dX10_copies_11 : decode cX10_copies 11 = .ok (.iload_n 2, 1) := by decide +kernel
theorem dX10_copies_12 : decode cX10_copies 12 = .ok (.iaload, 1) := by decide +kernel
theorem dX10_copies_13 : decode cX10_copies 13 = .ok (.iastore, 1) := by decide +kernel
theorem dX10_copies_14 : decode cX10_copies 14 = .ok (.iinc 2 1, 3) := by decide +kernel
theorem dX10_copies_17 : decode cX10_copies 17 = .ok (.goto (-15), 3) := by decide +kernel
theorem dX10_copies_20 : decode cX10_copies 20 = .ok (.return_, 1) := by decide +kernel
abbrev mt_X10_copies : AxM := (RX10, cX10_copies, 3, none, false, [])
theorem L1_X10_copies_2b {g : AxG} {l : Launch} {S9 : AxS} (N : Nat) (K2 : Nat → Nat → Int32 → AxS → Option (AxS)) (hK2 : ∀ (v0 : Nat) (v1 : Nat) (v2 : Int32) (S : AxS), K2 v0 v1 v2 S = some S9 → AW g l (axRm (0) 0 0) mt_X10_copies (axMQ g 0 0 (.inl none, S9)) 0 0 S 2 [(0, .ref v0), (1, .ref v1), (2, .int v2)] []) (v0 : Nat) (v1 : Nat) (v2 : Int32) (S : AxS) (h : F_X10_copies_2b N K2 v0 v1 v2 S = some S9) : AW g l (axRm (0) 0 0) mt_X10_copies (axMQ g 0 0 (.inl none, S9)) 0 0 S 2 [(0, .ref v0), (1, .ref v1), (2, .int v2)] [] := by
  unfold F_X10_copies_2b at h
  refine aw_iload_n 2 dX10_copies_2 rfl rfl ?_
  refine aw_bipush 29 dX10_copies_3 (by decide) ?_
  refine aw_icmp_ge 20 dX10_copies_5 (by decide) h (fun h => ?_) (fun h => ?_)
  · exact aw_vret dX10_copies_20 rfl (Nat.le_refl _) (Nat.le_refl _) h
  · refine aw_aload_n 1 dX10_copies_8 rfl rfl ?_
    refine aw_iload_n 2 dX10_copies_9 rfl rfl ?_
    refine aw_aload_n 0 dX10_copies_10 rfl rfl ?_
    refine aw_iload_n 2 dX10_copies_11 rfl rfl ?_
    refine aw_iald dX10_copies_12 h (fun x1 h => ?_)
    refine aw_iast dX10_copies_13 h (fun T2 h => ?_)
    refine aw_iinc 2 [(2, .int (v2 + 1)), (0, .ref v0), (1, .ref v1)] (v2 + 1) dX10_copies_14 rfl rfl rfl rfl ?_
    refine aw_goto 2 dX10_copies_17 (by decide) ?_
    refine aw_env [(0, .ref v0), (1, .ref v1), (2, .int (v2 + 1))] [1, 2, 0] rfl ?_
    exact hK2 v0 v1 (v2 + 1) T2 h
theorem L1_X10_copies_2 {g : AxG} {l : Launch} {S9 : AxS} (N : Nat)  : ∀ (n : Nat) (v0 : Nat) (v1 : Nat) (v2 : Int32) (S : AxS), F_X10_copies_2 N  n v0 v1 v2 S = some S9 → AW g l (axRm (0) 0 0) mt_X10_copies (axMQ g 0 0 (.inl none, S9)) 0 0 S 2 [(0, .ref v0), (1, .ref v1), (2, .int v2)] [] := by
  intro n
  induction n with
  | zero => intro v0 v1 v2 S h; cases h
  | succ n ih => intro v0 v1 v2 S h; exact L1_X10_copies_2b N (F_X10_copies_2 N  n) ih v0 v1 v2 S h
theorem L1_X10_copies {g : AxG} {l : Launch} (N : Nat) {v0 : Nat} {v1 : Nat} {S : AxS} {S9 : AxS} (h : F_X10_copies N v0 v1 S = some S9) : AxMet g l yX10_copies cX10_copies 3 none (0) 0 0 [.ref v0, .ref v1] S ((.inl none, S9)) := by
  refine ax_met (own := RX10) (ini := false) (by decide +kernel) rfl (fun h => nomatch h) rfl ?_
  show AW g l (axRm (0) 0 0) mt_X10_copies (axMQ g 0 0 (.inl none, S9)) 0 0 S 0 [(0, .ref v0), (1, .ref v1)] []
  unfold F_X10_copies at h
  refine aw_iconst 0 dX10_copies_0 rfl ?_
  refine aw_istore_n 2 [(2, .int 0), (0, .ref v0), (1, .ref v1)] dX10_copies_1 rfl rfl rfl ?_
  refine aw_env [(0, .ref v0), (1, .ref v1), (2, .int 0)] [1, 2, 0] rfl ?_
  exact L1_X10_copies_2 N  N v0 v1 0 S h

theorem dX10_notes_0 : decode cX10_notes 0 = .ok (.aload_n 0, 1) := by decide +kernel
theorem dX10_notes_1 : decode cX10_notes 1 = .ok (.getfield 120, 3) := by decide +kernel
theorem dX10_notes_4 : decode cX10_notes 4 = .ok (.ifCond .eq 4, 3) := by decide +kernel
theorem dX10_notes_7 : decode cX10_notes 7 = .ok (.return_, 1) := by decide +kernel
theorem dX10_notes_8 : decode cX10_notes 8 = .ok (.aload_n 0, 1) := by decide +kernel
theorem dX10_notes_9 : decode cX10_notes 9 = .ok (.getfield 43, 3) := by decide +kernel
theorem dX10_notes_12 : decode cX10_notes 12 = .ok (.aload_n 0, 1) := by decide +kernel
theorem dX10_notes_13 : decode cX10_notes 13 = .ok (.getfield 229, 3) := by decide +kernel
theorem dX10_notes_16 : decode cX10_notes 16 = .ok (.aaload, 1) := by decide +kernel
theorem dX10_notes_17 : decode cX10_notes 17 = .ok (.iconst 0, 1) := by decide +kernel
theorem dX10_notes_18 : decode cX10_notes 18 = .ok (.iload_n 1, 1) := by decide +kernel
theorem dX10_notes_19 : decode cX10_notes 19 = .ok (.iastore, 1) := by decide +kernel
theorem dX10_notes_20 : decode cX10_notes 20 = .ok (.aload_n 0, 1) := by decide +kernel
theorem dX10_notes_21 : decode cX10_notes 21 = .ok (.getfield 43, 3) := by decide +kernel
theorem dX10_notes_24 : decode cX10_notes 24 = .ok (.aload_n 0, 1) := by decide +kernel
theorem dX10_notes_25 : decode cX10_notes 25 = .ok (.getfield 229, 3) := by decide +kernel
theorem dX10_notes_28 : decode cX10_notes 28 = .ok (.aaload, 1) := by decide +kernel
theorem dX10_notes_29 : decode cX10_notes 29 = .ok (.iconst 1, 1) := by decide +kernel
theorem dX10_notes_30 : decode cX10_notes 30 = .ok (.iload_n 2, 1) := by decide +kernel
theorem dX10_notes_31 : decode cX10_notes 31 = .ok (.iastore, 1) := by decide +kernel
theorem dX10_notes_32 : decode cX10_notes 32 = .ok (.aload_n 0, 1) := by decide +kernel
theorem dX10_notes_33 : decode cX10_notes 33 = .ok (.dup, 1) := by decide +kernel
theorem dX10_notes_34 : decode cX10_notes 34 = .ok (.getfield 229, 3) := by decide +kernel
theorem dX10_notes_37 : decode cX10_notes 37 = .ok (.iconst 1, 1) := by decide +kernel
theorem dX10_notes_38 : decode cX10_notes 38 = .ok (.iadd, 1) := by decide +kernel
theorem dX10_notes_39 : decode cX10_notes 39 = .ok (.putfield 229, 3) := by decide +kernel
theorem dX10_notes_42 : decode cX10_notes 42 = .ok (.return_, 1) := by decide +kernel
abbrev mt_X10_notes : AxM := (RX10, cX10_notes, 3, none, false, [])
theorem L1_X10_notes {g : AxG} {l : Launch} (N : Nat) {v0 : Nat} {v1 : Int32} {v2 : Int32} {S : AxS} {S9 : AxS} (h : F_X10_notes N v0 v1 v2 S = some S9) : AxMet g l yX10_notes cX10_notes 3 none (0) 0 0 [.ref v0, .int v1, .int v2] S ((.inl none, S9)) := by
  refine ax_met (own := RX10) (ini := false) (by decide +kernel) rfl (fun h => nomatch h) rfl ?_
  show AW g l (axRm (0) 0 0) mt_X10_notes (axMQ g 0 0 (.inl none, S9)) 0 0 S 0 [(0, .ref v0), (1, .int v1), (2, .int v2)] []
  unfold F_X10_notes at h
  refine aw_aload_n 0 dX10_notes_0 rfl rfl ?_
  refine aw_getI axc10 5 rfl rfl wd_1290 dX10_notes_1 h (fun x1 h => ?_)
  refine aw_if_eq 8 dX10_notes_4 (by decide) h (fun h => ?_) (fun h => ?_)
  · refine aw_aload_n 0 dX10_notes_8 rfl rfl ?_
    refine aw_getR axc10 20 rfl rfl wd_1305 dX10_notes_9 h (fun a2 h => ?_)
    refine aw_aload_n 0 dX10_notes_12 rfl rfl ?_
    refine aw_getI axc10 18 rfl rfl wd_1303 dX10_notes_13 h (fun x3 h => ?_)
    refine aw_aald dX10_notes_16 h (fun a4 h => ?_)
    refine aw_iconst 0 dX10_notes_17 rfl ?_
    refine aw_iload_n 1 dX10_notes_18 rfl rfl ?_
    refine aw_iast dX10_notes_19 h (fun T5 h => ?_)
    refine aw_aload_n 0 dX10_notes_20 rfl rfl ?_
    refine aw_getR axc10 20 rfl rfl wd_1305 dX10_notes_21 h (fun a6 h => ?_)
    refine aw_aload_n 0 dX10_notes_24 rfl rfl ?_
    refine aw_getI axc10 18 rfl rfl wd_1303 dX10_notes_25 h (fun x7 h => ?_)
    refine aw_aald dX10_notes_28 h (fun a8 h => ?_)
    refine aw_iconst 1 dX10_notes_29 rfl ?_
    refine aw_iload_n 2 dX10_notes_30 rfl rfl ?_
    refine aw_iast dX10_notes_31 h (fun T9 h => ?_)
    refine aw_aload_n 0 dX10_notes_32 rfl rfl ?_
    refine aw_dup rfl dX10_notes_33 ?_
    refine aw_getI axc10 18 rfl rfl wd_1303 dX10_notes_34 h (fun x10 h => ?_)
    refine aw_iconst 1 dX10_notes_37 rfl ?_
    refine aw_iadd dX10_notes_38 ?_
    refine aw_putI axc10 18 rfl rfl wd_1303 rfl rfl rfl dX10_notes_39 h (fun T11 h => ?_)
    exact aw_vret dX10_notes_42 rfl (Nat.le_refl _) (Nat.le_refl _) h
  · exact aw_vret dX10_notes_7 rfl (Nat.le_refl _) (Nat.le_refl _) h

theorem dX10_opensOne_0 : decode cX10_opensOne 0 = .ok (.aload_n 0, 1) := by decide +kernel
theorem dX10_opensOne_1 : decode cX10_opensOne 1 = .ok (.getfield 120, 3) := by decide +kernel
theorem dX10_opensOne_4 : decode cX10_opensOne 4 = .ok (.ifCond .ne 24, 3) := by decide +kernel
theorem dX10_opensOne_7 : decode cX10_opensOne 7 = .ok (.aload_n 0, 1) := by decide +kernel
theorem dX10_opensOne_8 : decode cX10_opensOne 8 = .ok (.getfield 169, 3) := by decide +kernel
theorem dX10_opensOne_11 : decode cX10_opensOne 11 = .ok (.bipush 6, 2) := by decide +kernel
theorem dX10_opensOne_13 : decode cX10_opensOne 13 = .ok (.if_icmp .ne 15, 3) := by decide +kernel
theorem dX10_opensOne_16 : decode cX10_opensOne 16 = .ok (.aload_n 0, 1) := by decide +kernel
theorem dX10_opensOne_17 : decode cX10_opensOne 17 = .ok (.iconst 3, 1) := by decide +kernel
theorem dX10_opensOne_18 : decode cX10_opensOne 18 = .ok (.aload_n 0, 1) := by decide +kernel
theorem dX10_opensOne_19 : decode cX10_opensOne 19 = .ok (.getfield 113, 3) := by decide +kernel
theorem dX10_opensOne_22 : decode cX10_opensOne 22 = .ok (.invokevirtual 133, 3) := by decide +kernel
theorem dX10_opensOne_25 : decode cX10_opensOne 25 = .ok (.goto 20, 3) := by decide +kernel
theorem dX10_opensOne_28 : decode cX10_opensOne 28 = .ok (.aload_n 0, 1) := by decide +kernel
theorem dX10_opensOne_29 : decode cX10_opensOne 29 = .ok (.getfield 120, 3) := by decide +kernel
theorem dX10_opensOne_32 : decode cX10_opensOne 32 = .ok (.ifCond .ne 13, 3) := by decide +kernel
theorem dX10_opensOne_35 : decode cX10_opensOne 35 = .ok (.aload_n 0, 1) := by decide +kernel
theorem dX10_opensOne_36 : decode cX10_opensOne 36 = .ok (.dup, 1) := by decide +kernel
theorem dX10_opensOne_37 : decode cX10_opensOne 37 = .ok (.getfield 169, 3) := by decide +kernel
theorem dX10_opensOne_40 : decode cX10_opensOne 40 = .ok (.iconst 1, 1) := by decide +kernel
theorem dX10_opensOne_41 : decode cX10_opensOne 41 = .ok (.iadd, 1) := by decide +kernel
theorem dX10_opensOne_42 : decode cX10_opensOne 42 = .ok (.putfield 169, 3) := by decide +kernel
theorem dX10_opensOne_45 : decode cX10_opensOne 45 = .ok (.aload_n 0, 1) := by decide +kernel
theorem dX10_opensOne_46 : decode cX10_opensOne 46 = .ok (.getfield 120, 3) := by decide +kernel
theorem dX10_opensOne_49 : decode cX10_opensOne 49 = .ok (.ifCond .ne 7, 3) := by decide +kernel
theorem dX10_opensOne_52 : decode cX10_opensOne 52 = .ok (.iconst 1, 1) := by decide +kernel
theorem dX10_opensOne_53 : decode cX10_opensOne 53 = .ok (.goto 4, 3) := by decide +kernel
theorem dX10_opensOne_56 : decode cX10_opensOne 56 = .ok (.iconst 0, 1) := by decide +kernel
theorem dX10_opensOne_57 : decode cX10_opensOne 57 = .ok (.ireturn, 1) := by decide +kernel
abbrev mt_X10_opensOne : AxM := (RX10, cX10_opensOne, 1, (some .boolean), false, [])
theorem L1_X10_opensOne_45 {g : AxG} {l : Launch} {r9 : Int32} {S9 : AxS} (N : Nat)  (v0 : Nat) (S : AxS) (h : F_X10_opensOne_45 N  v0 S = some ((r9, S9))) : AW g l (axRm (1) 0 0) mt_X10_opensOne (axMQ g 0 0 (.inl (some (.int r9)), S9)) 0 0 S 45 [(0, .ref v0)] [] := by
  unfold F_X10_opensOne_45 at h
  refine aw_aload_n 0 dX10_opensOne_45 rfl rfl ?_
  refine aw_getI axc10 5 rfl rfl wd_1290 dX10_opensOne_46 h (fun x1 h => ?_)
  refine aw_if_ne 56 dX10_opensOne_49 (by decide) h (fun h => ?_) (fun h => ?_)
  · refine aw_iconst 0 dX10_opensOne_56 rfl ?_
    exact aw_zret dX10_opensOne_57 rfl (Nat.le_refl _) (Nat.le_refl _) h
  · refine aw_iconst 1 dX10_opensOne_52 rfl ?_
    refine aw_goto 57 dX10_opensOne_53 (by decide) ?_
    exact aw_zret dX10_opensOne_57 rfl (Nat.le_refl _) (Nat.le_refl _) h
theorem L1_X10_opensOne_28 {g : AxG} {l : Launch} {r9 : Int32} {S9 : AxS} (N : Nat)  (v0 : Nat) (S : AxS) (h : F_X10_opensOne_28 N  v0 S = some ((r9, S9))) : AW g l (axRm (1) 0 0) mt_X10_opensOne (axMQ g 0 0 (.inl (some (.int r9)), S9)) 0 0 S 28 [(0, .ref v0)] [] := by
  unfold F_X10_opensOne_28 at h
  refine aw_aload_n 0 dX10_opensOne_28 rfl rfl ?_
  refine aw_getI axc10 5 rfl rfl wd_1290 dX10_opensOne_29 h (fun x1 h => ?_)
  refine aw_if_ne 45 dX10_opensOne_32 (by decide) h (fun h => ?_) (fun h => ?_)
  · refine aw_env [(0, .ref v0)] [0] rfl ?_
    exact L1_X10_opensOne_45 N  v0 S h
  · refine aw_aload_n 0 dX10_opensOne_35 rfl rfl ?_
    refine aw_dup rfl dX10_opensOne_36 ?_
    refine aw_getI axc10 8 rfl rfl wd_1293 dX10_opensOne_37 h (fun x2 h => ?_)
    refine aw_iconst 1 dX10_opensOne_40 rfl ?_
    refine aw_iadd dX10_opensOne_41 ?_
    refine aw_putI axc10 8 rfl rfl wd_1293 rfl rfl rfl dX10_opensOne_42 h (fun T3 h => ?_)
    refine aw_env [(0, .ref v0)] [0] rfl ?_
    exact L1_X10_opensOne_45 N  v0 T3 h
theorem L1_X10_opensOne {g : AxG} {l : Launch} (N : Nat) {v0 : Nat} {S : AxS} {r9 : Int32} {S9 : AxS} (h : F_X10_opensOne N v0 S = some ((r9, S9))) : AxMet g l yX10_opensOne cX10_opensOne 1 (some .boolean) (1) 0 0 [.ref v0] S ((.inl (some (.int r9)), S9)) := by
  refine ax_met (own := RX10) (ini := false) (by decide +kernel) rfl (fun h => nomatch h) rfl ?_
  show AW g l (axRm (1) 0 0) mt_X10_opensOne (axMQ g 0 0 (.inl (some (.int r9)), S9)) 0 0 S 0 [(0, .ref v0)] []
  unfold F_X10_opensOne at h
  refine aw_aload_n 0 dX10_opensOne_0 rfl rfl ?_
  refine aw_getI axc10 5 rfl rfl wd_1290 dX10_opensOne_1 h (fun x1 h => ?_)
  refine aw_if_ne 28 dX10_opensOne_4 (by decide) h (fun h => ?_) (fun h => ?_)
  · refine aw_env [(0, .ref v0)] [0] rfl ?_
    exact L1_X10_opensOne_28 N  v0 S h
  · refine aw_aload_n 0 dX10_opensOne_7 rfl rfl ?_
    refine aw_getI axc10 8 rfl rfl wd_1293 dX10_opensOne_8 h (fun x2 h => ?_)
    refine aw_bipush 6 dX10_opensOne_11 (by decide) ?_
    refine aw_icmp_ne 28 dX10_opensOne_13 (by decide) h (fun h => ?_) (fun h => ?_)
    · refine aw_env [(0, .ref v0)] [0] rfl ?_
      exact L1_X10_opensOne_28 N  v0 S h
    · refine aw_aload_n 0 dX10_opensOne_16 rfl rfl ?_
      refine aw_iconst 3 dX10_opensOne_17 rfl ?_
      refine aw_aload_n 0 dX10_opensOne_18 rfl rfl ?_
      refine aw_getI axc10 4 rfl rfl wd_1289 dX10_opensOne_19 h (fun x3 h => ?_)
      obtain ⟨hL4, h⟩ := ax_is_spec h
      refine aw_doneV (rest := []) h (fun S9 hF => aw_runV (As := [.int 3, .int x3]) (rest := []) (L1_X10_wrong N hF) axc10 hL4 wd_1493 wd_1490 wd_1492 wd_46 wd_97 pd_X10_wrong rfl (ax_rm (by omega) rfl) ax_hf0 (Nat.le_of_ble_eq_true rfl) rfl dX10_opensOne_22) (fun T5 h => ?_)
      refine aw_goto 45 dX10_opensOne_25 (by decide) ?_
      refine aw_env [(0, .ref v0)] [0] rfl ?_
      exact L1_X10_opensOne_45 N  v0 T5 h
