theorem dX10_does_0 : decode cX10_does 0 = .ok (.aload_n 2, 1) := by decide +kernel
theorem dX10_does_1 : decode cX10_does 1 = .ok (.iconst 0, 1) := by decide +kernel
theorem dX10_does_2 : decode cX10_does 2 = .ok (.iaload, 1) := by decide +kernel
theorem dX10_does_3 : decode cX10_does 3 = .ok (.tableswitch 138 0 4 #[33, 41, 50, 65, 89], 33) := by decide +kernel
theorem dX10_does_36 : decode cX10_does 36 = .ok (.aload_n 1, 1) := by decide +kernel
theorem dX10_does_37 : decode cX10_does 37 = .ok (.aload_n 2, 1) := by decide +kernel
theorem dX10_does_38 : decode cX10_does 38 = .ok (.iconst 1, 1) := by decide +kernel
theorem dX10_does_39 : decode cX10_does 39 = .ok (.iaload, 1) := by decide +kernel
theorem dX10_does_40 : decode cX10_does 40 = .ok (.invokestatic 298, 3) := by decide +kernel
theorem dX10_does_43 : decode cX10_does 43 = .ok (.ireturn, 1) := by decide +kernel
theorem dX10_does_44 : decode cX10_does 44 = .ok (.aload_n 0, 1) := by decide +kernel
theorem dX10_does_45 : decode cX10_does 45 = .ok (.aload_n 1, 1) := by decide +kernel
theorem dX10_does_46 : decode cX10_does 46 = .ok (.aload_n 2, 1) := by decide +kernel
theorem dX10_does_47 : decode cX10_does 47 = .ok (.iconst 1, 1) := by decide +kernel
theorem dX10_does_48 : decode cX10_does 48 = .ok (.iaload, 1) := by decide +kernel
theorem dX10_does_49 : decode cX10_does 49 = .ok (.invokevirtual 302, 3) := by decide +kernel
theorem dX10_does_52 : decode cX10_does 52 = .ok (.ireturn, 1) := by decide +kernel
theorem dX10_does_53 : decode cX10_does 53 = .ok (.aload_n 1, 1) := by decide +kernel
theorem dX10_does_54 : decode cX10_does 54 = .ok (.iconst 5, 1) := by decide +kernel
theorem dX10_does_55 : decode cX10_does 55 = .ok (.iaload, 1) := by decide +kernel
theorem dX10_does_56 : decode cX10_does 56 = .ok (.iconst 1, 1) := by decide +kernel
theorem dX10_does_57 : decode cX10_does 57 = .ok (.if_icmp .ne 5, 3) := by decide +kernel
theorem dX10_does_60 : decode cX10_does 60 = .ok (.iconst 0, 1) := by decide +kernel
theorem dX10_does_61 : decode cX10_does 61 = .ok (.ireturn, 1) := by decide +kernel
theorem dX10_does_62 : decode cX10_does 62 = .ok (.aload_n 1, 1) := by decide +kernel
theorem dX10_does_63 : decode cX10_does 63 = .ok (.iconst 5, 1) := by decide +kernel
theorem dX10_does_64 : decode cX10_does 64 = .ok (.iconst 1, 1) := by decide +kernel
theorem dX10_does_65 : decode cX10_does 65 = .ok (.iastore, 1) := by decide +kernel
theorem dX10_does_66 : decode cX10_does 66 = .ok (.iconst 1, 1) := by decide +kernel
theorem dX10_does_67 : decode cX10_does 67 = .ok (.ireturn, 1) := by decide +kernel
theorem dX10_does_68 : decode cX10_does 68 = .ok (.aload_n 1, 1) := by decide +kernel
theorem dX10_does_69 : decode cX10_does 69 = .ok (.bipush 7, 2) := by decide +kernel
theorem dX10_does_71 : decode cX10_does 71 = .ok (.iaload, 1) := by decide +kernel
theorem dX10_does_72 : decode cX10_does 72 = .ok (.ifCond .le 5, 3) := by decide +kernel
theorem dX10_does_75 : decode cX10_does 75 = .ok (.iconst 0, 1) := by decide +kernel
theorem dX10_does_76 : decode cX10_does 76 = .ok (.ireturn, 1) := by decide +kernel
theorem dX10_does_77 : decode cX10_does 77 = .ok (.aload_n 1, 1) := by decide +kernel
theorem dX10_does_78 : decode cX10_does 78 = .ok (.bipush 6, 2) := by decide +kernel
theorem dX10_does_80 : decode cX10_does 80 = .ok (.aload_n 2, 1) := by decide +kernel
theorem dX10_does_81 : decode cX10_does 81 = .ok (.iconst 1, 1) := by decide +kernel
theorem dX10_does_82 : decode cX10_does 82 = .ok (.iaload, 1) := by decide +kernel
theorem dX10_does_83 : decode cX10_does 83 = .ok (.iastore, 1) := by decide +kernel
theorem dX10_does_84 : decode cX10_does 84 = .ok (.aload_n 1, 1) := by decide +kernel
theorem dX10_does_85 : decode cX10_does 85 = .ok (.bipush 7, 2) := by decide +kernel
theorem dX10_does_87 : decode cX10_does 87 = .ok (.bipush 7, 2) := by decide +kernel
theorem dX10_does_89 : decode cX10_does 89 = .ok (.iastore, 1) := by decide +kernel
theorem dX10_does_90 : decode cX10_does 90 = .ok (.iconst 1, 1) := by decide +kernel
theorem dX10_does_91 : decode cX10_does 91 = .ok (.ireturn, 1) := by decide +kernel
theorem dX10_does_92 : decode cX10_does 92 = .ok (.aload_n 1, 1) := by decide +kernel
theorem dX10_does_93 : decode cX10_does 93 = .ok (.bipush 13, 2) := by decide +kernel
theorem dX10_does_95 : decode cX10_does 95 = .ok (.aload_n 2, 1) := by decide +kernel
theorem dX10_does_96 : decode cX10_does 96 = .ok (.iconst 1, 1) := by decide +kernel
theorem dX10_does_97 : decode cX10_does 97 = .ok (.iaload, 1) := by decide +kernel
theorem dX10_does_98 : decode cX10_does 98 = .ok (.iadd, 1) := by decide +kernel
theorem dX10_does_99 : decode cX10_does 99 = .ok (.iaload, 1) := by decide +kernel
theorem dX10_does_100 : decode cX10_does 100 = .ok (.istore_n 3, 1) := by decide +kernel
theorem dX10_does_101 : decode cX10_does 101 = .ok (.aload_n 1, 1) := by decide +kernel
theorem dX10_does_102 : decode cX10_does 102 = .ok (.bipush 13, 2) := by decide +kernel
theorem dX10_does_104 : decode cX10_does 104 = .ok (.aload_n 2, 1) := by decide +kernel
theorem dX10_does_105 : decode cX10_does 105 = .ok (.iconst 1, 1) := by decide +kernel
theorem dX10_does_106 : decode cX10_does 106 = .ok (.iaload, 1) := by decide +kernel
theorem dX10_does_107 : decode cX10_does 107 = .ok (.iadd, 1) := by decide +kernel
theorem dX10_does_108 : decode cX10_does 108 = .ok (.aload_n 1, 1) := by decide +kernel
theorem dX10_does_109 : decode cX10_does 109 = .ok (.bipush 13, 2) := by decide +kernel
theorem dX10_does_111 : decode cX10_does 111 = .ok (.aload_n 2, 1) := by decide +kernel
theorem dX10_does_112 : decode cX10_does 112 = .ok (.iconst 2, 1) := by decide +kernel
theorem dX10_does_113 : decode cX10_does 113 = .ok (.iaload, 1) := by decide +kernel
theorem dX10_does_114 : decode cX10_does 114 = .ok (.iadd, 1) := by decide +kernel
theorem dX10_does_115 : decode cX10_does 115 = .ok (.iaload, 1) := by decide +kernel
theorem dX10_does_116 : decode cX10_does 116 = .ok (.iastore, 1) := by decide +kernel
theorem dX10_does_117 : decode cX10_does 117 = .ok (.aload_n 1, 1) := by decide +kernel
theorem dX10_does_118 : decode cX10_does 118 = .ok (.bipush 13, 2) := by decide +kernel
theorem dX10_does_120 : decode cX10_does 120 = .ok (.aload_n 2, 1) := by decide +kernel
theorem dX10_does_121 : decode cX10_does 121 = .ok (.iconst 2, 1) := by decide +kernel
theorem dX10_does_122 : decode cX10_does 122 = .ok (.iaload, 1) := by decide +kernel
theorem dX10_does_123 : decode cX10_does 123 = .ok (.iadd, 1) := by decide +kernel
theorem dX10_does_124 : decode cX10_does 124 = .ok (.iload_n 3, 1) := by decide +kernel
theorem dX10_does_125 : decode cX10_does 125 = .ok (.iastore, 1) := by decide +kernel
theorem dX10_does_126 : decode cX10_does 126 = .ok (.aload_n 2, 1) := by decide +kernel
theorem dX10_does_127 : decode cX10_does 127 = .ok (.iconst 1, 1) := by decide +kernel
theorem dX10_does_128 : decode cX10_does 128 = .ok (.iaload, 1) := by decide +kernel
theorem dX10_does_129 : decode cX10_does 129 = .ok (.aload_n 2, 1) := by decide +kernel
theorem dX10_does_130 : decode cX10_does 130 = .ok (.iconst 2, 1) := by decide +kernel
theorem dX10_does_131 : decode cX10_does 131 = .ok (.iaload, 1) := by decide +kernel
theorem dX10_does_132 : decode cX10_does 132 = .ok (.if_icmp .eq 7, 3) := by decide +kernel
theorem dX10_does_135 : decode cX10_does 135 = .ok (.iconst 1, 1) := by decide +kernel
theorem dX10_does_136 : decode cX10_does 136 = .ok (.goto 4, 3) := by decide +kernel
theorem dX10_does_139 : decode cX10_does 139 = .ok (.iconst 0, 1) := by decide +kernel
theorem dX10_does_140 : decode cX10_does 140 = .ok (.ireturn, 1) := by decide +kernel
theorem dX10_does_141 : decode cX10_does 141 = .ok (.aload_n 1, 1) := by decide +kernel
theorem dX10_does_142 : decode cX10_does 142 = .ok (.iconst 2, 1) := by decide +kernel
theorem dX10_does_143 : decode cX10_does 143 = .ok (.iaload, 1) := by decide +kernel
theorem dX10_does_144 : decode cX10_does 144 = .ok (.sipush 999, 3) := by decide +kernel
theorem dX10_does_147 : decode cX10_does 147 = .ok (.if_icmp .lt 5, 3) := by decide +kernel
theorem dX10_does_150 : decode cX10_does 150 = .ok (.iconst 0, 1) := by decide +kernel
theorem dX10_does_151 : decode cX10_does 151 = .ok (.ireturn, 1) := by decide +kernel
theorem dX10_does_152 : decode cX10_does 152 = .ok (.aload_n 0, 1) := by decide +kernel
theorem dX10_does_153 : decode cX10_does 153 = .ok (.aload_n 1, 1) := by decide +kernel
theorem dX10_does_154 : decode cX10_does 154 = .ok (.invokevirtual 305, 3) := by decide +kernel
theorem dX10_does_157 : decode cX10_does 157 = .ok (.iconst 1, 1) := by decide +kernel
theorem dX10_does_158 : decode cX10_does 158 = .ok (.ireturn, 1) := by decide +kernel
abbrev mt_X10_does : AxM := (RX10, cX10_does, 4, (some .boolean), false, [])
theorem L1_X10_does {g : AxG} {l : Launch} (N : Nat) {v0 : Nat} {v1 : Nat} {v2 : Nat} {S : AxS} {r9 : Int32} {S9 : AxS} (h : F_X10_does N v0 v1 v2 S = some ((r9, S9))) : AxMet g l yX10_does cX10_does 4 (some .boolean) (5) 0 0 [.ref v0, .ref v1, .ref v2] S ((.inl (some (.int r9)), S9)) := by
  refine ax_met (own := RX10) (ini := false) (by decide +kernel) rfl (fun h => nomatch h) rfl ?_
  show AW g l (axRm (5) 0 0) mt_X10_does (axMQ g 0 0 (.inl (some (.int r9)), S9)) 0 0 S 0 [(0, .ref v0), (1, .ref v1), (2, .ref v2)] []
  unfold F_X10_does at h
  refine aw_aload_n 2 dX10_does_0 rfl rfl ?_
  refine aw_iconst 0 dX10_does_1 rfl ?_
  refine aw_iald dX10_does_2 h (fun x1 h => ?_)
  refine aw_case 0 h (fun h => ?_) (fun c5 h => ?_)
  · refine aw_tswIn 36 (off := 33) dX10_does_3 (by decide) (by decide) (by decide) (by decide) ?_
    refine aw_aload_n 1 dX10_does_36 rfl rfl ?_
    refine aw_aload_n 2 dX10_does_37 rfl rfl ?_
    refine aw_iconst 1 dX10_does_38 rfl ?_
    refine aw_iald dX10_does_39 h (fun x2 h => ?_)
    refine aw_doneI (rest := []) h (fun r9 S9 hF => aw_runS (As := [.ref v1, .int x2]) (rest := []) (L1_X10_pays N hF) wd_1593 wd_1591 wd_1592 wd_97 pd_X10_pays.2 rfl (ax_rm (by omega) rfl) ax_hf0 (Nat.le_of_ble_eq_true rfl) rfl dX10_does_40) (fun x4 T3 h => ?_)
    exact aw_zret dX10_does_43 rfl (Nat.le_refl _) (Nat.le_refl _) h
  refine aw_case 1 h (fun h => ?_) (fun c10 h => ?_)
  · refine aw_tswIn 44 (off := 41) dX10_does_3 (by decide) (by decide) (by decide) (by decide) ?_
    refine aw_aload_n 0 dX10_does_44 rfl rfl ?_
    refine aw_aload_n 1 dX10_does_45 rfl rfl ?_
    refine aw_aload_n 2 dX10_does_46 rfl rfl ?_
    refine aw_iconst 1 dX10_does_47 rfl ?_
    refine aw_iald dX10_does_48 h (fun x6 h => ?_)
    obtain ⟨hL7, h⟩ := ax_is_spec h
    refine aw_doneI (rest := []) h (fun r9 S9 hF => aw_runV (As := [.ref v1, .int x6]) (rest := []) (L1_X10_gives N hF) axc10 hL7 wd_1597 wd_1594 wd_1596 wd_64 wd_97 pd_X10_gives rfl (ax_rm (by omega) rfl) ax_hf0 (Nat.le_of_ble_eq_true rfl) rfl dX10_does_49) (fun x9 T8 h => ?_)
    exact aw_zret dX10_does_52 rfl (Nat.le_refl _) (Nat.le_refl _) h
  refine aw_case 2 h (fun h => ?_) (fun c13 h => ?_)
  · refine aw_tswIn 53 (off := 50) dX10_does_3 (by decide) (by decide) (by decide) (by decide) ?_
    refine aw_aload_n 1 dX10_does_53 rfl rfl ?_
    refine aw_iconst 5 dX10_does_54 rfl ?_
    refine aw_iald dX10_does_55 h (fun x11 h => ?_)
    refine aw_iconst 1 dX10_does_56 rfl ?_
    refine aw_icmp_ne 62 dX10_does_57 (by decide) h (fun h => ?_) (fun h => ?_)
    · refine aw_aload_n 1 dX10_does_62 rfl rfl ?_
      refine aw_iconst 5 dX10_does_63 rfl ?_
      refine aw_iconst 1 dX10_does_64 rfl ?_
      refine aw_iast dX10_does_65 h (fun T12 h => ?_)
      refine aw_iconst 1 dX10_does_66 rfl ?_
      exact aw_zret dX10_does_67 rfl (Nat.le_refl _) (Nat.le_refl _) h
    · refine aw_iconst 0 dX10_does_60 rfl ?_
      exact aw_zret dX10_does_61 rfl (Nat.le_refl _) (Nat.le_refl _) h
  refine aw_case 3 h (fun h => ?_) (fun c18 h => ?_)
  · refine aw_tswIn 68 (off := 65) dX10_does_3 (by decide) (by decide) (by decide) (by decide) ?_
    refine aw_aload_n 1 dX10_does_68 rfl rfl ?_
    refine aw_bipush 7 dX10_does_69 (by decide) ?_
    refine aw_iald dX10_does_71 h (fun x14 h => ?_)
    refine aw_if_le 77 dX10_does_72 (by decide) h (fun h => ?_) (fun h => ?_)
    · refine aw_aload_n 1 dX10_does_77 rfl rfl ?_
      refine aw_bipush 6 dX10_does_78 (by decide) ?_
      refine aw_aload_n 2 dX10_does_80 rfl rfl ?_
      refine aw_iconst 1 dX10_does_81 rfl ?_
      refine aw_iald dX10_does_82 h (fun x15 h => ?_)
      refine aw_iast dX10_does_83 h (fun T16 h => ?_)
      refine aw_aload_n 1 dX10_does_84 rfl rfl ?_
      refine aw_bipush 7 dX10_does_85 (by decide) ?_
      refine aw_bipush 7 dX10_does_87 (by decide) ?_
      refine aw_iast dX10_does_89 h (fun T17 h => ?_)
      refine aw_iconst 1 dX10_does_90 rfl ?_
      exact aw_zret dX10_does_91 rfl (Nat.le_refl _) (Nat.le_refl _) h
    · refine aw_iconst 0 dX10_does_75 rfl ?_
      exact aw_zret dX10_does_76 rfl (Nat.le_refl _) (Nat.le_refl _) h
  refine aw_case 4 h (fun h => ?_) (fun c29 h => ?_)
  · refine aw_tswIn 92 (off := 89) dX10_does_3 (by decide) (by decide) (by decide) (by decide) ?_
    refine aw_aload_n 1 dX10_does_92 rfl rfl ?_
    refine aw_bipush 13 dX10_does_93 (by decide) ?_
    refine aw_aload_n 2 dX10_does_95 rfl rfl ?_
    refine aw_iconst 1 dX10_does_96 rfl ?_
    refine aw_iald dX10_does_97 h (fun x19 h => ?_)
    refine aw_iadd dX10_does_98 ?_
    refine aw_iald dX10_does_99 h (fun x20 h => ?_)
    refine aw_istore_n 3 [(3, .int x20), (0, .ref v0), (1, .ref v1), (2, .ref v2)] dX10_does_100 rfl rfl rfl ?_
    refine aw_aload_n 2 dX10_does_101 rfl rfl ?_
    refine aw_bipush 13 dX10_does_102 (by decide) ?_
    refine aw_aload_n 3 dX10_does_104 rfl rfl ?_
    refine aw_iconst 1 dX10_does_105 rfl ?_
    refine aw_iald dX10_does_106 h (fun x21 h => ?_)
    refine aw_iadd dX10_does_107 ?_
    refine aw_aload_n 2 dX10_does_108 rfl rfl ?_
    refine aw_bipush 13 dX10_does_109 (by decide) ?_
    refine aw_aload_n 3 dX10_does_111 rfl rfl ?_
    refine aw_iconst 2 dX10_does_112 rfl ?_
    refine aw_iald dX10_does_113 h (fun x22 h => ?_)
    refine aw_iadd dX10_does_114 ?_
    refine aw_iald dX10_does_115 h (fun x23 h => ?_)
    refine aw_iast dX10_does_116 h (fun T24 h => ?_)
    refine aw_aload_n 2 dX10_does_117 rfl rfl ?_
    refine aw_bipush 13 dX10_does_118 (by decide) ?_
    refine aw_aload_n 3 dX10_does_120 rfl rfl ?_
    refine aw_iconst 2 dX10_does_121 rfl ?_
    refine aw_iald dX10_does_122 h (fun x25 h => ?_)
    refine aw_iadd dX10_does_123 ?_
    refine aw_iload_n 0 dX10_does_124 rfl rfl ?_
    refine aw_iast dX10_does_125 h (fun T26 h => ?_)
    refine aw_aload_n 3 dX10_does_126 rfl rfl ?_
    refine aw_iconst 1 dX10_does_127 rfl ?_
    refine aw_iald dX10_does_128 h (fun x27 h => ?_)
    refine aw_aload_n 3 dX10_does_129 rfl rfl ?_
    refine aw_iconst 2 dX10_does_130 rfl ?_
    refine aw_iald dX10_does_131 h (fun x28 h => ?_)
    refine aw_icmp_eq 139 dX10_does_132 (by decide) h (fun h => ?_) (fun h => ?_)
    · refine aw_iconst 0 dX10_does_139 rfl ?_
      exact aw_zret dX10_does_140 rfl (Nat.le_refl _) (Nat.le_refl _) h
    · refine aw_iconst 1 dX10_does_135 rfl ?_
      refine aw_goto 140 dX10_does_136 (by decide) ?_
      exact aw_zret dX10_does_140 rfl (Nat.le_refl _) (Nat.le_refl _) h
  refine aw_tswOut 141 dX10_does_3 (by have q0 := ax_i32ne c5 (v := 0) (i := 0) (by decide); have q1 := ax_i32ne c10 (v := 1) (i := 1) (by decide); have q2 := ax_i32ne c13 (v := 2) (i := 2) (by decide); have q3 := ax_i32ne c18 (v := 3) (i := 3) (by decide); have q4 := ax_i32ne c29 (v := 4) (i := 4) (by decide); omega) (by decide) ?_
  refine aw_aload_n 1 dX10_does_141 rfl rfl ?_
  refine aw_iconst 2 dX10_does_142 rfl ?_
  refine aw_iald dX10_does_143 h (fun x30 h => ?_)
  refine aw_sipush 999 dX10_does_144 (by decide) ?_
  refine aw_icmp_lt 152 dX10_does_147 (by decide) h (fun h => ?_) (fun h => ?_)
  · refine aw_aload_n 0 dX10_does_152 rfl rfl ?_
    refine aw_aload_n 1 dX10_does_153 rfl rfl ?_
    obtain ⟨hL31, h⟩ := ax_is_spec h
    refine aw_doneV (rest := []) h (fun S9 hF => aw_runV (As := [.ref v1]) (rest := []) (L1_X10_nightEnds N hF) axc10 hL31 wd_1604 wd_1601 wd_1603 wd_65 wd_97 pd_X10_nightEnds rfl (ax_rm (by omega) rfl) ax_hf0 (Nat.le_of_ble_eq_true rfl) rfl dX10_does_154) (fun T32 h => ?_)
    refine aw_iconst 1 dX10_does_157 rfl ?_
    exact aw_zret dX10_does_158 rfl (Nat.le_refl _) (Nat.le_refl _) h
  · refine aw_iconst 0 dX10_does_150 rfl ?_
    exact aw_zret dX10_does_151 rfl (Nat.le_refl _) (Nat.le_refl _) h

theorem dX10_goes_0 : decode cX10_goes 0 = .ok (.iload_n 1, 1) := by decide +kernel
theorem dX10_goes_1 : decode cX10_goes 1 = .ok (.istore_n 3, 1) := by decide +kernel
theorem dX10_goes_2 : decode cX10_goes 2 = .ok (.iload_n 3, 1) := by decide +kernel
theorem dX10_goes_3 : decode cX10_goes 3 = .ok (.iload_n 2, 1) := by decide +kernel
theorem dX10_goes_4 : decode cX10_goes 4 = .ok (.if_icmp .ge 152, 3) := by decide +kernel
theorem dX10_goes_7 : decode cX10_goes 7 = .ok (.aload_n 0, 1) := by decide +kernel
theorem dX10_goes_8 : decode cX10_goes 8 = .ok (.getfield 309, 3) := by decide +kernel
theorem dX10_goes_11 : decode cX10_goes 11 = .ok (.sipush 200, 3) := by decide +kernel
theorem dX10_goes_14 : decode cX10_goes 14 = .ok (.if_icmp .ge 142, 3) := by decide +kernel
theorem dX10_goes_17 : decode cX10_goes 17 = .ok (.aload_n 0, 1) := by decide +kernel
theorem dX10_goes_18 : decode cX10_goes 18 = .ok (.dup, 1) := by decide +kernel
theorem dX10_goes_19 : decode cX10_goes 19 = .ok (.getfield 309, 3) := by decide +kernel
theorem dX10_goes_22 : decode cX10_goes 22 = .ok (.iconst 1, 1) := by decide +kernel
theorem dX10_goes_23 : decode cX10_goes 23 = .ok (.iadd, 1) := by decide +kernel
theorem dX10_goes_24 : decode cX10_goes 24 = .ok (.putfield 309, 3) := by decide +kernel
theorem dX10_goes_27 : decode cX10_goes 27 = .ok (.aload_n 0, 1) := by decide +kernel
theorem dX10_goes_28 : decode cX10_goes 28 = .ok (.getfield 58, 3) := by decide +kernel
theorem dX10_goes_31 : decode cX10_goes 31 = .ok (.iload_n 3, 1) := by decide +kernel
theorem dX10_goes_32 : decode cX10_goes 32 = .ok (.aaload, 1) := by decide +kernel
theorem dX10_goes_33 : decode cX10_goes 33 = .ok (.iconst 0, 1) := by decide +kernel
theorem dX10_goes_34 : decode cX10_goes 34 = .ok (.iaload, 1) := by decide +kernel
theorem dX10_goes_35 : decode cX10_goes 35 = .ok (.bipush 6, 2) := by decide +kernel
theorem dX10_goes_37 : decode cX10_goes 37 = .ok (.if_icmp .ne 53, 3) := by decide +kernel
theorem dX10_goes_40 : decode cX10_goes 40 = .ok (.iconst 0, 1) := by decide +kernel
theorem dX10_goes_41 : decode cX10_goes 41 = .ok (.istore 4, 2) := by decide +kernel
theorem dX10_goes_43 : decode cX10_goes 43 = .ok (.iload 4, 2) := by decide +kernel
theorem dX10_goes_45 : decode cX10_goes 45 = .ok (.aload_n 0, 1) := by decide +kernel
theorem dX10_goes_46 : decode cX10_goes 46 = .ok (.getfield 58, 3) := by decide +kernel
theorem dX10_goes_49 : decode cX10_goes 49 = .ok (.iload_n 3, 1) := by decide +kernel
theorem dX10_goes_50 : decode cX10_goes 50 = .ok (.aaload, 1) := by decide +kernel
theorem dX10_goes_51 : decode cX10_goes 51 = .ok (.iconst 1, 1) := by decide +kernel
theorem dX10_goes_52 : decode cX10_goes 52 = .ok (.iaload, 1) := by decide +kernel
theorem dX10_goes_53 : decode cX10_goes 53 = .ok (.if_icmp .ge 34, 3) := by decide +kernel
theorem dX10_goes_56 : decode cX10_goes 56 = .ok (.aload_n 0, 1) := by decide +kernel
theorem dX10_goes_57 : decode cX10_goes 57 = .ok (.getfield 309, 3) := by decide +kernel
theorem dX10_goes_60 : decode cX10_goes 60 = .ok (.sipush 200, 3) := by decide +kernel
theorem dX10_goes_63 : decode cX10_goes 63 = .ok (.if_icmp .ge 24, 3) := by decide +kernel
theorem dX10_goes_66 : decode cX10_goes 66 = .ok (.aload_n 0, 1) := by decide +kernel
theorem dX10_goes_67 : decode cX10_goes 67 = .ok (.iload_n 3, 1) := by decide +kernel
theorem dX10_goes_68 : decode cX10_goes 68 = .ok (.iconst 1, 1) := by decide +kernel
theorem dX10_goes_69 : decode cX10_goes 69 = .ok (.iadd, 1) := by decide +kernel
theorem dX10_goes_70 : decode cX10_goes 70 = .ok (.aload_n 0, 1) := by decide +kernel
theorem dX10_goes_71 : decode cX10_goes 71 = .ok (.getfield 58, 3) := by decide +kernel
theorem dX10_goes_74 : decode cX10_goes 74 = .ok (.iload_n 3, 1) := by decide +kernel
theorem dX10_goes_75 : decode cX10_goes 75 = .ok (.aaload, 1) := by decide +kernel
theorem dX10_goes_76 : decode cX10_goes 76 = .ok (.iconst 3, 1) := by decide +kernel
theorem dX10_goes_77 : decode cX10_goes 77 = .ok (.iaload, 1) := by decide +kernel
theorem dX10_goes_78 : decode cX10_goes 78 = .ok (.invokevirtual 312, 3) := by decide +kernel
theorem dX10_goes_81 : decode cX10_goes 81 = .ok (.iinc 4 1, 3) := by decide +kernel
theorem dX10_goes_84 : decode cX10_goes 84 = .ok (.goto (-41), 3) := by decide +kernel
theorem dX10_goes_87 : decode cX10_goes 87 = .ok (.goto 57, 3) := by decide +kernel
theorem dX10_goes_90 : decode cX10_goes 90 = .ok (.aload_n 0, 1) := by decide +kernel
theorem dX10_goes_91 : decode cX10_goes 91 = .ok (.aload_n 0, 1) := by decide +kernel
theorem dX10_goes_92 : decode cX10_goes 92 = .ok (.getfield 61, 3) := by decide +kernel
theorem dX10_goes_95 : decode cX10_goes 95 = .ok (.aload_n 0, 1) := by decide +kernel
theorem dX10_goes_96 : decode cX10_goes 96 = .ok (.getfield 58, 3) := by decide +kernel
theorem dX10_goes_99 : decode cX10_goes 99 = .ok (.iload_n 3, 1) := by decide +kernel
theorem dX10_goes_100 : decode cX10_goes 100 = .ok (.aaload, 1) := by decide +kernel
theorem dX10_goes_101 : decode cX10_goes 101 = .ok (.invokevirtual 315, 3) := by decide +kernel
theorem dX10_goes_104 : decode cX10_goes 104 = .ok (.istore 4, 2) := by decide +kernel
theorem dX10_goes_106 : decode cX10_goes 106 = .ok (.aload_n 0, 1) := by decide +kernel
theorem dX10_goes_107 : decode cX10_goes 107 = .ok (.dup, 1) := by decide +kernel
theorem dX10_goes_108 : decode cX10_goes 108 = .ok (.getfield 319, 3) := by decide +kernel
theorem dX10_goes_111 : decode cX10_goes 111 = .ok (.iload 4, 2) := by decide +kernel
theorem dX10_goes_113 : decode cX10_goes 113 = .ok (.ifCond .eq 7, 3) := by decide +kernel
theorem dX10_goes_116 : decode cX10_goes 116 = .ok (.iconst 1, 1) := by decide +kernel
theorem dX10_goes_117 : decode cX10_goes 117 = .ok (.goto 4, 3) := by decide +kernel
theorem dX10_goes_120 : decode cX10_goes 120 = .ok (.iconst 0, 1) := by decide +kernel
theorem dX10_goes_121 : decode cX10_goes 121 = .ok (.iadd, 1) := by decide +kernel
theorem dX10_goes_122 : decode cX10_goes 122 = .ok (.putfield 319, 3) := by decide +kernel
theorem dX10_goes_125 : decode cX10_goes 125 = .ok (.aload_n 0, 1) := by decide +kernel
theorem dX10_goes_126 : decode cX10_goes 126 = .ok (.dup, 1) := by decide +kernel
theorem dX10_goes_127 : decode cX10_goes 127 = .ok (.getfield 223, 3) := by decide +kernel
theorem dX10_goes_130 : decode cX10_goes 130 = .ok (.iload 4, 2) := by decide +kernel
theorem dX10_goes_132 : decode cX10_goes 132 = .ok (.ifCond .eq 7, 3) := by decide +kernel
theorem dX10_goes_135 : decode cX10_goes 135 = .ok (.iconst 0, 1) := by decide +kernel
theorem dX10_goes_136 : decode cX10_goes 136 = .ok (.goto 4, 3) := by decide +kernel
theorem dX10_goes_139 : decode cX10_goes 139 = .ok (.iconst 1, 1) := by decide +kernel
theorem dX10_goes_140 : decode cX10_goes 140 = .ok (.iadd, 1) := by decide +kernel
theorem dX10_goes_141 : decode cX10_goes 141 = .ok (.putfield 223, 3) := by decide +kernel
theorem dX10_goes_144 : decode cX10_goes 144 = .ok (.aload_n 0, 1) := by decide +kernel
theorem dX10_goes_145 : decode cX10_goes 145 = .ok (.getfield 58, 3) := by decide +kernel
theorem dX10_goes_148 : decode cX10_goes 148 = .ok (.iload_n 3, 1) := by decide +kernel
theorem dX10_goes_149 : decode cX10_goes 149 = .ok (.aaload, 1) := by decide +kernel
theorem dX10_goes_150 : decode cX10_goes 150 = .ok (.iconst 3, 1) := by decide +kernel
theorem dX10_goes_151 : decode cX10_goes 151 = .ok (.iaload, 1) := by decide +kernel
theorem dX10_goes_152 : decode cX10_goes 152 = .ok (.istore_n 3, 1) := by decide +kernel
theorem dX10_goes_153 : decode cX10_goes 153 = .ok (.goto (-151), 3) := by decide +kernel
theorem dX10_goes_156 : decode cX10_goes 156 = .ok (.return_, 1) := by decide +kernel
abbrev mt_X10_goes : AxM := (RX10, cX10_goes, 5, none, false, [])
theorem L1_X10_goes_144 {g : AxG} {l : Launch} {S9 : AxS} (N : Nat) (kr : Nat → Int32 → Int32 → AxS → Option (AxS)) (d : Nat) (hkr : ∀ (a0 : Nat) (a1 : Int32) (a2 : Int32) (S : AxS) {S9 : AxS}, kr a0 a1 a2 S = some S9 → AxMet g l yX10_goes cX10_goes 5 none d 0 0 [.ref a0, .int a1, .int a2] S ((.inl none, S9))) (K2 : Nat → Int32 → Int32 → AxS → Option (AxS)) (hK2 : ∀ (v0 : Nat) (v2 : Int32) (v3 : Int32) (S : AxS), K2 v0 v2 v3 S = some S9 → AW g l (axRm (d + 6) 0 0) mt_X10_goes (axMQ g 0 0 (.inl none, S9)) 0 0 S 2 [(0, .ref v0), (2, .int v2), (3, .int v3)] []) (v0 : Nat) (v2 : Int32) (v3 : Int32) (S : AxS) (h : F_X10_goes_144 N kr K2 v0 v2 v3 S = some S9) : AW g l (axRm (d + 6) 0 0) mt_X10_goes (axMQ g 0 0 (.inl none, S9)) 0 0 S 144 [(0, .ref v0), (2, .int v2), (3, .int v3)] [] := by
  unfold F_X10_goes_144 at h
  refine aw_aload_n 0 dX10_goes_144 rfl rfl ?_
  refine aw_getR axc10 25 rfl rfl wd_1310 dX10_goes_145 h (fun a1 h => ?_)
  refine aw_iload_n 2 dX10_goes_148 rfl rfl ?_
  refine aw_aald dX10_goes_149 h (fun a2 h => ?_)
  refine aw_iconst 3 dX10_goes_150 rfl ?_
  refine aw_iald dX10_goes_151 h (fun x3 h => ?_)
  refine aw_istore_n 3 [(3, .int x3), (0, .ref v0), (2, .int v2)] dX10_goes_152 rfl rfl rfl ?_
  refine aw_goto 2 dX10_goes_153 (by decide) ?_
  refine aw_env [(0, .ref v0), (2, .int v2), (3, .int x3)] [1, 2, 0] rfl ?_
  exact hK2 v0 v2 x3 S h
theorem L1_X10_goes_140 {g : AxG} {l : Launch} {S9 : AxS} (N : Nat) (kr : Nat → Int32 → Int32 → AxS → Option (AxS)) (d : Nat) (hkr : ∀ (a0 : Nat) (a1 : Int32) (a2 : Int32) (S : AxS) {S9 : AxS}, kr a0 a1 a2 S = some S9 → AxMet g l yX10_goes cX10_goes 5 none d 0 0 [.ref a0, .int a1, .int a2] S ((.inl none, S9))) (K2 : Nat → Int32 → Int32 → AxS → Option (AxS)) (hK2 : ∀ (v0 : Nat) (v2 : Int32) (v3 : Int32) (S : AxS), K2 v0 v2 v3 S = some S9 → AW g l (axRm (d + 6) 0 0) mt_X10_goes (axMQ g 0 0 (.inl none, S9)) 0 0 S 2 [(0, .ref v0), (2, .int v2), (3, .int v3)] []) (v0 : Nat) (v2 : Int32) (v3 : Int32) (w0 : Int32) (w1 : Int32) (w2 : Nat) (S : AxS) (h : F_X10_goes_140 N kr K2 v0 v2 v3 w0 w1 w2 S = some S9) : AW g l (axRm (d + 6) 0 0) mt_X10_goes (axMQ g 0 0 (.inl none, S9)) 0 0 S 140 [(0, .ref v0), (2, .int v2), (3, .int v3)] [.int w0, .int w1, .ref w2] := by
  unfold F_X10_goes_140 at h
  refine aw_iadd dX10_goes_140 ?_
  refine aw_putI axc10 33 rfl rfl wd_1318 rfl rfl rfl dX10_goes_141 h (fun T1 h => ?_)
  refine aw_env [(0, .ref v0), (2, .int v2), (3, .int v3)] [0, 1, 2] rfl ?_
  exact L1_X10_goes_144 N kr d hkr K2 hK2 v0 v2 v3 T1 h
theorem L1_X10_goes_121 {g : AxG} {l : Launch} {S9 : AxS} (N : Nat) (kr : Nat → Int32 → Int32 → AxS → Option (AxS)) (d : Nat) (hkr : ∀ (a0 : Nat) (a1 : Int32) (a2 : Int32) (S : AxS) {S9 : AxS}, kr a0 a1 a2 S = some S9 → AxMet g l yX10_goes cX10_goes 5 none d 0 0 [.ref a0, .int a1, .int a2] S ((.inl none, S9))) (K2 : Nat → Int32 → Int32 → AxS → Option (AxS)) (hK2 : ∀ (v0 : Nat) (v2 : Int32) (v3 : Int32) (S : AxS), K2 v0 v2 v3 S = some S9 → AW g l (axRm (d + 6) 0 0) mt_X10_goes (axMQ g 0 0 (.inl none, S9)) 0 0 S 2 [(0, .ref v0), (2, .int v2), (3, .int v3)] []) (v0 : Nat) (v2 : Int32) (v3 : Int32) (v4 : Int32) (w0 : Int32) (w1 : Int32) (w2 : Nat) (S : AxS) (h : F_X10_goes_121 N kr K2 v0 v2 v3 v4 w0 w1 w2 S = some S9) : AW g l (axRm (d + 6) 0 0) mt_X10_goes (axMQ g 0 0 (.inl none, S9)) 0 0 S 121 [(0, .ref v0), (2, .int v2), (3, .int v3), (4, .int v4)] [.int w0, .int w1, .ref w2] := by
  unfold F_X10_goes_121 at h
  refine aw_iadd dX10_goes_121 ?_
  refine aw_putI axc10 37 rfl rfl wd_1322 rfl rfl rfl dX10_goes_122 h (fun T1 h => ?_)
  refine aw_aload_n 0 dX10_goes_125 rfl rfl ?_
  refine aw_dup rfl dX10_goes_126 ?_
  refine aw_getI axc10 33 rfl rfl wd_1318 dX10_goes_127 h (fun x2 h => ?_)
  refine aw_iload 3 dX10_goes_130 rfl ?_
  refine aw_if_eq 139 dX10_goes_132 (by decide) h (fun h => ?_) (fun h => ?_)
  · refine aw_iconst 1 dX10_goes_139 rfl ?_
    refine aw_env [(0, .ref v0), (2, .int v2), (3, .int v3)] [0, 1, 2] rfl ?_
    exact L1_X10_goes_140 N kr d hkr K2 hK2 v0 v2 v3 1 x2 v0 T1 h
  · refine aw_iconst 0 dX10_goes_135 rfl ?_
    refine aw_goto 140 dX10_goes_136 (by decide) ?_
    refine aw_env [(0, .ref v0), (2, .int v2), (3, .int v3)] [0, 1, 2] rfl ?_
    exact L1_X10_goes_140 N kr d hkr K2 hK2 v0 v2 v3 0 x2 v0 T1 h
theorem L1_X10_goes_87 {g : AxG} {l : Launch} {S9 : AxS} (N : Nat) (kr : Nat → Int32 → Int32 → AxS → Option (AxS)) (d : Nat) (hkr : ∀ (a0 : Nat) (a1 : Int32) (a2 : Int32) (S : AxS) {S9 : AxS}, kr a0 a1 a2 S = some S9 → AxMet g l yX10_goes cX10_goes 5 none d 0 0 [.ref a0, .int a1, .int a2] S ((.inl none, S9))) (K2 : Nat → Int32 → Int32 → AxS → Option (AxS)) (hK2 : ∀ (v0 : Nat) (v2 : Int32) (v3 : Int32) (S : AxS), K2 v0 v2 v3 S = some S9 → AW g l (axRm (d + 6) 0 0) mt_X10_goes (axMQ g 0 0 (.inl none, S9)) 0 0 S 2 [(0, .ref v0), (2, .int v2), (3, .int v3)] []) (v0 : Nat) (v2 : Int32) (v3 : Int32) (S : AxS) (h : F_X10_goes_87 N kr K2 v0 v2 v3 S = some S9) : AW g l (axRm (d + 6) 0 0) mt_X10_goes (axMQ g 0 0 (.inl none, S9)) 0 0 S 87 [(0, .ref v0), (2, .int v2), (3, .int v3)] [] := by
  unfold F_X10_goes_87 at h
  refine aw_goto 144 dX10_goes_87 (by decide) ?_
  refine aw_env [(0, .ref v0), (2, .int v2), (3, .int v3)] [0, 1, 2] rfl ?_
  exact L1_X10_goes_144 N kr d hkr K2 hK2 v0 v2 v3 S h
theorem L1_X10_goes_43b {g : AxG} {l : Launch} {S9 : AxS} (N : Nat) (kr : Nat → Int32 → Int32 → AxS → Option (AxS)) (d : Nat) (hkr : ∀ (a0 : Nat) (a1 : Int32) (a2 : Int32) (S : AxS) {S9 : AxS}, kr a0 a1 a2 S = some S9 → AxMet g l yX10_goes cX10_goes 5 none d 0 0 [.ref a0, .int a1, .int a2] S ((.inl none, S9))) (K2 : Nat → Int32 → Int32 → AxS → Option (AxS)) (hK2 : ∀ (v0 : Nat) (v2 : Int32) (v3 : Int32) (S : AxS), K2 v0 v2 v3 S = some S9 → AW g l (axRm (d + 6) 0 0) mt_X10_goes (axMQ g 0 0 (.inl none, S9)) 0 0 S 2 [(0, .ref v0), (2, .int v2), (3, .int v3)] []) (K43 : Nat → Int32 → Int32 → Int32 → AxS → Option (AxS)) (hK43 : ∀ (v0 : Nat) (v2 : Int32) (v3 : Int32) (v4 : Int32) (S : AxS), K43 v0 v2 v3 v4 S = some S9 → AW g l (axRm (d + 6) 0 0) mt_X10_goes (axMQ g 0 0 (.inl none, S9)) 0 0 S 43 [(0, .ref v0), (2, .int v2), (3, .int v3), (4, .int v4)] []) (v0 : Nat) (v2 : Int32) (v3 : Int32) (v4 : Int32) (S : AxS) (h : F_X10_goes_43b N kr K2 K43 v0 v2 v3 v4 S = some S9) : AW g l (axRm (d + 6) 0 0) mt_X10_goes (axMQ g 0 0 (.inl none, S9)) 0 0 S 43 [(0, .ref v0), (2, .int v2), (3, .int v3), (4, .int v4)] [] := by
  unfold F_X10_goes_43b at h
  refine aw_iload 3 dX10_goes_43 rfl ?_
  refine aw_aload_n 0 dX10_goes_45 rfl rfl ?_
  refine aw_getR axc10 25 rfl rfl wd_1310 dX10_goes_46 h (fun a1 h => ?_)
  refine aw_iload_n 2 dX10_goes_49 rfl rfl ?_
  refine aw_aald dX10_goes_50 h (fun a2 h => ?_)
  refine aw_iconst 1 dX10_goes_51 rfl ?_
  refine aw_iald dX10_goes_52 h (fun x3 h => ?_)
  refine aw_icmp_ge 87 dX10_goes_53 (by decide) h (fun h => ?_) (fun h => ?_)
  · refine aw_env [(0, .ref v0), (2, .int v2), (3, .int v3)] [0, 1, 2] rfl ?_
    exact L1_X10_goes_87 N kr d hkr K2 hK2 v0 v2 v3 S h
  · refine aw_aload_n 0 dX10_goes_56 rfl rfl ?_
    refine aw_getI axc10 36 rfl rfl wd_1321 dX10_goes_57 h (fun x4 h => ?_)
    refine aw_sipush 200 dX10_goes_60 (by decide) ?_
    refine aw_icmp_ge 87 dX10_goes_63 (by decide) h (fun h => ?_) (fun h => ?_)
    · refine aw_env [(0, .ref v0), (2, .int v2), (3, .int v3)] [0, 1, 2] rfl ?_
      exact L1_X10_goes_87 N kr d hkr K2 hK2 v0 v2 v3 S h
    · refine aw_aload_n 0 dX10_goes_66 rfl rfl ?_
      refine aw_iload_n 2 dX10_goes_67 rfl rfl ?_
      refine aw_iconst 1 dX10_goes_68 rfl ?_
      refine aw_iadd dX10_goes_69 ?_
      refine aw_aload_n 0 dX10_goes_70 rfl rfl ?_
      refine aw_getR axc10 25 rfl rfl wd_1310 dX10_goes_71 h (fun a5 h => ?_)
      refine aw_iload_n 2 dX10_goes_74 rfl rfl ?_
      refine aw_aald dX10_goes_75 h (fun a6 h => ?_)
      refine aw_iconst 3 dX10_goes_76 rfl ?_
      refine aw_iald dX10_goes_77 h (fun x7 h => ?_)
      obtain ⟨hL8, h⟩ := ax_is_spec h
      refine aw_doneV (rest := []) h (fun S9 hF => aw_runV (As := [.int (v3 + 1), .int x7]) (rest := []) (hkr v0 (v3 + 1) x7 S hF) axc10 hL8 wd_1586 wd_1583 wd_1585 wd_62 wd_97 pd_X10_goes rfl (ax_rm (by omega) rfl) ax_hf0 (Nat.le_of_ble_eq_true rfl) rfl dX10_goes_78) (fun T9 h => ?_)
      refine aw_iinc 3 [(4, .int (v4 + 1)), (0, .ref v0), (2, .int v2), (3, .int v3)] (v4 + 1) dX10_goes_81 rfl rfl rfl rfl ?_
      refine aw_goto 43 dX10_goes_84 (by decide) ?_
      refine aw_env [(0, .ref v0), (2, .int v2), (3, .int v3), (4, .int (v4 + 1))] [1, 2, 3, 0] rfl ?_
      exact hK43 v0 v2 v3 (v4 + 1) T9 h
theorem L1_X10_goes_43 {g : AxG} {l : Launch} {S9 : AxS} (N : Nat) (kr : Nat → Int32 → Int32 → AxS → Option (AxS)) (d : Nat) (hkr : ∀ (a0 : Nat) (a1 : Int32) (a2 : Int32) (S : AxS) {S9 : AxS}, kr a0 a1 a2 S = some S9 → AxMet g l yX10_goes cX10_goes 5 none d 0 0 [.ref a0, .int a1, .int a2] S ((.inl none, S9))) (K2 : Nat → Int32 → Int32 → AxS → Option (AxS)) (hK2 : ∀ (v0 : Nat) (v2 : Int32) (v3 : Int32) (S : AxS), K2 v0 v2 v3 S = some S9 → AW g l (axRm (d + 6) 0 0) mt_X10_goes (axMQ g 0 0 (.inl none, S9)) 0 0 S 2 [(0, .ref v0), (2, .int v2), (3, .int v3)] []) : ∀ (n : Nat) (v0 : Nat) (v2 : Int32) (v3 : Int32) (v4 : Int32) (S : AxS), F_X10_goes_43 N kr K2 n v0 v2 v3 v4 S = some S9 → AW g l (axRm (d + 6) 0 0) mt_X10_goes (axMQ g 0 0 (.inl none, S9)) 0 0 S 43 [(0, .ref v0), (2, .int v2), (3, .int v3), (4, .int v4)] [] := by
  intro n
  induction n with
  | zero => intro v0 v2 v3 v4 S h; cases h
  | succ n ih => intro v0 v2 v3 v4 S h; exact L1_X10_goes_43b N kr d hkr K2 hK2 (F_X10_goes_43 N kr K2 n) ih v0 v2 v3 v4 S h
theorem L1_X10_goes_2b {g : AxG} {l : Launch} {S9 : AxS} (N : Nat) (kr : Nat → Int32 → Int32 → AxS → Option (AxS)) (d : Nat) (hkr : ∀ (a0 : Nat) (a1 : Int32) (a2 : Int32) (S : AxS) {S9 : AxS}, kr a0 a1 a2 S = some S9 → AxMet g l yX10_goes cX10_goes 5 none d 0 0 [.ref a0, .int a1, .int a2] S ((.inl none, S9))) (K2 : Nat → Int32 → Int32 → AxS → Option (AxS)) (hK2 : ∀ (v0 : Nat) (v2 : Int32) (v3 : Int32) (S : AxS), K2 v0 v2 v3 S = some S9 → AW g l (axRm (d + 6) 0 0) mt_X10_goes (axMQ g 0 0 (.inl none, S9)) 0 0 S 2 [(0, .ref v0), (2, .int v2), (3, .int v3)] []) (v0 : Nat) (v2 : Int32) (v3 : Int32) (S : AxS) (h : F_X10_goes_2b N kr K2 v0 v2 v3 S = some S9) : AW g l (axRm (d + 6) 0 0) mt_X10_goes (axMQ g 0 0 (.inl none, S9)) 0 0 S 2 [(0, .ref v0), (2, .int v2), (3, .int v3)] [] := by
  unfold F_X10_goes_2b at h
  refine aw_iload_n 2 dX10_goes_2 rfl rfl ?_
  refine aw_iload_n 1 dX10_goes_3 rfl rfl ?_
  refine aw_icmp_ge 156 dX10_goes_4 (by decide) h (fun h => ?_) (fun h => ?_)
  · exact aw_vret dX10_goes_156 rfl (Nat.le_refl _) (Nat.le_refl _) h
  · refine aw_aload_n 0 dX10_goes_7 rfl rfl ?_
    refine aw_getI axc10 36 rfl rfl wd_1321 dX10_goes_8 h (fun x1 h => ?_)
    refine aw_sipush 200 dX10_goes_11 (by decide) ?_
    refine aw_icmp_ge 156 dX10_goes_14 (by decide) h (fun h => ?_) (fun h => ?_)
    · exact aw_vret dX10_goes_156 rfl (Nat.le_refl _) (Nat.le_refl _) h
    · refine aw_aload_n 0 dX10_goes_17 rfl rfl ?_
      refine aw_dup rfl dX10_goes_18 ?_
      refine aw_getI axc10 36 rfl rfl wd_1321 dX10_goes_19 h (fun x2 h => ?_)
      refine aw_iconst 1 dX10_goes_22 rfl ?_
      refine aw_iadd dX10_goes_23 ?_
      refine aw_putI axc10 36 rfl rfl wd_1321 rfl rfl rfl dX10_goes_24 h (fun T3 h => ?_)
      refine aw_aload_n 0 dX10_goes_27 rfl rfl ?_
      refine aw_getR axc10 25 rfl rfl wd_1310 dX10_goes_28 h (fun a4 h => ?_)
      refine aw_iload_n 2 dX10_goes_31 rfl rfl ?_
      refine aw_aald dX10_goes_32 h (fun a5 h => ?_)
      refine aw_iconst 0 dX10_goes_33 rfl ?_
      refine aw_iald dX10_goes_34 h (fun x6 h => ?_)
      refine aw_bipush 6 dX10_goes_35 (by decide) ?_
      refine aw_icmp_ne 90 dX10_goes_37 (by decide) h (fun h => ?_) (fun h => ?_)
      · refine aw_aload_n 0 dX10_goes_90 rfl rfl ?_
        refine aw_aload_n 0 dX10_goes_91 rfl rfl ?_
        refine aw_getR axc10 27 rfl rfl wd_1312 dX10_goes_92 h (fun a7 h => ?_)
        refine aw_aload_n 0 dX10_goes_95 rfl rfl ?_
        refine aw_getR axc10 25 rfl rfl wd_1310 dX10_goes_96 h (fun a8 h => ?_)
        refine aw_iload_n 2 dX10_goes_99 rfl rfl ?_
        refine aw_aald dX10_goes_100 h (fun a9 h => ?_)
        obtain ⟨hL10, h⟩ := ax_is_spec h
        refine aw_doneI (rest := []) h (fun r9 S9 hF => aw_runV (As := [.ref a7, .ref a9]) (rest := []) (L1_X10_does N hF) axc10 hL10 wd_1590 wd_1587 wd_1589 wd_63 wd_97 pd_X10_does rfl (ax_rm (by omega) rfl) ax_hf0 (Nat.le_of_ble_eq_true rfl) rfl dX10_goes_101) (fun x12 T11 h => ?_)
        refine aw_istore [(4, .int x12), (0, .ref v0), (2, .int v2), (3, .int v3)] dX10_goes_104 rfl rfl ?_
        refine aw_aload_n 1 dX10_goes_106 rfl rfl ?_
        refine aw_dup rfl dX10_goes_107 ?_
        refine aw_getI axc10 37 rfl rfl wd_1322 dX10_goes_108 h (fun x13 h => ?_)
        refine aw_iload 0 dX10_goes_111 rfl ?_
        refine aw_if_eq 120 dX10_goes_113 (by decide) h (fun h => ?_) (fun h => ?_)
        · refine aw_iconst 0 dX10_goes_120 rfl ?_
          refine aw_env [(0, .ref v0), (2, .int v2), (3, .int v3), (4, .int x12)] [1, 2, 3, 0] rfl ?_
          exact L1_X10_goes_121 N kr d hkr K2 hK2 v0 v2 v3 x12 0 x13 v0 T11 h
        · refine aw_iconst 1 dX10_goes_116 rfl ?_
          refine aw_goto 121 dX10_goes_117 (by decide) ?_
          refine aw_env [(0, .ref v0), (2, .int v2), (3, .int v3), (4, .int x12)] [1, 2, 3, 0] rfl ?_
          exact L1_X10_goes_121 N kr d hkr K2 hK2 v0 v2 v3 x12 1 x13 v0 T11 h
      · refine aw_iconst 0 dX10_goes_40 rfl ?_
        refine aw_istore [(4, .int 0), (0, .ref v0), (2, .int v2), (3, .int v3)] dX10_goes_41 rfl rfl ?_
        refine aw_env [(0, .ref v0), (2, .int v2), (3, .int v3), (4, .int 0)] [1, 2, 3, 0] rfl ?_
        exact L1_X10_goes_43 N kr d hkr K2 hK2 N v0 v2 v3 0 T3 h
theorem L1_X10_goes_2 {g : AxG} {l : Launch} {S9 : AxS} (N : Nat) (kr : Nat → Int32 → Int32 → AxS → Option (AxS)) (d : Nat) (hkr : ∀ (a0 : Nat) (a1 : Int32) (a2 : Int32) (S : AxS) {S9 : AxS}, kr a0 a1 a2 S = some S9 → AxMet g l yX10_goes cX10_goes 5 none d 0 0 [.ref a0, .int a1, .int a2] S ((.inl none, S9)))  : ∀ (n : Nat) (v0 : Nat) (v2 : Int32) (v3 : Int32) (S : AxS), F_X10_goes_2 N kr  n v0 v2 v3 S = some S9 → AW g l (axRm (d + 6) 0 0) mt_X10_goes (axMQ g 0 0 (.inl none, S9)) 0 0 S 2 [(0, .ref v0), (2, .int v2), (3, .int v3)] [] := by
  intro n
  induction n with
  | zero => intro v0 v2 v3 S h; cases h
  | succ n ih => intro v0 v2 v3 S h; exact L1_X10_goes_2b N kr d hkr (F_X10_goes_2 N kr  n) ih v0 v2 v3 S h
theorem L1_X10_goes {g : AxG} {l : Launch} (N : Nat) (kr : Nat → Int32 → Int32 → AxS → Option (AxS)) (d : Nat) (hkr : ∀ (a0 : Nat) (a1 : Int32) (a2 : Int32) (S : AxS) {S9 : AxS}, kr a0 a1 a2 S = some S9 → AxMet g l yX10_goes cX10_goes 5 none d 0 0 [.ref a0, .int a1, .int a2] S ((.inl none, S9))) {v0 : Nat} {v1 : Int32} {v2 : Int32} {S : AxS} {S9 : AxS} (h : F_X10_goes N kr v0 v1 v2 S = some S9) : AxMet g l yX10_goes cX10_goes 5 none (d + 6) 0 0 [.ref v0, .int v1, .int v2] S ((.inl none, S9)) := by
  refine ax_met (own := RX10) (ini := false) (by decide +kernel) rfl (fun h => nomatch h) rfl ?_
  show AW g l (axRm (d + 6) 0 0) mt_X10_goes (axMQ g 0 0 (.inl none, S9)) 0 0 S 0 [(0, .ref v0), (1, .int v1), (2, .int v2)] []
  unfold F_X10_goes at h
  refine aw_iload_n 1 dX10_goes_0 rfl rfl ?_
  refine aw_istore_n 3 [(3, .int v1), (0, .ref v0), (1, .int v1), (2, .int v2)] dX10_goes_1 rfl rfl rfl ?_
  refine aw_env [(0, .ref v0), (2, .int v2), (3, .int v1)] [1, 3, 0] rfl ?_
  exact L1_X10_goes_2 N kr d hkr  N v0 v2 v1 S h
theorem L1GG_X10_goes {g : AxG} {l : Launch} (N : Nat) : ∀ (n : Nat) (v0 : Nat) (v1 : Int32) (v2 : Int32) (S : AxS) {S9 : AxS}, GG_X10_goes N n v0 v1 v2 S = some S9 → AxMet g l yX10_goes cX10_goes 5 none (6 * n) 0 0 [.ref v0, .int v1, .int v2] S ((.inl none, S9)) := by
  intro n
  induction n with
  | zero => intro v0 v1 v2 S S9 h; cases h
  | succ n ih =>
    intro v0 v1 v2 S S9 h
    have h9 := L1_X10_goes (g := g) (l := l) N (GG_X10_goes N n) (6 * n) (fun a0 a1 a2 S S9 h => ih a0 a1 a2 S h) h
    exact h9
theorem L1G_X10_goes {g : AxG} {l : Launch} (N : Nat) {v0 : Nat} {v1 : Int32} {v2 : Int32} {S : AxS} {S9 : AxS} (h : G_X10_goes N v0 v1 v2 S = some S9) : AxMet g l yX10_goes cX10_goes 5 none (60) 0 0 [.ref v0, .int v1, .int v2] S ((.inl none, S9)) := L1GG_X10_goes N 10 v0 v1 v2 S h


theorem dX10_work_0 : decode cX10_work 0 = .ok (.aload_n 0, 1) := by decide +kernel
theorem dX10_work_1 : decode cX10_work 1 = .ok (.iconst 0, 1) := by decide +kernel
theorem dX10_work_2 : decode cX10_work 2 = .ok (.putfield 104, 3) := by decide +kernel
theorem dX10_work_5 : decode cX10_work 5 = .ok (.aload_n 0, 1) := by decide +kernel
theorem dX10_work_6 : decode cX10_work 6 = .ok (.iload_n 1, 1) := by decide +kernel
theorem dX10_work_7 : decode cX10_work 7 = .ok (.iconst 0, 1) := by decide +kernel
theorem dX10_work_8 : decode cX10_work 8 = .ok (.aload_n 0, 1) := by decide +kernel
theorem dX10_work_9 : decode cX10_work 9 = .ok (.getfield 107, 3) := by decide +kernel
theorem dX10_work_12 : decode cX10_work 12 = .ok (.invokestatic 138, 3) := by decide +kernel
theorem dX10_work_15 : decode cX10_work 15 = .ok (.ifCond .eq 10, 3) := by decide +kernel
theorem dX10_work_18 : decode cX10_work 18 = .ok (.iload_n 1, 1) := by decide +kernel
theorem dX10_work_19 : decode cX10_work 19 = .ok (.sipush 150, 3) := by decide +kernel
theorem dX10_work_22 : decode cX10_work 22 = .ok (.if_icmp .le 7, 3) := by decide +kernel
theorem dX10_work_25 : decode cX10_work 25 = .ok (.iconst 1, 1) := by decide +kernel
theorem dX10_work_26 : decode cX10_work 26 = .ok (.goto 4, 3) := by decide +kernel
theorem dX10_work_29 : decode cX10_work 29 = .ok (.iconst 0, 1) := by decide +kernel
theorem dX10_work_30 : decode cX10_work 30 = .ok (.iconst 1, 1) := by decide +kernel
theorem dX10_work_31 : decode cX10_work 31 = .ok (.iconst 1, 1) := by decide +kernel
theorem dX10_work_32 : decode cX10_work 32 = .ok (.invokevirtual 193, 3) := by decide +kernel
theorem dX10_work_35 : decode cX10_work 35 = .ok (.ifCond .eq 5, 3) := by decide +kernel
theorem dX10_work_38 : decode cX10_work 38 = .ok (.iconst 0, 1) := by decide +kernel
theorem dX10_work_39 : decode cX10_work 39 = .ok (.ireturn, 1) := by decide +kernel
theorem dX10_work_40 : decode cX10_work 40 = .ok (.aload_n 0, 1) := by decide +kernel
theorem dX10_work_41 : decode cX10_work 41 = .ok (.getfield 220, 3) := by decide +kernel
theorem dX10_work_44 : decode cX10_work 44 = .ok (.bipush 16, 2) := by decide +kernel
theorem dX10_work_46 : decode cX10_work 46 = .ok (.if_icmp .ne 16, 3) := by decide +kernel
theorem dX10_work_49 : decode cX10_work 49 = .ok (.aload_n 0, 1) := by decide +kernel
theorem dX10_work_50 : decode cX10_work 50 = .ok (.iconst 0, 1) := by decide +kernel
theorem dX10_work_51 : decode cX10_work 51 = .ok (.putfield 107, 3) := by decide +kernel
theorem dX10_work_54 : decode cX10_work 54 = .ok (.aload_n 0, 1) := by decide +kernel
theorem dX10_work_55 : decode cX10_work 55 = .ok (.iconst (-1), 1) := by decide +kernel
theorem dX10_work_56 : decode cX10_work 56 = .ok (.putfield 9, 3) := by decide +kernel
theorem dX10_work_59 : decode cX10_work 59 = .ok (.bipush (-20), 2) := by decide +kernel
theorem dX10_work_61 : decode cX10_work 61 = .ok (.ireturn, 1) := by decide +kernel
theorem dX10_work_62 : decode cX10_work 62 = .ok (.aload_n 0, 1) := by decide +kernel
theorem dX10_work_63 : decode cX10_work 63 = .ok (.iload_n 1, 1) := by decide +kernel
theorem dX10_work_64 : decode cX10_work 64 = .ok (.invokevirtual 197, 3) := by decide +kernel
theorem dX10_work_67 : decode cX10_work 67 = .ok (.aload_n 0, 1) := by decide +kernel
theorem dX10_work_68 : decode cX10_work 68 = .ok (.iconst 0, 1) := by decide +kernel
theorem dX10_work_69 : decode cX10_work 69 = .ok (.putfield 267, 3) := by decide +kernel
theorem dX10_work_72 : decode cX10_work 72 = .ok (.aload_n 0, 1) := by decide +kernel
theorem dX10_work_73 : decode cX10_work 73 = .ok (.getfield 120, 3) := by decide +kernel
theorem dX10_work_76 : decode cX10_work 76 = .ok (.ifCond .ne 25, 3) := by decide +kernel
theorem dX10_work_79 : decode cX10_work 79 = .ok (.aload_n 0, 1) := by decide +kernel
theorem dX10_work_80 : decode cX10_work 80 = .ok (.getfield 113, 3) := by decide +kernel
theorem dX10_work_83 : decode cX10_work 83 = .ok (.aload_n 0, 1) := by decide +kernel
theorem dX10_work_84 : decode cX10_work 84 = .ok (.getfield 110, 3) := by decide +kernel
theorem dX10_work_87 : decode cX10_work 87 = .ok (.if_icmp .ge 14, 3) := by decide +kernel
theorem dX10_work_90 : decode cX10_work 90 = .ok (.aload_n 0, 1) := by decide +kernel
theorem dX10_work_91 : decode cX10_work 91 = .ok (.invokevirtual 270, 3) := by decide +kernel
theorem dX10_work_94 : decode cX10_work 94 = .ok (.aload_n 0, 1) := by decide +kernel
theorem dX10_work_95 : decode cX10_work 95 = .ok (.invokevirtual 126, 3) := by decide +kernel
theorem dX10_work_98 : decode cX10_work 98 = .ok (.goto (-26), 3) := by decide +kernel
theorem dX10_work_101 : decode cX10_work 101 = .ok (.aload_n 0, 1) := by decide +kernel
theorem dX10_work_102 : decode cX10_work 102 = .ok (.getfield 120, 3) := by decide +kernel
theorem dX10_work_105 : decode cX10_work 105 = .ok (.ifCond .eq 8, 3) := by decide +kernel
theorem dX10_work_108 : decode cX10_work 108 = .ok (.aload_n 0, 1) := by decide +kernel
theorem dX10_work_109 : decode cX10_work 109 = .ok (.invokevirtual 203, 3) := by decide +kernel
theorem dX10_work_112 : decode cX10_work 112 = .ok (.ireturn, 1) := by decide +kernel
theorem dX10_work_113 : decode cX10_work 113 = .ok (.aload_n 0, 1) := by decide +kernel
theorem dX10_work_114 : decode cX10_work 114 = .ok (.iconst (-1), 1) := by decide +kernel
theorem dX10_work_115 : decode cX10_work 115 = .ok (.putfield 9, 3) := by decide +kernel
theorem dX10_work_118 : decode cX10_work 118 = .ok (.aload_n 0, 1) := by decide +kernel
theorem dX10_work_119 : decode cX10_work 119 = .ok (.getfield 61, 3) := by decide +kernel
theorem dX10_work_122 : decode cX10_work 122 = .ok (.aload_n 0, 1) := by decide +kernel
theorem dX10_work_123 : decode cX10_work 123 = .ok (.getfield 67, 3) := by decide +kernel
theorem dX10_work_126 : decode cX10_work 126 = .ok (.aload_n 0, 1) := by decide +kernel
theorem dX10_work_127 : decode cX10_work 127 = .ok (.getfield 220, 3) := by decide +kernel
theorem dX10_work_130 : decode cX10_work 130 = .ok (.aaload, 1) := by decide +kernel
theorem dX10_work_131 : decode cX10_work 131 = .ok (.invokestatic 322, 3) := by decide +kernel
theorem dX10_work_134 : decode cX10_work 134 = .ok (.aload_n 0, 1) := by decide +kernel
theorem dX10_work_135 : decode cX10_work 135 = .ok (.dup, 1) := by decide +kernel
theorem dX10_work_136 : decode cX10_work 136 = .ok (.getfield 220, 3) := by decide +kernel
theorem dX10_work_139 : decode cX10_work 139 = .ok (.iconst 1, 1) := by decide +kernel
theorem dX10_work_140 : decode cX10_work 140 = .ok (.iadd, 1) := by decide +kernel
theorem dX10_work_141 : decode cX10_work 141 = .ok (.putfield 220, 3) := by decide +kernel
theorem dX10_work_144 : decode cX10_work 144 = .ok (.aload_n 0, 1) := by decide +kernel
theorem dX10_work_145 : decode cX10_work 145 = .ok (.iconst 0, 1) := by decide +kernel
theorem dX10_work_146 : decode cX10_work 146 = .ok (.putfield 309, 3) := by decide +kernel
theorem dX10_work_149 : decode cX10_work 149 = .ok (.aload_n 0, 1) := by decide +kernel
theorem dX10_work_150 : decode cX10_work 150 = .ok (.iconst 0, 1) := by decide +kernel
theorem dX10_work_151 : decode cX10_work 151 = .ok (.putfield 319, 3) := by decide +kernel
theorem dX10_work_154 : decode cX10_work 154 = .ok (.aload_n 0, 1) := by decide +kernel
theorem dX10_work_155 : decode cX10_work 155 = .ok (.iconst 0, 1) := by decide +kernel
theorem dX10_work_156 : decode cX10_work 156 = .ok (.putfield 223, 3) := by decide +kernel
theorem dX10_work_159 : decode cX10_work 159 = .ok (.aload_n 0, 1) := by decide +kernel
theorem dX10_work_160 : decode cX10_work 160 = .ok (.iconst 0, 1) := by decide +kernel
theorem dX10_work_161 : decode cX10_work 161 = .ok (.aload_n 0, 1) := by decide +kernel
theorem dX10_work_162 : decode cX10_work 162 = .ok (.getfield 267, 3) := by decide +kernel
theorem dX10_work_165 : decode cX10_work 165 = .ok (.invokevirtual 312, 3) := by decide +kernel
theorem dX10_work_168 : decode cX10_work 168 = .ok (.aload_n 0, 1) := by decide +kernel
theorem dX10_work_169 : decode cX10_work 169 = .ok (.getfield 319, 3) := by decide +kernel
theorem dX10_work_172 : decode cX10_work 172 = .ok (.ireturn, 1) := by decide +kernel
abbrev mt_X10_work : AxM := (RX10, cX10_work, 2, (some .int), false, [])
theorem L1_X10_work_101 {g : AxG} {l : Launch} {r9 : Int32} {S9 : AxS} (N : Nat)  (v0 : Nat) (S : AxS) (h : F_X10_work_101 N  v0 S = some ((r9, S9))) : AW g l (axRm (61) 0 0) mt_X10_work (axMQ g 0 0 (.inl (some (.int r9)), S9)) 0 0 S 101 [(0, .ref v0)] [] := by
  unfold F_X10_work_101 at h
  refine aw_aload_n 0 dX10_work_101 rfl rfl ?_
  refine aw_getI axc10 5 rfl rfl wd_1290 dX10_work_102 h (fun x1 h => ?_)
  refine aw_if_eq 113 dX10_work_105 (by decide) h (fun h => ?_) (fun h => ?_)
  · refine aw_aload_n 0 dX10_work_113 rfl rfl ?_
    refine aw_iconst (-1) dX10_work_114 rfl ?_
    refine aw_putI axc10 3 rfl rfl wd_1288 rfl rfl rfl dX10_work_115 h (fun T2 h => ?_)
    refine aw_aload_n 0 dX10_work_118 rfl rfl ?_
    refine aw_getR axc10 27 rfl rfl wd_1312 dX10_work_119 h (fun a3 h => ?_)
    refine aw_aload_n 0 dX10_work_122 rfl rfl ?_
    refine aw_getR axc10 29 rfl rfl wd_1314 dX10_work_123 h (fun a4 h => ?_)
    refine aw_aload_n 0 dX10_work_126 rfl rfl ?_
    refine aw_getI axc10 32 rfl rfl wd_1317 dX10_work_127 h (fun x5 h => ?_)
    refine aw_aald dX10_work_130 h (fun a6 h => ?_)
    refine aw_doneV (rest := []) h (fun S9 hF => aw_runS (As := [.ref a3, .ref a6]) (rest := []) (L1_X10_copies N hF) wd_1582 wd_1580 wd_1581 wd_97 pd_X10_copies.2 rfl (ax_rm (by omega) rfl) ax_hf0 (Nat.le_of_ble_eq_true rfl) rfl dX10_work_131) (fun T7 h => ?_)
    refine aw_aload_n 0 dX10_work_134 rfl rfl ?_
    refine aw_dup rfl dX10_work_135 ?_
    refine aw_getI axc10 32 rfl rfl wd_1317 dX10_work_136 h (fun x9 h => ?_)
    refine aw_iconst 1 dX10_work_139 rfl ?_
    refine aw_iadd dX10_work_140 ?_
    refine aw_putI axc10 32 rfl rfl wd_1317 rfl rfl rfl dX10_work_141 h (fun T10 h => ?_)
    refine aw_aload_n 0 dX10_work_144 rfl rfl ?_
    refine aw_iconst 0 dX10_work_145 rfl ?_
    refine aw_putI axc10 36 rfl rfl wd_1321 rfl rfl rfl dX10_work_146 h (fun T11 h => ?_)
    refine aw_aload_n 0 dX10_work_149 rfl rfl ?_
    refine aw_iconst 0 dX10_work_150 rfl ?_
    refine aw_putI axc10 37 rfl rfl wd_1322 rfl rfl rfl dX10_work_151 h (fun T12 h => ?_)
    refine aw_aload_n 0 dX10_work_154 rfl rfl ?_
    refine aw_iconst 0 dX10_work_155 rfl ?_
    refine aw_putI axc10 33 rfl rfl wd_1318 rfl rfl rfl dX10_work_156 h (fun T13 h => ?_)
    refine aw_aload_n 0 dX10_work_159 rfl rfl ?_
    refine aw_iconst 0 dX10_work_160 rfl ?_
    refine aw_aload_n 0 dX10_work_161 rfl rfl ?_
    refine aw_getI axc10 26 rfl rfl wd_1311 dX10_work_162 h (fun x14 h => ?_)
    obtain ⟨hL15, h⟩ := ax_is_spec h
    refine aw_doneV (rest := []) h (fun S9 hF => aw_runV (As := [.int 0, .int x14]) (rest := []) (L1G_X10_goes N hF) axc10 hL15 wd_1586 wd_1583 wd_1585 wd_62 wd_97 pd_X10_goes rfl (ax_rm (by omega) rfl) ax_hf0 (Nat.le_of_ble_eq_true rfl) rfl dX10_work_165) (fun T16 h => ?_)
    refine aw_aload_n 0 dX10_work_168 rfl rfl ?_
    refine aw_getI axc10 37 rfl rfl wd_1322 dX10_work_169 h (fun x18 h => ?_)
    exact aw_iret dX10_work_172 rfl (Nat.le_refl _) (Nat.le_refl _) h
  · refine aw_aload_n 0 dX10_work_108 rfl rfl ?_
    obtain ⟨hL19, h⟩ := ax_is_spec h
    refine aw_doneI (rest := []) h (fun r9 S9 hF => aw_runV (As := []) (rest := []) (L1_X10_ends N hF) axc10 hL19 wd_1523 wd_1520 wd_1522 wd_51 wd_97 pd_X10_ends rfl (ax_rm (by omega) rfl) ax_hf0 (Nat.le_of_ble_eq_true rfl) rfl dX10_work_109) (fun x21 T20 h => ?_)
    exact aw_iret dX10_work_112 rfl (Nat.le_refl _) (Nat.le_refl _) h
theorem L1_X10_work_72b {g : AxG} {l : Launch} {r9 : Int32} {S9 : AxS} (N : Nat) (K72 : Nat → AxS → Option (Int32 × AxS)) (hK72 : ∀ (v0 : Nat) (S : AxS), K72 v0 S = some ((r9, S9)) → AW g l (axRm (61) 0 0) mt_X10_work (axMQ g 0 0 (.inl (some (.int r9)), S9)) 0 0 S 72 [(0, .ref v0)] []) (v0 : Nat) (S : AxS) (h : F_X10_work_72b N K72 v0 S = some ((r9, S9))) : AW g l (axRm (61) 0 0) mt_X10_work (axMQ g 0 0 (.inl (some (.int r9)), S9)) 0 0 S 72 [(0, .ref v0)] [] := by
  unfold F_X10_work_72b at h
  refine aw_aload_n 0 dX10_work_72 rfl rfl ?_
  refine aw_getI axc10 5 rfl rfl wd_1290 dX10_work_73 h (fun x1 h => ?_)
  refine aw_if_ne 101 dX10_work_76 (by decide) h (fun h => ?_) (fun h => ?_)
  · refine aw_env [(0, .ref v0)] [0] rfl ?_
    exact L1_X10_work_101 N  v0 S h
  · refine aw_aload_n 0 dX10_work_79 rfl rfl ?_
    refine aw_getI axc10 4 rfl rfl wd_1289 dX10_work_80 h (fun x2 h => ?_)
    refine aw_aload_n 0 dX10_work_83 rfl rfl ?_
    refine aw_getI axc10 2 rfl rfl wd_1287 dX10_work_84 h (fun x3 h => ?_)
    refine aw_icmp_ge 101 dX10_work_87 (by decide) h (fun h => ?_) (fun h => ?_)
    · refine aw_env [(0, .ref v0)] [0] rfl ?_
      exact L1_X10_work_101 N  v0 S h
    · refine aw_aload_n 0 dX10_work_90 rfl rfl ?_
      obtain ⟨hL4, h⟩ := ax_is_spec h
      refine aw_doneV (rest := []) h (fun S9 hF => aw_runV (As := []) (rest := []) (L1G_X10_readsStep N hF) axc10 hL4 wd_1575 wd_1572 wd_1574 wd_60 wd_97 pd_X10_readsStep rfl (ax_rm (by omega) rfl) ax_hf0 (Nat.le_of_ble_eq_true rfl) rfl dX10_work_91) (fun T5 h => ?_)
      refine aw_aload_n 0 dX10_work_94 rfl rfl ?_
      obtain ⟨hL7, h⟩ := ax_is_spec h
      refine aw_doneV (rest := []) h (fun S9 hF => aw_runV (As := []) (rest := []) (L1_X10_blanks N hF) axc10 hL7 wd_1460 wd_1457 wd_1459 wd_40 wd_97 pd_X10_blanks rfl (ax_rm (by omega) rfl) ax_hf0 (Nat.le_of_ble_eq_true rfl) rfl dX10_work_95) (fun T8 h => ?_)
      refine aw_goto 72 dX10_work_98 (by decide) ?_
      refine aw_env [(0, .ref v0)] [0] rfl ?_
      exact hK72 v0 T8 h
theorem L1_X10_work_72 {g : AxG} {l : Launch} {r9 : Int32} {S9 : AxS} (N : Nat)  : ∀ (n : Nat) (v0 : Nat) (S : AxS), F_X10_work_72 N  n v0 S = some ((r9, S9)) → AW g l (axRm (61) 0 0) mt_X10_work (axMQ g 0 0 (.inl (some (.int r9)), S9)) 0 0 S 72 [(0, .ref v0)] [] := by
  intro n
  induction n with
  | zero => intro v0 S h; cases h
  | succ n ih => intro v0 S h; exact L1_X10_work_72b N (F_X10_work_72 N  n) ih v0 S h
theorem L1_X10_work_30 {g : AxG} {l : Launch} {r9 : Int32} {S9 : AxS} (N : Nat)  (v0 : Nat) (v1 : Int32) (w0 : Int32) (w1 : Nat) (S : AxS) (h : F_X10_work_30 N  v0 v1 w0 w1 S = some ((r9, S9))) : AW g l (axRm (61) 0 0) mt_X10_work (axMQ g 0 0 (.inl (some (.int r9)), S9)) 0 0 S 30 [(0, .ref v0), (1, .int v1)] [.int w0, .ref w1] := by
  unfold F_X10_work_30 at h
  refine aw_iconst 1 dX10_work_30 rfl ?_
  refine aw_iconst 1 dX10_work_31 rfl ?_
  obtain ⟨hL1, h⟩ := ax_is_spec h
  refine aw_doneI (rest := []) h (fun r9 S9 hF => aw_runV (As := [.int w0, .int 1, .int 1]) (rest := []) (L1_X10_bad N hF) axc10 hL1 wd_1452 wd_1449 wd_1451 wd_38 wd_97 pd_X10_bad rfl (ax_rm (by omega) rfl) ax_hf0 (Nat.le_of_ble_eq_true rfl) rfl dX10_work_32) (fun x3 T2 h => ?_)
  refine aw_if_eq 40 dX10_work_35 (by decide) h (fun h => ?_) (fun h => ?_)
  · refine aw_aload_n 0 dX10_work_40 rfl rfl ?_
    refine aw_getI axc10 32 rfl rfl wd_1317 dX10_work_41 h (fun x4 h => ?_)
    refine aw_bipush 16 dX10_work_44 (by decide) ?_
    refine aw_icmp_ne 62 dX10_work_46 (by decide) h (fun h => ?_) (fun h => ?_)
    · refine aw_aload_n 0 dX10_work_62 rfl rfl ?_
      refine aw_iload_n 1 dX10_work_63 rfl rfl ?_
      obtain ⟨hL5, h⟩ := ax_is_spec h
      refine aw_doneV (rest := []) h (fun S9 hF => aw_runV (As := [.int v1]) (rest := []) (L1_X10_starts N hF) axc10 hL5 wd_1456 wd_1453 wd_1455 wd_39 wd_97 pd_X10_starts rfl (ax_rm (by omega) rfl) ax_hf0 (Nat.le_of_ble_eq_true rfl) rfl dX10_work_64) (fun T6 h => ?_)
      refine aw_aload_n 0 dX10_work_67 rfl rfl ?_
      refine aw_iconst 0 dX10_work_68 rfl ?_
      refine aw_putI axc10 26 rfl rfl wd_1311 rfl rfl rfl dX10_work_69 h (fun T8 h => ?_)
      refine aw_env [(0, .ref v0)] [0] rfl ?_
      exact L1_X10_work_72 N  N v0 T8 h
    · refine aw_aload_n 0 dX10_work_49 rfl rfl ?_
      refine aw_iconst 0 dX10_work_50 rfl ?_
      refine aw_putI axc10 1 rfl rfl wd_1286 rfl rfl rfl dX10_work_51 h (fun T9 h => ?_)
      refine aw_aload_n 0 dX10_work_54 rfl rfl ?_
      refine aw_iconst (-1) dX10_work_55 rfl ?_
      refine aw_putI axc10 3 rfl rfl wd_1288 rfl rfl rfl dX10_work_56 h (fun T10 h => ?_)
      refine aw_bipush (-20) dX10_work_59 (by decide) ?_
      exact aw_iret dX10_work_61 rfl (Nat.le_refl _) (Nat.le_refl _) h
  · refine aw_iconst 0 dX10_work_38 rfl ?_
    exact aw_iret dX10_work_39 rfl (Nat.le_refl _) (Nat.le_refl _) h
theorem L1_X10_work_25 {g : AxG} {l : Launch} {r9 : Int32} {S9 : AxS} (N : Nat)  (v0 : Nat) (v1 : Int32) (w0 : Nat) (S : AxS) (h : F_X10_work_25 N  v0 v1 w0 S = some ((r9, S9))) : AW g l (axRm (61) 0 0) mt_X10_work (axMQ g 0 0 (.inl (some (.int r9)), S9)) 0 0 S 25 [(0, .ref v0), (1, .int v1)] [.ref w0] := by
  unfold F_X10_work_25 at h
  refine aw_iconst 1 dX10_work_25 rfl ?_
  refine aw_goto 30 dX10_work_26 (by decide) ?_
  refine aw_env [(0, .ref v0), (1, .int v1)] [0, 1] rfl ?_
  exact L1_X10_work_30 N  v0 v1 1 w0 S h
theorem L1_X10_work {g : AxG} {l : Launch} (N : Nat) {v0 : Nat} {v1 : Int32} {S : AxS} {r9 : Int32} {S9 : AxS} (h : F_X10_work N v0 v1 S = some ((r9, S9))) : AxMet g l yX10_work cX10_work 2 (some .int) (61) 0 0 [.ref v0, .int v1] S ((.inl (some (.int r9)), S9)) := by
  refine ax_met (own := RX10) (ini := false) (by decide +kernel) rfl (fun h => nomatch h) rfl ?_
  show AW g l (axRm (61) 0 0) mt_X10_work (axMQ g 0 0 (.inl (some (.int r9)), S9)) 0 0 S 0 [(0, .ref v0), (1, .int v1)] []
  unfold F_X10_work at h
  refine aw_aload_n 0 dX10_work_0 rfl rfl ?_
  refine aw_iconst 0 dX10_work_1 rfl ?_
  refine aw_putI axc10 0 rfl rfl wd_1285 rfl rfl rfl dX10_work_2 h (fun T1 h => ?_)
  refine aw_aload_n 0 dX10_work_5 rfl rfl ?_
  refine aw_iload_n 1 dX10_work_6 rfl rfl ?_
  refine aw_iconst 0 dX10_work_7 rfl ?_
  refine aw_aload_n 0 dX10_work_8 rfl rfl ?_
  refine aw_getI axc10 1 rfl rfl wd_1286 dX10_work_9 h (fun x2 h => ?_)
  refine aw_doneI (rest := [.ref v0]) h (fun r9 S9 hF => aw_runS (As := [.int v1, .int 0, .int x2]) (rest := [.ref v0]) (L1_X10_in N hF) wd_1448 wd_1446 wd_1447 wd_97 pd_X10_in.2 rfl (ax_rm (by omega) rfl) ax_hf0 (Nat.le_of_ble_eq_true rfl) rfl dX10_work_12) (fun x4 T3 h => ?_)
  refine aw_if_eq 25 dX10_work_15 (by decide) h (fun h => ?_) (fun h => ?_)
  · refine aw_env [(0, .ref v0), (1, .int v1)] [0, 1] rfl ?_
    exact L1_X10_work_25 N  v0 v1 v0 T3 h
  · refine aw_iload_n 1 dX10_work_18 rfl rfl ?_
    refine aw_sipush 150 dX10_work_19 (by decide) ?_
    refine aw_icmp_le 29 dX10_work_22 (by decide) h (fun h => ?_) (fun h => ?_)
    · refine aw_iconst 0 dX10_work_29 rfl ?_
      refine aw_env [(0, .ref v0), (1, .int v1)] [0, 1] rfl ?_
      exact L1_X10_work_30 N  v0 v1 0 v0 T3 h
    · refine aw_env [(0, .ref v0), (1, .int v1)] [0, 1] rfl ?_
      exact L1_X10_work_25 N  v0 v1 v0 T3 h

theorem dX10_undo_0 : decode cX10_undo 0 = .ok (.aload_n 0, 1) := by decide +kernel
theorem dX10_undo_1 : decode cX10_undo 1 = .ok (.iconst 0, 1) := by decide +kernel
theorem dX10_undo_2 : decode cX10_undo 2 = .ok (.putfield 104, 3) := by decide +kernel
theorem dX10_undo_5 : decode cX10_undo 5 = .ok (.aload_n 0, 1) := by decide +kernel
theorem dX10_undo_6 : decode cX10_undo 6 = .ok (.getfield 220, 3) := by decide +kernel
theorem dX10_undo_9 : decode cX10_undo 9 = .ok (.ifCond .ne 5, 3) := by decide +kernel
theorem dX10_undo_12 : decode cX10_undo 12 = .ok (.iconst (-1), 1) := by decide +kernel
theorem dX10_undo_13 : decode cX10_undo 13 = .ok (.ireturn, 1) := by decide +kernel
theorem dX10_undo_14 : decode cX10_undo 14 = .ok (.aload_n 0, 1) := by decide +kernel
theorem dX10_undo_15 : decode cX10_undo 15 = .ok (.dup, 1) := by decide +kernel
theorem dX10_undo_16 : decode cX10_undo 16 = .ok (.getfield 220, 3) := by decide +kernel
theorem dX10_undo_19 : decode cX10_undo 19 = .ok (.iconst 1, 1) := by decide +kernel
theorem dX10_undo_20 : decode cX10_undo 20 = .ok (.isub, 1) := by decide +kernel
theorem dX10_undo_21 : decode cX10_undo 21 = .ok (.putfield 220, 3) := by decide +kernel
theorem dX10_undo_24 : decode cX10_undo 24 = .ok (.aload_n 0, 1) := by decide +kernel
theorem dX10_undo_25 : decode cX10_undo 25 = .ok (.getfield 67, 3) := by decide +kernel
theorem dX10_undo_28 : decode cX10_undo 28 = .ok (.aload_n 0, 1) := by decide +kernel
theorem dX10_undo_29 : decode cX10_undo 29 = .ok (.getfield 220, 3) := by decide +kernel
theorem dX10_undo_32 : decode cX10_undo 32 = .ok (.aaload, 1) := by decide +kernel
theorem dX10_undo_33 : decode cX10_undo 33 = .ok (.aload_n 0, 1) := by decide +kernel
theorem dX10_undo_34 : decode cX10_undo 34 = .ok (.getfield 61, 3) := by decide +kernel
theorem dX10_undo_37 : decode cX10_undo 37 = .ok (.invokestatic 322, 3) := by decide +kernel
theorem dX10_undo_40 : decode cX10_undo 40 = .ok (.aload_n 0, 1) := by decide +kernel
theorem dX10_undo_41 : decode cX10_undo 41 = .ok (.iconst 0, 1) := by decide +kernel
theorem dX10_undo_42 : decode cX10_undo 42 = .ok (.putfield 223, 3) := by decide +kernel
theorem dX10_undo_45 : decode cX10_undo 45 = .ok (.aload_n 0, 1) := by decide +kernel
theorem dX10_undo_46 : decode cX10_undo 46 = .ok (.getfield 220, 3) := by decide +kernel
theorem dX10_undo_49 : decode cX10_undo 49 = .ok (.ireturn, 1) := by decide +kernel
abbrev mt_X10_undo : AxM := (RX10, cX10_undo, 1, (some .int), false, [])
theorem L1_X10_undo {g : AxG} {l : Launch} (N : Nat) {v0 : Nat} {S : AxS} {r9 : Int32} {S9 : AxS} (h : F_X10_undo N v0 S = some ((r9, S9))) : AxMet g l yX10_undo cX10_undo 1 (some .int) (1) 0 0 [.ref v0] S ((.inl (some (.int r9)), S9)) := by
  refine ax_met (own := RX10) (ini := false) (by decide +kernel) rfl (fun h => nomatch h) rfl ?_
  show AW g l (axRm (1) 0 0) mt_X10_undo (axMQ g 0 0 (.inl (some (.int r9)), S9)) 0 0 S 0 [(0, .ref v0)] []
  unfold F_X10_undo at h
  refine aw_aload_n 0 dX10_undo_0 rfl rfl ?_
  refine aw_iconst 0 dX10_undo_1 rfl ?_
  refine aw_putI axc10 0 rfl rfl wd_1285 rfl rfl rfl dX10_undo_2 h (fun T1 h => ?_)
  refine aw_aload_n 0 dX10_undo_5 rfl rfl ?_
  refine aw_getI axc10 32 rfl rfl wd_1317 dX10_undo_6 h (fun x2 h => ?_)
  refine aw_if_ne 14 dX10_undo_9 (by decide) h (fun h => ?_) (fun h => ?_)
  · refine aw_aload_n 0 dX10_undo_14 rfl rfl ?_
    refine aw_dup rfl dX10_undo_15 ?_
    refine aw_getI axc10 32 rfl rfl wd_1317 dX10_undo_16 h (fun x3 h => ?_)
    refine aw_iconst 1 dX10_undo_19 rfl ?_
    refine aw_isub dX10_undo_20 ?_
    refine aw_putI axc10 32 rfl rfl wd_1317 rfl rfl rfl dX10_undo_21 h (fun T4 h => ?_)
    refine aw_aload_n 0 dX10_undo_24 rfl rfl ?_
    refine aw_getR axc10 29 rfl rfl wd_1314 dX10_undo_25 h (fun a5 h => ?_)
    refine aw_aload_n 0 dX10_undo_28 rfl rfl ?_
    refine aw_getI axc10 32 rfl rfl wd_1317 dX10_undo_29 h (fun x6 h => ?_)
    refine aw_aald dX10_undo_32 h (fun a7 h => ?_)
    refine aw_aload_n 0 dX10_undo_33 rfl rfl ?_
    refine aw_getR axc10 27 rfl rfl wd_1312 dX10_undo_34 h (fun a8 h => ?_)
    refine aw_doneV (rest := []) h (fun S9 hF => aw_runS (As := [.ref a7, .ref a8]) (rest := []) (L1_X10_copies N hF) wd_1582 wd_1580 wd_1581 wd_97 pd_X10_copies.2 rfl (ax_rm (by omega) rfl) ax_hf0 (Nat.le_of_ble_eq_true rfl) rfl dX10_undo_37) (fun T9 h => ?_)
    refine aw_aload_n 0 dX10_undo_40 rfl rfl ?_
    refine aw_iconst 0 dX10_undo_41 rfl ?_
    refine aw_putI axc10 33 rfl rfl wd_1318 rfl rfl rfl dX10_undo_42 h (fun T11 h => ?_)
    refine aw_aload_n 0 dX10_undo_45 rfl rfl ?_
    refine aw_getI axc10 32 rfl rfl wd_1317 dX10_undo_46 h (fun x12 h => ?_)
    exact aw_iret dX10_undo_49 rfl (Nat.le_refl _) (Nat.le_refl _) h
  · refine aw_iconst (-1) dX10_undo_12 rfl ?_
    exact aw_iret dX10_undo_13 rfl (Nat.le_refl _) (Nat.le_refl _) h

theorem dX10_told_0 : decode cX10_told 0 = .ok (.aload_n 0, 1) := by decide +kernel
theorem dX10_told_1 : decode cX10_told 1 = .ok (.iconst 0, 1) := by decide +kernel
theorem dX10_told_2 : decode cX10_told 2 = .ok (.putfield 104, 3) := by decide +kernel
theorem dX10_told_5 : decode cX10_told 5 = .ok (.aload_n 0, 1) := by decide +kernel
theorem dX10_told_6 : decode cX10_told 6 = .ok (.iload_n 1, 1) := by decide +kernel
theorem dX10_told_7 : decode cX10_told 7 = .ok (.iconst 0, 1) := by decide +kernel
theorem dX10_told_8 : decode cX10_told 8 = .ok (.bipush 12, 2) := by decide +kernel
theorem dX10_told_10 : decode cX10_told 10 = .ok (.invokestatic 138, 3) := by decide +kernel
theorem dX10_told_13 : decode cX10_told 13 = .ok (.ifCond .ne 7, 3) := by decide +kernel
theorem dX10_told_16 : decode cX10_told 16 = .ok (.iconst 1, 1) := by decide +kernel
theorem dX10_told_17 : decode cX10_told 17 = .ok (.goto 4, 3) := by decide +kernel
theorem dX10_told_20 : decode cX10_told 20 = .ok (.iconst 0, 1) := by decide +kernel
theorem dX10_told_21 : decode cX10_told 21 = .ok (.iconst 1, 1) := by decide +kernel
theorem dX10_told_22 : decode cX10_told 22 = .ok (.iconst 1, 1) := by decide +kernel
theorem dX10_told_23 : decode cX10_told 23 = .ok (.invokevirtual 193, 3) := by decide +kernel
theorem dX10_told_26 : decode cX10_told 26 = .ok (.ifCond .eq 5, 3) := by decide +kernel
theorem dX10_told_29 : decode cX10_told 29 = .ok (.iconst 0, 1) := by decide +kernel
theorem dX10_told_30 : decode cX10_told 30 = .ok (.ireturn, 1) := by decide +kernel
theorem dX10_told_31 : decode cX10_told 31 = .ok (.iload_n 1, 1) := by decide +kernel
theorem dX10_told_32 : decode cX10_told 32 = .ok (.tableswitch 97 0 11 #[64, 64, 64, 64, 64, 64, 64, 64, 71, 79, 87, 92], 64) := by decide +kernel
theorem dX10_told_96 : decode cX10_told 96 = .ok (.aload_n 0, 1) := by decide +kernel
theorem dX10_told_97 : decode cX10_told 97 = .ok (.getfield 61, 3) := by decide +kernel
theorem dX10_told_100 : decode cX10_told 100 = .ok (.iload_n 1, 1) := by decide +kernel
theorem dX10_told_101 : decode cX10_told 101 = .ok (.iaload, 1) := by decide +kernel
theorem dX10_told_102 : decode cX10_told 102 = .ok (.ireturn, 1) := by decide +kernel
theorem dX10_told_103 : decode cX10_told 103 = .ok (.aload_n 0, 1) := by decide +kernel
theorem dX10_told_104 : decode cX10_told 104 = .ok (.getfield 61, 3) := by decide +kernel
theorem dX10_told_107 : decode cX10_told 107 = .ok (.bipush 9, 2) := by decide +kernel
theorem dX10_told_109 : decode cX10_told 109 = .ok (.iaload, 1) := by decide +kernel
theorem dX10_told_110 : decode cX10_told 110 = .ok (.ireturn, 1) := by decide +kernel
theorem dX10_told_111 : decode cX10_told 111 = .ok (.aload_n 0, 1) := by decide +kernel
theorem dX10_told_112 : decode cX10_told 112 = .ok (.getfield 61, 3) := by decide +kernel
theorem dX10_told_115 : decode cX10_told 115 = .ok (.bipush 10, 2) := by decide +kernel
theorem dX10_told_117 : decode cX10_told 117 = .ok (.iaload, 1) := by decide +kernel
theorem dX10_told_118 : decode cX10_told 118 = .ok (.ireturn, 1) := by decide +kernel
theorem dX10_told_119 : decode cX10_told 119 = .ok (.aload_n 0, 1) := by decide +kernel
theorem dX10_told_120 : decode cX10_told 120 = .ok (.getfield 217, 3) := by decide +kernel
theorem dX10_told_123 : decode cX10_told 123 = .ok (.ireturn, 1) := by decide +kernel
theorem dX10_told_124 : decode cX10_told 124 = .ok (.aload_n 0, 1) := by decide +kernel
theorem dX10_told_125 : decode cX10_told 125 = .ok (.getfield 223, 3) := by decide +kernel
theorem dX10_told_128 : decode cX10_told 128 = .ok (.ireturn, 1) := by decide +kernel
theorem dX10_told_129 : decode cX10_told 129 = .ok (.aload_n 0, 1) := by decide +kernel
theorem dX10_told_130 : decode cX10_told 130 = .ok (.getfield 61, 3) := by decide +kernel
theorem dX10_told_133 : decode cX10_told 133 = .ok (.bipush 8, 2) := by decide +kernel
theorem dX10_told_135 : decode cX10_told 135 = .ok (.iaload, 1) := by decide +kernel
theorem dX10_told_136 : decode cX10_told 136 = .ok (.ireturn, 1) := by decide +kernel
abbrev mt_X10_told : AxM := (RX10, cX10_told, 2, (some .int), false, [])
theorem L1_X10_told_21 {g : AxG} {l : Launch} {r9 : Int32} {S9 : AxS} (N : Nat)  (v0 : Nat) (v1 : Int32) (w0 : Int32) (w1 : Nat) (S : AxS) (h : F_X10_told_21 N  v0 v1 w0 w1 S = some ((r9, S9))) : AW g l (axRm (1) 0 0) mt_X10_told (axMQ g 0 0 (.inl (some (.int r9)), S9)) 0 0 S 21 [(0, .ref v0), (1, .int v1)] [.int w0, .ref w1] := by
  unfold F_X10_told_21 at h
  refine aw_iconst 1 dX10_told_21 rfl ?_
  refine aw_iconst 1 dX10_told_22 rfl ?_
  obtain ⟨hL1, h⟩ := ax_is_spec h
  refine aw_doneI (rest := []) h (fun r9 S9 hF => aw_runV (As := [.int w0, .int 1, .int 1]) (rest := []) (L1_X10_bad N hF) axc10 hL1 wd_1452 wd_1449 wd_1451 wd_38 wd_97 pd_X10_bad rfl (ax_rm (by omega) rfl) ax_hf0 (Nat.le_of_ble_eq_true rfl) rfl dX10_told_23) (fun x3 T2 h => ?_)
  refine aw_if_eq 31 dX10_told_26 (by decide) h (fun h => ?_) (fun h => ?_)
  · refine aw_iload_n 1 dX10_told_31 rfl rfl ?_
    refine aw_case 0 h (fun h => ?_) (fun c6 h => ?_)
    · refine aw_tswIn 96 (off := 64) dX10_told_32 (by decide) (by decide) (by decide) (by decide) ?_
      refine aw_aload_n 0 dX10_told_96 rfl rfl ?_
      refine aw_getR axc10 27 rfl rfl wd_1312 dX10_told_97 h (fun a4 h => ?_)
      refine aw_iload_n 1 dX10_told_100 rfl rfl ?_
      refine aw_iald dX10_told_101 h (fun x5 h => ?_)
      exact aw_iret dX10_told_102 rfl (Nat.le_refl _) (Nat.le_refl _) h
    refine aw_case 1 h (fun h => ?_) (fun c9 h => ?_)
    · refine aw_tswIn 96 (off := 64) dX10_told_32 (by decide) (by decide) (by decide) (by decide) ?_
      refine aw_aload_n 0 dX10_told_96 rfl rfl ?_
      refine aw_getR axc10 27 rfl rfl wd_1312 dX10_told_97 h (fun a7 h => ?_)
      refine aw_iload_n 1 dX10_told_100 rfl rfl ?_
      refine aw_iald dX10_told_101 h (fun x8 h => ?_)
      exact aw_iret dX10_told_102 rfl (Nat.le_refl _) (Nat.le_refl _) h
    refine aw_case 2 h (fun h => ?_) (fun c12 h => ?_)
    · refine aw_tswIn 96 (off := 64) dX10_told_32 (by decide) (by decide) (by decide) (by decide) ?_
      refine aw_aload_n 0 dX10_told_96 rfl rfl ?_
      refine aw_getR axc10 27 rfl rfl wd_1312 dX10_told_97 h (fun a10 h => ?_)
      refine aw_iload_n 1 dX10_told_100 rfl rfl ?_
      refine aw_iald dX10_told_101 h (fun x11 h => ?_)
      exact aw_iret dX10_told_102 rfl (Nat.le_refl _) (Nat.le_refl _) h
    refine aw_case 3 h (fun h => ?_) (fun c15 h => ?_)
    · refine aw_tswIn 96 (off := 64) dX10_told_32 (by decide) (by decide) (by decide) (by decide) ?_
      refine aw_aload_n 0 dX10_told_96 rfl rfl ?_
      refine aw_getR axc10 27 rfl rfl wd_1312 dX10_told_97 h (fun a13 h => ?_)
      refine aw_iload_n 1 dX10_told_100 rfl rfl ?_
      refine aw_iald dX10_told_101 h (fun x14 h => ?_)
      exact aw_iret dX10_told_102 rfl (Nat.le_refl _) (Nat.le_refl _) h
    refine aw_case 4 h (fun h => ?_) (fun c18 h => ?_)
    · refine aw_tswIn 96 (off := 64) dX10_told_32 (by decide) (by decide) (by decide) (by decide) ?_
      refine aw_aload_n 0 dX10_told_96 rfl rfl ?_
      refine aw_getR axc10 27 rfl rfl wd_1312 dX10_told_97 h (fun a16 h => ?_)
      refine aw_iload_n 1 dX10_told_100 rfl rfl ?_
      refine aw_iald dX10_told_101 h (fun x17 h => ?_)
      exact aw_iret dX10_told_102 rfl (Nat.le_refl _) (Nat.le_refl _) h
    refine aw_case 5 h (fun h => ?_) (fun c21 h => ?_)
    · refine aw_tswIn 96 (off := 64) dX10_told_32 (by decide) (by decide) (by decide) (by decide) ?_
      refine aw_aload_n 0 dX10_told_96 rfl rfl ?_
      refine aw_getR axc10 27 rfl rfl wd_1312 dX10_told_97 h (fun a19 h => ?_)
      refine aw_iload_n 1 dX10_told_100 rfl rfl ?_
      refine aw_iald dX10_told_101 h (fun x20 h => ?_)
      exact aw_iret dX10_told_102 rfl (Nat.le_refl _) (Nat.le_refl _) h
    refine aw_case 6 h (fun h => ?_) (fun c24 h => ?_)
    · refine aw_tswIn 96 (off := 64) dX10_told_32 (by decide) (by decide) (by decide) (by decide) ?_
      refine aw_aload_n 0 dX10_told_96 rfl rfl ?_
      refine aw_getR axc10 27 rfl rfl wd_1312 dX10_told_97 h (fun a22 h => ?_)
      refine aw_iload_n 1 dX10_told_100 rfl rfl ?_
      refine aw_iald dX10_told_101 h (fun x23 h => ?_)
      exact aw_iret dX10_told_102 rfl (Nat.le_refl _) (Nat.le_refl _) h
    refine aw_case 7 h (fun h => ?_) (fun c27 h => ?_)
    · refine aw_tswIn 96 (off := 64) dX10_told_32 (by decide) (by decide) (by decide) (by decide) ?_
      refine aw_aload_n 0 dX10_told_96 rfl rfl ?_
      refine aw_getR axc10 27 rfl rfl wd_1312 dX10_told_97 h (fun a25 h => ?_)
      refine aw_iload_n 1 dX10_told_100 rfl rfl ?_
      refine aw_iald dX10_told_101 h (fun x26 h => ?_)
      exact aw_iret dX10_told_102 rfl (Nat.le_refl _) (Nat.le_refl _) h
    refine aw_case 8 h (fun h => ?_) (fun c30 h => ?_)
    · refine aw_tswIn 103 (off := 71) dX10_told_32 (by decide) (by decide) (by decide) (by decide) ?_
      refine aw_aload_n 0 dX10_told_103 rfl rfl ?_
      refine aw_getR axc10 27 rfl rfl wd_1312 dX10_told_104 h (fun a28 h => ?_)
      refine aw_bipush 9 dX10_told_107 (by decide) ?_
      refine aw_iald dX10_told_109 h (fun x29 h => ?_)
      exact aw_iret dX10_told_110 rfl (Nat.le_refl _) (Nat.le_refl _) h
    refine aw_case 9 h (fun h => ?_) (fun c33 h => ?_)
    · refine aw_tswIn 111 (off := 79) dX10_told_32 (by decide) (by decide) (by decide) (by decide) ?_
      refine aw_aload_n 0 dX10_told_111 rfl rfl ?_
      refine aw_getR axc10 27 rfl rfl wd_1312 dX10_told_112 h (fun a31 h => ?_)
      refine aw_bipush 10 dX10_told_115 (by decide) ?_
      refine aw_iald dX10_told_117 h (fun x32 h => ?_)
      exact aw_iret dX10_told_118 rfl (Nat.le_refl _) (Nat.le_refl _) h
    refine aw_case 10 h (fun h => ?_) (fun c35 h => ?_)
    · refine aw_tswIn 119 (off := 87) dX10_told_32 (by decide) (by decide) (by decide) (by decide) ?_
      refine aw_aload_n 0 dX10_told_119 rfl rfl ?_
      refine aw_getI axc10 31 rfl rfl wd_1316 dX10_told_120 h (fun x34 h => ?_)
      exact aw_iret dX10_told_123 rfl (Nat.le_refl _) (Nat.le_refl _) h
    refine aw_case 11 h (fun h => ?_) (fun c37 h => ?_)
    · refine aw_tswIn 124 (off := 92) dX10_told_32 (by decide) (by decide) (by decide) (by decide) ?_
      refine aw_aload_n 0 dX10_told_124 rfl rfl ?_
      refine aw_getI axc10 33 rfl rfl wd_1318 dX10_told_125 h (fun x36 h => ?_)
      exact aw_iret dX10_told_128 rfl (Nat.le_refl _) (Nat.le_refl _) h
    refine aw_tswOut 129 dX10_told_32 (by have q0 := ax_i32ne c6 (v := 0) (i := 0) (by decide); have q1 := ax_i32ne c9 (v := 1) (i := 1) (by decide); have q2 := ax_i32ne c12 (v := 2) (i := 2) (by decide); have q3 := ax_i32ne c15 (v := 3) (i := 3) (by decide); have q4 := ax_i32ne c18 (v := 4) (i := 4) (by decide); have q5 := ax_i32ne c21 (v := 5) (i := 5) (by decide); have q6 := ax_i32ne c24 (v := 6) (i := 6) (by decide); have q7 := ax_i32ne c27 (v := 7) (i := 7) (by decide); have q8 := ax_i32ne c30 (v := 8) (i := 8) (by decide); have q9 := ax_i32ne c33 (v := 9) (i := 9) (by decide); have q10 := ax_i32ne c35 (v := 10) (i := 10) (by decide); have q11 := ax_i32ne c37 (v := 11) (i := 11) (by decide); omega) (by decide) ?_
    refine aw_aload_n 0 dX10_told_129 rfl rfl ?_
    refine aw_getR axc10 27 rfl rfl wd_1312 dX10_told_130 h (fun a38 h => ?_)
    refine aw_bipush 8 dX10_told_133 (by decide) ?_
    refine aw_iald dX10_told_135 h (fun x39 h => ?_)
    exact aw_iret dX10_told_136 rfl (Nat.le_refl _) (Nat.le_refl _) h
  · refine aw_iconst 0 dX10_told_29 rfl ?_
    exact aw_iret dX10_told_30 rfl (Nat.le_refl _) (Nat.le_refl _) h
theorem L1_X10_told {g : AxG} {l : Launch} (N : Nat) {v0 : Nat} {v1 : Int32} {S : AxS} {r9 : Int32} {S9 : AxS} (h : F_X10_told N v0 v1 S = some ((r9, S9))) : AxMet g l yX10_told cX10_told 2 (some .int) (1) 0 0 [.ref v0, .int v1] S ((.inl (some (.int r9)), S9)) := by
  refine ax_met (own := RX10) (ini := false) (by decide +kernel) rfl (fun h => nomatch h) rfl ?_
  show AW g l (axRm (1) 0 0) mt_X10_told (axMQ g 0 0 (.inl (some (.int r9)), S9)) 0 0 S 0 [(0, .ref v0), (1, .int v1)] []
  unfold F_X10_told at h
  refine aw_aload_n 0 dX10_told_0 rfl rfl ?_
  refine aw_iconst 0 dX10_told_1 rfl ?_
  refine aw_putI axc10 0 rfl rfl wd_1285 rfl rfl rfl dX10_told_2 h (fun T1 h => ?_)
  refine aw_aload_n 0 dX10_told_5 rfl rfl ?_
  refine aw_iload_n 1 dX10_told_6 rfl rfl ?_
  refine aw_iconst 0 dX10_told_7 rfl ?_
  refine aw_bipush 12 dX10_told_8 (by decide) ?_
  refine aw_doneI (rest := [.ref v0]) h (fun r9 S9 hF => aw_runS (As := [.int v1, .int 0, .int 12]) (rest := [.ref v0]) (L1_X10_in N hF) wd_1448 wd_1446 wd_1447 wd_97 pd_X10_in.2 rfl (ax_rm (by omega) rfl) ax_hf0 (Nat.le_of_ble_eq_true rfl) rfl dX10_told_10) (fun x3 T2 h => ?_)
  refine aw_if_ne 20 dX10_told_13 (by decide) h (fun h => ?_) (fun h => ?_)
  · refine aw_iconst 0 dX10_told_20 rfl ?_
    refine aw_env [(0, .ref v0), (1, .int v1)] [0, 1] rfl ?_
    exact L1_X10_told_21 N  v0 v1 0 v0 T2 h
  · refine aw_iconst 1 dX10_told_16 rfl ?_
    refine aw_goto 21 dX10_told_17 (by decide) ?_
    refine aw_env [(0, .ref v0), (1, .int v1)] [0, 1] rfl ?_
    exact L1_X10_told_21 N  v0 v1 1 v0 T2 h

theorem dX10_many_0 : decode cX10_many 0 = .ok (.aload_n 0, 1) := by decide +kernel
theorem dX10_many_1 : decode cX10_many 1 = .ok (.iconst 0, 1) := by decide +kernel
theorem dX10_many_2 : decode cX10_many 2 = .ok (.putfield 104, 3) := by decide +kernel
theorem dX10_many_5 : decode cX10_many 5 = .ok (.aload_n 0, 1) := by decide +kernel
theorem dX10_many_6 : decode cX10_many 6 = .ok (.iload_n 1, 1) := by decide +kernel
theorem dX10_many_7 : decode cX10_many 7 = .ok (.iconst 0, 1) := by decide +kernel
theorem dX10_many_8 : decode cX10_many 8 = .ok (.iconst 3, 1) := by decide +kernel
theorem dX10_many_9 : decode cX10_many 9 = .ok (.invokestatic 138, 3) := by decide +kernel
theorem dX10_many_12 : decode cX10_many 12 = .ok (.ifCond .ne 7, 3) := by decide +kernel
theorem dX10_many_15 : decode cX10_many 15 = .ok (.iconst 1, 1) := by decide +kernel
theorem dX10_many_16 : decode cX10_many 16 = .ok (.goto 4, 3) := by decide +kernel
theorem dX10_many_19 : decode cX10_many 19 = .ok (.iconst 0, 1) := by decide +kernel
theorem dX10_many_20 : decode cX10_many 20 = .ok (.iconst 1, 1) := by decide +kernel
theorem dX10_many_21 : decode cX10_many 21 = .ok (.iconst 1, 1) := by decide +kernel
theorem dX10_many_22 : decode cX10_many 22 = .ok (.invokevirtual 193, 3) := by decide +kernel
theorem dX10_many_25 : decode cX10_many 25 = .ok (.ifCond .eq 5, 3) := by decide +kernel
theorem dX10_many_28 : decode cX10_many 28 = .ok (.iconst 0, 1) := by decide +kernel
theorem dX10_many_29 : decode cX10_many 29 = .ok (.ireturn, 1) := by decide +kernel
theorem dX10_many_30 : decode cX10_many 30 = .ok (.aload_n 0, 1) := by decide +kernel
theorem dX10_many_31 : decode cX10_many 31 = .ok (.getfield 23, 3) := by decide +kernel
theorem dX10_many_34 : decode cX10_many 34 = .ok (.iload_n 1, 1) := by decide +kernel
theorem dX10_many_35 : decode cX10_many 35 = .ok (.iaload, 1) := by decide +kernel
theorem dX10_many_36 : decode cX10_many 36 = .ok (.ireturn, 1) := by decide +kernel
abbrev mt_X10_many : AxM := (RX10, cX10_many, 2, (some .int), false, [])
theorem L1_X10_many_20 {g : AxG} {l : Launch} {r9 : Int32} {S9 : AxS} (N : Nat)  (v0 : Nat) (v1 : Int32) (w0 : Int32) (w1 : Nat) (S : AxS) (h : F_X10_many_20 N  v0 v1 w0 w1 S = some ((r9, S9))) : AW g l (axRm (1) 0 0) mt_X10_many (axMQ g 0 0 (.inl (some (.int r9)), S9)) 0 0 S 20 [(0, .ref v0), (1, .int v1)] [.int w0, .ref w1] := by
  unfold F_X10_many_20 at h
  refine aw_iconst 1 dX10_many_20 rfl ?_
  refine aw_iconst 1 dX10_many_21 rfl ?_
  obtain ⟨hL1, h⟩ := ax_is_spec h
  refine aw_doneI (rest := []) h (fun r9 S9 hF => aw_runV (As := [.int w0, .int 1, .int 1]) (rest := []) (L1_X10_bad N hF) axc10 hL1 wd_1452 wd_1449 wd_1451 wd_38 wd_97 pd_X10_bad rfl (ax_rm (by omega) rfl) ax_hf0 (Nat.le_of_ble_eq_true rfl) rfl dX10_many_22) (fun x3 T2 h => ?_)
  refine aw_if_eq 30 dX10_many_25 (by decide) h (fun h => ?_) (fun h => ?_)
  · refine aw_aload_n 0 dX10_many_30 rfl rfl ?_
    refine aw_getR axc10 12 rfl rfl wd_1297 dX10_many_31 h (fun a4 h => ?_)
    refine aw_iload_n 1 dX10_many_34 rfl rfl ?_
    refine aw_iald dX10_many_35 h (fun x5 h => ?_)
    exact aw_iret dX10_many_36 rfl (Nat.le_refl _) (Nat.le_refl _) h
  · refine aw_iconst 0 dX10_many_28 rfl ?_
    exact aw_iret dX10_many_29 rfl (Nat.le_refl _) (Nat.le_refl _) h
theorem L1_X10_many {g : AxG} {l : Launch} (N : Nat) {v0 : Nat} {v1 : Int32} {S : AxS} {r9 : Int32} {S9 : AxS} (h : F_X10_many N v0 v1 S = some ((r9, S9))) : AxMet g l yX10_many cX10_many 2 (some .int) (1) 0 0 [.ref v0, .int v1] S ((.inl (some (.int r9)), S9)) := by
  refine ax_met (own := RX10) (ini := false) (by decide +kernel) rfl (fun h => nomatch h) rfl ?_
  show AW g l (axRm (1) 0 0) mt_X10_many (axMQ g 0 0 (.inl (some (.int r9)), S9)) 0 0 S 0 [(0, .ref v0), (1, .int v1)] []
  unfold F_X10_many at h
  refine aw_aload_n 0 dX10_many_0 rfl rfl ?_
  refine aw_iconst 0 dX10_many_1 rfl ?_
  refine aw_putI axc10 0 rfl rfl wd_1285 rfl rfl rfl dX10_many_2 h (fun T1 h => ?_)
  refine aw_aload_n 0 dX10_many_5 rfl rfl ?_
  refine aw_iload_n 1 dX10_many_6 rfl rfl ?_
  refine aw_iconst 0 dX10_many_7 rfl ?_
  refine aw_iconst 3 dX10_many_8 rfl ?_
  refine aw_doneI (rest := [.ref v0]) h (fun r9 S9 hF => aw_runS (As := [.int v1, .int 0, .int 3]) (rest := [.ref v0]) (L1_X10_in N hF) wd_1448 wd_1446 wd_1447 wd_97 pd_X10_in.2 rfl (ax_rm (by omega) rfl) ax_hf0 (Nat.le_of_ble_eq_true rfl) rfl dX10_many_9) (fun x3 T2 h => ?_)
  refine aw_if_ne 19 dX10_many_12 (by decide) h (fun h => ?_) (fun h => ?_)
  · refine aw_iconst 0 dX10_many_19 rfl ?_
    refine aw_env [(0, .ref v0), (1, .int v1)] [0, 1] rfl ?_
    exact L1_X10_many_20 N  v0 v1 0 v0 T2 h
  · refine aw_iconst 1 dX10_many_15 rfl ?_
    refine aw_goto 20 dX10_many_16 (by decide) ?_
    refine aw_env [(0, .ref v0), (1, .int v1)] [0, 1] rfl ?_
    exact L1_X10_many_20 N  v0 v1 1 v0 T2 h

theorem dX10_isNo_0 : decode cX10_isNo 0 = .ok (.iload_n 2, 1) := by decide +kernel
theorem dX10_isNo_1 : decode cX10_isNo 1 = .ok (.iconst 0, 1) := by decide +kernel
theorem dX10_isNo_2 : decode cX10_isNo 2 = .ok (.aload_n 0, 1) := by decide +kernel
theorem dX10_isNo_3 : decode cX10_isNo 3 = .ok (.getfield 23, 3) := by decide +kernel
theorem dX10_isNo_6 : decode cX10_isNo 6 = .ok (.iload_n 1, 1) := by decide +kernel
theorem dX10_isNo_7 : decode cX10_isNo 7 = .ok (.iaload, 1) := by decide +kernel
theorem dX10_isNo_8 : decode cX10_isNo 8 = .ok (.iconst 1, 1) := by decide +kernel
theorem dX10_isNo_9 : decode cX10_isNo 9 = .ok (.isub, 1) := by decide +kernel
theorem dX10_isNo_10 : decode cX10_isNo 10 = .ok (.invokestatic 138, 3) := by decide +kernel
theorem dX10_isNo_13 : decode cX10_isNo 13 = .ok (.ifCond .ne 7, 3) := by decide +kernel
theorem dX10_isNo_16 : decode cX10_isNo 16 = .ok (.iconst 1, 1) := by decide +kernel
theorem dX10_isNo_17 : decode cX10_isNo 17 = .ok (.goto 4, 3) := by decide +kernel
theorem dX10_isNo_20 : decode cX10_isNo 20 = .ok (.iconst 0, 1) := by decide +kernel
theorem dX10_isNo_21 : decode cX10_isNo 21 = .ok (.ireturn, 1) := by decide +kernel
abbrev mt_X10_isNo : AxM := (RX10, cX10_isNo, 3, (some .boolean), false, [])
theorem L1_X10_isNo {g : AxG} {l : Launch} (N : Nat) {v0 : Nat} {v1 : Int32} {v2 : Int32} {S : AxS} {r9 : Int32} {S9 : AxS} (h : F_X10_isNo N v0 v1 v2 S = some ((r9, S9))) : AxMet g l yX10_isNo cX10_isNo 3 (some .boolean) (1) 0 0 [.ref v0, .int v1, .int v2] S ((.inl (some (.int r9)), S9)) := by
  refine ax_met (own := RX10) (ini := false) (by decide +kernel) rfl (fun h => nomatch h) rfl ?_
  show AW g l (axRm (1) 0 0) mt_X10_isNo (axMQ g 0 0 (.inl (some (.int r9)), S9)) 0 0 S 0 [(0, .ref v0), (1, .int v1), (2, .int v2)] []
  unfold F_X10_isNo at h
  refine aw_iload_n 2 dX10_isNo_0 rfl rfl ?_
  refine aw_iconst 0 dX10_isNo_1 rfl ?_
  refine aw_aload_n 0 dX10_isNo_2 rfl rfl ?_
  refine aw_getR axc10 12 rfl rfl wd_1297 dX10_isNo_3 h (fun a1 h => ?_)
  refine aw_iload_n 1 dX10_isNo_6 rfl rfl ?_
  refine aw_iald dX10_isNo_7 h (fun x2 h => ?_)
  refine aw_iconst 1 dX10_isNo_8 rfl ?_
  refine aw_isub dX10_isNo_9 ?_
  refine aw_doneI (rest := []) h (fun r9 S9 hF => aw_runS (As := [.int v2, .int 0, .int (x2 - 1)]) (rest := []) (L1_X10_in N hF) wd_1448 wd_1446 wd_1447 wd_97 pd_X10_in.2 rfl (ax_rm (by omega) rfl) ax_hf0 (Nat.le_of_ble_eq_true rfl) rfl dX10_isNo_10) (fun x4 T3 h => ?_)
  refine aw_if_ne 20 dX10_isNo_13 (by decide) h (fun h => ?_) (fun h => ?_)
  · refine aw_iconst 0 dX10_isNo_20 rfl ?_
    exact aw_zret dX10_isNo_21 rfl (Nat.le_refl _) (Nat.le_refl _) h
  · refine aw_iconst 1 dX10_isNo_16 rfl ?_
    refine aw_goto 21 dX10_isNo_17 (by decide) ?_
    exact aw_zret dX10_isNo_21 rfl (Nat.le_refl _) (Nat.le_refl _) h

theorem dX10_monk_0 : decode cX10_monk 0 = .ok (.aload_n 0, 1) := by decide +kernel
theorem dX10_monk_1 : decode cX10_monk 1 = .ok (.iconst 0, 1) := by decide +kernel
theorem dX10_monk_2 : decode cX10_monk 2 = .ok (.putfield 104, 3) := by decide +kernel
theorem dX10_monk_5 : decode cX10_monk 5 = .ok (.aload_n 0, 1) := by decide +kernel
theorem dX10_monk_6 : decode cX10_monk 6 = .ok (.aload_n 0, 1) := by decide +kernel
theorem dX10_monk_7 : decode cX10_monk 7 = .ok (.iconst 2, 1) := by decide +kernel
theorem dX10_monk_8 : decode cX10_monk 8 = .ok (.iload_n 1, 1) := by decide +kernel
theorem dX10_monk_9 : decode cX10_monk 9 = .ok (.invokevirtual 326, 3) := by decide +kernel
theorem dX10_monk_12 : decode cX10_monk 12 = .ok (.iconst 1, 1) := by decide +kernel
theorem dX10_monk_13 : decode cX10_monk 13 = .ok (.iconst 0, 1) := by decide +kernel
theorem dX10_monk_14 : decode cX10_monk 14 = .ok (.invokevirtual 193, 3) := by decide +kernel
theorem dX10_monk_17 : decode cX10_monk 17 = .ok (.ifCond .ne 26, 3) := by decide +kernel
theorem dX10_monk_20 : decode cX10_monk 20 = .ok (.aload_n 0, 1) := by decide +kernel
theorem dX10_monk_21 : decode cX10_monk 21 = .ok (.iload_n 2, 1) := by decide +kernel
theorem dX10_monk_22 : decode cX10_monk 22 = .ok (.iconst 0, 1) := by decide +kernel
theorem dX10_monk_23 : decode cX10_monk 23 = .ok (.iconst 3, 1) := by decide +kernel
theorem dX10_monk_24 : decode cX10_monk 24 = .ok (.invokestatic 138, 3) := by decide +kernel
theorem dX10_monk_27 : decode cX10_monk 27 = .ok (.ifCond .ne 7, 3) := by decide +kernel
theorem dX10_monk_30 : decode cX10_monk 30 = .ok (.iconst 1, 1) := by decide +kernel
theorem dX10_monk_31 : decode cX10_monk 31 = .ok (.goto 4, 3) := by decide +kernel
theorem dX10_monk_34 : decode cX10_monk 34 = .ok (.iconst 0, 1) := by decide +kernel
theorem dX10_monk_35 : decode cX10_monk 35 = .ok (.iconst 2, 1) := by decide +kernel
theorem dX10_monk_36 : decode cX10_monk 36 = .ok (.iconst 1, 1) := by decide +kernel
theorem dX10_monk_37 : decode cX10_monk 37 = .ok (.invokevirtual 193, 3) := by decide +kernel
theorem dX10_monk_40 : decode cX10_monk 40 = .ok (.ifCond .eq 5, 3) := by decide +kernel
theorem dX10_monk_43 : decode cX10_monk 43 = .ok (.iconst 0, 1) := by decide +kernel
theorem dX10_monk_44 : decode cX10_monk 44 = .ok (.ireturn, 1) := by decide +kernel
theorem dX10_monk_45 : decode cX10_monk 45 = .ok (.iload_n 2, 1) := by decide +kernel
theorem dX10_monk_46 : decode cX10_monk 46 = .ok (.tableswitch 71 0 2 #[26, 35, 45], 26) := by decide +kernel
theorem dX10_monk_72 : decode cX10_monk 72 = .ok (.aload_n 0, 1) := by decide +kernel
theorem dX10_monk_73 : decode cX10_monk 73 = .ok (.getfield 37, 3) := by decide +kernel
theorem dX10_monk_76 : decode cX10_monk 76 = .ok (.iconst 2, 1) := by decide +kernel
theorem dX10_monk_77 : decode cX10_monk 77 = .ok (.aaload, 1) := by decide +kernel
theorem dX10_monk_78 : decode cX10_monk 78 = .ok (.iload_n 1, 1) := by decide +kernel
theorem dX10_monk_79 : decode cX10_monk 79 = .ok (.iaload, 1) := by decide +kernel
theorem dX10_monk_80 : decode cX10_monk 80 = .ok (.ireturn, 1) := by decide +kernel
theorem dX10_monk_81 : decode cX10_monk 81 = .ok (.aload_n 0, 1) := by decide +kernel
theorem dX10_monk_82 : decode cX10_monk 82 = .ok (.getfield 61, 3) := by decide +kernel
theorem dX10_monk_85 : decode cX10_monk 85 = .ok (.bipush 13, 2) := by decide +kernel
theorem dX10_monk_87 : decode cX10_monk 87 = .ok (.iload_n 1, 1) := by decide +kernel
theorem dX10_monk_88 : decode cX10_monk 88 = .ok (.iadd, 1) := by decide +kernel
theorem dX10_monk_89 : decode cX10_monk 89 = .ok (.iaload, 1) := by decide +kernel
theorem dX10_monk_90 : decode cX10_monk 90 = .ok (.ireturn, 1) := by decide +kernel
theorem dX10_monk_91 : decode cX10_monk 91 = .ok (.aload_n 0, 1) := by decide +kernel
theorem dX10_monk_92 : decode cX10_monk 92 = .ok (.aload_n 0, 1) := by decide +kernel
theorem dX10_monk_93 : decode cX10_monk 93 = .ok (.getfield 61, 3) := by decide +kernel
theorem dX10_monk_96 : decode cX10_monk 96 = .ok (.iload_n 1, 1) := by decide +kernel
theorem dX10_monk_97 : decode cX10_monk 97 = .ok (.aload_n 0, 1) := by decide +kernel
theorem dX10_monk_98 : decode cX10_monk 98 = .ok (.aload_n 0, 1) := by decide +kernel
theorem dX10_monk_99 : decode cX10_monk 99 = .ok (.getfield 61, 3) := by decide +kernel
theorem dX10_monk_102 : decode cX10_monk 102 = .ok (.invokevirtual 283, 3) := by decide +kernel
theorem dX10_monk_105 : decode cX10_monk 105 = .ok (.invokevirtual 286, 3) := by decide +kernel
theorem dX10_monk_108 : decode cX10_monk 108 = .ok (.ifCond .eq 7, 3) := by decide +kernel
theorem dX10_monk_111 : decode cX10_monk 111 = .ok (.iconst 1, 1) := by decide +kernel
theorem dX10_monk_112 : decode cX10_monk 112 = .ok (.goto 4, 3) := by decide +kernel
theorem dX10_monk_115 : decode cX10_monk 115 = .ok (.iconst 0, 1) := by decide +kernel
theorem dX10_monk_116 : decode cX10_monk 116 = .ok (.ireturn, 1) := by decide +kernel
theorem dX10_monk_117 : decode cX10_monk 117 = .ok (.aload_n 0, 1) := by decide +kernel
theorem dX10_monk_118 : decode cX10_monk 118 = .ok (.getfield 61, 3) := by decide +kernel
theorem dX10_monk_121 : decode cX10_monk 121 = .ok (.bipush 21, 2) := by decide +kernel
theorem dX10_monk_123 : decode cX10_monk 123 = .ok (.iload_n 1, 1) := by decide +kernel
theorem dX10_monk_124 : decode cX10_monk 124 = .ok (.iadd, 1) := by decide +kernel
theorem dX10_monk_125 : decode cX10_monk 125 = .ok (.iaload, 1) := by decide +kernel
theorem dX10_monk_126 : decode cX10_monk 126 = .ok (.ireturn, 1) := by decide +kernel
abbrev mt_X10_monk : AxM := (RX10, cX10_monk, 3, (some .int), false, [])
theorem L1_X10_monk_35 {g : AxG} {l : Launch} {r9 : Int32} {S9 : AxS} (N : Nat)  (v0 : Nat) (v1 : Int32) (v2 : Int32) (w0 : Int32) (w1 : Nat) (S : AxS) (h : F_X10_monk_35 N  v0 v1 v2 w0 w1 S = some ((r9, S9))) : AW g l (axRm (4) 0 0) mt_X10_monk (axMQ g 0 0 (.inl (some (.int r9)), S9)) 0 0 S 35 [(0, .ref v0), (1, .int v1), (2, .int v2)] [.int w0, .ref w1] := by
  unfold F_X10_monk_35 at h
  refine aw_iconst 2 dX10_monk_35 rfl ?_
  refine aw_iconst 1 dX10_monk_36 rfl ?_
  obtain ⟨hL1, h⟩ := ax_is_spec h
  refine aw_doneI (rest := []) h (fun r9 S9 hF => aw_runV (As := [.int w0, .int 2, .int 1]) (rest := []) (L1_X10_bad N hF) axc10 hL1 wd_1452 wd_1449 wd_1451 wd_38 wd_97 pd_X10_bad rfl (ax_rm (by omega) rfl) ax_hf0 (Nat.le_of_ble_eq_true rfl) rfl dX10_monk_37) (fun x3 T2 h => ?_)
  refine aw_if_eq 45 dX10_monk_40 (by decide) h (fun h => ?_) (fun h => ?_)
  · refine aw_iload_n 2 dX10_monk_45 rfl rfl ?_
    refine aw_case 0 h (fun h => ?_) (fun c7 h => ?_)
    · refine aw_tswIn 72 (off := 26) dX10_monk_46 (by decide) (by decide) (by decide) (by decide) ?_
      refine aw_aload_n 0 dX10_monk_72 rfl rfl ?_
      refine aw_getR axc10 16 rfl rfl wd_1301 dX10_monk_73 h (fun a4 h => ?_)
      refine aw_iconst 2 dX10_monk_76 rfl ?_
      refine aw_aald dX10_monk_77 h (fun a5 h => ?_)
      refine aw_iload_n 1 dX10_monk_78 rfl rfl ?_
      refine aw_iald dX10_monk_79 h (fun x6 h => ?_)
      exact aw_iret dX10_monk_80 rfl (Nat.le_refl _) (Nat.le_refl _) h
    refine aw_case 1 h (fun h => ?_) (fun c10 h => ?_)
    · refine aw_tswIn 81 (off := 35) dX10_monk_46 (by decide) (by decide) (by decide) (by decide) ?_
      refine aw_aload_n 0 dX10_monk_81 rfl rfl ?_
      refine aw_getR axc10 27 rfl rfl wd_1312 dX10_monk_82 h (fun a8 h => ?_)
      refine aw_bipush 13 dX10_monk_85 (by decide) ?_
      refine aw_iload_n 1 dX10_monk_87 rfl rfl ?_
      refine aw_iadd dX10_monk_88 ?_
      refine aw_iald dX10_monk_89 h (fun x9 h => ?_)
      exact aw_iret dX10_monk_90 rfl (Nat.le_refl _) (Nat.le_refl _) h
    refine aw_case 2 h (fun h => ?_) (fun c19 h => ?_)
    · refine aw_tswIn 91 (off := 45) dX10_monk_46 (by decide) (by decide) (by decide) (by decide) ?_
      refine aw_aload_n 0 dX10_monk_91 rfl rfl ?_
      refine aw_aload_n 0 dX10_monk_92 rfl rfl ?_
      refine aw_getR axc10 27 rfl rfl wd_1312 dX10_monk_93 h (fun a11 h => ?_)
      refine aw_iload_n 1 dX10_monk_96 rfl rfl ?_
      refine aw_aload_n 0 dX10_monk_97 rfl rfl ?_
      refine aw_aload_n 0 dX10_monk_98 rfl rfl ?_
      refine aw_getR axc10 27 rfl rfl wd_1312 dX10_monk_99 h (fun a12 h => ?_)
      obtain ⟨hL13, h⟩ := ax_is_spec h
      refine aw_doneI (rest := [.int v1, .ref a11, .ref v0]) h (fun r9 S9 hF => aw_runV (As := [.ref a12]) (rest := [.int v1, .ref a11, .ref v0]) (L1_X10_strokesOf N hF) axc10 hL13 wd_1608 wd_1605 wd_1607 wd_66 wd_97 pd_X10_strokesOf rfl (ax_rm (by omega) rfl) ax_hf0 (Nat.le_of_ble_eq_true rfl) rfl dX10_monk_102) (fun x15 T14 h => ?_)
      obtain ⟨hL16, h⟩ := ax_is_spec h
      refine aw_doneI (rest := []) h (fun r9 S9 hF => aw_runV (As := [.ref a11, .int v1, .int x15]) (rest := []) (L1_X10_isWaking N hF) axc10 hL16 wd_1625 wd_1622 wd_1624 wd_68 wd_97 pd_X10_isWaking rfl (ax_rm (by omega) rfl) ax_hf0 (Nat.le_of_ble_eq_true rfl) rfl dX10_monk_105) (fun x18 T17 h => ?_)
      refine aw_if_eq 115 dX10_monk_108 (by decide) h (fun h => ?_) (fun h => ?_)
      · refine aw_iconst 0 dX10_monk_115 rfl ?_
        exact aw_iret dX10_monk_116 rfl (Nat.le_refl _) (Nat.le_refl _) h
      · refine aw_iconst 1 dX10_monk_111 rfl ?_
        refine aw_goto 116 dX10_monk_112 (by decide) ?_
        exact aw_iret dX10_monk_116 rfl (Nat.le_refl _) (Nat.le_refl _) h
    refine aw_tswOut 117 dX10_monk_46 (by have q0 := ax_i32ne c7 (v := 0) (i := 0) (by decide); have q1 := ax_i32ne c10 (v := 1) (i := 1) (by decide); have q2 := ax_i32ne c19 (v := 2) (i := 2) (by decide); omega) (by decide) ?_
    refine aw_aload_n 0 dX10_monk_117 rfl rfl ?_
    refine aw_getR axc10 27 rfl rfl wd_1312 dX10_monk_118 h (fun a20 h => ?_)
    refine aw_bipush 21 dX10_monk_121 (by decide) ?_
    refine aw_iload_n 1 dX10_monk_123 rfl rfl ?_
    refine aw_iadd dX10_monk_124 ?_
    refine aw_iald dX10_monk_125 h (fun x21 h => ?_)
    exact aw_iret dX10_monk_126 rfl (Nat.le_refl _) (Nat.le_refl _) h
  · refine aw_iconst 0 dX10_monk_43 rfl ?_
    exact aw_iret dX10_monk_44 rfl (Nat.le_refl _) (Nat.le_refl _) h
theorem L1_X10_monk {g : AxG} {l : Launch} (N : Nat) {v0 : Nat} {v1 : Int32} {v2 : Int32} {S : AxS} {r9 : Int32} {S9 : AxS} (h : F_X10_monk N v0 v1 v2 S = some ((r9, S9))) : AxMet g l yX10_monk cX10_monk 3 (some .int) (4) 0 0 [.ref v0, .int v1, .int v2] S ((.inl (some (.int r9)), S9)) := by
  refine ax_met (own := RX10) (ini := false) (by decide +kernel) rfl (fun h => nomatch h) rfl ?_
  show AW g l (axRm (4) 0 0) mt_X10_monk (axMQ g 0 0 (.inl (some (.int r9)), S9)) 0 0 S 0 [(0, .ref v0), (1, .int v1), (2, .int v2)] []
  unfold F_X10_monk at h
  refine aw_aload_n 0 dX10_monk_0 rfl rfl ?_
  refine aw_iconst 0 dX10_monk_1 rfl ?_
  refine aw_putI axc10 0 rfl rfl wd_1285 rfl rfl rfl dX10_monk_2 h (fun T1 h => ?_)
  refine aw_aload_n 0 dX10_monk_5 rfl rfl ?_
  refine aw_aload_n 0 dX10_monk_6 rfl rfl ?_
  refine aw_iconst 2 dX10_monk_7 rfl ?_
  refine aw_iload_n 1 dX10_monk_8 rfl rfl ?_
  obtain ⟨hL2, h⟩ := ax_is_spec h
  refine aw_doneI (rest := [.ref v0]) h (fun r9 S9 hF => aw_runV (As := [.int 2, .int v1]) (rest := [.ref v0]) (L1_X10_isNo N hF) axc10 hL2 wd_1653 wd_1650 wd_1652 wd_70 wd_97 pd_X10_isNo rfl (ax_rm (by omega) rfl) ax_hf0 (Nat.le_of_ble_eq_true rfl) rfl dX10_monk_9) (fun x4 T3 h => ?_)
  refine aw_iconst 1 dX10_monk_12 rfl ?_
  refine aw_iconst 0 dX10_monk_13 rfl ?_
  obtain ⟨hL5, h⟩ := ax_is_spec h
  refine aw_doneI (rest := []) h (fun r9 S9 hF => aw_runV (As := [.int x4, .int 1, .int 0]) (rest := []) (L1_X10_bad N hF) axc10 hL5 wd_1452 wd_1449 wd_1451 wd_38 wd_97 pd_X10_bad rfl (ax_rm (by omega) rfl) ax_hf0 (Nat.le_of_ble_eq_true rfl) rfl dX10_monk_14) (fun x7 T6 h => ?_)
  refine aw_if_ne 43 dX10_monk_17 (by decide) h (fun h => ?_) (fun h => ?_)
  · refine aw_iconst 0 dX10_monk_43 rfl ?_
    exact aw_iret dX10_monk_44 rfl (Nat.le_refl _) (Nat.le_refl _) h
  · refine aw_aload_n 0 dX10_monk_20 rfl rfl ?_
    refine aw_iload_n 2 dX10_monk_21 rfl rfl ?_
    refine aw_iconst 0 dX10_monk_22 rfl ?_
    refine aw_iconst 3 dX10_monk_23 rfl ?_
    refine aw_doneI (rest := [.ref v0]) h (fun r9 S9 hF => aw_runS (As := [.int v2, .int 0, .int 3]) (rest := [.ref v0]) (L1_X10_in N hF) wd_1448 wd_1446 wd_1447 wd_97 pd_X10_in.2 rfl (ax_rm (by omega) rfl) ax_hf0 (Nat.le_of_ble_eq_true rfl) rfl dX10_monk_24) (fun x9 T8 h => ?_)
    refine aw_if_ne 34 dX10_monk_27 (by decide) h (fun h => ?_) (fun h => ?_)
    · refine aw_iconst 0 dX10_monk_34 rfl ?_
      refine aw_env [(0, .ref v0), (1, .int v1), (2, .int v2)] [0, 1, 2] rfl ?_
      exact L1_X10_monk_35 N  v0 v1 v2 0 v0 T8 h
    · refine aw_iconst 1 dX10_monk_30 rfl ?_
      refine aw_goto 35 dX10_monk_31 (by decide) ?_
      refine aw_env [(0, .ref v0), (1, .int v1), (2, .int v2)] [0, 1, 2] rfl ?_
      exact L1_X10_monk_35 N  v0 v1 v2 1 v0 T8 h

theorem dX10_village_0 : decode cX10_village 0 = .ok (.aload_n 0, 1) := by decide +kernel
theorem dX10_village_1 : decode cX10_village 1 = .ok (.iconst 0, 1) := by decide +kernel
theorem dX10_village_2 : decode cX10_village 2 = .ok (.putfield 104, 3) := by decide +kernel
theorem dX10_village_5 : decode cX10_village 5 = .ok (.aload_n 0, 1) := by decide +kernel
theorem dX10_village_6 : decode cX10_village 6 = .ok (.aload_n 0, 1) := by decide +kernel
theorem dX10_village_7 : decode cX10_village 7 = .ok (.iconst 0, 1) := by decide +kernel
theorem dX10_village_8 : decode cX10_village 8 = .ok (.iload_n 1, 1) := by decide +kernel
theorem dX10_village_9 : decode cX10_village 9 = .ok (.invokevirtual 326, 3) := by decide +kernel
theorem dX10_village_12 : decode cX10_village 12 = .ok (.iconst 1, 1) := by decide +kernel
theorem dX10_village_13 : decode cX10_village 13 = .ok (.iconst 0, 1) := by decide +kernel
theorem dX10_village_14 : decode cX10_village 14 = .ok (.invokevirtual 193, 3) := by decide +kernel
theorem dX10_village_17 : decode cX10_village 17 = .ok (.ifCond .ne 26, 3) := by decide +kernel
theorem dX10_village_20 : decode cX10_village 20 = .ok (.aload_n 0, 1) := by decide +kernel
theorem dX10_village_21 : decode cX10_village 21 = .ok (.iload_n 2, 1) := by decide +kernel
theorem dX10_village_22 : decode cX10_village 22 = .ok (.iconst 0, 1) := by decide +kernel
theorem dX10_village_23 : decode cX10_village 23 = .ok (.iconst 1, 1) := by decide +kernel
theorem dX10_village_24 : decode cX10_village 24 = .ok (.invokestatic 138, 3) := by decide +kernel
theorem dX10_village_27 : decode cX10_village 27 = .ok (.ifCond .ne 7, 3) := by decide +kernel
theorem dX10_village_30 : decode cX10_village 30 = .ok (.iconst 1, 1) := by decide +kernel
theorem dX10_village_31 : decode cX10_village 31 = .ok (.goto 4, 3) := by decide +kernel
theorem dX10_village_34 : decode cX10_village 34 = .ok (.iconst 0, 1) := by decide +kernel
theorem dX10_village_35 : decode cX10_village 35 = .ok (.iconst 2, 1) := by decide +kernel
theorem dX10_village_36 : decode cX10_village 36 = .ok (.iconst 1, 1) := by decide +kernel
theorem dX10_village_37 : decode cX10_village 37 = .ok (.invokevirtual 193, 3) := by decide +kernel
theorem dX10_village_40 : decode cX10_village 40 = .ok (.ifCond .eq 5, 3) := by decide +kernel
theorem dX10_village_43 : decode cX10_village 43 = .ok (.iconst 0, 1) := by decide +kernel
theorem dX10_village_44 : decode cX10_village 44 = .ok (.ireturn, 1) := by decide +kernel
theorem dX10_village_45 : decode cX10_village 45 = .ok (.iload_n 2, 1) := by decide +kernel
theorem dX10_village_46 : decode cX10_village 46 = .ok (.ifCond .ne 14, 3) := by decide +kernel
theorem dX10_village_49 : decode cX10_village 49 = .ok (.aload_n 0, 1) := by decide +kernel
theorem dX10_village_50 : decode cX10_village 50 = .ok (.getfield 37, 3) := by decide +kernel
theorem dX10_village_53 : decode cX10_village 53 = .ok (.iconst 0, 1) := by decide +kernel
theorem dX10_village_54 : decode cX10_village 54 = .ok (.aaload, 1) := by decide +kernel
theorem dX10_village_55 : decode cX10_village 55 = .ok (.iload_n 1, 1) := by decide +kernel
theorem dX10_village_56 : decode cX10_village 56 = .ok (.iaload, 1) := by decide +kernel
theorem dX10_village_57 : decode cX10_village 57 = .ok (.goto 14, 3) := by decide +kernel
theorem dX10_village_60 : decode cX10_village 60 = .ok (.aload_n 0, 1) := by decide +kernel
theorem dX10_village_61 : decode cX10_village 61 = .ok (.getfield 61, 3) := by decide +kernel
theorem dX10_village_64 : decode cX10_village 64 = .ok (.bipush 11, 2) := by decide +kernel
theorem dX10_village_66 : decode cX10_village 66 = .ok (.iaload, 1) := by decide +kernel
theorem dX10_village_67 : decode cX10_village 67 = .ok (.iload_n 1, 1) := by decide +kernel
theorem dX10_village_68 : decode cX10_village 68 = .ok (.ishr, 1) := by decide +kernel
theorem dX10_village_69 : decode cX10_village 69 = .ok (.iconst 1, 1) := by decide +kernel
theorem dX10_village_70 : decode cX10_village 70 = .ok (.iand, 1) := by decide +kernel
theorem dX10_village_71 : decode cX10_village 71 = .ok (.ireturn, 1) := by decide +kernel
abbrev mt_X10_village : AxM := (RX10, cX10_village, 3, (some .int), false, [])
theorem L1_X10_village_35 {g : AxG} {l : Launch} {r9 : Int32} {S9 : AxS} (N : Nat)  (v0 : Nat) (v1 : Int32) (v2 : Int32) (w0 : Int32) (w1 : Nat) (S : AxS) (h : F_X10_village_35 N  v0 v1 v2 w0 w1 S = some ((r9, S9))) : AW g l (axRm (2) 0 0) mt_X10_village (axMQ g 0 0 (.inl (some (.int r9)), S9)) 0 0 S 35 [(0, .ref v0), (1, .int v1), (2, .int v2)] [.int w0, .ref w1] := by
  unfold F_X10_village_35 at h
  refine aw_iconst 2 dX10_village_35 rfl ?_
  refine aw_iconst 1 dX10_village_36 rfl ?_
  obtain ⟨hL1, h⟩ := ax_is_spec h
  refine aw_doneI (rest := []) h (fun r9 S9 hF => aw_runV (As := [.int w0, .int 2, .int 1]) (rest := []) (L1_X10_bad N hF) axc10 hL1 wd_1452 wd_1449 wd_1451 wd_38 wd_97 pd_X10_bad rfl (ax_rm (by omega) rfl) ax_hf0 (Nat.le_of_ble_eq_true rfl) rfl dX10_village_37) (fun x3 T2 h => ?_)
  refine aw_if_eq 45 dX10_village_40 (by decide) h (fun h => ?_) (fun h => ?_)
  · refine aw_iload_n 2 dX10_village_45 rfl rfl ?_
    refine aw_if_ne 60 dX10_village_46 (by decide) h (fun h => ?_) (fun h => ?_)
    · refine aw_aload_n 0 dX10_village_60 rfl rfl ?_
      refine aw_getR axc10 27 rfl rfl wd_1312 dX10_village_61 h (fun a4 h => ?_)
      refine aw_bipush 11 dX10_village_64 (by decide) ?_
      refine aw_iald dX10_village_66 h (fun x5 h => ?_)
      refine aw_iload_n 1 dX10_village_67 rfl rfl ?_
      refine aw_ishr dX10_village_68 ?_
      refine aw_iconst 1 dX10_village_69 rfl ?_
      refine aw_iand dX10_village_70 ?_
      exact aw_iret dX10_village_71 rfl (Nat.le_refl _) (Nat.le_refl _) h
    · refine aw_aload_n 0 dX10_village_49 rfl rfl ?_
      refine aw_getR axc10 16 rfl rfl wd_1301 dX10_village_50 h (fun a6 h => ?_)
      refine aw_iconst 0 dX10_village_53 rfl ?_
      refine aw_aald dX10_village_54 h (fun a7 h => ?_)
      refine aw_iload_n 1 dX10_village_55 rfl rfl ?_
      refine aw_iald dX10_village_56 h (fun x8 h => ?_)
      refine aw_goto 71 dX10_village_57 (by decide) ?_
      exact aw_iret dX10_village_71 rfl (Nat.le_refl _) (Nat.le_refl _) h
  · refine aw_iconst 0 dX10_village_43 rfl ?_
    exact aw_iret dX10_village_44 rfl (Nat.le_refl _) (Nat.le_refl _) h
theorem L1_X10_village {g : AxG} {l : Launch} (N : Nat) {v0 : Nat} {v1 : Int32} {v2 : Int32} {S : AxS} {r9 : Int32} {S9 : AxS} (h : F_X10_village N v0 v1 v2 S = some ((r9, S9))) : AxMet g l yX10_village cX10_village 3 (some .int) (2) 0 0 [.ref v0, .int v1, .int v2] S ((.inl (some (.int r9)), S9)) := by
  refine ax_met (own := RX10) (ini := false) (by decide +kernel) rfl (fun h => nomatch h) rfl ?_
  show AW g l (axRm (2) 0 0) mt_X10_village (axMQ g 0 0 (.inl (some (.int r9)), S9)) 0 0 S 0 [(0, .ref v0), (1, .int v1), (2, .int v2)] []
  unfold F_X10_village at h
  refine aw_aload_n 0 dX10_village_0 rfl rfl ?_
  refine aw_iconst 0 dX10_village_1 rfl ?_
  refine aw_putI axc10 0 rfl rfl wd_1285 rfl rfl rfl dX10_village_2 h (fun T1 h => ?_)
  refine aw_aload_n 0 dX10_village_5 rfl rfl ?_
  refine aw_aload_n 0 dX10_village_6 rfl rfl ?_
  refine aw_iconst 0 dX10_village_7 rfl ?_
  refine aw_iload_n 1 dX10_village_8 rfl rfl ?_
  obtain ⟨hL2, h⟩ := ax_is_spec h
  refine aw_doneI (rest := [.ref v0]) h (fun r9 S9 hF => aw_runV (As := [.int 0, .int v1]) (rest := [.ref v0]) (L1_X10_isNo N hF) axc10 hL2 wd_1653 wd_1650 wd_1652 wd_70 wd_97 pd_X10_isNo rfl (ax_rm (by omega) rfl) ax_hf0 (Nat.le_of_ble_eq_true rfl) rfl dX10_village_9) (fun x4 T3 h => ?_)
  refine aw_iconst 1 dX10_village_12 rfl ?_
  refine aw_iconst 0 dX10_village_13 rfl ?_
  obtain ⟨hL5, h⟩ := ax_is_spec h
  refine aw_doneI (rest := []) h (fun r9 S9 hF => aw_runV (As := [.int x4, .int 1, .int 0]) (rest := []) (L1_X10_bad N hF) axc10 hL5 wd_1452 wd_1449 wd_1451 wd_38 wd_97 pd_X10_bad rfl (ax_rm (by omega) rfl) ax_hf0 (Nat.le_of_ble_eq_true rfl) rfl dX10_village_14) (fun x7 T6 h => ?_)
  refine aw_if_ne 43 dX10_village_17 (by decide) h (fun h => ?_) (fun h => ?_)
  · refine aw_iconst 0 dX10_village_43 rfl ?_
    exact aw_iret dX10_village_44 rfl (Nat.le_refl _) (Nat.le_refl _) h
  · refine aw_aload_n 0 dX10_village_20 rfl rfl ?_
    refine aw_iload_n 2 dX10_village_21 rfl rfl ?_
    refine aw_iconst 0 dX10_village_22 rfl ?_
    refine aw_iconst 1 dX10_village_23 rfl ?_
    refine aw_doneI (rest := [.ref v0]) h (fun r9 S9 hF => aw_runS (As := [.int v2, .int 0, .int 1]) (rest := [.ref v0]) (L1_X10_in N hF) wd_1448 wd_1446 wd_1447 wd_97 pd_X10_in.2 rfl (ax_rm (by omega) rfl) ax_hf0 (Nat.le_of_ble_eq_true rfl) rfl dX10_village_24) (fun x9 T8 h => ?_)
    refine aw_if_ne 34 dX10_village_27 (by decide) h (fun h => ?_) (fun h => ?_)
    · refine aw_iconst 0 dX10_village_34 rfl ?_
      refine aw_env [(0, .ref v0), (1, .int v1), (2, .int v2)] [0, 1, 2] rfl ?_
      exact L1_X10_village_35 N  v0 v1 v2 0 v0 T8 h
    · refine aw_iconst 1 dX10_village_30 rfl ?_
      refine aw_goto 35 dX10_village_31 (by decide) ?_
      refine aw_env [(0, .ref v0), (1, .int v1), (2, .int v2)] [0, 1, 2] rfl ?_
      exact L1_X10_village_35 N  v0 v1 v2 1 v0 T8 h

theorem dX10_cell_0 : decode cX10_cell 0 = .ok (.aload_n 0, 1) := by decide +kernel
theorem dX10_cell_1 : decode cX10_cell 1 = .ok (.iconst 0, 1) := by decide +kernel
theorem dX10_cell_2 : decode cX10_cell 2 = .ok (.putfield 104, 3) := by decide +kernel
theorem dX10_cell_5 : decode cX10_cell 5 = .ok (.aload_n 0, 1) := by decide +kernel
theorem dX10_cell_6 : decode cX10_cell 6 = .ok (.aload_n 0, 1) := by decide +kernel
theorem dX10_cell_7 : decode cX10_cell 7 = .ok (.iconst 1, 1) := by decide +kernel
theorem dX10_cell_8 : decode cX10_cell 8 = .ok (.iload_n 1, 1) := by decide +kernel
theorem dX10_cell_9 : decode cX10_cell 9 = .ok (.invokevirtual 326, 3) := by decide +kernel
theorem dX10_cell_12 : decode cX10_cell 12 = .ok (.iconst 1, 1) := by decide +kernel
theorem dX10_cell_13 : decode cX10_cell 13 = .ok (.iconst 0, 1) := by decide +kernel
theorem dX10_cell_14 : decode cX10_cell 14 = .ok (.invokevirtual 193, 3) := by decide +kernel
theorem dX10_cell_17 : decode cX10_cell 17 = .ok (.ifCond .eq 5, 3) := by decide +kernel
theorem dX10_cell_20 : decode cX10_cell 20 = .ok (.iconst 0, 1) := by decide +kernel
theorem dX10_cell_21 : decode cX10_cell 21 = .ok (.ireturn, 1) := by decide +kernel
theorem dX10_cell_22 : decode cX10_cell 22 = .ok (.aload_n 0, 1) := by decide +kernel
theorem dX10_cell_23 : decode cX10_cell 23 = .ok (.getfield 37, 3) := by decide +kernel
theorem dX10_cell_26 : decode cX10_cell 26 = .ok (.iconst 1, 1) := by decide +kernel
theorem dX10_cell_27 : decode cX10_cell 27 = .ok (.aaload, 1) := by decide +kernel
theorem dX10_cell_28 : decode cX10_cell 28 = .ok (.iload_n 1, 1) := by decide +kernel
theorem dX10_cell_29 : decode cX10_cell 29 = .ok (.iaload, 1) := by decide +kernel
theorem dX10_cell_30 : decode cX10_cell 30 = .ok (.ireturn, 1) := by decide +kernel
abbrev mt_X10_cell : AxM := (RX10, cX10_cell, 2, (some .int), false, [])
theorem L1_X10_cell {g : AxG} {l : Launch} (N : Nat) {v0 : Nat} {v1 : Int32} {S : AxS} {r9 : Int32} {S9 : AxS} (h : F_X10_cell N v0 v1 S = some ((r9, S9))) : AxMet g l yX10_cell cX10_cell 2 (some .int) (2) 0 0 [.ref v0, .int v1] S ((.inl (some (.int r9)), S9)) := by
  refine ax_met (own := RX10) (ini := false) (by decide +kernel) rfl (fun h => nomatch h) rfl ?_
  show AW g l (axRm (2) 0 0) mt_X10_cell (axMQ g 0 0 (.inl (some (.int r9)), S9)) 0 0 S 0 [(0, .ref v0), (1, .int v1)] []
  unfold F_X10_cell at h
  refine aw_aload_n 0 dX10_cell_0 rfl rfl ?_
  refine aw_iconst 0 dX10_cell_1 rfl ?_
  refine aw_putI axc10 0 rfl rfl wd_1285 rfl rfl rfl dX10_cell_2 h (fun T1 h => ?_)
  refine aw_aload_n 0 dX10_cell_5 rfl rfl ?_
  refine aw_aload_n 0 dX10_cell_6 rfl rfl ?_
  refine aw_iconst 1 dX10_cell_7 rfl ?_
  refine aw_iload_n 1 dX10_cell_8 rfl rfl ?_
  obtain ⟨hL2, h⟩ := ax_is_spec h
  refine aw_doneI (rest := [.ref v0]) h (fun r9 S9 hF => aw_runV (As := [.int 1, .int v1]) (rest := [.ref v0]) (L1_X10_isNo N hF) axc10 hL2 wd_1653 wd_1650 wd_1652 wd_70 wd_97 pd_X10_isNo rfl (ax_rm (by omega) rfl) ax_hf0 (Nat.le_of_ble_eq_true rfl) rfl dX10_cell_9) (fun x4 T3 h => ?_)
  refine aw_iconst 1 dX10_cell_12 rfl ?_
  refine aw_iconst 0 dX10_cell_13 rfl ?_
  obtain ⟨hL5, h⟩ := ax_is_spec h
  refine aw_doneI (rest := []) h (fun r9 S9 hF => aw_runV (As := [.int x4, .int 1, .int 0]) (rest := []) (L1_X10_bad N hF) axc10 hL5 wd_1452 wd_1449 wd_1451 wd_38 wd_97 pd_X10_bad rfl (ax_rm (by omega) rfl) ax_hf0 (Nat.le_of_ble_eq_true rfl) rfl dX10_cell_14) (fun x7 T6 h => ?_)
  refine aw_if_eq 22 dX10_cell_17 (by decide) h (fun h => ?_) (fun h => ?_)
  · refine aw_aload_n 0 dX10_cell_22 rfl rfl ?_
    refine aw_getR axc10 16 rfl rfl wd_1301 dX10_cell_23 h (fun a8 h => ?_)
    refine aw_iconst 1 dX10_cell_26 rfl ?_
    refine aw_aald dX10_cell_27 h (fun a9 h => ?_)
    refine aw_iload_n 1 dX10_cell_28 rfl rfl ?_
    refine aw_iald dX10_cell_29 h (fun x10 h => ?_)
    exact aw_iret dX10_cell_30 rfl (Nat.le_refl _) (Nat.le_refl _) h
  · refine aw_iconst 0 dX10_cell_20 rfl ?_
    exact aw_iret dX10_cell_21 rfl (Nat.le_refl _) (Nat.le_refl _) h

theorem dX10_heir_0 : decode cX10_heir 0 = .ok (.aload_n 0, 1) := by decide +kernel
theorem dX10_heir_1 : decode cX10_heir 1 = .ok (.iconst 0, 1) := by decide +kernel
theorem dX10_heir_2 : decode cX10_heir 2 = .ok (.putfield 104, 3) := by decide +kernel
theorem dX10_heir_5 : decode cX10_heir 5 = .ok (.aload_n 0, 1) := by decide +kernel
theorem dX10_heir_6 : decode cX10_heir 6 = .ok (.aload_n 0, 1) := by decide +kernel
theorem dX10_heir_7 : decode cX10_heir 7 = .ok (.iconst 3, 1) := by decide +kernel
theorem dX10_heir_8 : decode cX10_heir 8 = .ok (.iload_n 1, 1) := by decide +kernel
theorem dX10_heir_9 : decode cX10_heir 9 = .ok (.invokevirtual 326, 3) := by decide +kernel
theorem dX10_heir_12 : decode cX10_heir 12 = .ok (.iconst 1, 1) := by decide +kernel
theorem dX10_heir_13 : decode cX10_heir 13 = .ok (.iconst 0, 1) := by decide +kernel
theorem dX10_heir_14 : decode cX10_heir 14 = .ok (.invokevirtual 193, 3) := by decide +kernel
theorem dX10_heir_17 : decode cX10_heir 17 = .ok (.ifCond .eq 5, 3) := by decide +kernel
theorem dX10_heir_20 : decode cX10_heir 20 = .ok (.iconst 0, 1) := by decide +kernel
theorem dX10_heir_21 : decode cX10_heir 21 = .ok (.ireturn, 1) := by decide +kernel
theorem dX10_heir_22 : decode cX10_heir 22 = .ok (.aload_n 0, 1) := by decide +kernel
theorem dX10_heir_23 : decode cX10_heir 23 = .ok (.getfield 37, 3) := by decide +kernel
theorem dX10_heir_26 : decode cX10_heir 26 = .ok (.iconst 3, 1) := by decide +kernel
theorem dX10_heir_27 : decode cX10_heir 27 = .ok (.aaload, 1) := by decide +kernel
theorem dX10_heir_28 : decode cX10_heir 28 = .ok (.iload_n 1, 1) := by decide +kernel
theorem dX10_heir_29 : decode cX10_heir 29 = .ok (.iaload, 1) := by decide +kernel
theorem dX10_heir_30 : decode cX10_heir 30 = .ok (.ireturn, 1) := by decide +kernel
abbrev mt_X10_heir : AxM := (RX10, cX10_heir, 2, (some .int), false, [])
theorem L1_X10_heir {g : AxG} {l : Launch} (N : Nat) {v0 : Nat} {v1 : Int32} {S : AxS} {r9 : Int32} {S9 : AxS} (h : F_X10_heir N v0 v1 S = some ((r9, S9))) : AxMet g l yX10_heir cX10_heir 2 (some .int) (2) 0 0 [.ref v0, .int v1] S ((.inl (some (.int r9)), S9)) := by
  refine ax_met (own := RX10) (ini := false) (by decide +kernel) rfl (fun h => nomatch h) rfl ?_
  show AW g l (axRm (2) 0 0) mt_X10_heir (axMQ g 0 0 (.inl (some (.int r9)), S9)) 0 0 S 0 [(0, .ref v0), (1, .int v1)] []
  unfold F_X10_heir at h
  refine aw_aload_n 0 dX10_heir_0 rfl rfl ?_
  refine aw_iconst 0 dX10_heir_1 rfl ?_
  refine aw_putI axc10 0 rfl rfl wd_1285 rfl rfl rfl dX10_heir_2 h (fun T1 h => ?_)
  refine aw_aload_n 0 dX10_heir_5 rfl rfl ?_
  refine aw_aload_n 0 dX10_heir_6 rfl rfl ?_
  refine aw_iconst 3 dX10_heir_7 rfl ?_
  refine aw_iload_n 1 dX10_heir_8 rfl rfl ?_
  obtain ⟨hL2, h⟩ := ax_is_spec h
  refine aw_doneI (rest := [.ref v0]) h (fun r9 S9 hF => aw_runV (As := [.int 3, .int v1]) (rest := [.ref v0]) (L1_X10_isNo N hF) axc10 hL2 wd_1653 wd_1650 wd_1652 wd_70 wd_97 pd_X10_isNo rfl (ax_rm (by omega) rfl) ax_hf0 (Nat.le_of_ble_eq_true rfl) rfl dX10_heir_9) (fun x4 T3 h => ?_)
  refine aw_iconst 1 dX10_heir_12 rfl ?_
  refine aw_iconst 0 dX10_heir_13 rfl ?_
  obtain ⟨hL5, h⟩ := ax_is_spec h
  refine aw_doneI (rest := []) h (fun r9 S9 hF => aw_runV (As := [.int x4, .int 1, .int 0]) (rest := []) (L1_X10_bad N hF) axc10 hL5 wd_1452 wd_1449 wd_1451 wd_38 wd_97 pd_X10_bad rfl (ax_rm (by omega) rfl) ax_hf0 (Nat.le_of_ble_eq_true rfl) rfl dX10_heir_14) (fun x7 T6 h => ?_)
  refine aw_if_eq 22 dX10_heir_17 (by decide) h (fun h => ?_) (fun h => ?_)
  · refine aw_aload_n 0 dX10_heir_22 rfl rfl ?_
    refine aw_getR axc10 16 rfl rfl wd_1301 dX10_heir_23 h (fun a8 h => ?_)
    refine aw_iconst 3 dX10_heir_26 rfl ?_
    refine aw_aald dX10_heir_27 h (fun a9 h => ?_)
    refine aw_iload_n 1 dX10_heir_28 rfl rfl ?_
    refine aw_iald dX10_heir_29 h (fun x10 h => ?_)
    exact aw_iret dX10_heir_30 rfl (Nat.le_refl _) (Nat.le_refl _) h
  · refine aw_iconst 0 dX10_heir_20 rfl ?_
    exact aw_iret dX10_heir_21 rfl (Nat.le_refl _) (Nat.le_refl _) h

theorem dX10_strokes_0 : decode cX10_strokes 0 = .ok (.aload_n 0, 1) := by decide +kernel
theorem dX10_strokes_1 : decode cX10_strokes 1 = .ok (.iconst 0, 1) := by decide +kernel
theorem dX10_strokes_2 : decode cX10_strokes 2 = .ok (.putfield 104, 3) := by decide +kernel
theorem dX10_strokes_5 : decode cX10_strokes 5 = .ok (.aload_n 0, 1) := by decide +kernel
theorem dX10_strokes_6 : decode cX10_strokes 6 = .ok (.aload_n 0, 1) := by decide +kernel
theorem dX10_strokes_7 : decode cX10_strokes 7 = .ok (.getfield 61, 3) := by decide +kernel
theorem dX10_strokes_10 : decode cX10_strokes 10 = .ok (.invokevirtual 283, 3) := by decide +kernel
theorem dX10_strokes_13 : decode cX10_strokes 13 = .ok (.ireturn, 1) := by decide +kernel
abbrev mt_X10_strokes : AxM := (RX10, cX10_strokes, 1, (some .int), false, [])
theorem L1_X10_strokes {g : AxG} {l : Launch} (N : Nat) {v0 : Nat} {S : AxS} {r9 : Int32} {S9 : AxS} (h : F_X10_strokes N v0 S = some ((r9, S9))) : AxMet g l yX10_strokes cX10_strokes 1 (some .int) (4) 0 0 [.ref v0] S ((.inl (some (.int r9)), S9)) := by
  refine ax_met (own := RX10) (ini := false) (by decide +kernel) rfl (fun h => nomatch h) rfl ?_
  show AW g l (axRm (4) 0 0) mt_X10_strokes (axMQ g 0 0 (.inl (some (.int r9)), S9)) 0 0 S 0 [(0, .ref v0)] []
  unfold F_X10_strokes at h
  refine aw_aload_n 0 dX10_strokes_0 rfl rfl ?_
  refine aw_iconst 0 dX10_strokes_1 rfl ?_
  refine aw_putI axc10 0 rfl rfl wd_1285 rfl rfl rfl dX10_strokes_2 h (fun T1 h => ?_)
  refine aw_aload_n 0 dX10_strokes_5 rfl rfl ?_
  refine aw_aload_n 0 dX10_strokes_6 rfl rfl ?_
  refine aw_getR axc10 27 rfl rfl wd_1312 dX10_strokes_7 h (fun a2 h => ?_)
  obtain ⟨hL3, h⟩ := ax_is_spec h
  refine aw_doneI (rest := []) h (fun r9 S9 hF => aw_runV (As := [.ref a2]) (rest := []) (L1_X10_strokesOf N hF) axc10 hL3 wd_1608 wd_1605 wd_1607 wd_66 wd_97 pd_X10_strokesOf rfl (ax_rm (by omega) rfl) ax_hf0 (Nat.le_of_ble_eq_true rfl) rfl dX10_strokes_10) (fun x5 T4 h => ?_)
  exact aw_iret dX10_strokes_13 rfl (Nat.le_refl _) (Nat.le_refl _) h
