theorem dX10_plan_0 : decode cX10_plan 0 = .ok (.aload_n 0, 1) := by decide +kernel
theorem dX10_plan_1 : decode cX10_plan 1 = .ok (.iconst 0, 1) := by decide +kernel
theorem dX10_plan_2 : decode cX10_plan 2 = .ok (.putfield 104, 3) := by decide +kernel
theorem dX10_plan_5 : decode cX10_plan 5 = .ok (.aload_n 0, 1) := by decide +kernel
theorem dX10_plan_6 : decode cX10_plan 6 = .ok (.iload_n 1, 1) := by decide +kernel
theorem dX10_plan_7 : decode cX10_plan 7 = .ok (.iconst 0, 1) := by decide +kernel
theorem dX10_plan_8 : decode cX10_plan 8 = .ok (.iconst 5, 1) := by decide +kernel
theorem dX10_plan_9 : decode cX10_plan 9 = .ok (.invokestatic 138, 3) := by decide +kernel
theorem dX10_plan_12 : decode cX10_plan 12 = .ok (.ifCond .eq 45, 3) := by decide +kernel
theorem dX10_plan_15 : decode cX10_plan 15 = .ok (.iload_n 2, 1) := by decide +kernel
theorem dX10_plan_16 : decode cX10_plan 16 = .ok (.iconst 0, 1) := by decide +kernel
theorem dX10_plan_17 : decode cX10_plan 17 = .ok (.sipush 999, 3) := by decide +kernel
theorem dX10_plan_20 : decode cX10_plan 20 = .ok (.invokestatic 138, 3) := by decide +kernel
theorem dX10_plan_23 : decode cX10_plan 23 = .ok (.ifCond .eq 34, 3) := by decide +kernel
theorem dX10_plan_26 : decode cX10_plan 26 = .ok (.iload_n 3, 1) := by decide +kernel
theorem dX10_plan_27 : decode cX10_plan 27 = .ok (.iconst 0, 1) := by decide +kernel
theorem dX10_plan_28 : decode cX10_plan 28 = .ok (.iconst 1, 1) := by decide +kernel
theorem dX10_plan_29 : decode cX10_plan 29 = .ok (.iconst 5, 1) := by decide +kernel
theorem dX10_plan_30 : decode cX10_plan 30 = .ok (.iconst 0, 1) := by decide +kernel
theorem dX10_plan_31 : decode cX10_plan 31 = .ok (.iload_n 1, 1) := by decide +kernel
theorem dX10_plan_32 : decode cX10_plan 32 = .ok (.invokestatic 257, 3) := by decide +kernel
theorem dX10_plan_35 : decode cX10_plan 35 = .ok (.invokestatic 172, 3) := by decide +kernel
theorem dX10_plan_38 : decode cX10_plan 38 = .ok (.ishl, 1) := by decide +kernel
theorem dX10_plan_39 : decode cX10_plan 39 = .ok (.iconst 1, 1) := by decide +kernel
theorem dX10_plan_40 : decode cX10_plan 40 = .ok (.isub, 1) := by decide +kernel
theorem dX10_plan_41 : decode cX10_plan 41 = .ok (.invokestatic 138, 3) := by decide +kernel
theorem dX10_plan_44 : decode cX10_plan 44 = .ok (.ifCond .eq 13, 3) := by decide +kernel
theorem dX10_plan_47 : decode cX10_plan 47 = .ok (.iload 4, 2) := by decide +kernel
theorem dX10_plan_49 : decode cX10_plan 49 = .ok (.iconst 0, 1) := by decide +kernel
theorem dX10_plan_50 : decode cX10_plan 50 = .ok (.iconst 1, 1) := by decide +kernel
theorem dX10_plan_51 : decode cX10_plan 51 = .ok (.invokestatic 138, 3) := by decide +kernel
theorem dX10_plan_54 : decode cX10_plan 54 = .ok (.ifCond .ne 7, 3) := by decide +kernel
theorem dX10_plan_57 : decode cX10_plan 57 = .ok (.iconst 1, 1) := by decide +kernel
theorem dX10_plan_58 : decode cX10_plan 58 = .ok (.goto 4, 3) := by decide +kernel
theorem dX10_plan_61 : decode cX10_plan 61 = .ok (.iconst 0, 1) := by decide +kernel
theorem dX10_plan_62 : decode cX10_plan 62 = .ok (.iconst 1, 1) := by decide +kernel
theorem dX10_plan_63 : decode cX10_plan 63 = .ok (.iconst 1, 1) := by decide +kernel
theorem dX10_plan_64 : decode cX10_plan 64 = .ok (.invokevirtual 193, 3) := by decide +kernel
theorem dX10_plan_67 : decode cX10_plan 67 = .ok (.ifCond .eq 5, 3) := by decide +kernel
theorem dX10_plan_70 : decode cX10_plan 70 = .ok (.iconst 0, 1) := by decide +kernel
theorem dX10_plan_71 : decode cX10_plan 71 = .ok (.ireturn, 1) := by decide +kernel
theorem dX10_plan_72 : decode cX10_plan 72 = .ok (.iconst 1, 1) := by decide +kernel
theorem dX10_plan_73 : decode cX10_plan 73 = .ok (.iconst 2, 1) := by decide +kernel
theorem dX10_plan_74 : decode cX10_plan 74 = .ok (.iload_n 1, 1) := by decide +kernel
theorem dX10_plan_75 : decode cX10_plan 75 = .ok (.imul, 1) := by decide +kernel
theorem dX10_plan_76 : decode cX10_plan 76 = .ok (.ishl, 1) := by decide +kernel
theorem dX10_plan_77 : decode cX10_plan 77 = .ok (.istore 5, 2) := by decide +kernel
theorem dX10_plan_79 : decode cX10_plan 79 = .ok (.iconst (-1), 1) := by decide +kernel
theorem dX10_plan_80 : decode cX10_plan 80 = .ok (.istore 6, 2) := by decide +kernel
theorem dX10_plan_82 : decode cX10_plan 82 = .ok (.iconst (-1), 1) := by decide +kernel
theorem dX10_plan_83 : decode cX10_plan 83 = .ok (.istore 7, 2) := by decide +kernel
theorem dX10_plan_85 : decode cX10_plan 85 = .ok (.iconst 0, 1) := by decide +kernel
theorem dX10_plan_86 : decode cX10_plan 86 = .ok (.istore 8, 2) := by decide +kernel
theorem dX10_plan_88 : decode cX10_plan 88 = .ok (.iload 8, 2) := by decide +kernel
theorem dX10_plan_90 : decode cX10_plan 90 = .ok (.iload 5, 2) := by decide +kernel
theorem dX10_plan_92 : decode cX10_plan 92 = .ok (.if_icmp .ge 117, 3) := by decide +kernel
theorem dX10_plan_95 : decode cX10_plan 95 = .ok (.iconst 0, 1) := by decide +kernel
theorem dX10_plan_96 : decode cX10_plan 96 = .ok (.istore 9, 2) := by decide +kernel
theorem dX10_plan_98 : decode cX10_plan 98 = .ok (.iconst 0, 1) := by decide +kernel
theorem dX10_plan_99 : decode cX10_plan 99 = .ok (.istore 10, 2) := by decide +kernel
theorem dX10_plan_101 : decode cX10_plan 101 = .ok (.iconst 0, 1) := by decide +kernel
theorem dX10_plan_102 : decode cX10_plan 102 = .ok (.istore 11, 2) := by decide +kernel
theorem dX10_plan_104 : decode cX10_plan 104 = .ok (.iload 11, 2) := by decide +kernel
theorem dX10_plan_106 : decode cX10_plan 106 = .ok (.iload_n 1, 1) := by decide +kernel
theorem dX10_plan_107 : decode cX10_plan 107 = .ok (.if_icmp .ge 62, 3) := by decide +kernel
theorem dX10_plan_110 : decode cX10_plan 110 = .ok (.aload_n 0, 1) := by decide +kernel
theorem dX10_plan_111 : decode cX10_plan 111 = .ok (.getfield 73, 3) := by decide +kernel
theorem dX10_plan_114 : decode cX10_plan 114 = .ok (.iload 11, 2) := by decide +kernel
theorem dX10_plan_116 : decode cX10_plan 116 = .ok (.iload 8, 2) := by decide +kernel
theorem dX10_plan_118 : decode cX10_plan 118 = .ok (.iconst 2, 1) := by decide +kernel
theorem dX10_plan_119 : decode cX10_plan 119 = .ok (.iload_n 1, 1) := by decide +kernel
theorem dX10_plan_120 : decode cX10_plan 120 = .ok (.iconst 1, 1) := by decide +kernel
theorem dX10_plan_121 : decode cX10_plan 121 = .ok (.isub, 1) := by decide +kernel
theorem dX10_plan_122 : decode cX10_plan 122 = .ok (.iload 11, 2) := by decide +kernel
theorem dX10_plan_124 : decode cX10_plan 124 = .ok (.isub, 1) := by decide +kernel
theorem dX10_plan_125 : decode cX10_plan 125 = .ok (.imul, 1) := by decide +kernel
theorem dX10_plan_126 : decode cX10_plan 126 = .ok (.ishr, 1) := by decide +kernel
theorem dX10_plan_127 : decode cX10_plan 127 = .ok (.iconst 3, 1) := by decide +kernel
theorem dX10_plan_128 : decode cX10_plan 128 = .ok (.iand, 1) := by decide +kernel
theorem dX10_plan_129 : decode cX10_plan 129 = .ok (.invokestatic 329, 3) := by decide +kernel
theorem dX10_plan_132 : decode cX10_plan 132 = .ok (.iastore, 1) := by decide +kernel
theorem dX10_plan_133 : decode cX10_plan 133 = .ok (.iload 9, 2) := by decide +kernel
theorem dX10_plan_135 : decode cX10_plan 135 = .ok (.bipush 10, 2) := by decide +kernel
theorem dX10_plan_137 : decode cX10_plan 137 = .ok (.aload_n 0, 1) := by decide +kernel
theorem dX10_plan_138 : decode cX10_plan 138 = .ok (.getfield 73, 3) := by decide +kernel
theorem dX10_plan_141 : decode cX10_plan 141 = .ok (.iload 11, 2) := by decide +kernel
theorem dX10_plan_143 : decode cX10_plan 143 = .ok (.iaload, 1) := by decide +kernel
theorem dX10_plan_144 : decode cX10_plan 144 = .ok (.imul, 1) := by decide +kernel
theorem dX10_plan_145 : decode cX10_plan 145 = .ok (.iadd, 1) := by decide +kernel
theorem dX10_plan_146 : decode cX10_plan 146 = .ok (.istore 9, 2) := by decide +kernel
theorem dX10_plan_148 : decode cX10_plan 148 = .ok (.bipush 10, 2) := by decide +kernel
theorem dX10_plan_150 : decode cX10_plan 150 = .ok (.iload 10, 2) := by decide +kernel
theorem dX10_plan_152 : decode cX10_plan 152 = .ok (.imul, 1) := by decide +kernel
theorem dX10_plan_153 : decode cX10_plan 153 = .ok (.aload_n 0, 1) := by decide +kernel
theorem dX10_plan_154 : decode cX10_plan 154 = .ok (.getfield 73, 3) := by decide +kernel
theorem dX10_plan_157 : decode cX10_plan 157 = .ok (.iload 11, 2) := by decide +kernel
theorem dX10_plan_159 : decode cX10_plan 159 = .ok (.iaload, 1) := by decide +kernel
theorem dX10_plan_160 : decode cX10_plan 160 = .ok (.iadd, 1) := by decide +kernel
theorem dX10_plan_161 : decode cX10_plan 161 = .ok (.istore 10, 2) := by decide +kernel
theorem dX10_plan_163 : decode cX10_plan 163 = .ok (.iinc 11 1, 3) := by decide +kernel
theorem dX10_plan_166 : decode cX10_plan 166 = .ok (.goto (-62), 3) := by decide +kernel
theorem dX10_plan_169 : decode cX10_plan 169 = .ok (.iload 6, 2) := by decide +kernel
theorem dX10_plan_171 : decode cX10_plan 171 = .ok (.iconst (-1), 1) := by decide +kernel
theorem dX10_plan_172 : decode cX10_plan 172 = .ok (.if_icmp .eq 10, 3) := by decide +kernel
theorem dX10_plan_175 : decode cX10_plan 175 = .ok (.iload 9, 2) := by decide +kernel
theorem dX10_plan_177 : decode cX10_plan 177 = .ok (.iload 6, 2) := by decide +kernel
theorem dX10_plan_179 : decode cX10_plan 179 = .ok (.if_icmp .ge 24, 3) := by decide +kernel
theorem dX10_plan_182 : decode cX10_plan 182 = .ok (.aload_n 0, 1) := by decide +kernel
theorem dX10_plan_183 : decode cX10_plan 183 = .ok (.iload_n 1, 1) := by decide +kernel
theorem dX10_plan_184 : decode cX10_plan 184 = .ok (.iload_n 2, 1) := by decide +kernel
theorem dX10_plan_185 : decode cX10_plan 185 = .ok (.iload_n 3, 1) := by decide +kernel
theorem dX10_plan_186 : decode cX10_plan 186 = .ok (.invokevirtual 332, 3) := by decide +kernel
theorem dX10_plan_189 : decode cX10_plan 189 = .ok (.ifCond .ne 6, 3) := by decide +kernel
theorem dX10_plan_192 : decode cX10_plan 192 = .ok (.goto 11, 3) := by decide +kernel
theorem dX10_plan_195 : decode cX10_plan 195 = .ok (.iload 9, 2) := by decide +kernel
theorem dX10_plan_197 : decode cX10_plan 197 = .ok (.istore 6, 2) := by decide +kernel
theorem dX10_plan_199 : decode cX10_plan 199 = .ok (.iload 10, 2) := by decide +kernel
theorem dX10_plan_201 : decode cX10_plan 201 = .ok (.istore 7, 2) := by decide +kernel
theorem dX10_plan_203 : decode cX10_plan 203 = .ok (.iinc 8 1, 3) := by decide +kernel
theorem dX10_plan_206 : decode cX10_plan 206 = .ok (.goto (-118), 3) := by decide +kernel
theorem dX10_plan_209 : decode cX10_plan 209 = .ok (.iload 4, 2) := by decide +kernel
theorem dX10_plan_211 : decode cX10_plan 211 = .ok (.ifCond .ne 8, 3) := by decide +kernel
theorem dX10_plan_214 : decode cX10_plan 214 = .ok (.iload 6, 2) := by decide +kernel
theorem dX10_plan_216 : decode cX10_plan 216 = .ok (.goto 5, 3) := by decide +kernel
theorem dX10_plan_219 : decode cX10_plan 219 = .ok (.iload 7, 2) := by decide +kernel
theorem dX10_plan_221 : decode cX10_plan 221 = .ok (.ireturn, 1) := by decide +kernel
abbrev mt_X10_plan : AxM := (RX10, cX10_plan, 12, (some .int), false, [])
theorem L1_X10_plan_203 {g : AxG} {l : Launch} {r9 : Int32} {S9 : AxS} (N : Nat) (K88 : Nat → Int32 → Int32 → Int32 → Int32 → Int32 → Int32 → Int32 → Int32 → AxS → Option (Int32 × AxS)) (hK88 : ∀ (v0 : Nat) (v1 : Int32) (v2 : Int32) (v3 : Int32) (v4 : Int32) (v5 : Int32) (v6 : Int32) (v7 : Int32) (v8 : Int32) (S : AxS), K88 v0 v1 v2 v3 v4 v5 v6 v7 v8 S = some ((r9, S9)) → AW g l (axRm (6) 0 0) mt_X10_plan (axMQ g 0 0 (.inl (some (.int r9)), S9)) 0 0 S 88 [(0, .ref v0), (1, .int v1), (2, .int v2), (3, .int v3), (4, .int v4), (5, .int v5), (6, .int v6), (7, .int v7), (8, .int v8)] []) (v0 : Nat) (v1 : Int32) (v2 : Int32) (v3 : Int32) (v4 : Int32) (v5 : Int32) (v6 : Int32) (v7 : Int32) (v8 : Int32) (S : AxS) (h : F_X10_plan_203 N K88 v0 v1 v2 v3 v4 v5 v6 v7 v8 S = some ((r9, S9))) : AW g l (axRm (6) 0 0) mt_X10_plan (axMQ g 0 0 (.inl (some (.int r9)), S9)) 0 0 S 203 [(0, .ref v0), (1, .int v1), (2, .int v2), (3, .int v3), (4, .int v4), (5, .int v5), (6, .int v6), (7, .int v7), (8, .int v8)] [] := by
  unfold F_X10_plan_203 at h
  refine aw_iinc 8 [(8, .int (v8 + 1)), (0, .ref v0), (1, .int v1), (2, .int v2), (3, .int v3), (4, .int v4), (5, .int v5), (6, .int v6), (7, .int v7)] (v8 + 1) dX10_plan_203 rfl rfl rfl rfl ?_
  refine aw_goto 88 dX10_plan_206 (by decide) ?_
  refine aw_env [(0, .ref v0), (1, .int v1), (2, .int v2), (3, .int v3), (4, .int v4), (5, .int v5), (6, .int v6), (7, .int v7), (8, .int (v8 + 1))] [1, 2, 3, 4, 5, 6, 7, 8, 0] rfl ?_
  exact hK88 v0 v1 v2 v3 v4 v5 v6 v7 (v8 + 1) S h
theorem L1_X10_plan_182 {g : AxG} {l : Launch} {r9 : Int32} {S9 : AxS} (N : Nat) (K88 : Nat → Int32 → Int32 → Int32 → Int32 → Int32 → Int32 → Int32 → Int32 → AxS → Option (Int32 × AxS)) (hK88 : ∀ (v0 : Nat) (v1 : Int32) (v2 : Int32) (v3 : Int32) (v4 : Int32) (v5 : Int32) (v6 : Int32) (v7 : Int32) (v8 : Int32) (S : AxS), K88 v0 v1 v2 v3 v4 v5 v6 v7 v8 S = some ((r9, S9)) → AW g l (axRm (6) 0 0) mt_X10_plan (axMQ g 0 0 (.inl (some (.int r9)), S9)) 0 0 S 88 [(0, .ref v0), (1, .int v1), (2, .int v2), (3, .int v3), (4, .int v4), (5, .int v5), (6, .int v6), (7, .int v7), (8, .int v8)] []) (v0 : Nat) (v1 : Int32) (v2 : Int32) (v3 : Int32) (v4 : Int32) (v5 : Int32) (v6 : Int32) (v7 : Int32) (v8 : Int32) (v9 : Int32) (v10 : Int32) (S : AxS) (h : F_X10_plan_182 N K88 v0 v1 v2 v3 v4 v5 v6 v7 v8 v9 v10 S = some ((r9, S9))) : AW g l (axRm (6) 0 0) mt_X10_plan (axMQ g 0 0 (.inl (some (.int r9)), S9)) 0 0 S 182 [(0, .ref v0), (1, .int v1), (2, .int v2), (3, .int v3), (4, .int v4), (5, .int v5), (6, .int v6), (7, .int v7), (8, .int v8), (9, .int v9), (10, .int v10)] [] := by
  unfold F_X10_plan_182 at h
  refine aw_aload_n 0 dX10_plan_182 rfl rfl ?_
  refine aw_iload_n 1 dX10_plan_183 rfl rfl ?_
  refine aw_iload_n 2 dX10_plan_184 rfl rfl ?_
  refine aw_iload_n 3 dX10_plan_185 rfl rfl ?_
  obtain ⟨hL1, h⟩ := ax_is_spec h
  refine aw_doneI (rest := []) h (fun r9 S9 hF => aw_runV (As := [.int v1, .int v2, .int v3]) (rest := []) (L1_X10_isPlan N hF) axc10 hL1 wd_1712 wd_1709 wd_1711 wd_71 wd_97 pd_X10_isPlan rfl (ax_rm (by omega) rfl) ax_hf0 (Nat.le_of_ble_eq_true rfl) rfl dX10_plan_186) (fun x3 T2 h => ?_)
  refine aw_if_ne 195 dX10_plan_189 (by decide) h (fun h => ?_) (fun h => ?_)
  · refine aw_iload 9 dX10_plan_195 rfl ?_
    refine aw_istore [(6, .int v9), (0, .ref v0), (1, .int v1), (2, .int v2), (3, .int v3), (4, .int v4), (5, .int v5), (7, .int v7), (8, .int v8), (9, .int v9), (10, .int v10)] dX10_plan_197 rfl rfl ?_
    refine aw_iload 10 dX10_plan_199 rfl ?_
    refine aw_istore [(7, .int v10), (6, .int v9), (0, .ref v0), (1, .int v1), (2, .int v2), (3, .int v3), (4, .int v4), (5, .int v5), (8, .int v8), (9, .int v9), (10, .int v10)] dX10_plan_201 rfl rfl ?_
    refine aw_env [(0, .ref v0), (1, .int v1), (2, .int v2), (3, .int v3), (4, .int v4), (5, .int v5), (6, .int v9), (7, .int v10), (8, .int v8)] [2, 3, 4, 5, 6, 7, 1, 0, 8] rfl ?_
    exact L1_X10_plan_203 N K88 hK88 v0 v1 v2 v3 v4 v5 v9 v10 v8 T2 h
  · refine aw_goto 203 dX10_plan_192 (by decide) ?_
    refine aw_env [(0, .ref v0), (1, .int v1), (2, .int v2), (3, .int v3), (4, .int v4), (5, .int v5), (6, .int v6), (7, .int v7), (8, .int v8)] [0, 1, 2, 3, 4, 5, 6, 7, 8] rfl ?_
    exact L1_X10_plan_203 N K88 hK88 v0 v1 v2 v3 v4 v5 v6 v7 v8 T2 h
theorem L1_X10_plan_104b {g : AxG} {l : Launch} {r9 : Int32} {S9 : AxS} (N : Nat) (K88 : Nat → Int32 → Int32 → Int32 → Int32 → Int32 → Int32 → Int32 → Int32 → AxS → Option (Int32 × AxS)) (hK88 : ∀ (v0 : Nat) (v1 : Int32) (v2 : Int32) (v3 : Int32) (v4 : Int32) (v5 : Int32) (v6 : Int32) (v7 : Int32) (v8 : Int32) (S : AxS), K88 v0 v1 v2 v3 v4 v5 v6 v7 v8 S = some ((r9, S9)) → AW g l (axRm (6) 0 0) mt_X10_plan (axMQ g 0 0 (.inl (some (.int r9)), S9)) 0 0 S 88 [(0, .ref v0), (1, .int v1), (2, .int v2), (3, .int v3), (4, .int v4), (5, .int v5), (6, .int v6), (7, .int v7), (8, .int v8)] []) (K104 : Nat → Int32 → Int32 → Int32 → Int32 → Int32 → Int32 → Int32 → Int32 → Int32 → Int32 → Int32 → AxS → Option (Int32 × AxS)) (hK104 : ∀ (v0 : Nat) (v1 : Int32) (v2 : Int32) (v3 : Int32) (v4 : Int32) (v5 : Int32) (v6 : Int32) (v7 : Int32) (v8 : Int32) (v9 : Int32) (v10 : Int32) (v11 : Int32) (S : AxS), K104 v0 v1 v2 v3 v4 v5 v6 v7 v8 v9 v10 v11 S = some ((r9, S9)) → AW g l (axRm (6) 0 0) mt_X10_plan (axMQ g 0 0 (.inl (some (.int r9)), S9)) 0 0 S 104 [(0, .ref v0), (1, .int v1), (2, .int v2), (3, .int v3), (4, .int v4), (5, .int v5), (6, .int v6), (7, .int v7), (8, .int v8), (9, .int v9), (10, .int v10), (11, .int v11)] []) (v0 : Nat) (v1 : Int32) (v2 : Int32) (v3 : Int32) (v4 : Int32) (v5 : Int32) (v6 : Int32) (v7 : Int32) (v8 : Int32) (v9 : Int32) (v10 : Int32) (v11 : Int32) (S : AxS) (h : F_X10_plan_104b N K88 K104 v0 v1 v2 v3 v4 v5 v6 v7 v8 v9 v10 v11 S = some ((r9, S9))) : AW g l (axRm (6) 0 0) mt_X10_plan (axMQ g 0 0 (.inl (some (.int r9)), S9)) 0 0 S 104 [(0, .ref v0), (1, .int v1), (2, .int v2), (3, .int v3), (4, .int v4), (5, .int v5), (6, .int v6), (7, .int v7), (8, .int v8), (9, .int v9), (10, .int v10), (11, .int v11)] [] := by
  unfold F_X10_plan_104b at h
  refine aw_iload 11 dX10_plan_104 rfl ?_
  refine aw_iload_n 1 dX10_plan_106 rfl rfl ?_
  refine aw_icmp_ge 169 dX10_plan_107 (by decide) h (fun h => ?_) (fun h => ?_)
  · refine aw_iload 6 dX10_plan_169 rfl ?_
    refine aw_iconst (-1) dX10_plan_171 rfl ?_
    refine aw_icmp_eq 182 dX10_plan_172 (by decide) h (fun h => ?_) (fun h => ?_)
    · refine aw_env [(0, .ref v0), (1, .int v1), (2, .int v2), (3, .int v3), (4, .int v4), (5, .int v5), (6, .int v6), (7, .int v7), (8, .int v8), (9, .int v9), (10, .int v10)] [0, 1, 2, 3, 4, 5, 6, 7, 8, 9, 10] rfl ?_
      exact L1_X10_plan_182 N K88 hK88 v0 v1 v2 v3 v4 v5 v6 v7 v8 v9 v10 S h
    · refine aw_iload 9 dX10_plan_175 rfl ?_
      refine aw_iload 6 dX10_plan_177 rfl ?_
      refine aw_icmp_ge 203 dX10_plan_179 (by decide) h (fun h => ?_) (fun h => ?_)
      · refine aw_env [(0, .ref v0), (1, .int v1), (2, .int v2), (3, .int v3), (4, .int v4), (5, .int v5), (6, .int v6), (7, .int v7), (8, .int v8)] [0, 1, 2, 3, 4, 5, 6, 7, 8] rfl ?_
        exact L1_X10_plan_203 N K88 hK88 v0 v1 v2 v3 v4 v5 v6 v7 v8 S h
      · refine aw_env [(0, .ref v0), (1, .int v1), (2, .int v2), (3, .int v3), (4, .int v4), (5, .int v5), (6, .int v6), (7, .int v7), (8, .int v8), (9, .int v9), (10, .int v10)] [0, 1, 2, 3, 4, 5, 6, 7, 8, 9, 10] rfl ?_
        exact L1_X10_plan_182 N K88 hK88 v0 v1 v2 v3 v4 v5 v6 v7 v8 v9 v10 S h
  · refine aw_aload_n 0 dX10_plan_110 rfl rfl ?_
    refine aw_getR axc10 38 rfl rfl wd_1323 dX10_plan_111 h (fun a1 h => ?_)
    refine aw_iload 11 dX10_plan_114 rfl ?_
    refine aw_iload 8 dX10_plan_116 rfl ?_
    refine aw_iconst 2 dX10_plan_118 rfl ?_
    refine aw_iload_n 1 dX10_plan_119 rfl rfl ?_
    refine aw_iconst 1 dX10_plan_120 rfl ?_
    refine aw_isub dX10_plan_121 ?_
    refine aw_iload 11 dX10_plan_122 rfl ?_
    refine aw_isub dX10_plan_124 ?_
    refine aw_imul dX10_plan_125 ?_
    refine aw_ishr dX10_plan_126 ?_
    refine aw_iconst 3 dX10_plan_127 rfl ?_
    refine aw_iand dX10_plan_128 ?_
    refine aw_doneI (rest := [.int v11, .ref a1]) h (fun r9 S9 hF => aw_runS (As := [.int ((v8 >>> ((2 * ((v1 - 1) - v11)) &&& 31)) &&& 3)]) (rest := [.int v11, .ref a1]) (L1_X10_tens N hF) wd_1708 wd_1706 wd_1707 wd_97 pd_X10_tens.2 rfl (ax_rm (by omega) rfl) ax_hf0 (Nat.le_of_ble_eq_true rfl) rfl dX10_plan_129) (fun x3 T2 h => ?_)
    refine aw_iast dX10_plan_132 h (fun T4 h => ?_)
    refine aw_iload 9 dX10_plan_133 rfl ?_
    refine aw_bipush 10 dX10_plan_135 (by decide) ?_
    refine aw_aload_n 0 dX10_plan_137 rfl rfl ?_
    refine aw_getR axc10 38 rfl rfl wd_1323 dX10_plan_138 h (fun a5 h => ?_)
    refine aw_iload 11 dX10_plan_141 rfl ?_
    refine aw_iald dX10_plan_143 h (fun x6 h => ?_)
    refine aw_imul dX10_plan_144 ?_
    refine aw_iadd dX10_plan_145 ?_
    refine aw_istore [(9, .int (v9 + (10 * x6))), (0, .ref v0), (1, .int v1), (2, .int v2), (3, .int v3), (4, .int v4), (5, .int v5), (6, .int v6), (7, .int v7), (8, .int v8), (10, .int v10), (11, .int v11)] dX10_plan_146 rfl rfl ?_
    refine aw_bipush 10 dX10_plan_148 (by decide) ?_
    refine aw_iload 10 dX10_plan_150 rfl ?_
    refine aw_imul dX10_plan_152 ?_
    refine aw_aload_n 1 dX10_plan_153 rfl rfl ?_
    refine aw_getR axc10 38 rfl rfl wd_1323 dX10_plan_154 h (fun a7 h => ?_)
    refine aw_iload 11 dX10_plan_157 rfl ?_
    refine aw_iald dX10_plan_159 h (fun x8 h => ?_)
    refine aw_iadd dX10_plan_160 ?_
    refine aw_istore [(10, .int ((10 * v10) + x8)), (9, .int (v9 + (10 * x6))), (0, .ref v0), (1, .int v1), (2, .int v2), (3, .int v3), (4, .int v4), (5, .int v5), (6, .int v6), (7, .int v7), (8, .int v8), (11, .int v11)] dX10_plan_161 rfl rfl ?_
    refine aw_iinc 11 [(11, .int (v11 + 1)), (10, .int ((10 * v10) + x8)), (9, .int (v9 + (10 * x6))), (0, .ref v0), (1, .int v1), (2, .int v2), (3, .int v3), (4, .int v4), (5, .int v5), (6, .int v6), (7, .int v7), (8, .int v8)] (v11 + 1) dX10_plan_163 rfl rfl rfl rfl ?_
    refine aw_goto 104 dX10_plan_166 (by decide) ?_
    refine aw_env [(0, .ref v0), (1, .int v1), (2, .int v2), (3, .int v3), (4, .int v4), (5, .int v5), (6, .int v6), (7, .int v7), (8, .int v8), (9, .int (v9 + (10 * x6))), (10, .int ((10 * v10) + x8)), (11, .int (v11 + 1))] [3, 4, 5, 6, 7, 8, 9, 10, 11, 2, 1, 0] rfl ?_
    exact hK104 v0 v1 v2 v3 v4 v5 v6 v7 v8 (v9 + (10 * x6)) ((10 * v10) + x8) (v11 + 1) T4 h
theorem L1_X10_plan_104 {g : AxG} {l : Launch} {r9 : Int32} {S9 : AxS} (N : Nat) (K88 : Nat → Int32 → Int32 → Int32 → Int32 → Int32 → Int32 → Int32 → Int32 → AxS → Option (Int32 × AxS)) (hK88 : ∀ (v0 : Nat) (v1 : Int32) (v2 : Int32) (v3 : Int32) (v4 : Int32) (v5 : Int32) (v6 : Int32) (v7 : Int32) (v8 : Int32) (S : AxS), K88 v0 v1 v2 v3 v4 v5 v6 v7 v8 S = some ((r9, S9)) → AW g l (axRm (6) 0 0) mt_X10_plan (axMQ g 0 0 (.inl (some (.int r9)), S9)) 0 0 S 88 [(0, .ref v0), (1, .int v1), (2, .int v2), (3, .int v3), (4, .int v4), (5, .int v5), (6, .int v6), (7, .int v7), (8, .int v8)] []) : ∀ (n : Nat) (v0 : Nat) (v1 : Int32) (v2 : Int32) (v3 : Int32) (v4 : Int32) (v5 : Int32) (v6 : Int32) (v7 : Int32) (v8 : Int32) (v9 : Int32) (v10 : Int32) (v11 : Int32) (S : AxS), F_X10_plan_104 N K88 n v0 v1 v2 v3 v4 v5 v6 v7 v8 v9 v10 v11 S = some ((r9, S9)) → AW g l (axRm (6) 0 0) mt_X10_plan (axMQ g 0 0 (.inl (some (.int r9)), S9)) 0 0 S 104 [(0, .ref v0), (1, .int v1), (2, .int v2), (3, .int v3), (4, .int v4), (5, .int v5), (6, .int v6), (7, .int v7), (8, .int v8), (9, .int v9), (10, .int v10), (11, .int v11)] [] := by
  intro n
  induction n with
  | zero => intro v0 v1 v2 v3 v4 v5 v6 v7 v8 v9 v10 v11 S h; cases h
  | succ n ih => intro v0 v1 v2 v3 v4 v5 v6 v7 v8 v9 v10 v11 S h; exact L1_X10_plan_104b N K88 hK88 (F_X10_plan_104 N K88 n) ih v0 v1 v2 v3 v4 v5 v6 v7 v8 v9 v10 v11 S h
theorem L1_X10_plan_88b {g : AxG} {l : Launch} {r9 : Int32} {S9 : AxS} (N : Nat) (K88 : Nat → Int32 → Int32 → Int32 → Int32 → Int32 → Int32 → Int32 → Int32 → AxS → Option (Int32 × AxS)) (hK88 : ∀ (v0 : Nat) (v1 : Int32) (v2 : Int32) (v3 : Int32) (v4 : Int32) (v5 : Int32) (v6 : Int32) (v7 : Int32) (v8 : Int32) (S : AxS), K88 v0 v1 v2 v3 v4 v5 v6 v7 v8 S = some ((r9, S9)) → AW g l (axRm (6) 0 0) mt_X10_plan (axMQ g 0 0 (.inl (some (.int r9)), S9)) 0 0 S 88 [(0, .ref v0), (1, .int v1), (2, .int v2), (3, .int v3), (4, .int v4), (5, .int v5), (6, .int v6), (7, .int v7), (8, .int v8)] []) (v0 : Nat) (v1 : Int32) (v2 : Int32) (v3 : Int32) (v4 : Int32) (v5 : Int32) (v6 : Int32) (v7 : Int32) (v8 : Int32) (S : AxS) (h : F_X10_plan_88b N K88 v0 v1 v2 v3 v4 v5 v6 v7 v8 S = some ((r9, S9))) : AW g l (axRm (6) 0 0) mt_X10_plan (axMQ g 0 0 (.inl (some (.int r9)), S9)) 0 0 S 88 [(0, .ref v0), (1, .int v1), (2, .int v2), (3, .int v3), (4, .int v4), (5, .int v5), (6, .int v6), (7, .int v7), (8, .int v8)] [] := by
  unfold F_X10_plan_88b at h
  refine aw_iload 8 dX10_plan_88 rfl ?_
  refine aw_iload 5 dX10_plan_90 rfl ?_
  refine aw_icmp_ge 209 dX10_plan_92 (by decide) h (fun h => ?_) (fun h => ?_)
  · refine aw_iload 4 dX10_plan_209 rfl ?_
    refine aw_if_ne 219 dX10_plan_211 (by decide) h (fun h => ?_) (fun h => ?_)
    · refine aw_iload 7 dX10_plan_219 rfl ?_
      exact aw_iret dX10_plan_221 rfl (Nat.le_refl _) (Nat.le_refl _) h
    · refine aw_iload 6 dX10_plan_214 rfl ?_
      refine aw_goto 221 dX10_plan_216 (by decide) ?_
      exact aw_iret dX10_plan_221 rfl (Nat.le_refl _) (Nat.le_refl _) h
  · refine aw_iconst 0 dX10_plan_95 rfl ?_
    refine aw_istore [(9, .int 0), (0, .ref v0), (1, .int v1), (2, .int v2), (3, .int v3), (4, .int v4), (5, .int v5), (6, .int v6), (7, .int v7), (8, .int v8)] dX10_plan_96 rfl rfl ?_
    refine aw_iconst 0 dX10_plan_98 rfl ?_
    refine aw_istore [(10, .int 0), (9, .int 0), (0, .ref v0), (1, .int v1), (2, .int v2), (3, .int v3), (4, .int v4), (5, .int v5), (6, .int v6), (7, .int v7), (8, .int v8)] dX10_plan_99 rfl rfl ?_
    refine aw_iconst 0 dX10_plan_101 rfl ?_
    refine aw_istore [(11, .int 0), (10, .int 0), (9, .int 0), (0, .ref v0), (1, .int v1), (2, .int v2), (3, .int v3), (4, .int v4), (5, .int v5), (6, .int v6), (7, .int v7), (8, .int v8)] dX10_plan_102 rfl rfl ?_
    refine aw_env [(0, .ref v0), (1, .int v1), (2, .int v2), (3, .int v3), (4, .int v4), (5, .int v5), (6, .int v6), (7, .int v7), (8, .int v8), (9, .int 0), (10, .int 0), (11, .int 0)] [3, 4, 5, 6, 7, 8, 9, 10, 11, 2, 1, 0] rfl ?_
    exact L1_X10_plan_104 N K88 hK88 N v0 v1 v2 v3 v4 v5 v6 v7 v8 0 0 0 S h
theorem L1_X10_plan_88 {g : AxG} {l : Launch} {r9 : Int32} {S9 : AxS} (N : Nat)  : ∀ (n : Nat) (v0 : Nat) (v1 : Int32) (v2 : Int32) (v3 : Int32) (v4 : Int32) (v5 : Int32) (v6 : Int32) (v7 : Int32) (v8 : Int32) (S : AxS), F_X10_plan_88 N  n v0 v1 v2 v3 v4 v5 v6 v7 v8 S = some ((r9, S9)) → AW g l (axRm (6) 0 0) mt_X10_plan (axMQ g 0 0 (.inl (some (.int r9)), S9)) 0 0 S 88 [(0, .ref v0), (1, .int v1), (2, .int v2), (3, .int v3), (4, .int v4), (5, .int v5), (6, .int v6), (7, .int v7), (8, .int v8)] [] := by
  intro n
  induction n with
  | zero => intro v0 v1 v2 v3 v4 v5 v6 v7 v8 S h; cases h
  | succ n ih => intro v0 v1 v2 v3 v4 v5 v6 v7 v8 S h; exact L1_X10_plan_88b N (F_X10_plan_88 N  n) ih v0 v1 v2 v3 v4 v5 v6 v7 v8 S h
theorem L1_X10_plan_62 {g : AxG} {l : Launch} {r9 : Int32} {S9 : AxS} (N : Nat)  (v0 : Nat) (v1 : Int32) (v2 : Int32) (v3 : Int32) (v4 : Int32) (w0 : Int32) (w1 : Nat) (S : AxS) (h : F_X10_plan_62 N  v0 v1 v2 v3 v4 w0 w1 S = some ((r9, S9))) : AW g l (axRm (6) 0 0) mt_X10_plan (axMQ g 0 0 (.inl (some (.int r9)), S9)) 0 0 S 62 [(0, .ref v0), (1, .int v1), (2, .int v2), (3, .int v3), (4, .int v4)] [.int w0, .ref w1] := by
  unfold F_X10_plan_62 at h
  refine aw_iconst 1 dX10_plan_62 rfl ?_
  refine aw_iconst 1 dX10_plan_63 rfl ?_
  obtain ⟨hL1, h⟩ := ax_is_spec h
  refine aw_doneI (rest := []) h (fun r9 S9 hF => aw_runV (As := [.int w0, .int 1, .int 1]) (rest := []) (L1_X10_bad N hF) axc10 hL1 wd_1452 wd_1449 wd_1451 wd_38 wd_97 pd_X10_bad rfl (ax_rm (by omega) rfl) ax_hf0 (Nat.le_of_ble_eq_true rfl) rfl dX10_plan_64) (fun x3 T2 h => ?_)
  refine aw_if_eq 72 dX10_plan_67 (by decide) h (fun h => ?_) (fun h => ?_)
  · refine aw_iconst 1 dX10_plan_72 rfl ?_
    refine aw_iconst 2 dX10_plan_73 rfl ?_
    refine aw_iload_n 1 dX10_plan_74 rfl rfl ?_
    refine aw_imul dX10_plan_75 ?_
    refine aw_ishl dX10_plan_76 ?_
    refine aw_istore [(5, .int (1 <<< ((2 * v1) &&& 31))), (0, .ref v0), (1, .int v1), (2, .int v2), (3, .int v3), (4, .int v4)] dX10_plan_77 rfl rfl ?_
    refine aw_iconst (-1) dX10_plan_79 rfl ?_
    refine aw_istore [(6, .int ((-1))), (5, .int (1 <<< ((2 * v1) &&& 31))), (0, .ref v0), (1, .int v1), (2, .int v2), (3, .int v3), (4, .int v4)] dX10_plan_80 rfl rfl ?_
    refine aw_iconst (-1) dX10_plan_82 rfl ?_
    refine aw_istore [(7, .int ((-1))), (6, .int ((-1))), (5, .int (1 <<< ((2 * v1) &&& 31))), (0, .ref v0), (1, .int v1), (2, .int v2), (3, .int v3), (4, .int v4)] dX10_plan_83 rfl rfl ?_
    refine aw_iconst 0 dX10_plan_85 rfl ?_
    refine aw_istore [(8, .int 0), (7, .int ((-1))), (6, .int ((-1))), (5, .int (1 <<< ((2 * v1) &&& 31))), (0, .ref v0), (1, .int v1), (2, .int v2), (3, .int v3), (4, .int v4)] dX10_plan_86 rfl rfl ?_
    refine aw_env [(0, .ref v0), (1, .int v1), (2, .int v2), (3, .int v3), (4, .int v4), (5, .int (1 <<< ((2 * v1) &&& 31))), (6, .int ((-1))), (7, .int ((-1))), (8, .int 0)] [4, 5, 6, 7, 8, 3, 2, 1, 0] rfl ?_
    exact L1_X10_plan_88 N  N v0 v1 v2 v3 v4 (1 <<< ((2 * v1) &&& 31)) ((-1)) ((-1)) 0 T2 h
  · refine aw_iconst 0 dX10_plan_70 rfl ?_
    exact aw_iret dX10_plan_71 rfl (Nat.le_refl _) (Nat.le_refl _) h
theorem L1_X10_plan_57 {g : AxG} {l : Launch} {r9 : Int32} {S9 : AxS} (N : Nat)  (v0 : Nat) (v1 : Int32) (v2 : Int32) (v3 : Int32) (v4 : Int32) (w0 : Nat) (S : AxS) (h : F_X10_plan_57 N  v0 v1 v2 v3 v4 w0 S = some ((r9, S9))) : AW g l (axRm (6) 0 0) mt_X10_plan (axMQ g 0 0 (.inl (some (.int r9)), S9)) 0 0 S 57 [(0, .ref v0), (1, .int v1), (2, .int v2), (3, .int v3), (4, .int v4)] [.ref w0] := by
  unfold F_X10_plan_57 at h
  refine aw_iconst 1 dX10_plan_57 rfl ?_
  refine aw_goto 62 dX10_plan_58 (by decide) ?_
  refine aw_env [(0, .ref v0), (1, .int v1), (2, .int v2), (3, .int v3), (4, .int v4)] [0, 1, 2, 3, 4] rfl ?_
  exact L1_X10_plan_62 N  v0 v1 v2 v3 v4 1 w0 S h
theorem L1_X10_plan {g : AxG} {l : Launch} (N : Nat) {v0 : Nat} {v1 : Int32} {v2 : Int32} {v3 : Int32} {v4 : Int32} {S : AxS} {r9 : Int32} {S9 : AxS} (h : F_X10_plan N v0 v1 v2 v3 v4 S = some ((r9, S9))) : AxMet g l yX10_plan cX10_plan 12 (some .int) (6) 0 0 [.ref v0, .int v1, .int v2, .int v3, .int v4] S ((.inl (some (.int r9)), S9)) := by
  refine ax_met (own := RX10) (ini := false) (by decide +kernel) rfl (fun h => nomatch h) rfl ?_
  show AW g l (axRm (6) 0 0) mt_X10_plan (axMQ g 0 0 (.inl (some (.int r9)), S9)) 0 0 S 0 [(0, .ref v0), (1, .int v1), (2, .int v2), (3, .int v3), (4, .int v4)] []
  unfold F_X10_plan at h
  refine aw_aload_n 0 dX10_plan_0 rfl rfl ?_
  refine aw_iconst 0 dX10_plan_1 rfl ?_
  refine aw_putI axc10 0 rfl rfl wd_1285 rfl rfl rfl dX10_plan_2 h (fun T1 h => ?_)
  refine aw_aload_n 0 dX10_plan_5 rfl rfl ?_
  refine aw_iload_n 1 dX10_plan_6 rfl rfl ?_
  refine aw_iconst 0 dX10_plan_7 rfl ?_
  refine aw_iconst 5 dX10_plan_8 rfl ?_
  refine aw_doneI (rest := [.ref v0]) h (fun r9 S9 hF => aw_runS (As := [.int v1, .int 0, .int 5]) (rest := [.ref v0]) (L1_X10_in N hF) wd_1448 wd_1446 wd_1447 wd_97 pd_X10_in.2 rfl (ax_rm (by omega) rfl) ax_hf0 (Nat.le_of_ble_eq_true rfl) rfl dX10_plan_9) (fun x3 T2 h => ?_)
  refine aw_if_eq 57 dX10_plan_12 (by decide) h (fun h => ?_) (fun h => ?_)
  · refine aw_env [(0, .ref v0), (1, .int v1), (2, .int v2), (3, .int v3), (4, .int v4)] [0, 1, 2, 3, 4] rfl ?_
    exact L1_X10_plan_57 N  v0 v1 v2 v3 v4 v0 T2 h
  · refine aw_iload_n 2 dX10_plan_15 rfl rfl ?_
    refine aw_iconst 0 dX10_plan_16 rfl ?_
    refine aw_sipush 999 dX10_plan_17 (by decide) ?_
    refine aw_doneI (rest := [.ref v0]) h (fun r9 S9 hF => aw_runS (As := [.int v2, .int 0, .int 999]) (rest := [.ref v0]) (L1_X10_in N hF) wd_1448 wd_1446 wd_1447 wd_97 pd_X10_in.2 rfl (ax_rm (by omega) rfl) ax_hf0 (Nat.le_of_ble_eq_true rfl) rfl dX10_plan_20) (fun x5 T4 h => ?_)
    refine aw_if_eq 57 dX10_plan_23 (by decide) h (fun h => ?_) (fun h => ?_)
    · refine aw_env [(0, .ref v0), (1, .int v1), (2, .int v2), (3, .int v3), (4, .int v4)] [0, 1, 2, 3, 4] rfl ?_
      exact L1_X10_plan_57 N  v0 v1 v2 v3 v4 v0 T4 h
    · refine aw_iload_n 3 dX10_plan_26 rfl rfl ?_
      refine aw_iconst 0 dX10_plan_27 rfl ?_
      refine aw_iconst 1 dX10_plan_28 rfl ?_
      refine aw_iconst 5 dX10_plan_29 rfl ?_
      refine aw_iconst 0 dX10_plan_30 rfl ?_
      refine aw_iload_n 1 dX10_plan_31 rfl rfl ?_
      refine aw_doneI (rest := [.int 5, .int 1, .int 0, .int v3, .ref v0]) h (fun r9 S9 hF => aw_runS (As := [.int 0, .int v1]) (rest := [.int 5, .int 1, .int 0, .int v3, .ref v0]) (L1_X10_more N hF) wd_1614 wd_1612 wd_1613 wd_97 pd_X10_more.2 rfl (ax_rm (by omega) rfl) ax_hf0 (Nat.le_of_ble_eq_true rfl) rfl dX10_plan_32) (fun x7 T6 h => ?_)
      refine aw_doneI (rest := [.int 1, .int 0, .int v3, .ref v0]) h (fun r9 S9 hF => aw_runS (As := [.int 5, .int x7]) (rest := [.int 1, .int 0, .int v3, .ref v0]) (L1_X10_less N hF) wd_1500 wd_1498 wd_1499 wd_97 pd_X10_less.2 rfl (ax_rm (by omega) rfl) ax_hf0 (Nat.le_of_ble_eq_true rfl) rfl dX10_plan_35) (fun x9 T8 h => ?_)
      refine aw_ishl dX10_plan_38 ?_
      refine aw_iconst 1 dX10_plan_39 rfl ?_
      refine aw_isub dX10_plan_40 ?_
      refine aw_doneI (rest := [.ref v0]) h (fun r9 S9 hF => aw_runS (As := [.int v3, .int 0, .int ((1 <<< (x9 &&& 31)) - 1)]) (rest := [.ref v0]) (L1_X10_in N hF) wd_1448 wd_1446 wd_1447 wd_97 pd_X10_in.2 rfl (ax_rm (by omega) rfl) ax_hf0 (Nat.le_of_ble_eq_true rfl) rfl dX10_plan_41) (fun x11 T10 h => ?_)
      refine aw_if_eq 57 dX10_plan_44 (by decide) h (fun h => ?_) (fun h => ?_)
      · refine aw_env [(0, .ref v0), (1, .int v1), (2, .int v2), (3, .int v3), (4, .int v4)] [0, 1, 2, 3, 4] rfl ?_
        exact L1_X10_plan_57 N  v0 v1 v2 v3 v4 v0 T10 h
      · refine aw_iload 4 dX10_plan_47 rfl ?_
        refine aw_iconst 0 dX10_plan_49 rfl ?_
        refine aw_iconst 1 dX10_plan_50 rfl ?_
        refine aw_doneI (rest := [.ref v0]) h (fun r9 S9 hF => aw_runS (As := [.int v4, .int 0, .int 1]) (rest := [.ref v0]) (L1_X10_in N hF) wd_1448 wd_1446 wd_1447 wd_97 pd_X10_in.2 rfl (ax_rm (by omega) rfl) ax_hf0 (Nat.le_of_ble_eq_true rfl) rfl dX10_plan_51) (fun x13 T12 h => ?_)
        refine aw_if_ne 61 dX10_plan_54 (by decide) h (fun h => ?_) (fun h => ?_)
        · refine aw_iconst 0 dX10_plan_61 rfl ?_
          refine aw_env [(0, .ref v0), (1, .int v1), (2, .int v2), (3, .int v3), (4, .int v4)] [0, 1, 2, 3, 4] rfl ?_
          exact L1_X10_plan_62 N  v0 v1 v2 v3 v4 0 v0 T12 h
        · refine aw_env [(0, .ref v0), (1, .int v1), (2, .int v2), (3, .int v3), (4, .int v4)] [0, 1, 2, 3, 4] rfl ?_
          exact L1_X10_plan_57 N  v0 v1 v2 v3 v4 v0 T12 h

theorem dX10_strikesBy_0 : decode cX10_strikesBy 0 = .ok (.aload_n 0, 1) := by decide +kernel
theorem dX10_strikesBy_1 : decode cX10_strikesBy 1 = .ok (.aload_n 0, 1) := by decide +kernel
theorem dX10_strikesBy_2 : decode cX10_strikesBy 2 = .ok (.getfield 64, 3) := by decide +kernel
theorem dX10_strikesBy_5 : decode cX10_strikesBy 5 = .ok (.iload_n 1, 1) := by decide +kernel
theorem dX10_strikesBy_6 : decode cX10_strikesBy 6 = .ok (.invokevirtual 210, 3) := by decide +kernel
theorem dX10_strikesBy_9 : decode cX10_strikesBy 9 = .ok (.iconst 0, 1) := by decide +kernel
theorem dX10_strikesBy_10 : decode cX10_strikesBy 10 = .ok (.istore_n 3, 1) := by decide +kernel
theorem dX10_strikesBy_11 : decode cX10_strikesBy 11 = .ok (.iload_n 3, 1) := by decide +kernel
theorem dX10_strikesBy_12 : decode cX10_strikesBy 12 = .ok (.bipush 60, 2) := by decide +kernel
theorem dX10_strikesBy_14 : decode cX10_strikesBy 14 = .ok (.if_icmp .ge 105, 3) := by decide +kernel
theorem dX10_strikesBy_17 : decode cX10_strikesBy 17 = .ok (.aload_n 0, 1) := by decide +kernel
theorem dX10_strikesBy_18 : decode cX10_strikesBy 18 = .ok (.getfield 76, 3) := by decide +kernel
theorem dX10_strikesBy_21 : decode cX10_strikesBy 21 = .ok (.iload_n 3, 1) := by decide +kernel
theorem dX10_strikesBy_22 : decode cX10_strikesBy 22 = .ok (.aload_n 0, 1) := by decide +kernel
theorem dX10_strikesBy_23 : decode cX10_strikesBy 23 = .ok (.aload_n 0, 1) := by decide +kernel
theorem dX10_strikesBy_24 : decode cX10_strikesBy 24 = .ok (.getfield 64, 3) := by decide +kernel
theorem dX10_strikesBy_27 : decode cX10_strikesBy 27 = .ok (.invokevirtual 283, 3) := by decide +kernel
theorem dX10_strikesBy_30 : decode cX10_strikesBy 30 = .ok (.iastore, 1) := by decide +kernel
theorem dX10_strikesBy_31 : decode cX10_strikesBy 31 = .ok (.aload_n 0, 1) := by decide +kernel
theorem dX10_strikesBy_32 : decode cX10_strikesBy 32 = .ok (.getfield 64, 3) := by decide +kernel
theorem dX10_strikesBy_35 : decode cX10_strikesBy 35 = .ok (.iconst 3, 1) := by decide +kernel
theorem dX10_strikesBy_36 : decode cX10_strikesBy 36 = .ok (.aload_n 0, 1) := by decide +kernel
theorem dX10_strikesBy_37 : decode cX10_strikesBy 37 = .ok (.getfield 76, 3) := by decide +kernel
theorem dX10_strikesBy_40 : decode cX10_strikesBy 40 = .ok (.iload_n 3, 1) := by decide +kernel
theorem dX10_strikesBy_41 : decode cX10_strikesBy 41 = .ok (.iaload, 1) := by decide +kernel
theorem dX10_strikesBy_42 : decode cX10_strikesBy 42 = .ok (.ifCond .ne 14, 3) := by decide +kernel
theorem dX10_strikesBy_45 : decode cX10_strikesBy 45 = .ok (.aload_n 0, 1) := by decide +kernel
theorem dX10_strikesBy_46 : decode cX10_strikesBy 46 = .ok (.getfield 64, 3) := by decide +kernel
theorem dX10_strikesBy_49 : decode cX10_strikesBy 49 = .ok (.iconst 3, 1) := by decide +kernel
theorem dX10_strikesBy_50 : decode cX10_strikesBy 50 = .ok (.iaload, 1) := by decide +kernel
theorem dX10_strikesBy_51 : decode cX10_strikesBy 51 = .ok (.iconst 1, 1) := by decide +kernel
theorem dX10_strikesBy_52 : decode cX10_strikesBy 52 = .ok (.iadd, 1) := by decide +kernel
theorem dX10_strikesBy_53 : decode cX10_strikesBy 53 = .ok (.goto 4, 3) := by decide +kernel
theorem dX10_strikesBy_56 : decode cX10_strikesBy 56 = .ok (.iconst 0, 1) := by decide +kernel
theorem dX10_strikesBy_57 : decode cX10_strikesBy 57 = .ok (.iastore, 1) := by decide +kernel
theorem dX10_strikesBy_58 : decode cX10_strikesBy 58 = .ok (.aload_n 0, 1) := by decide +kernel
theorem dX10_strikesBy_59 : decode cX10_strikesBy 59 = .ok (.getfield 64, 3) := by decide +kernel
theorem dX10_strikesBy_62 : decode cX10_strikesBy 62 = .ok (.iconst 1, 1) := by decide +kernel
theorem dX10_strikesBy_63 : decode cX10_strikesBy 63 = .ok (.sipush 9999, 3) := by decide +kernel
theorem dX10_strikesBy_66 : decode cX10_strikesBy 66 = .ok (.aload_n 0, 1) := by decide +kernel
theorem dX10_strikesBy_67 : decode cX10_strikesBy 67 = .ok (.getfield 64, 3) := by decide +kernel
theorem dX10_strikesBy_70 : decode cX10_strikesBy 70 = .ok (.iconst 1, 1) := by decide +kernel
theorem dX10_strikesBy_71 : decode cX10_strikesBy 71 = .ok (.iaload, 1) := by decide +kernel
theorem dX10_strikesBy_72 : decode cX10_strikesBy 72 = .ok (.aload_n 0, 1) := by decide +kernel
theorem dX10_strikesBy_73 : decode cX10_strikesBy 73 = .ok (.getfield 29, 3) := by decide +kernel
theorem dX10_strikesBy_76 : decode cX10_strikesBy 76 = .ok (.iload_n 3, 1) := by decide +kernel
theorem dX10_strikesBy_77 : decode cX10_strikesBy 77 = .ok (.bipush 12, 2) := by decide +kernel
theorem dX10_strikesBy_79 : decode cX10_strikesBy 79 = .ok (.irem, 1) := by decide +kernel
theorem dX10_strikesBy_80 : decode cX10_strikesBy 80 = .ok (.iaload, 1) := by decide +kernel
theorem dX10_strikesBy_81 : decode cX10_strikesBy 81 = .ok (.iadd, 1) := by decide +kernel
theorem dX10_strikesBy_82 : decode cX10_strikesBy 82 = .ok (.invokestatic 172, 3) := by decide +kernel
theorem dX10_strikesBy_85 : decode cX10_strikesBy 85 = .ok (.iastore, 1) := by decide +kernel
theorem dX10_strikesBy_86 : decode cX10_strikesBy 86 = .ok (.iload_n 3, 1) := by decide +kernel
theorem dX10_strikesBy_87 : decode cX10_strikesBy 87 = .ok (.bipush 12, 2) := by decide +kernel
theorem dX10_strikesBy_89 : decode cX10_strikesBy 89 = .ok (.irem, 1) := by decide +kernel
theorem dX10_strikesBy_90 : decode cX10_strikesBy 90 = .ok (.bipush 11, 2) := by decide +kernel
theorem dX10_strikesBy_92 : decode cX10_strikesBy 92 = .ok (.if_icmp .ne 11, 3) := by decide +kernel
theorem dX10_strikesBy_95 : decode cX10_strikesBy 95 = .ok (.aload_n 0, 1) := by decide +kernel
theorem dX10_strikesBy_96 : decode cX10_strikesBy 96 = .ok (.getfield 64, 3) := by decide +kernel
theorem dX10_strikesBy_99 : decode cX10_strikesBy 99 = .ok (.iload_n 2, 1) := by decide +kernel
theorem dX10_strikesBy_100 : decode cX10_strikesBy 100 = .ok (.invokestatic 290, 3) := by decide +kernel
theorem dX10_strikesBy_103 : decode cX10_strikesBy 103 = .ok (.aload_n 0, 1) := by decide +kernel
theorem dX10_strikesBy_104 : decode cX10_strikesBy 104 = .ok (.getfield 64, 3) := by decide +kernel
theorem dX10_strikesBy_107 : decode cX10_strikesBy 107 = .ok (.iconst 2, 1) := by decide +kernel
theorem dX10_strikesBy_108 : decode cX10_strikesBy 108 = .ok (.dup2, 1) := by decide +kernel
theorem dX10_strikesBy_109 : decode cX10_strikesBy 109 = .ok (.iaload, 1) := by decide +kernel
theorem dX10_strikesBy_110 : decode cX10_strikesBy 110 = .ok (.iconst 1, 1) := by decide +kernel
theorem dX10_strikesBy_111 : decode cX10_strikesBy 111 = .ok (.iadd, 1) := by decide +kernel
theorem dX10_strikesBy_112 : decode cX10_strikesBy 112 = .ok (.iastore, 1) := by decide +kernel
theorem dX10_strikesBy_113 : decode cX10_strikesBy 113 = .ok (.iinc 3 1, 3) := by decide +kernel
theorem dX10_strikesBy_116 : decode cX10_strikesBy 116 = .ok (.goto (-105), 3) := by decide +kernel
theorem dX10_strikesBy_119 : decode cX10_strikesBy 119 = .ok (.return_, 1) := by decide +kernel
abbrev mt_X10_strikesBy : AxM := (RX10, cX10_strikesBy, 4, none, false, [])
theorem L1_X10_strikesBy_103 {g : AxG} {l : Launch} {S9 : AxS} (N : Nat) (K11 : Nat → Int32 → Int32 → AxS → Option (AxS)) (hK11 : ∀ (v0 : Nat) (v2 : Int32) (v3 : Int32) (S : AxS), K11 v0 v2 v3 S = some S9 → AW g l (axRm (4) 0 0) mt_X10_strikesBy (axMQ g 0 0 (.inl none, S9)) 0 0 S 11 [(0, .ref v0), (2, .int v2), (3, .int v3)] []) (v0 : Nat) (v2 : Int32) (v3 : Int32) (S : AxS) (h : F_X10_strikesBy_103 N K11 v0 v2 v3 S = some S9) : AW g l (axRm (4) 0 0) mt_X10_strikesBy (axMQ g 0 0 (.inl none, S9)) 0 0 S 103 [(0, .ref v0), (2, .int v2), (3, .int v3)] [] := by
  unfold F_X10_strikesBy_103 at h
  refine aw_aload_n 0 dX10_strikesBy_103 rfl rfl ?_
  refine aw_getR axc10 28 rfl rfl wd_1313 dX10_strikesBy_104 h (fun a1 h => ?_)
  refine aw_iconst 2 dX10_strikesBy_107 rfl ?_
  refine aw_dup2 rfl rfl dX10_strikesBy_108 ?_
  refine aw_iald dX10_strikesBy_109 h (fun x2 h => ?_)
  refine aw_iconst 1 dX10_strikesBy_110 rfl ?_
  refine aw_iadd dX10_strikesBy_111 ?_
  refine aw_iast dX10_strikesBy_112 h (fun T3 h => ?_)
  refine aw_iinc 2 [(3, .int (v3 + 1)), (0, .ref v0), (2, .int v2)] (v3 + 1) dX10_strikesBy_113 rfl rfl rfl rfl ?_
  refine aw_goto 11 dX10_strikesBy_116 (by decide) ?_
  refine aw_env [(0, .ref v0), (2, .int v2), (3, .int (v3 + 1))] [1, 2, 0] rfl ?_
  exact hK11 v0 v2 (v3 + 1) T3 h
theorem L1_X10_strikesBy_57 {g : AxG} {l : Launch} {S9 : AxS} (N : Nat) (K11 : Nat → Int32 → Int32 → AxS → Option (AxS)) (hK11 : ∀ (v0 : Nat) (v2 : Int32) (v3 : Int32) (S : AxS), K11 v0 v2 v3 S = some S9 → AW g l (axRm (4) 0 0) mt_X10_strikesBy (axMQ g 0 0 (.inl none, S9)) 0 0 S 11 [(0, .ref v0), (2, .int v2), (3, .int v3)] []) (v0 : Nat) (v2 : Int32) (v3 : Int32) (w0 : Int32) (w1 : Int32) (w2 : Nat) (S : AxS) (h : F_X10_strikesBy_57 N K11 v0 v2 v3 w0 w1 w2 S = some S9) : AW g l (axRm (4) 0 0) mt_X10_strikesBy (axMQ g 0 0 (.inl none, S9)) 0 0 S 57 [(0, .ref v0), (2, .int v2), (3, .int v3)] [.int w0, .int w1, .ref w2] := by
  unfold F_X10_strikesBy_57 at h
  refine aw_iast dX10_strikesBy_57 h (fun T1 h => ?_)
  refine aw_aload_n 0 dX10_strikesBy_58 rfl rfl ?_
  refine aw_getR axc10 28 rfl rfl wd_1313 dX10_strikesBy_59 h (fun a2 h => ?_)
  refine aw_iconst 1 dX10_strikesBy_62 rfl ?_
  refine aw_sipush 9999 dX10_strikesBy_63 (by decide) ?_
  refine aw_aload_n 0 dX10_strikesBy_66 rfl rfl ?_
  refine aw_getR axc10 28 rfl rfl wd_1313 dX10_strikesBy_67 h (fun a3 h => ?_)
  refine aw_iconst 1 dX10_strikesBy_70 rfl ?_
  refine aw_iald dX10_strikesBy_71 h (fun x4 h => ?_)
  refine aw_aload_n 0 dX10_strikesBy_72 rfl rfl ?_
  refine aw_getR axc10 14 rfl rfl wd_1299 dX10_strikesBy_73 h (fun a5 h => ?_)
  refine aw_iload_n 2 dX10_strikesBy_76 rfl rfl ?_
  refine aw_bipush 12 dX10_strikesBy_77 (by decide) ?_
  refine aw_irem dX10_strikesBy_79 h (fun h => ?_)
  refine aw_iald dX10_strikesBy_80 h (fun x6 h => ?_)
  refine aw_iadd dX10_strikesBy_81 ?_
  refine aw_doneI (rest := [.int 1, .ref a2]) h (fun r9 S9 hF => aw_runS (As := [.int 9999, .int (x4 + x6)]) (rest := [.int 1, .ref a2]) (L1_X10_less N hF) wd_1500 wd_1498 wd_1499 wd_97 pd_X10_less.2 rfl (ax_rm (by omega) rfl) ax_hf0 (Nat.le_of_ble_eq_true rfl) rfl dX10_strikesBy_82) (fun x8 T7 h => ?_)
  refine aw_iast dX10_strikesBy_85 h (fun T9 h => ?_)
  refine aw_iload_n 2 dX10_strikesBy_86 rfl rfl ?_
  refine aw_bipush 12 dX10_strikesBy_87 (by decide) ?_
  refine aw_irem dX10_strikesBy_89 h (fun h => ?_)
  refine aw_bipush 11 dX10_strikesBy_90 (by decide) ?_
  refine aw_icmp_ne 103 dX10_strikesBy_92 (by decide) h (fun h => ?_) (fun h => ?_)
  · refine aw_env [(0, .ref v0), (2, .int v2), (3, .int v3)] [0, 1, 2] rfl ?_
    exact L1_X10_strikesBy_103 N K11 hK11 v0 v2 v3 T9 h
  · refine aw_aload_n 0 dX10_strikesBy_95 rfl rfl ?_
    refine aw_getR axc10 28 rfl rfl wd_1313 dX10_strikesBy_96 h (fun a10 h => ?_)
    refine aw_iload_n 1 dX10_strikesBy_99 rfl rfl ?_
    refine aw_doneV (rest := []) h (fun S9 hF => aw_runS (As := [.ref a10, .int v2]) (rest := []) (L1_X10_earns N hF) wd_1632 wd_1630 wd_1631 wd_97 pd_X10_earns.2 rfl (ax_rm (by omega) rfl) ax_hf0 (Nat.le_of_ble_eq_true rfl) rfl dX10_strikesBy_100) (fun T11 h => ?_)
    refine aw_env [(0, .ref v0), (2, .int v2), (3, .int v3)] [0, 1, 2] rfl ?_
    exact L1_X10_strikesBy_103 N K11 hK11 v0 v2 v3 T11 h
theorem L1_X10_strikesBy_11b {g : AxG} {l : Launch} {S9 : AxS} (N : Nat) (K11 : Nat → Int32 → Int32 → AxS → Option (AxS)) (hK11 : ∀ (v0 : Nat) (v2 : Int32) (v3 : Int32) (S : AxS), K11 v0 v2 v3 S = some S9 → AW g l (axRm (4) 0 0) mt_X10_strikesBy (axMQ g 0 0 (.inl none, S9)) 0 0 S 11 [(0, .ref v0), (2, .int v2), (3, .int v3)] []) (v0 : Nat) (v2 : Int32) (v3 : Int32) (S : AxS) (h : F_X10_strikesBy_11b N K11 v0 v2 v3 S = some S9) : AW g l (axRm (4) 0 0) mt_X10_strikesBy (axMQ g 0 0 (.inl none, S9)) 0 0 S 11 [(0, .ref v0), (2, .int v2), (3, .int v3)] [] := by
  unfold F_X10_strikesBy_11b at h
  refine aw_iload_n 2 dX10_strikesBy_11 rfl rfl ?_
  refine aw_bipush 60 dX10_strikesBy_12 (by decide) ?_
  refine aw_icmp_ge 119 dX10_strikesBy_14 (by decide) h (fun h => ?_) (fun h => ?_)
  · exact aw_vret dX10_strikesBy_119 rfl (Nat.le_refl _) (Nat.le_refl _) h
  · refine aw_aload_n 0 dX10_strikesBy_17 rfl rfl ?_
    refine aw_getR axc10 39 rfl rfl wd_1324 dX10_strikesBy_18 h (fun a1 h => ?_)
    refine aw_iload_n 2 dX10_strikesBy_21 rfl rfl ?_
    refine aw_aload_n 0 dX10_strikesBy_22 rfl rfl ?_
    refine aw_aload_n 0 dX10_strikesBy_23 rfl rfl ?_
    refine aw_getR axc10 28 rfl rfl wd_1313 dX10_strikesBy_24 h (fun a2 h => ?_)
    obtain ⟨hL3, h⟩ := ax_is_spec h
    refine aw_doneI (rest := [.int v3, .ref a1]) h (fun r9 S9 hF => aw_runV (As := [.ref a2]) (rest := [.int v3, .ref a1]) (L1_X10_strokesOf N hF) axc10 hL3 wd_1608 wd_1605 wd_1607 wd_66 wd_97 pd_X10_strokesOf rfl (ax_rm (by omega) rfl) ax_hf0 (Nat.le_of_ble_eq_true rfl) rfl dX10_strikesBy_27) (fun x5 T4 h => ?_)
    refine aw_iast dX10_strikesBy_30 h (fun T6 h => ?_)
    refine aw_aload_n 0 dX10_strikesBy_31 rfl rfl ?_
    refine aw_getR axc10 28 rfl rfl wd_1313 dX10_strikesBy_32 h (fun a7 h => ?_)
    refine aw_iconst 3 dX10_strikesBy_35 rfl ?_
    refine aw_aload_n 0 dX10_strikesBy_36 rfl rfl ?_
    refine aw_getR axc10 39 rfl rfl wd_1324 dX10_strikesBy_37 h (fun a8 h => ?_)
    refine aw_iload_n 2 dX10_strikesBy_40 rfl rfl ?_
    refine aw_iald dX10_strikesBy_41 h (fun x9 h => ?_)
    refine aw_if_ne 56 dX10_strikesBy_42 (by decide) h (fun h => ?_) (fun h => ?_)
    · refine aw_iconst 0 dX10_strikesBy_56 rfl ?_
      refine aw_env [(0, .ref v0), (2, .int v2), (3, .int v3)] [0, 1, 2] rfl ?_
      exact L1_X10_strikesBy_57 N K11 hK11 v0 v2 v3 0 3 a7 T6 h
    · refine aw_aload_n 0 dX10_strikesBy_45 rfl rfl ?_
      refine aw_getR axc10 28 rfl rfl wd_1313 dX10_strikesBy_46 h (fun a10 h => ?_)
      refine aw_iconst 3 dX10_strikesBy_49 rfl ?_
      refine aw_iald dX10_strikesBy_50 h (fun x11 h => ?_)
      refine aw_iconst 1 dX10_strikesBy_51 rfl ?_
      refine aw_iadd dX10_strikesBy_52 ?_
      refine aw_goto 57 dX10_strikesBy_53 (by decide) ?_
      refine aw_env [(0, .ref v0), (2, .int v2), (3, .int v3)] [0, 1, 2] rfl ?_
      exact L1_X10_strikesBy_57 N K11 hK11 v0 v2 v3 (x11 + 1) 3 a7 T6 h
theorem L1_X10_strikesBy_11 {g : AxG} {l : Launch} {S9 : AxS} (N : Nat)  : ∀ (n : Nat) (v0 : Nat) (v2 : Int32) (v3 : Int32) (S : AxS), F_X10_strikesBy_11 N  n v0 v2 v3 S = some S9 → AW g l (axRm (4) 0 0) mt_X10_strikesBy (axMQ g 0 0 (.inl none, S9)) 0 0 S 11 [(0, .ref v0), (2, .int v2), (3, .int v3)] [] := by
  intro n
  induction n with
  | zero => intro v0 v2 v3 S h; cases h
  | succ n ih => intro v0 v2 v3 S h; exact L1_X10_strikesBy_11b N (F_X10_strikesBy_11 N  n) ih v0 v2 v3 S h
theorem L1_X10_strikesBy {g : AxG} {l : Launch} (N : Nat) {v0 : Nat} {v1 : Int32} {v2 : Int32} {S : AxS} {S9 : AxS} (h : F_X10_strikesBy N v0 v1 v2 S = some S9) : AxMet g l yX10_strikesBy cX10_strikesBy 4 none (4) 0 0 [.ref v0, .int v1, .int v2] S ((.inl none, S9)) := by
  refine ax_met (own := RX10) (ini := false) (by decide +kernel) rfl (fun h => nomatch h) rfl ?_
  show AW g l (axRm (4) 0 0) mt_X10_strikesBy (axMQ g 0 0 (.inl none, S9)) 0 0 S 0 [(0, .ref v0), (1, .int v1), (2, .int v2)] []
  unfold F_X10_strikesBy at h
  refine aw_aload_n 0 dX10_strikesBy_0 rfl rfl ?_
  refine aw_aload_n 0 dX10_strikesBy_1 rfl rfl ?_
  refine aw_getR axc10 28 rfl rfl wd_1313 dX10_strikesBy_2 h (fun a1 h => ?_)
  refine aw_iload_n 1 dX10_strikesBy_5 rfl rfl ?_
  obtain ⟨hL2, h⟩ := ax_is_spec h
  refine aw_doneV (rest := []) h (fun S9 hF => aw_runV (As := [.ref a1, .int v1]) (rest := []) (L1_X10_begins N hF) axc10 hL2 wd_1284 wd_1281 wd_1283 wd_37 wd_97 pd_X10_begins rfl (ax_rm (by omega) rfl) ax_hf0 (Nat.le_of_ble_eq_true rfl) rfl dX10_strikesBy_6) (fun T3 h => ?_)
  refine aw_iconst 0 dX10_strikesBy_9 rfl ?_
  refine aw_istore_n 3 [(3, .int 0), (0, .ref v0), (1, .int v1), (2, .int v2)] dX10_strikesBy_10 rfl rfl rfl ?_
  refine aw_env [(0, .ref v0), (2, .int v2), (3, .int 0)] [1, 3, 0] rfl ?_
  exact L1_X10_strikesBy_11 N  N v0 v2 0 T3 h

theorem dX10_isStruck_0 : decode cX10_isStruck 0 = .ok (.iconst 0, 1) := by decide +kernel
theorem dX10_isStruck_1 : decode cX10_isStruck 1 = .ok (.istore_n 1, 1) := by decide +kernel
theorem dX10_isStruck_2 : decode cX10_isStruck 2 = .ok (.iload_n 1, 1) := by decide +kernel
theorem dX10_isStruck_3 : decode cX10_isStruck 3 = .ok (.aload_n 0, 1) := by decide +kernel
theorem dX10_isStruck_4 : decode cX10_isStruck 4 = .ok (.getfield 217, 3) := by decide +kernel
theorem dX10_isStruck_7 : decode cX10_isStruck 7 = .ok (.if_icmp .ge 35, 3) := by decide +kernel
theorem dX10_isStruck_10 : decode cX10_isStruck 10 = .ok (.aload_n 0, 1) := by decide +kernel
theorem dX10_isStruck_11 : decode cX10_isStruck 11 = .ok (.getfield 76, 3) := by decide +kernel
theorem dX10_isStruck_14 : decode cX10_isStruck 14 = .ok (.aload_n 0, 1) := by decide +kernel
theorem dX10_isStruck_15 : decode cX10_isStruck 15 = .ok (.getfield 46, 3) := by decide +kernel
theorem dX10_isStruck_18 : decode cX10_isStruck 18 = .ok (.iload_n 1, 1) := by decide +kernel
theorem dX10_isStruck_19 : decode cX10_isStruck 19 = .ok (.aaload, 1) := by decide +kernel
theorem dX10_isStruck_20 : decode cX10_isStruck 20 = .ok (.iconst 0, 1) := by decide +kernel
theorem dX10_isStruck_21 : decode cX10_isStruck 21 = .ok (.iaload, 1) := by decide +kernel
theorem dX10_isStruck_22 : decode cX10_isStruck 22 = .ok (.iaload, 1) := by decide +kernel
theorem dX10_isStruck_23 : decode cX10_isStruck 23 = .ok (.aload_n 0, 1) := by decide +kernel
theorem dX10_isStruck_24 : decode cX10_isStruck 24 = .ok (.getfield 46, 3) := by decide +kernel
theorem dX10_isStruck_27 : decode cX10_isStruck 27 = .ok (.iload_n 1, 1) := by decide +kernel
theorem dX10_isStruck_28 : decode cX10_isStruck 28 = .ok (.aaload, 1) := by decide +kernel
theorem dX10_isStruck_29 : decode cX10_isStruck 29 = .ok (.iconst 1, 1) := by decide +kernel
theorem dX10_isStruck_30 : decode cX10_isStruck 30 = .ok (.iaload, 1) := by decide +kernel
theorem dX10_isStruck_31 : decode cX10_isStruck 31 = .ok (.if_icmp .eq 5, 3) := by decide +kernel
theorem dX10_isStruck_34 : decode cX10_isStruck 34 = .ok (.iconst 0, 1) := by decide +kernel
theorem dX10_isStruck_35 : decode cX10_isStruck 35 = .ok (.ireturn, 1) := by decide +kernel
theorem dX10_isStruck_36 : decode cX10_isStruck 36 = .ok (.iinc 1 1, 3) := by decide +kernel
theorem dX10_isStruck_39 : decode cX10_isStruck 39 = .ok (.goto (-37), 3) := by decide +kernel
theorem dX10_isStruck_42 : decode cX10_isStruck 42 = .ok (.iconst 1, 1) := by decide +kernel
theorem dX10_isStruck_43 : decode cX10_isStruck 43 = .ok (.ireturn, 1) := by decide +kernel
abbrev mt_X10_isStruck : AxM := (RX10, cX10_isStruck, 2, (some .boolean), false, [])
theorem L1_X10_isStruck_2b {g : AxG} {l : Launch} {r9 : Int32} {S9 : AxS} (N : Nat) (K2 : Nat → Int32 → AxS → Option (Int32 × AxS)) (hK2 : ∀ (v0 : Nat) (v1 : Int32) (S : AxS), K2 v0 v1 S = some ((r9, S9)) → AW g l (axRm (0) 0 0) mt_X10_isStruck (axMQ g 0 0 (.inl (some (.int r9)), S9)) 0 0 S 2 [(0, .ref v0), (1, .int v1)] []) (v0 : Nat) (v1 : Int32) (S : AxS) (h : F_X10_isStruck_2b N K2 v0 v1 S = some ((r9, S9))) : AW g l (axRm (0) 0 0) mt_X10_isStruck (axMQ g 0 0 (.inl (some (.int r9)), S9)) 0 0 S 2 [(0, .ref v0), (1, .int v1)] [] := by
  unfold F_X10_isStruck_2b at h
  refine aw_iload_n 1 dX10_isStruck_2 rfl rfl ?_
  refine aw_aload_n 0 dX10_isStruck_3 rfl rfl ?_
  refine aw_getI axc10 31 rfl rfl wd_1316 dX10_isStruck_4 h (fun x1 h => ?_)
  refine aw_icmp_ge 42 dX10_isStruck_7 (by decide) h (fun h => ?_) (fun h => ?_)
  · refine aw_iconst 1 dX10_isStruck_42 rfl ?_
    exact aw_zret dX10_isStruck_43 rfl (Nat.le_refl _) (Nat.le_refl _) h
  · refine aw_aload_n 0 dX10_isStruck_10 rfl rfl ?_
    refine aw_getR axc10 39 rfl rfl wd_1324 dX10_isStruck_11 h (fun a2 h => ?_)
    refine aw_aload_n 0 dX10_isStruck_14 rfl rfl ?_
    refine aw_getR axc10 21 rfl rfl wd_1306 dX10_isStruck_15 h (fun a3 h => ?_)
    refine aw_iload_n 1 dX10_isStruck_18 rfl rfl ?_
    refine aw_aald dX10_isStruck_19 h (fun a4 h => ?_)
    refine aw_iconst 0 dX10_isStruck_20 rfl ?_
    refine aw_iald dX10_isStruck_21 h (fun x5 h => ?_)
    refine aw_iald dX10_isStruck_22 h (fun x6 h => ?_)
    refine aw_aload_n 0 dX10_isStruck_23 rfl rfl ?_
    refine aw_getR axc10 21 rfl rfl wd_1306 dX10_isStruck_24 h (fun a7 h => ?_)
    refine aw_iload_n 1 dX10_isStruck_27 rfl rfl ?_
    refine aw_aald dX10_isStruck_28 h (fun a8 h => ?_)
    refine aw_iconst 1 dX10_isStruck_29 rfl ?_
    refine aw_iald dX10_isStruck_30 h (fun x9 h => ?_)
    refine aw_icmp_eq 36 dX10_isStruck_31 (by decide) h (fun h => ?_) (fun h => ?_)
    · refine aw_iinc 1 [(1, .int (v1 + 1)), (0, .ref v0)] (v1 + 1) dX10_isStruck_36 rfl rfl rfl rfl ?_
      refine aw_goto 2 dX10_isStruck_39 (by decide) ?_
      refine aw_env [(0, .ref v0), (1, .int (v1 + 1))] [1, 0] rfl ?_
      exact hK2 v0 (v1 + 1) S h
    · refine aw_iconst 0 dX10_isStruck_34 rfl ?_
      exact aw_zret dX10_isStruck_35 rfl (Nat.le_refl _) (Nat.le_refl _) h
theorem L1_X10_isStruck_2 {g : AxG} {l : Launch} {r9 : Int32} {S9 : AxS} (N : Nat)  : ∀ (n : Nat) (v0 : Nat) (v1 : Int32) (S : AxS), F_X10_isStruck_2 N  n v0 v1 S = some ((r9, S9)) → AW g l (axRm (0) 0 0) mt_X10_isStruck (axMQ g 0 0 (.inl (some (.int r9)), S9)) 0 0 S 2 [(0, .ref v0), (1, .int v1)] [] := by
  intro n
  induction n with
  | zero => intro v0 v1 S h; cases h
  | succ n ih => intro v0 v1 S h; exact L1_X10_isStruck_2b N (F_X10_isStruck_2 N  n) ih v0 v1 S h
theorem L1_X10_isStruck {g : AxG} {l : Launch} (N : Nat) {v0 : Nat} {S : AxS} {r9 : Int32} {S9 : AxS} (h : F_X10_isStruck N v0 S = some ((r9, S9))) : AxMet g l yX10_isStruck cX10_isStruck 2 (some .boolean) (0) 0 0 [.ref v0] S ((.inl (some (.int r9)), S9)) := by
  refine ax_met (own := RX10) (ini := false) (by decide +kernel) rfl (fun h => nomatch h) rfl ?_
  show AW g l (axRm (0) 0 0) mt_X10_isStruck (axMQ g 0 0 (.inl (some (.int r9)), S9)) 0 0 S 0 [(0, .ref v0)] []
  unfold F_X10_isStruck at h
  refine aw_iconst 0 dX10_isStruck_0 rfl ?_
  refine aw_istore_n 1 [(1, .int 0), (0, .ref v0)] dX10_isStruck_1 rfl rfl rfl ?_
  refine aw_env [(0, .ref v0), (1, .int 0)] [1, 0] rfl ?_
  exact L1_X10_isStruck_2 N  N v0 0 S h

theorem dX10_fits_0 : decode cX10_fits 0 = .ok (.aload_n 0, 1) := by decide +kernel
theorem dX10_fits_1 : decode cX10_fits 1 = .ok (.iconst 0, 1) := by decide +kernel
theorem dX10_fits_2 : decode cX10_fits 2 = .ok (.putfield 104, 3) := by decide +kernel
theorem dX10_fits_5 : decode cX10_fits 5 = .ok (.aload_n 0, 1) := by decide +kernel
theorem dX10_fits_6 : decode cX10_fits 6 = .ok (.iload_n 1, 1) := by decide +kernel
theorem dX10_fits_7 : decode cX10_fits 7 = .ok (.iconst 0, 1) := by decide +kernel
theorem dX10_fits_8 : decode cX10_fits 8 = .ok (.iconst 3, 1) := by decide +kernel
theorem dX10_fits_9 : decode cX10_fits 9 = .ok (.invokestatic 138, 3) := by decide +kernel
theorem dX10_fits_12 : decode cX10_fits 12 = .ok (.ifCond .ne 7, 3) := by decide +kernel
theorem dX10_fits_15 : decode cX10_fits 15 = .ok (.iconst 1, 1) := by decide +kernel
theorem dX10_fits_16 : decode cX10_fits 16 = .ok (.goto 4, 3) := by decide +kernel
theorem dX10_fits_19 : decode cX10_fits 19 = .ok (.iconst 0, 1) := by decide +kernel
theorem dX10_fits_20 : decode cX10_fits 20 = .ok (.iconst 1, 1) := by decide +kernel
theorem dX10_fits_21 : decode cX10_fits 21 = .ok (.iconst 1, 1) := by decide +kernel
theorem dX10_fits_22 : decode cX10_fits 22 = .ok (.invokevirtual 193, 3) := by decide +kernel
theorem dX10_fits_25 : decode cX10_fits 25 = .ok (.ifCond .eq 5, 3) := by decide +kernel
theorem dX10_fits_28 : decode cX10_fits 28 = .ok (.iconst 0, 1) := by decide +kernel
theorem dX10_fits_29 : decode cX10_fits 29 = .ok (.ireturn, 1) := by decide +kernel
theorem dX10_fits_30 : decode cX10_fits 30 = .ok (.iconst 0, 1) := by decide +kernel
theorem dX10_fits_31 : decode cX10_fits 31 = .ok (.istore_n 2, 1) := by decide +kernel
theorem dX10_fits_32 : decode cX10_fits 32 = .ok (.iconst (-1), 1) := by decide +kernel
theorem dX10_fits_33 : decode cX10_fits 33 = .ok (.istore_n 3, 1) := by decide +kernel
theorem dX10_fits_34 : decode cX10_fits 34 = .ok (.iconst (-1), 1) := by decide +kernel
theorem dX10_fits_35 : decode cX10_fits 35 = .ok (.istore 4, 2) := by decide +kernel
theorem dX10_fits_37 : decode cX10_fits 37 = .ok (.iconst 0, 1) := by decide +kernel
theorem dX10_fits_38 : decode cX10_fits 38 = .ok (.istore 5, 2) := by decide +kernel
theorem dX10_fits_40 : decode cX10_fits 40 = .ok (.iconst (-1), 1) := by decide +kernel
theorem dX10_fits_41 : decode cX10_fits 41 = .ok (.istore 6, 2) := by decide +kernel
theorem dX10_fits_43 : decode cX10_fits 43 = .ok (.iconst 0, 1) := by decide +kernel
theorem dX10_fits_44 : decode cX10_fits 44 = .ok (.istore 7, 2) := by decide +kernel
theorem dX10_fits_46 : decode cX10_fits 46 = .ok (.iload 7, 2) := by decide +kernel
theorem dX10_fits_48 : decode cX10_fits 48 = .ok (.sipush 200, 3) := by decide +kernel
theorem dX10_fits_51 : decode cX10_fits 51 = .ok (.if_icmp .ge 91, 3) := by decide +kernel
theorem dX10_fits_54 : decode cX10_fits 54 = .ok (.iconst 0, 1) := by decide +kernel
theorem dX10_fits_55 : decode cX10_fits 55 = .ok (.istore 8, 2) := by decide +kernel
theorem dX10_fits_57 : decode cX10_fits 57 = .ok (.iload 8, 2) := by decide +kernel
theorem dX10_fits_59 : decode cX10_fits 59 = .ok (.bipush 21, 2) := by decide +kernel
theorem dX10_fits_61 : decode cX10_fits 61 = .ok (.if_icmp .ge 75, 3) := by decide +kernel
theorem dX10_fits_64 : decode cX10_fits 64 = .ok (.aload_n 0, 1) := by decide +kernel
theorem dX10_fits_65 : decode cX10_fits 65 = .ok (.iload 7, 2) := by decide +kernel
theorem dX10_fits_67 : decode cX10_fits 67 = .ok (.iload 8, 2) := by decide +kernel
theorem dX10_fits_69 : decode cX10_fits 69 = .ok (.invokevirtual 335, 3) := by decide +kernel
theorem dX10_fits_72 : decode cX10_fits 72 = .ok (.aload_n 0, 1) := by decide +kernel
theorem dX10_fits_73 : decode cX10_fits 73 = .ok (.invokevirtual 338, 3) := by decide +kernel
theorem dX10_fits_76 : decode cX10_fits 76 = .ok (.ifCond .ne 6, 3) := by decide +kernel
theorem dX10_fits_79 : decode cX10_fits 79 = .ok (.goto 51, 3) := by decide +kernel
theorem dX10_fits_82 : decode cX10_fits 82 = .ok (.iload_n 2, 1) := by decide +kernel
theorem dX10_fits_83 : decode cX10_fits 83 = .ok (.ifCond .ne 8, 3) := by decide +kernel
theorem dX10_fits_86 : decode cX10_fits 86 = .ok (.iload 7, 2) := by decide +kernel
theorem dX10_fits_88 : decode cX10_fits 88 = .ok (.goto 4, 3) := by decide +kernel
theorem dX10_fits_91 : decode cX10_fits 91 = .ok (.iload_n 3, 1) := by decide +kernel
theorem dX10_fits_92 : decode cX10_fits 92 = .ok (.istore_n 3, 1) := by decide +kernel
theorem dX10_fits_93 : decode cX10_fits 93 = .ok (.iload_n 2, 1) := by decide +kernel
theorem dX10_fits_94 : decode cX10_fits 94 = .ok (.ifCond .ne 8, 3) := by decide +kernel
theorem dX10_fits_97 : decode cX10_fits 97 = .ok (.iload 8, 2) := by decide +kernel
theorem dX10_fits_99 : decode cX10_fits 99 = .ok (.goto 5, 3) := by decide +kernel
theorem dX10_fits_102 : decode cX10_fits 102 = .ok (.iload 4, 2) := by decide +kernel
theorem dX10_fits_104 : decode cX10_fits 104 = .ok (.istore 4, 2) := by decide +kernel
theorem dX10_fits_106 : decode cX10_fits 106 = .ok (.iload 5, 2) := by decide +kernel
theorem dX10_fits_108 : decode cX10_fits 108 = .ok (.iload 7, 2) := by decide +kernel
theorem dX10_fits_110 : decode cX10_fits 110 = .ok (.iload 6, 2) := by decide +kernel
theorem dX10_fits_112 : decode cX10_fits 112 = .ok (.if_icmp .ne 7, 3) := by decide +kernel
theorem dX10_fits_115 : decode cX10_fits 115 = .ok (.iconst 0, 1) := by decide +kernel
theorem dX10_fits_116 : decode cX10_fits 116 = .ok (.goto 4, 3) := by decide +kernel
theorem dX10_fits_119 : decode cX10_fits 119 = .ok (.iconst 1, 1) := by decide +kernel
theorem dX10_fits_120 : decode cX10_fits 120 = .ok (.iadd, 1) := by decide +kernel
theorem dX10_fits_121 : decode cX10_fits 121 = .ok (.istore 5, 2) := by decide +kernel
theorem dX10_fits_123 : decode cX10_fits 123 = .ok (.iload 7, 2) := by decide +kernel
theorem dX10_fits_125 : decode cX10_fits 125 = .ok (.istore 6, 2) := by decide +kernel
theorem dX10_fits_127 : decode cX10_fits 127 = .ok (.iinc 2 1, 3) := by decide +kernel
theorem dX10_fits_130 : decode cX10_fits 130 = .ok (.iinc 8 1, 3) := by decide +kernel
theorem dX10_fits_133 : decode cX10_fits 133 = .ok (.goto (-76), 3) := by decide +kernel
theorem dX10_fits_136 : decode cX10_fits 136 = .ok (.iinc 7 1, 3) := by decide +kernel
theorem dX10_fits_139 : decode cX10_fits 139 = .ok (.goto (-93), 3) := by decide +kernel
theorem dX10_fits_142 : decode cX10_fits 142 = .ok (.iload_n 1, 1) := by decide +kernel
theorem dX10_fits_143 : decode cX10_fits 143 = .ok (.ifCond .ne 7, 3) := by decide +kernel
theorem dX10_fits_146 : decode cX10_fits 146 = .ok (.iload_n 2, 1) := by decide +kernel
theorem dX10_fits_147 : decode cX10_fits 147 = .ok (.goto 24, 3) := by decide +kernel
theorem dX10_fits_150 : decode cX10_fits 150 = .ok (.iload_n 1, 1) := by decide +kernel
theorem dX10_fits_151 : decode cX10_fits 151 = .ok (.iconst 1, 1) := by decide +kernel
theorem dX10_fits_152 : decode cX10_fits 152 = .ok (.if_icmp .ne 7, 3) := by decide +kernel
theorem dX10_fits_155 : decode cX10_fits 155 = .ok (.iload_n 3, 1) := by decide +kernel
theorem dX10_fits_156 : decode cX10_fits 156 = .ok (.goto 15, 3) := by decide +kernel
theorem dX10_fits_159 : decode cX10_fits 159 = .ok (.iload_n 1, 1) := by decide +kernel
theorem dX10_fits_160 : decode cX10_fits 160 = .ok (.iconst 2, 1) := by decide +kernel
theorem dX10_fits_161 : decode cX10_fits 161 = .ok (.if_icmp .ne 8, 3) := by decide +kernel
theorem dX10_fits_164 : decode cX10_fits 164 = .ok (.iload 4, 2) := by decide +kernel
theorem dX10_fits_166 : decode cX10_fits 166 = .ok (.goto 5, 3) := by decide +kernel
theorem dX10_fits_169 : decode cX10_fits 169 = .ok (.iload 5, 2) := by decide +kernel
theorem dX10_fits_171 : decode cX10_fits 171 = .ok (.ireturn, 1) := by decide +kernel
abbrev mt_X10_fits : AxM := (RX10, cX10_fits, 9, (some .int), false, [])
theorem L1_X10_fits_130 {g : AxG} {l : Launch} {r9 : Int32} {S9 : AxS} (N : Nat) (K57 : Nat → Int32 → Int32 → Int32 → Int32 → Int32 → Int32 → Int32 → Int32 → AxS → Option (Int32 × AxS)) (hK57 : ∀ (v0 : Nat) (v1 : Int32) (v2 : Int32) (v3 : Int32) (v4 : Int32) (v5 : Int32) (v6 : Int32) (v7 : Int32) (v8 : Int32) (S : AxS), K57 v0 v1 v2 v3 v4 v5 v6 v7 v8 S = some ((r9, S9)) → AW g l (axRm (5) 0 0) mt_X10_fits (axMQ g 0 0 (.inl (some (.int r9)), S9)) 0 0 S 57 [(0, .ref v0), (1, .int v1), (2, .int v2), (3, .int v3), (4, .int v4), (5, .int v5), (6, .int v6), (7, .int v7), (8, .int v8)] []) (v0 : Nat) (v1 : Int32) (v2 : Int32) (v3 : Int32) (v4 : Int32) (v5 : Int32) (v6 : Int32) (v7 : Int32) (v8 : Int32) (S : AxS) (h : F_X10_fits_130 N K57 v0 v1 v2 v3 v4 v5 v6 v7 v8 S = some ((r9, S9))) : AW g l (axRm (5) 0 0) mt_X10_fits (axMQ g 0 0 (.inl (some (.int r9)), S9)) 0 0 S 130 [(0, .ref v0), (1, .int v1), (2, .int v2), (3, .int v3), (4, .int v4), (5, .int v5), (6, .int v6), (7, .int v7), (8, .int v8)] [] := by
  unfold F_X10_fits_130 at h
  refine aw_iinc 8 [(8, .int (v8 + 1)), (0, .ref v0), (1, .int v1), (2, .int v2), (3, .int v3), (4, .int v4), (5, .int v5), (6, .int v6), (7, .int v7)] (v8 + 1) dX10_fits_130 rfl rfl rfl rfl ?_
  refine aw_goto 57 dX10_fits_133 (by decide) ?_
  refine aw_env [(0, .ref v0), (1, .int v1), (2, .int v2), (3, .int v3), (4, .int v4), (5, .int v5), (6, .int v6), (7, .int v7), (8, .int (v8 + 1))] [1, 2, 3, 4, 5, 6, 7, 8, 0] rfl ?_
  exact hK57 v0 v1 v2 v3 v4 v5 v6 v7 (v8 + 1) S h
theorem L1_X10_fits_120 {g : AxG} {l : Launch} {r9 : Int32} {S9 : AxS} (N : Nat) (K57 : Nat → Int32 → Int32 → Int32 → Int32 → Int32 → Int32 → Int32 → Int32 → AxS → Option (Int32 × AxS)) (hK57 : ∀ (v0 : Nat) (v1 : Int32) (v2 : Int32) (v3 : Int32) (v4 : Int32) (v5 : Int32) (v6 : Int32) (v7 : Int32) (v8 : Int32) (S : AxS), K57 v0 v1 v2 v3 v4 v5 v6 v7 v8 S = some ((r9, S9)) → AW g l (axRm (5) 0 0) mt_X10_fits (axMQ g 0 0 (.inl (some (.int r9)), S9)) 0 0 S 57 [(0, .ref v0), (1, .int v1), (2, .int v2), (3, .int v3), (4, .int v4), (5, .int v5), (6, .int v6), (7, .int v7), (8, .int v8)] []) (v0 : Nat) (v1 : Int32) (v2 : Int32) (v3 : Int32) (v4 : Int32) (v7 : Int32) (v8 : Int32) (w0 : Int32) (w1 : Int32) (S : AxS) (h : F_X10_fits_120 N K57 v0 v1 v2 v3 v4 v7 v8 w0 w1 S = some ((r9, S9))) : AW g l (axRm (5) 0 0) mt_X10_fits (axMQ g 0 0 (.inl (some (.int r9)), S9)) 0 0 S 120 [(0, .ref v0), (1, .int v1), (2, .int v2), (3, .int v3), (4, .int v4), (7, .int v7), (8, .int v8)] [.int w0, .int w1] := by
  unfold F_X10_fits_120 at h
  refine aw_iadd dX10_fits_120 ?_
  refine aw_istore [(5, .int (w1 + w0)), (0, .ref v0), (1, .int v1), (2, .int v2), (3, .int v3), (4, .int v4), (7, .int v7), (8, .int v8)] dX10_fits_121 rfl rfl ?_
  refine aw_iload 6 dX10_fits_123 rfl ?_
  refine aw_istore [(6, .int v7), (5, .int (w1 + w0)), (0, .ref v0), (1, .int v1), (2, .int v2), (3, .int v3), (4, .int v4), (7, .int v7), (8, .int v8)] dX10_fits_125 rfl rfl ?_
  refine aw_iinc 4 [(2, .int (v2 + 1)), (6, .int v7), (5, .int (w1 + w0)), (0, .ref v0), (1, .int v1), (3, .int v3), (4, .int v4), (7, .int v7), (8, .int v8)] (v2 + 1) dX10_fits_127 rfl rfl rfl rfl ?_
  refine aw_env [(0, .ref v0), (1, .int v1), (2, .int (v2 + 1)), (3, .int v3), (4, .int v4), (5, .int (w1 + w0)), (6, .int v7), (7, .int v7), (8, .int v8)] [3, 4, 0, 5, 6, 2, 1, 7, 8] rfl ?_
  exact L1_X10_fits_130 N K57 hK57 v0 v1 (v2 + 1) v3 v4 (w1 + w0) v7 v7 v8 S h
theorem L1_X10_fits_104 {g : AxG} {l : Launch} {r9 : Int32} {S9 : AxS} (N : Nat) (K57 : Nat → Int32 → Int32 → Int32 → Int32 → Int32 → Int32 → Int32 → Int32 → AxS → Option (Int32 × AxS)) (hK57 : ∀ (v0 : Nat) (v1 : Int32) (v2 : Int32) (v3 : Int32) (v4 : Int32) (v5 : Int32) (v6 : Int32) (v7 : Int32) (v8 : Int32) (S : AxS), K57 v0 v1 v2 v3 v4 v5 v6 v7 v8 S = some ((r9, S9)) → AW g l (axRm (5) 0 0) mt_X10_fits (axMQ g 0 0 (.inl (some (.int r9)), S9)) 0 0 S 57 [(0, .ref v0), (1, .int v1), (2, .int v2), (3, .int v3), (4, .int v4), (5, .int v5), (6, .int v6), (7, .int v7), (8, .int v8)] []) (v0 : Nat) (v1 : Int32) (v2 : Int32) (v3 : Int32) (v5 : Int32) (v6 : Int32) (v7 : Int32) (v8 : Int32) (w0 : Int32) (S : AxS) (h : F_X10_fits_104 N K57 v0 v1 v2 v3 v5 v6 v7 v8 w0 S = some ((r9, S9))) : AW g l (axRm (5) 0 0) mt_X10_fits (axMQ g 0 0 (.inl (some (.int r9)), S9)) 0 0 S 104 [(0, .ref v0), (1, .int v1), (2, .int v2), (3, .int v3), (5, .int v5), (6, .int v6), (7, .int v7), (8, .int v8)] [.int w0] := by
  unfold F_X10_fits_104 at h
  refine aw_istore [(4, .int w0), (0, .ref v0), (1, .int v1), (2, .int v2), (3, .int v3), (5, .int v5), (6, .int v6), (7, .int v7), (8, .int v8)] dX10_fits_104 rfl rfl ?_
  refine aw_iload 5 dX10_fits_106 rfl ?_
  refine aw_iload 7 dX10_fits_108 rfl ?_
  refine aw_iload 6 dX10_fits_110 rfl ?_
  refine aw_icmp_ne 119 dX10_fits_112 (by decide) h (fun h => ?_) (fun h => ?_)
  · refine aw_iconst 1 dX10_fits_119 rfl ?_
    refine aw_env [(0, .ref v0), (1, .int v1), (2, .int v2), (3, .int v3), (4, .int w0), (7, .int v7), (8, .int v8)] [1, 2, 3, 4, 0, 7, 8] rfl ?_
    exact L1_X10_fits_120 N K57 hK57 v0 v1 v2 v3 w0 v7 v8 1 v5 S h
  · refine aw_iconst 0 dX10_fits_115 rfl ?_
    refine aw_goto 120 dX10_fits_116 (by decide) ?_
    refine aw_env [(0, .ref v0), (1, .int v1), (2, .int v2), (3, .int v3), (4, .int w0), (7, .int v7), (8, .int v8)] [1, 2, 3, 4, 0, 7, 8] rfl ?_
    exact L1_X10_fits_120 N K57 hK57 v0 v1 v2 v3 w0 v7 v8 0 v5 S h
theorem L1_X10_fits_92 {g : AxG} {l : Launch} {r9 : Int32} {S9 : AxS} (N : Nat) (K57 : Nat → Int32 → Int32 → Int32 → Int32 → Int32 → Int32 → Int32 → Int32 → AxS → Option (Int32 × AxS)) (hK57 : ∀ (v0 : Nat) (v1 : Int32) (v2 : Int32) (v3 : Int32) (v4 : Int32) (v5 : Int32) (v6 : Int32) (v7 : Int32) (v8 : Int32) (S : AxS), K57 v0 v1 v2 v3 v4 v5 v6 v7 v8 S = some ((r9, S9)) → AW g l (axRm (5) 0 0) mt_X10_fits (axMQ g 0 0 (.inl (some (.int r9)), S9)) 0 0 S 57 [(0, .ref v0), (1, .int v1), (2, .int v2), (3, .int v3), (4, .int v4), (5, .int v5), (6, .int v6), (7, .int v7), (8, .int v8)] []) (v0 : Nat) (v1 : Int32) (v2 : Int32) (v4 : Int32) (v5 : Int32) (v6 : Int32) (v7 : Int32) (v8 : Int32) (w0 : Int32) (S : AxS) (h : F_X10_fits_92 N K57 v0 v1 v2 v4 v5 v6 v7 v8 w0 S = some ((r9, S9))) : AW g l (axRm (5) 0 0) mt_X10_fits (axMQ g 0 0 (.inl (some (.int r9)), S9)) 0 0 S 92 [(0, .ref v0), (1, .int v1), (2, .int v2), (4, .int v4), (5, .int v5), (6, .int v6), (7, .int v7), (8, .int v8)] [.int w0] := by
  unfold F_X10_fits_92 at h
  refine aw_istore_n 3 [(3, .int w0), (0, .ref v0), (1, .int v1), (2, .int v2), (4, .int v4), (5, .int v5), (6, .int v6), (7, .int v7), (8, .int v8)] dX10_fits_92 rfl rfl rfl ?_
  refine aw_iload_n 3 dX10_fits_93 rfl rfl ?_
  refine aw_if_ne 102 dX10_fits_94 (by decide) h (fun h => ?_) (fun h => ?_)
  · refine aw_iload 4 dX10_fits_102 rfl ?_
    refine aw_env [(0, .ref v0), (1, .int v1), (2, .int v2), (3, .int w0), (5, .int v5), (6, .int v6), (7, .int v7), (8, .int v8)] [1, 2, 3, 0, 5, 6, 7, 8] rfl ?_
    exact L1_X10_fits_104 N K57 hK57 v0 v1 v2 w0 v5 v6 v7 v8 v4 S h
  · refine aw_iload 8 dX10_fits_97 rfl ?_
    refine aw_goto 104 dX10_fits_99 (by decide) ?_
    refine aw_env [(0, .ref v0), (1, .int v1), (2, .int v2), (3, .int w0), (5, .int v5), (6, .int v6), (7, .int v7), (8, .int v8)] [1, 2, 3, 0, 5, 6, 7, 8] rfl ?_
    exact L1_X10_fits_104 N K57 hK57 v0 v1 v2 w0 v5 v6 v7 v8 v8 S h
theorem L1_X10_fits_57b {g : AxG} {l : Launch} {r9 : Int32} {S9 : AxS} (N : Nat) (K46 : Nat → Int32 → Int32 → Int32 → Int32 → Int32 → Int32 → Int32 → AxS → Option (Int32 × AxS)) (hK46 : ∀ (v0 : Nat) (v1 : Int32) (v2 : Int32) (v3 : Int32) (v4 : Int32) (v5 : Int32) (v6 : Int32) (v7 : Int32) (S : AxS), K46 v0 v1 v2 v3 v4 v5 v6 v7 S = some ((r9, S9)) → AW g l (axRm (5) 0 0) mt_X10_fits (axMQ g 0 0 (.inl (some (.int r9)), S9)) 0 0 S 46 [(0, .ref v0), (1, .int v1), (2, .int v2), (3, .int v3), (4, .int v4), (5, .int v5), (6, .int v6), (7, .int v7)] []) (K57 : Nat → Int32 → Int32 → Int32 → Int32 → Int32 → Int32 → Int32 → Int32 → AxS → Option (Int32 × AxS)) (hK57 : ∀ (v0 : Nat) (v1 : Int32) (v2 : Int32) (v3 : Int32) (v4 : Int32) (v5 : Int32) (v6 : Int32) (v7 : Int32) (v8 : Int32) (S : AxS), K57 v0 v1 v2 v3 v4 v5 v6 v7 v8 S = some ((r9, S9)) → AW g l (axRm (5) 0 0) mt_X10_fits (axMQ g 0 0 (.inl (some (.int r9)), S9)) 0 0 S 57 [(0, .ref v0), (1, .int v1), (2, .int v2), (3, .int v3), (4, .int v4), (5, .int v5), (6, .int v6), (7, .int v7), (8, .int v8)] []) (v0 : Nat) (v1 : Int32) (v2 : Int32) (v3 : Int32) (v4 : Int32) (v5 : Int32) (v6 : Int32) (v7 : Int32) (v8 : Int32) (S : AxS) (h : F_X10_fits_57b N K46 K57 v0 v1 v2 v3 v4 v5 v6 v7 v8 S = some ((r9, S9))) : AW g l (axRm (5) 0 0) mt_X10_fits (axMQ g 0 0 (.inl (some (.int r9)), S9)) 0 0 S 57 [(0, .ref v0), (1, .int v1), (2, .int v2), (3, .int v3), (4, .int v4), (5, .int v5), (6, .int v6), (7, .int v7), (8, .int v8)] [] := by
  unfold F_X10_fits_57b at h
  refine aw_iload 8 dX10_fits_57 rfl ?_
  refine aw_bipush 21 dX10_fits_59 (by decide) ?_
  refine aw_icmp_ge 136 dX10_fits_61 (by decide) h (fun h => ?_) (fun h => ?_)
  · refine aw_iinc 7 [(7, .int (v7 + 1)), (0, .ref v0), (1, .int v1), (2, .int v2), (3, .int v3), (4, .int v4), (5, .int v5), (6, .int v6), (8, .int v8)] (v7 + 1) dX10_fits_136 rfl rfl rfl rfl ?_
    refine aw_goto 46 dX10_fits_139 (by decide) ?_
    refine aw_env [(0, .ref v0), (1, .int v1), (2, .int v2), (3, .int v3), (4, .int v4), (5, .int v5), (6, .int v6), (7, .int (v7 + 1))] [1, 2, 3, 4, 5, 6, 7, 0] rfl ?_
    exact hK46 v0 v1 v2 v3 v4 v5 v6 (v7 + 1) S h
  · refine aw_aload_n 0 dX10_fits_64 rfl rfl ?_
    refine aw_iload 7 dX10_fits_65 rfl ?_
    refine aw_iload 8 dX10_fits_67 rfl ?_
    obtain ⟨hL1, h⟩ := ax_is_spec h
    refine aw_doneV (rest := []) h (fun S9 hF => aw_runV (As := [.int v7, .int v8]) (rest := []) (L1_X10_strikesBy N hF) axc10 hL1 wd_1720 wd_1717 wd_1719 wd_72 wd_97 pd_X10_strikesBy rfl (ax_rm (by omega) rfl) ax_hf0 (Nat.le_of_ble_eq_true rfl) rfl dX10_fits_69) (fun T2 h => ?_)
    refine aw_aload_n 0 dX10_fits_72 rfl rfl ?_
    obtain ⟨hL4, h⟩ := ax_is_spec h
    refine aw_doneI (rest := []) h (fun r9 S9 hF => aw_runV (As := []) (rest := []) (L1_X10_isStruck N hF) axc10 hL4 wd_1724 wd_1721 wd_1723 wd_73 wd_97 pd_X10_isStruck rfl (ax_rm (by omega) rfl) ax_hf0 (Nat.le_of_ble_eq_true rfl) rfl dX10_fits_73) (fun x6 T5 h => ?_)
    refine aw_if_ne 82 dX10_fits_76 (by decide) h (fun h => ?_) (fun h => ?_)
    · refine aw_iload_n 2 dX10_fits_82 rfl rfl ?_
      refine aw_if_ne 91 dX10_fits_83 (by decide) h (fun h => ?_) (fun h => ?_)
      · refine aw_iload_n 3 dX10_fits_91 rfl rfl ?_
        refine aw_env [(0, .ref v0), (1, .int v1), (2, .int v2), (4, .int v4), (5, .int v5), (6, .int v6), (7, .int v7), (8, .int v8)] [0, 1, 2, 4, 5, 6, 7, 8] rfl ?_
        exact L1_X10_fits_92 N K57 hK57 v0 v1 v2 v4 v5 v6 v7 v8 v3 T5 h
      · refine aw_iload 7 dX10_fits_86 rfl ?_
        refine aw_goto 92 dX10_fits_88 (by decide) ?_
        refine aw_env [(0, .ref v0), (1, .int v1), (2, .int v2), (4, .int v4), (5, .int v5), (6, .int v6), (7, .int v7), (8, .int v8)] [0, 1, 2, 4, 5, 6, 7, 8] rfl ?_
        exact L1_X10_fits_92 N K57 hK57 v0 v1 v2 v4 v5 v6 v7 v8 v7 T5 h
    · refine aw_goto 130 dX10_fits_79 (by decide) ?_
      refine aw_env [(0, .ref v0), (1, .int v1), (2, .int v2), (3, .int v3), (4, .int v4), (5, .int v5), (6, .int v6), (7, .int v7), (8, .int v8)] [0, 1, 2, 3, 4, 5, 6, 7, 8] rfl ?_
      exact L1_X10_fits_130 N K57 hK57 v0 v1 v2 v3 v4 v5 v6 v7 v8 T5 h
theorem L1_X10_fits_57 {g : AxG} {l : Launch} {r9 : Int32} {S9 : AxS} (N : Nat) (K46 : Nat → Int32 → Int32 → Int32 → Int32 → Int32 → Int32 → Int32 → AxS → Option (Int32 × AxS)) (hK46 : ∀ (v0 : Nat) (v1 : Int32) (v2 : Int32) (v3 : Int32) (v4 : Int32) (v5 : Int32) (v6 : Int32) (v7 : Int32) (S : AxS), K46 v0 v1 v2 v3 v4 v5 v6 v7 S = some ((r9, S9)) → AW g l (axRm (5) 0 0) mt_X10_fits (axMQ g 0 0 (.inl (some (.int r9)), S9)) 0 0 S 46 [(0, .ref v0), (1, .int v1), (2, .int v2), (3, .int v3), (4, .int v4), (5, .int v5), (6, .int v6), (7, .int v7)] []) : ∀ (n : Nat) (v0 : Nat) (v1 : Int32) (v2 : Int32) (v3 : Int32) (v4 : Int32) (v5 : Int32) (v6 : Int32) (v7 : Int32) (v8 : Int32) (S : AxS), F_X10_fits_57 N K46 n v0 v1 v2 v3 v4 v5 v6 v7 v8 S = some ((r9, S9)) → AW g l (axRm (5) 0 0) mt_X10_fits (axMQ g 0 0 (.inl (some (.int r9)), S9)) 0 0 S 57 [(0, .ref v0), (1, .int v1), (2, .int v2), (3, .int v3), (4, .int v4), (5, .int v5), (6, .int v6), (7, .int v7), (8, .int v8)] [] := by
  intro n
  induction n with
  | zero => intro v0 v1 v2 v3 v4 v5 v6 v7 v8 S h; cases h
  | succ n ih => intro v0 v1 v2 v3 v4 v5 v6 v7 v8 S h; exact L1_X10_fits_57b N K46 hK46 (F_X10_fits_57 N K46 n) ih v0 v1 v2 v3 v4 v5 v6 v7 v8 S h
theorem L1_X10_fits_46b {g : AxG} {l : Launch} {r9 : Int32} {S9 : AxS} (N : Nat) (K46 : Nat → Int32 → Int32 → Int32 → Int32 → Int32 → Int32 → Int32 → AxS → Option (Int32 × AxS)) (hK46 : ∀ (v0 : Nat) (v1 : Int32) (v2 : Int32) (v3 : Int32) (v4 : Int32) (v5 : Int32) (v6 : Int32) (v7 : Int32) (S : AxS), K46 v0 v1 v2 v3 v4 v5 v6 v7 S = some ((r9, S9)) → AW g l (axRm (5) 0 0) mt_X10_fits (axMQ g 0 0 (.inl (some (.int r9)), S9)) 0 0 S 46 [(0, .ref v0), (1, .int v1), (2, .int v2), (3, .int v3), (4, .int v4), (5, .int v5), (6, .int v6), (7, .int v7)] []) (v0 : Nat) (v1 : Int32) (v2 : Int32) (v3 : Int32) (v4 : Int32) (v5 : Int32) (v6 : Int32) (v7 : Int32) (S : AxS) (h : F_X10_fits_46b N K46 v0 v1 v2 v3 v4 v5 v6 v7 S = some ((r9, S9))) : AW g l (axRm (5) 0 0) mt_X10_fits (axMQ g 0 0 (.inl (some (.int r9)), S9)) 0 0 S 46 [(0, .ref v0), (1, .int v1), (2, .int v2), (3, .int v3), (4, .int v4), (5, .int v5), (6, .int v6), (7, .int v7)] [] := by
  unfold F_X10_fits_46b at h
  refine aw_iload 7 dX10_fits_46 rfl ?_
  refine aw_sipush 200 dX10_fits_48 (by decide) ?_
  refine aw_icmp_ge 142 dX10_fits_51 (by decide) h (fun h => ?_) (fun h => ?_)
  · refine aw_iload_n 1 dX10_fits_142 rfl rfl ?_
    refine aw_if_ne 150 dX10_fits_143 (by decide) h (fun h => ?_) (fun h => ?_)
    · refine aw_iload_n 1 dX10_fits_150 rfl rfl ?_
      refine aw_iconst 1 dX10_fits_151 rfl ?_
      refine aw_icmp_ne 159 dX10_fits_152 (by decide) h (fun h => ?_) (fun h => ?_)
      · refine aw_iload_n 1 dX10_fits_159 rfl rfl ?_
        refine aw_iconst 2 dX10_fits_160 rfl ?_
        refine aw_icmp_ne 169 dX10_fits_161 (by decide) h (fun h => ?_) (fun h => ?_)
        · refine aw_iload 5 dX10_fits_169 rfl ?_
          exact aw_iret dX10_fits_171 rfl (Nat.le_refl _) (Nat.le_refl _) h
        · refine aw_iload 4 dX10_fits_164 rfl ?_
          refine aw_goto 171 dX10_fits_166 (by decide) ?_
          exact aw_iret dX10_fits_171 rfl (Nat.le_refl _) (Nat.le_refl _) h
      · refine aw_iload_n 3 dX10_fits_155 rfl rfl ?_
        refine aw_goto 171 dX10_fits_156 (by decide) ?_
        exact aw_iret dX10_fits_171 rfl (Nat.le_refl _) (Nat.le_refl _) h
    · refine aw_iload_n 2 dX10_fits_146 rfl rfl ?_
      refine aw_goto 171 dX10_fits_147 (by decide) ?_
      exact aw_iret dX10_fits_171 rfl (Nat.le_refl _) (Nat.le_refl _) h
  · refine aw_iconst 0 dX10_fits_54 rfl ?_
    refine aw_istore [(8, .int 0), (0, .ref v0), (1, .int v1), (2, .int v2), (3, .int v3), (4, .int v4), (5, .int v5), (6, .int v6), (7, .int v7)] dX10_fits_55 rfl rfl ?_
    refine aw_env [(0, .ref v0), (1, .int v1), (2, .int v2), (3, .int v3), (4, .int v4), (5, .int v5), (6, .int v6), (7, .int v7), (8, .int 0)] [1, 2, 3, 4, 5, 6, 7, 8, 0] rfl ?_
    exact L1_X10_fits_57 N K46 hK46 N v0 v1 v2 v3 v4 v5 v6 v7 0 S h
theorem L1_X10_fits_46 {g : AxG} {l : Launch} {r9 : Int32} {S9 : AxS} (N : Nat)  : ∀ (n : Nat) (v0 : Nat) (v1 : Int32) (v2 : Int32) (v3 : Int32) (v4 : Int32) (v5 : Int32) (v6 : Int32) (v7 : Int32) (S : AxS), F_X10_fits_46 N  n v0 v1 v2 v3 v4 v5 v6 v7 S = some ((r9, S9)) → AW g l (axRm (5) 0 0) mt_X10_fits (axMQ g 0 0 (.inl (some (.int r9)), S9)) 0 0 S 46 [(0, .ref v0), (1, .int v1), (2, .int v2), (3, .int v3), (4, .int v4), (5, .int v5), (6, .int v6), (7, .int v7)] [] := by
  intro n
  induction n with
  | zero => intro v0 v1 v2 v3 v4 v5 v6 v7 S h; cases h
  | succ n ih => intro v0 v1 v2 v3 v4 v5 v6 v7 S h; exact L1_X10_fits_46b N (F_X10_fits_46 N  n) ih v0 v1 v2 v3 v4 v5 v6 v7 S h
theorem L1_X10_fits_20 {g : AxG} {l : Launch} {r9 : Int32} {S9 : AxS} (N : Nat)  (v0 : Nat) (v1 : Int32) (w0 : Int32) (w1 : Nat) (S : AxS) (h : F_X10_fits_20 N  v0 v1 w0 w1 S = some ((r9, S9))) : AW g l (axRm (5) 0 0) mt_X10_fits (axMQ g 0 0 (.inl (some (.int r9)), S9)) 0 0 S 20 [(0, .ref v0), (1, .int v1)] [.int w0, .ref w1] := by
  unfold F_X10_fits_20 at h
  refine aw_iconst 1 dX10_fits_20 rfl ?_
  refine aw_iconst 1 dX10_fits_21 rfl ?_
  obtain ⟨hL1, h⟩ := ax_is_spec h
  refine aw_doneI (rest := []) h (fun r9 S9 hF => aw_runV (As := [.int w0, .int 1, .int 1]) (rest := []) (L1_X10_bad N hF) axc10 hL1 wd_1452 wd_1449 wd_1451 wd_38 wd_97 pd_X10_bad rfl (ax_rm (by omega) rfl) ax_hf0 (Nat.le_of_ble_eq_true rfl) rfl dX10_fits_22) (fun x3 T2 h => ?_)
  refine aw_if_eq 30 dX10_fits_25 (by decide) h (fun h => ?_) (fun h => ?_)
  · refine aw_iconst 0 dX10_fits_30 rfl ?_
    refine aw_istore_n 2 [(2, .int 0), (0, .ref v0), (1, .int v1)] dX10_fits_31 rfl rfl rfl ?_
    refine aw_iconst (-1) dX10_fits_32 rfl ?_
    refine aw_istore_n 3 [(3, .int ((-1))), (2, .int 0), (0, .ref v0), (1, .int v1)] dX10_fits_33 rfl rfl rfl ?_
    refine aw_iconst (-1) dX10_fits_34 rfl ?_
    refine aw_istore [(4, .int ((-1))), (3, .int ((-1))), (2, .int 0), (0, .ref v0), (1, .int v1)] dX10_fits_35 rfl rfl ?_
    refine aw_iconst 0 dX10_fits_37 rfl ?_
    refine aw_istore [(5, .int 0), (4, .int ((-1))), (3, .int ((-1))), (2, .int 0), (0, .ref v0), (1, .int v1)] dX10_fits_38 rfl rfl ?_
    refine aw_iconst (-1) dX10_fits_40 rfl ?_
    refine aw_istore [(6, .int ((-1))), (5, .int 0), (4, .int ((-1))), (3, .int ((-1))), (2, .int 0), (0, .ref v0), (1, .int v1)] dX10_fits_41 rfl rfl ?_
    refine aw_iconst 0 dX10_fits_43 rfl ?_
    refine aw_istore [(7, .int 0), (6, .int ((-1))), (5, .int 0), (4, .int ((-1))), (3, .int ((-1))), (2, .int 0), (0, .ref v0), (1, .int v1)] dX10_fits_44 rfl rfl ?_
    refine aw_env [(0, .ref v0), (1, .int v1), (2, .int 0), (3, .int ((-1))), (4, .int ((-1))), (5, .int 0), (6, .int ((-1))), (7, .int 0)] [6, 7, 5, 4, 3, 2, 1, 0] rfl ?_
    exact L1_X10_fits_46 N  N v0 v1 0 ((-1)) ((-1)) 0 ((-1)) 0 T2 h
  · refine aw_iconst 0 dX10_fits_28 rfl ?_
    exact aw_iret dX10_fits_29 rfl (Nat.le_refl _) (Nat.le_refl _) h
theorem L1_X10_fits {g : AxG} {l : Launch} (N : Nat) {v0 : Nat} {v1 : Int32} {S : AxS} {r9 : Int32} {S9 : AxS} (h : F_X10_fits N v0 v1 S = some ((r9, S9))) : AxMet g l yX10_fits cX10_fits 9 (some .int) (5) 0 0 [.ref v0, .int v1] S ((.inl (some (.int r9)), S9)) := by
  refine ax_met (own := RX10) (ini := false) (by decide +kernel) rfl (fun h => nomatch h) rfl ?_
  show AW g l (axRm (5) 0 0) mt_X10_fits (axMQ g 0 0 (.inl (some (.int r9)), S9)) 0 0 S 0 [(0, .ref v0), (1, .int v1)] []
  unfold F_X10_fits at h
  refine aw_aload_n 0 dX10_fits_0 rfl rfl ?_
  refine aw_iconst 0 dX10_fits_1 rfl ?_
  refine aw_putI axc10 0 rfl rfl wd_1285 rfl rfl rfl dX10_fits_2 h (fun T1 h => ?_)
  refine aw_aload_n 0 dX10_fits_5 rfl rfl ?_
  refine aw_iload_n 1 dX10_fits_6 rfl rfl ?_
  refine aw_iconst 0 dX10_fits_7 rfl ?_
  refine aw_iconst 3 dX10_fits_8 rfl ?_
  refine aw_doneI (rest := [.ref v0]) h (fun r9 S9 hF => aw_runS (As := [.int v1, .int 0, .int 3]) (rest := [.ref v0]) (L1_X10_in N hF) wd_1448 wd_1446 wd_1447 wd_97 pd_X10_in.2 rfl (ax_rm (by omega) rfl) ax_hf0 (Nat.le_of_ble_eq_true rfl) rfl dX10_fits_9) (fun x3 T2 h => ?_)
  refine aw_if_ne 19 dX10_fits_12 (by decide) h (fun h => ?_) (fun h => ?_)
  · refine aw_iconst 0 dX10_fits_19 rfl ?_
    refine aw_env [(0, .ref v0), (1, .int v1)] [0, 1] rfl ?_
    exact L1_X10_fits_20 N  v0 v1 0 v0 T2 h
  · refine aw_iconst 1 dX10_fits_15 rfl ?_
    refine aw_goto 20 dX10_fits_16 (by decide) ?_
    refine aw_env [(0, .ref v0), (1, .int v1)] [0, 1] rfl ?_
    exact L1_X10_fits_20 N  v0 v1 1 v0 T2 h

theorem dX10_isCounted_0 : decode cX10_isCounted 0 = .ok (.iconst 0, 1) := by decide +kernel
theorem dX10_isCounted_1 : decode cX10_isCounted 1 = .ok (.istore_n 2, 1) := by decide +kernel
theorem dX10_isCounted_2 : decode cX10_isCounted 2 = .ok (.iload_n 2, 1) := by decide +kernel
theorem dX10_isCounted_3 : decode cX10_isCounted 3 = .ok (.aload_n 0, 1) := by decide +kernel
theorem dX10_isCounted_4 : decode cX10_isCounted 4 = .ok (.getfield 217, 3) := by decide +kernel
theorem dX10_isCounted_7 : decode cX10_isCounted 7 = .ok (.if_icmp .ge 23, 3) := by decide +kernel
theorem dX10_isCounted_10 : decode cX10_isCounted 10 = .ok (.aload_n 0, 1) := by decide +kernel
theorem dX10_isCounted_11 : decode cX10_isCounted 11 = .ok (.getfield 46, 3) := by decide +kernel
theorem dX10_isCounted_14 : decode cX10_isCounted 14 = .ok (.iload_n 2, 1) := by decide +kernel
theorem dX10_isCounted_15 : decode cX10_isCounted 15 = .ok (.aaload, 1) := by decide +kernel
theorem dX10_isCounted_16 : decode cX10_isCounted 16 = .ok (.iconst 0, 1) := by decide +kernel
theorem dX10_isCounted_17 : decode cX10_isCounted 17 = .ok (.iaload, 1) := by decide +kernel
theorem dX10_isCounted_18 : decode cX10_isCounted 18 = .ok (.iload_n 1, 1) := by decide +kernel
theorem dX10_isCounted_19 : decode cX10_isCounted 19 = .ok (.if_icmp .ne 5, 3) := by decide +kernel
theorem dX10_isCounted_22 : decode cX10_isCounted 22 = .ok (.iconst 1, 1) := by decide +kernel
theorem dX10_isCounted_23 : decode cX10_isCounted 23 = .ok (.ireturn, 1) := by decide +kernel
theorem dX10_isCounted_24 : decode cX10_isCounted 24 = .ok (.iinc 2 1, 3) := by decide +kernel
theorem dX10_isCounted_27 : decode cX10_isCounted 27 = .ok (.goto (-25), 3) := by decide +kernel
theorem dX10_isCounted_30 : decode cX10_isCounted 30 = .ok (.iconst 0, 1) := by decide +kernel
theorem dX10_isCounted_31 : decode cX10_isCounted 31 = .ok (.ireturn, 1) := by decide +kernel
abbrev mt_X10_isCounted : AxM := (RX10, cX10_isCounted, 3, (some .boolean), false, [])
theorem L1_X10_isCounted_2b {g : AxG} {l : Launch} {r9 : Int32} {S9 : AxS} (N : Nat) (K2 : Nat → Int32 → Int32 → AxS → Option (Int32 × AxS)) (hK2 : ∀ (v0 : Nat) (v1 : Int32) (v2 : Int32) (S : AxS), K2 v0 v1 v2 S = some ((r9, S9)) → AW g l (axRm (0) 0 0) mt_X10_isCounted (axMQ g 0 0 (.inl (some (.int r9)), S9)) 0 0 S 2 [(0, .ref v0), (1, .int v1), (2, .int v2)] []) (v0 : Nat) (v1 : Int32) (v2 : Int32) (S : AxS) (h : F_X10_isCounted_2b N K2 v0 v1 v2 S = some ((r9, S9))) : AW g l (axRm (0) 0 0) mt_X10_isCounted (axMQ g 0 0 (.inl (some (.int r9)), S9)) 0 0 S 2 [(0, .ref v0), (1, .int v1), (2, .int v2)] [] := by
  unfold F_X10_isCounted_2b at h
  refine aw_iload_n 2 dX10_isCounted_2 rfl rfl ?_
  refine aw_aload_n 0 dX10_isCounted_3 rfl rfl ?_
  refine aw_getI axc10 31 rfl rfl wd_1316 dX10_isCounted_4 h (fun x1 h => ?_)
  refine aw_icmp_ge 30 dX10_isCounted_7 (by decide) h (fun h => ?_) (fun h => ?_)
  · refine aw_iconst 0 dX10_isCounted_30 rfl ?_
    exact aw_zret dX10_isCounted_31 rfl (Nat.le_refl _) (Nat.le_refl _) h
  · refine aw_aload_n 0 dX10_isCounted_10 rfl rfl ?_
    refine aw_getR axc10 21 rfl rfl wd_1306 dX10_isCounted_11 h (fun a2 h => ?_)
    refine aw_iload_n 2 dX10_isCounted_14 rfl rfl ?_
    refine aw_aald dX10_isCounted_15 h (fun a3 h => ?_)
    refine aw_iconst 0 dX10_isCounted_16 rfl ?_
    refine aw_iald dX10_isCounted_17 h (fun x4 h => ?_)
    refine aw_iload_n 1 dX10_isCounted_18 rfl rfl ?_
    refine aw_icmp_ne 24 dX10_isCounted_19 (by decide) h (fun h => ?_) (fun h => ?_)
    · refine aw_iinc 2 [(2, .int (v2 + 1)), (0, .ref v0), (1, .int v1)] (v2 + 1) dX10_isCounted_24 rfl rfl rfl rfl ?_
      refine aw_goto 2 dX10_isCounted_27 (by decide) ?_
      refine aw_env [(0, .ref v0), (1, .int v1), (2, .int (v2 + 1))] [1, 2, 0] rfl ?_
      exact hK2 v0 v1 (v2 + 1) S h
    · refine aw_iconst 1 dX10_isCounted_22 rfl ?_
      exact aw_zret dX10_isCounted_23 rfl (Nat.le_refl _) (Nat.le_refl _) h
theorem L1_X10_isCounted_2 {g : AxG} {l : Launch} {r9 : Int32} {S9 : AxS} (N : Nat)  : ∀ (n : Nat) (v0 : Nat) (v1 : Int32) (v2 : Int32) (S : AxS), F_X10_isCounted_2 N  n v0 v1 v2 S = some ((r9, S9)) → AW g l (axRm (0) 0 0) mt_X10_isCounted (axMQ g 0 0 (.inl (some (.int r9)), S9)) 0 0 S 2 [(0, .ref v0), (1, .int v1), (2, .int v2)] [] := by
  intro n
  induction n with
  | zero => intro v0 v1 v2 S h; cases h
  | succ n ih => intro v0 v1 v2 S h; exact L1_X10_isCounted_2b N (F_X10_isCounted_2 N  n) ih v0 v1 v2 S h
theorem L1_X10_isCounted {g : AxG} {l : Launch} (N : Nat) {v0 : Nat} {v1 : Int32} {S : AxS} {r9 : Int32} {S9 : AxS} (h : F_X10_isCounted N v0 v1 S = some ((r9, S9))) : AxMet g l yX10_isCounted cX10_isCounted 3 (some .boolean) (0) 0 0 [.ref v0, .int v1] S ((.inl (some (.int r9)), S9)) := by
  refine ax_met (own := RX10) (ini := false) (by decide +kernel) rfl (fun h => nomatch h) rfl ?_
  show AW g l (axRm (0) 0 0) mt_X10_isCounted (axMQ g 0 0 (.inl (some (.int r9)), S9)) 0 0 S 0 [(0, .ref v0), (1, .int v1)] []
  unfold F_X10_isCounted at h
  refine aw_iconst 0 dX10_isCounted_0 rfl ?_
  refine aw_istore_n 2 [(2, .int 0), (0, .ref v0), (1, .int v1)] dX10_isCounted_1 rfl rfl rfl ?_
  refine aw_env [(0, .ref v0), (1, .int v1), (2, .int 0)] [1, 2, 0] rfl ?_
  exact L1_X10_isCounted_2 N  N v0 v1 0 S h

theorem dX10_count_0 : decode cX10_count 0 = .ok (.aload_n 0, 1) := by decide +kernel
theorem dX10_count_1 : decode cX10_count 1 = .ok (.iconst 0, 1) := by decide +kernel
theorem dX10_count_2 : decode cX10_count 2 = .ok (.putfield 104, 3) := by decide +kernel
theorem dX10_count_5 : decode cX10_count 5 = .ok (.aload_n 0, 1) := by decide +kernel
theorem dX10_count_6 : decode cX10_count 6 = .ok (.iload_n 1, 1) := by decide +kernel
theorem dX10_count_7 : decode cX10_count 7 = .ok (.iconst 0, 1) := by decide +kernel
theorem dX10_count_8 : decode cX10_count 8 = .ok (.iconst 1, 1) := by decide +kernel
theorem dX10_count_9 : decode cX10_count 9 = .ok (.invokestatic 138, 3) := by decide +kernel
theorem dX10_count_12 : decode cX10_count 12 = .ok (.ifCond .ne 7, 3) := by decide +kernel
theorem dX10_count_15 : decode cX10_count 15 = .ok (.iconst 1, 1) := by decide +kernel
theorem dX10_count_16 : decode cX10_count 16 = .ok (.goto 4, 3) := by decide +kernel
theorem dX10_count_19 : decode cX10_count 19 = .ok (.iconst 0, 1) := by decide +kernel
theorem dX10_count_20 : decode cX10_count 20 = .ok (.iconst 1, 1) := by decide +kernel
theorem dX10_count_21 : decode cX10_count 21 = .ok (.iconst 1, 1) := by decide +kernel
theorem dX10_count_22 : decode cX10_count 22 = .ok (.invokevirtual 193, 3) := by decide +kernel
theorem dX10_count_25 : decode cX10_count 25 = .ok (.ifCond .eq 5, 3) := by decide +kernel
theorem dX10_count_28 : decode cX10_count 28 = .ok (.iconst 0, 1) := by decide +kernel
theorem dX10_count_29 : decode cX10_count 29 = .ok (.ireturn, 1) := by decide +kernel
theorem dX10_count_30 : decode cX10_count 30 = .ok (.iconst (-1), 1) := by decide +kernel
theorem dX10_count_31 : decode cX10_count 31 = .ok (.istore_n 2, 1) := by decide +kernel
theorem dX10_count_32 : decode cX10_count 32 = .ok (.iconst (-1), 1) := by decide +kernel
theorem dX10_count_33 : decode cX10_count 33 = .ok (.istore_n 3, 1) := by decide +kernel
theorem dX10_count_34 : decode cX10_count 34 = .ok (.iconst 0, 1) := by decide +kernel
theorem dX10_count_35 : decode cX10_count 35 = .ok (.istore 4, 2) := by decide +kernel
theorem dX10_count_37 : decode cX10_count 37 = .ok (.iload 4, 2) := by decide +kernel
theorem dX10_count_39 : decode cX10_count 39 = .ok (.bipush 60, 2) := by decide +kernel
theorem dX10_count_41 : decode cX10_count 41 = .ok (.if_icmp .ge 37, 3) := by decide +kernel
theorem dX10_count_44 : decode cX10_count 44 = .ok (.iconst 0, 1) := by decide +kernel
theorem dX10_count_45 : decode cX10_count 45 = .ok (.istore 5, 2) := by decide +kernel
theorem dX10_count_47 : decode cX10_count 47 = .ok (.iload 5, 2) := by decide +kernel
theorem dX10_count_49 : decode cX10_count 49 = .ok (.sipush 999, 3) := by decide +kernel
theorem dX10_count_52 : decode cX10_count 52 = .ok (.if_icmp .gt 20, 3) := by decide +kernel
theorem dX10_count_55 : decode cX10_count 55 = .ok (.aload_n 0, 1) := by decide +kernel
theorem dX10_count_56 : decode cX10_count 56 = .ok (.getfield 79, 3) := by decide +kernel
theorem dX10_count_59 : decode cX10_count 59 = .ok (.iload 4, 2) := by decide +kernel
theorem dX10_count_61 : decode cX10_count 61 = .ok (.aaload, 1) := by decide +kernel
theorem dX10_count_62 : decode cX10_count 62 = .ok (.iload 5, 2) := by decide +kernel
theorem dX10_count_64 : decode cX10_count 64 = .ok (.iconst 0, 1) := by decide +kernel
theorem dX10_count_65 : decode cX10_count 65 = .ok (.iastore, 1) := by decide +kernel
theorem dX10_count_66 : decode cX10_count 66 = .ok (.iinc 5 1, 3) := by decide +kernel
theorem dX10_count_69 : decode cX10_count 69 = .ok (.goto (-22), 3) := by decide +kernel
theorem dX10_count_72 : decode cX10_count 72 = .ok (.iinc 4 1, 3) := by decide +kernel
theorem dX10_count_75 : decode cX10_count 75 = .ok (.goto (-38), 3) := by decide +kernel
theorem dX10_count_78 : decode cX10_count 78 = .ok (.iconst 0, 1) := by decide +kernel
theorem dX10_count_79 : decode cX10_count 79 = .ok (.istore 4, 2) := by decide +kernel
theorem dX10_count_81 : decode cX10_count 81 = .ok (.iload 4, 2) := by decide +kernel
theorem dX10_count_83 : decode cX10_count 83 = .ok (.sipush 200, 3) := by decide +kernel
theorem dX10_count_86 : decode cX10_count 86 = .ok (.if_icmp .ge 75, 3) := by decide +kernel
theorem dX10_count_89 : decode cX10_count 89 = .ok (.iconst 0, 1) := by decide +kernel
theorem dX10_count_90 : decode cX10_count 90 = .ok (.istore 5, 2) := by decide +kernel
theorem dX10_count_92 : decode cX10_count 92 = .ok (.iload 5, 2) := by decide +kernel
theorem dX10_count_94 : decode cX10_count 94 = .ok (.bipush 21, 2) := by decide +kernel
theorem dX10_count_96 : decode cX10_count 96 = .ok (.if_icmp .ge 59, 3) := by decide +kernel
theorem dX10_count_99 : decode cX10_count 99 = .ok (.aload_n 0, 1) := by decide +kernel
theorem dX10_count_100 : decode cX10_count 100 = .ok (.iload 4, 2) := by decide +kernel
theorem dX10_count_102 : decode cX10_count 102 = .ok (.iload 5, 2) := by decide +kernel
theorem dX10_count_104 : decode cX10_count 104 = .ok (.invokevirtual 335, 3) := by decide +kernel
theorem dX10_count_107 : decode cX10_count 107 = .ok (.iconst 0, 1) := by decide +kernel
theorem dX10_count_108 : decode cX10_count 108 = .ok (.istore 6, 2) := by decide +kernel
theorem dX10_count_110 : decode cX10_count 110 = .ok (.iload 6, 2) := by decide +kernel
theorem dX10_count_112 : decode cX10_count 112 = .ok (.bipush 60, 2) := by decide +kernel
theorem dX10_count_114 : decode cX10_count 114 = .ok (.if_icmp .ge 35, 3) := by decide +kernel
theorem dX10_count_117 : decode cX10_count 117 = .ok (.aload_n 0, 1) := by decide +kernel
theorem dX10_count_118 : decode cX10_count 118 = .ok (.invokevirtual 338, 3) := by decide +kernel
theorem dX10_count_121 : decode cX10_count 121 = .ok (.ifCond .eq 28, 3) := by decide +kernel
theorem dX10_count_124 : decode cX10_count 124 = .ok (.aload_n 0, 1) := by decide +kernel
theorem dX10_count_125 : decode cX10_count 125 = .ok (.getfield 79, 3) := by decide +kernel
theorem dX10_count_128 : decode cX10_count 128 = .ok (.iload 6, 2) := by decide +kernel
theorem dX10_count_130 : decode cX10_count 130 = .ok (.aaload, 1) := by decide +kernel
theorem dX10_count_131 : decode cX10_count 131 = .ok (.aload_n 0, 1) := by decide +kernel
theorem dX10_count_132 : decode cX10_count 132 = .ok (.getfield 76, 3) := by decide +kernel
theorem dX10_count_135 : decode cX10_count 135 = .ok (.iload 6, 2) := by decide +kernel
theorem dX10_count_137 : decode cX10_count 137 = .ok (.iaload, 1) := by decide +kernel
theorem dX10_count_138 : decode cX10_count 138 = .ok (.dup2, 1) := by decide +kernel
theorem dX10_count_139 : decode cX10_count 139 = .ok (.iaload, 1) := by decide +kernel
theorem dX10_count_140 : decode cX10_count 140 = .ok (.iconst 1, 1) := by decide +kernel
theorem dX10_count_141 : decode cX10_count 141 = .ok (.iadd, 1) := by decide +kernel
theorem dX10_count_142 : decode cX10_count 142 = .ok (.iastore, 1) := by decide +kernel
theorem dX10_count_143 : decode cX10_count 143 = .ok (.iinc 6 1, 3) := by decide +kernel
theorem dX10_count_146 : decode cX10_count 146 = .ok (.goto (-36), 3) := by decide +kernel
theorem dX10_count_149 : decode cX10_count 149 = .ok (.iinc 5 1, 3) := by decide +kernel
theorem dX10_count_152 : decode cX10_count 152 = .ok (.goto (-60), 3) := by decide +kernel
theorem dX10_count_155 : decode cX10_count 155 = .ok (.iinc 4 1, 3) := by decide +kernel
theorem dX10_count_158 : decode cX10_count 158 = .ok (.goto (-77), 3) := by decide +kernel
theorem dX10_count_161 : decode cX10_count 161 = .ok (.iconst 0, 1) := by decide +kernel
theorem dX10_count_162 : decode cX10_count 162 = .ok (.istore 4, 2) := by decide +kernel
theorem dX10_count_164 : decode cX10_count 164 = .ok (.iload 4, 2) := by decide +kernel
theorem dX10_count_166 : decode cX10_count 166 = .ok (.bipush 60, 2) := by decide +kernel
theorem dX10_count_168 : decode cX10_count 168 = .ok (.if_icmp .ge 75, 3) := by decide +kernel
theorem dX10_count_171 : decode cX10_count 171 = .ok (.iconst 0, 1) := by decide +kernel
theorem dX10_count_172 : decode cX10_count 172 = .ok (.istore 5, 2) := by decide +kernel
theorem dX10_count_174 : decode cX10_count 174 = .ok (.iconst 0, 1) := by decide +kernel
theorem dX10_count_175 : decode cX10_count 175 = .ok (.istore 6, 2) := by decide +kernel
theorem dX10_count_177 : decode cX10_count 177 = .ok (.iload 6, 2) := by decide +kernel
theorem dX10_count_179 : decode cX10_count 179 = .ok (.sipush 999, 3) := by decide +kernel
theorem dX10_count_182 : decode cX10_count 182 = .ok (.if_icmp .gt 26, 3) := by decide +kernel
theorem dX10_count_185 : decode cX10_count 185 = .ok (.iload 5, 2) := by decide +kernel
theorem dX10_count_187 : decode cX10_count 187 = .ok (.aload_n 0, 1) := by decide +kernel
theorem dX10_count_188 : decode cX10_count 188 = .ok (.getfield 79, 3) := by decide +kernel
theorem dX10_count_191 : decode cX10_count 191 = .ok (.iload 4, 2) := by decide +kernel
theorem dX10_count_193 : decode cX10_count 193 = .ok (.aaload, 1) := by decide +kernel
theorem dX10_count_194 : decode cX10_count 194 = .ok (.iload 6, 2) := by decide +kernel
theorem dX10_count_196 : decode cX10_count 196 = .ok (.iaload, 1) := by decide +kernel
theorem dX10_count_197 : decode cX10_count 197 = .ok (.invokestatic 257, 3) := by decide +kernel
theorem dX10_count_200 : decode cX10_count 200 = .ok (.istore 5, 2) := by decide +kernel
theorem dX10_count_202 : decode cX10_count 202 = .ok (.iinc 6 1, 3) := by decide +kernel
theorem dX10_count_205 : decode cX10_count 205 = .ok (.goto (-28), 3) := by decide +kernel
theorem dX10_count_208 : decode cX10_count 208 = .ok (.aload_n 0, 1) := by decide +kernel
theorem dX10_count_209 : decode cX10_count 209 = .ok (.iload 4, 2) := by decide +kernel
theorem dX10_count_211 : decode cX10_count 211 = .ok (.invokevirtual 341, 3) := by decide +kernel
theorem dX10_count_214 : decode cX10_count 214 = .ok (.ifCond .ne 23, 3) := by decide +kernel
theorem dX10_count_217 : decode cX10_count 217 = .ok (.iload_n 2, 1) := by decide +kernel
theorem dX10_count_218 : decode cX10_count 218 = .ok (.iconst (-1), 1) := by decide +kernel
theorem dX10_count_219 : decode cX10_count 219 = .ok (.if_icmp .eq 12, 3) := by decide +kernel
theorem dX10_count_222 : decode cX10_count 222 = .ok (.iload 5, 2) := by decide +kernel
theorem dX10_count_224 : decode cX10_count 224 = .ok (.iload_n 3, 1) := by decide +kernel
theorem dX10_count_225 : decode cX10_count 225 = .ok (.if_icmp .lt 6, 3) := by decide +kernel
theorem dX10_count_228 : decode cX10_count 228 = .ok (.goto 9, 3) := by decide +kernel
theorem dX10_count_231 : decode cX10_count 231 = .ok (.iload 4, 2) := by decide +kernel
theorem dX10_count_233 : decode cX10_count 233 = .ok (.istore_n 2, 1) := by decide +kernel
theorem dX10_count_234 : decode cX10_count 234 = .ok (.iload 5, 2) := by decide +kernel
theorem dX10_count_236 : decode cX10_count 236 = .ok (.istore_n 3, 1) := by decide +kernel
theorem dX10_count_237 : decode cX10_count 237 = .ok (.iinc 4 1, 3) := by decide +kernel
theorem dX10_count_240 : decode cX10_count 240 = .ok (.goto (-76), 3) := by decide +kernel
theorem dX10_count_243 : decode cX10_count 243 = .ok (.iload_n 1, 1) := by decide +kernel
theorem dX10_count_244 : decode cX10_count 244 = .ok (.ifCond .ne 7, 3) := by decide +kernel
theorem dX10_count_247 : decode cX10_count 247 = .ok (.iload_n 2, 1) := by decide +kernel
theorem dX10_count_248 : decode cX10_count 248 = .ok (.goto 4, 3) := by decide +kernel
theorem dX10_count_251 : decode cX10_count 251 = .ok (.iload_n 3, 1) := by decide +kernel
theorem dX10_count_252 : decode cX10_count 252 = .ok (.ireturn, 1) := by decide +kernel
abbrev mt_X10_count : AxM := (RX10, cX10_count, 7, (some .int), false, [])
theorem L1_X10_count_237 {g : AxG} {l : Launch} {r9 : Int32} {S9 : AxS} (N : Nat) (K164 : Nat → Int32 → Int32 → Int32 → Int32 → AxS → Option (Int32 × AxS)) (hK164 : ∀ (v0 : Nat) (v1 : Int32) (v2 : Int32) (v3 : Int32) (v4 : Int32) (S : AxS), K164 v0 v1 v2 v3 v4 S = some ((r9, S9)) → AW g l (axRm (5) 0 0) mt_X10_count (axMQ g 0 0 (.inl (some (.int r9)), S9)) 0 0 S 164 [(0, .ref v0), (1, .int v1), (2, .int v2), (3, .int v3), (4, .int v4)] []) (v0 : Nat) (v1 : Int32) (v2 : Int32) (v3 : Int32) (v4 : Int32) (S : AxS) (h : F_X10_count_237 N K164 v0 v1 v2 v3 v4 S = some ((r9, S9))) : AW g l (axRm (5) 0 0) mt_X10_count (axMQ g 0 0 (.inl (some (.int r9)), S9)) 0 0 S 237 [(0, .ref v0), (1, .int v1), (2, .int v2), (3, .int v3), (4, .int v4)] [] := by
  unfold F_X10_count_237 at h
  refine aw_iinc 4 [(4, .int (v4 + 1)), (0, .ref v0), (1, .int v1), (2, .int v2), (3, .int v3)] (v4 + 1) dX10_count_237 rfl rfl rfl rfl ?_
  refine aw_goto 164 dX10_count_240 (by decide) ?_
  refine aw_env [(0, .ref v0), (1, .int v1), (2, .int v2), (3, .int v3), (4, .int (v4 + 1))] [1, 2, 3, 4, 0] rfl ?_
  exact hK164 v0 v1 v2 v3 (v4 + 1) S h
theorem L1_X10_count_231 {g : AxG} {l : Launch} {r9 : Int32} {S9 : AxS} (N : Nat) (K164 : Nat → Int32 → Int32 → Int32 → Int32 → AxS → Option (Int32 × AxS)) (hK164 : ∀ (v0 : Nat) (v1 : Int32) (v2 : Int32) (v3 : Int32) (v4 : Int32) (S : AxS), K164 v0 v1 v2 v3 v4 S = some ((r9, S9)) → AW g l (axRm (5) 0 0) mt_X10_count (axMQ g 0 0 (.inl (some (.int r9)), S9)) 0 0 S 164 [(0, .ref v0), (1, .int v1), (2, .int v2), (3, .int v3), (4, .int v4)] []) (v0 : Nat) (v1 : Int32) (v4 : Int32) (v5 : Int32) (S : AxS) (h : F_X10_count_231 N K164 v0 v1 v4 v5 S = some ((r9, S9))) : AW g l (axRm (5) 0 0) mt_X10_count (axMQ g 0 0 (.inl (some (.int r9)), S9)) 0 0 S 231 [(0, .ref v0), (1, .int v1), (4, .int v4), (5, .int v5)] [] := by
  unfold F_X10_count_231 at h
  refine aw_iload 2 dX10_count_231 rfl ?_
  refine aw_istore_n 2 [(2, .int v4), (0, .ref v0), (1, .int v1), (4, .int v4), (5, .int v5)] dX10_count_233 rfl rfl rfl ?_
  refine aw_iload 4 dX10_count_234 rfl ?_
  refine aw_istore_n 3 [(3, .int v5), (2, .int v4), (0, .ref v0), (1, .int v1), (4, .int v4), (5, .int v5)] dX10_count_236 rfl rfl rfl ?_
  refine aw_env [(0, .ref v0), (1, .int v1), (2, .int v4), (3, .int v5), (4, .int v4)] [2, 3, 1, 0, 4] rfl ?_
  exact L1_X10_count_237 N K164 hK164 v0 v1 v4 v5 v4 S h
theorem L1_X10_count_177b {g : AxG} {l : Launch} {r9 : Int32} {S9 : AxS} (N : Nat) (K164 : Nat → Int32 → Int32 → Int32 → Int32 → AxS → Option (Int32 × AxS)) (hK164 : ∀ (v0 : Nat) (v1 : Int32) (v2 : Int32) (v3 : Int32) (v4 : Int32) (S : AxS), K164 v0 v1 v2 v3 v4 S = some ((r9, S9)) → AW g l (axRm (5) 0 0) mt_X10_count (axMQ g 0 0 (.inl (some (.int r9)), S9)) 0 0 S 164 [(0, .ref v0), (1, .int v1), (2, .int v2), (3, .int v3), (4, .int v4)] []) (K177 : Nat → Int32 → Int32 → Int32 → Int32 → Int32 → Int32 → AxS → Option (Int32 × AxS)) (hK177 : ∀ (v0 : Nat) (v1 : Int32) (v2 : Int32) (v3 : Int32) (v4 : Int32) (v5 : Int32) (v6 : Int32) (S : AxS), K177 v0 v1 v2 v3 v4 v5 v6 S = some ((r9, S9)) → AW g l (axRm (5) 0 0) mt_X10_count (axMQ g 0 0 (.inl (some (.int r9)), S9)) 0 0 S 177 [(0, .ref v0), (1, .int v1), (2, .int v2), (3, .int v3), (4, .int v4), (5, .int v5), (6, .int v6)] []) (v0 : Nat) (v1 : Int32) (v2 : Int32) (v3 : Int32) (v4 : Int32) (v5 : Int32) (v6 : Int32) (S : AxS) (h : F_X10_count_177b N K164 K177 v0 v1 v2 v3 v4 v5 v6 S = some ((r9, S9))) : AW g l (axRm (5) 0 0) mt_X10_count (axMQ g 0 0 (.inl (some (.int r9)), S9)) 0 0 S 177 [(0, .ref v0), (1, .int v1), (2, .int v2), (3, .int v3), (4, .int v4), (5, .int v5), (6, .int v6)] [] := by
  unfold F_X10_count_177b at h
  refine aw_iload 6 dX10_count_177 rfl ?_
  refine aw_sipush 999 dX10_count_179 (by decide) ?_
  refine aw_icmp_gt 208 dX10_count_182 (by decide) h (fun h => ?_) (fun h => ?_)
  · refine aw_aload_n 0 dX10_count_208 rfl rfl ?_
    refine aw_iload 4 dX10_count_209 rfl ?_
    obtain ⟨hL1, h⟩ := ax_is_spec h
    refine aw_doneI (rest := []) h (fun r9 S9 hF => aw_runV (As := [.int v4]) (rest := []) (L1_X10_isCounted N hF) axc10 hL1 wd_1732 wd_1729 wd_1731 wd_74 wd_97 pd_X10_isCounted rfl (ax_rm (by omega) rfl) ax_hf0 (Nat.le_of_ble_eq_true rfl) rfl dX10_count_211) (fun x3 T2 h => ?_)
    refine aw_if_ne 237 dX10_count_214 (by decide) h (fun h => ?_) (fun h => ?_)
    · refine aw_env [(0, .ref v0), (1, .int v1), (2, .int v2), (3, .int v3), (4, .int v4)] [0, 1, 2, 3, 4] rfl ?_
      exact L1_X10_count_237 N K164 hK164 v0 v1 v2 v3 v4 T2 h
    · refine aw_iload_n 2 dX10_count_217 rfl rfl ?_
      refine aw_iconst (-1) dX10_count_218 rfl ?_
      refine aw_icmp_eq 231 dX10_count_219 (by decide) h (fun h => ?_) (fun h => ?_)
      · refine aw_env [(0, .ref v0), (1, .int v1), (4, .int v4), (5, .int v5)] [0, 1, 4, 5] rfl ?_
        exact L1_X10_count_231 N K164 hK164 v0 v1 v4 v5 T2 h
      · refine aw_iload 5 dX10_count_222 rfl ?_
        refine aw_iload_n 3 dX10_count_224 rfl rfl ?_
        refine aw_icmp_lt 231 dX10_count_225 (by decide) h (fun h => ?_) (fun h => ?_)
        · refine aw_env [(0, .ref v0), (1, .int v1), (4, .int v4), (5, .int v5)] [0, 1, 4, 5] rfl ?_
          exact L1_X10_count_231 N K164 hK164 v0 v1 v4 v5 T2 h
        · refine aw_goto 237 dX10_count_228 (by decide) ?_
          refine aw_env [(0, .ref v0), (1, .int v1), (2, .int v2), (3, .int v3), (4, .int v4)] [0, 1, 2, 3, 4] rfl ?_
          exact L1_X10_count_237 N K164 hK164 v0 v1 v2 v3 v4 T2 h
  · refine aw_iload 5 dX10_count_185 rfl ?_
    refine aw_aload_n 0 dX10_count_187 rfl rfl ?_
    refine aw_getR axc10 40 rfl rfl wd_1325 dX10_count_188 h (fun a4 h => ?_)
    refine aw_iload 4 dX10_count_191 rfl ?_
    refine aw_aald dX10_count_193 h (fun a5 h => ?_)
    refine aw_iload 6 dX10_count_194 rfl ?_
    refine aw_iald dX10_count_196 h (fun x6 h => ?_)
    refine aw_doneI (rest := []) h (fun r9 S9 hF => aw_runS (As := [.int v5, .int x6]) (rest := []) (L1_X10_more N hF) wd_1614 wd_1612 wd_1613 wd_97 pd_X10_more.2 rfl (ax_rm (by omega) rfl) ax_hf0 (Nat.le_of_ble_eq_true rfl) rfl dX10_count_197) (fun x8 T7 h => ?_)
    refine aw_istore [(5, .int x8), (0, .ref v0), (1, .int v1), (2, .int v2), (3, .int v3), (4, .int v4), (6, .int v6)] dX10_count_200 rfl rfl ?_
    refine aw_iinc 6 [(6, .int (v6 + 1)), (5, .int x8), (0, .ref v0), (1, .int v1), (2, .int v2), (3, .int v3), (4, .int v4)] (v6 + 1) dX10_count_202 rfl rfl rfl rfl ?_
    refine aw_goto 177 dX10_count_205 (by decide) ?_
    refine aw_env [(0, .ref v0), (1, .int v1), (2, .int v2), (3, .int v3), (4, .int v4), (5, .int x8), (6, .int (v6 + 1))] [2, 3, 4, 5, 6, 1, 0] rfl ?_
    exact hK177 v0 v1 v2 v3 v4 x8 (v6 + 1) T7 h
theorem L1_X10_count_177 {g : AxG} {l : Launch} {r9 : Int32} {S9 : AxS} (N : Nat) (K164 : Nat → Int32 → Int32 → Int32 → Int32 → AxS → Option (Int32 × AxS)) (hK164 : ∀ (v0 : Nat) (v1 : Int32) (v2 : Int32) (v3 : Int32) (v4 : Int32) (S : AxS), K164 v0 v1 v2 v3 v4 S = some ((r9, S9)) → AW g l (axRm (5) 0 0) mt_X10_count (axMQ g 0 0 (.inl (some (.int r9)), S9)) 0 0 S 164 [(0, .ref v0), (1, .int v1), (2, .int v2), (3, .int v3), (4, .int v4)] []) : ∀ (n : Nat) (v0 : Nat) (v1 : Int32) (v2 : Int32) (v3 : Int32) (v4 : Int32) (v5 : Int32) (v6 : Int32) (S : AxS), F_X10_count_177 N K164 n v0 v1 v2 v3 v4 v5 v6 S = some ((r9, S9)) → AW g l (axRm (5) 0 0) mt_X10_count (axMQ g 0 0 (.inl (some (.int r9)), S9)) 0 0 S 177 [(0, .ref v0), (1, .int v1), (2, .int v2), (3, .int v3), (4, .int v4), (5, .int v5), (6, .int v6)] [] := by
  intro n
  induction n with
  | zero => intro v0 v1 v2 v3 v4 v5 v6 S h; cases h
  | succ n ih => intro v0 v1 v2 v3 v4 v5 v6 S h; exact L1_X10_count_177b N K164 hK164 (F_X10_count_177 N K164 n) ih v0 v1 v2 v3 v4 v5 v6 S h
theorem L1_X10_count_164b {g : AxG} {l : Launch} {r9 : Int32} {S9 : AxS} (N : Nat) (K164 : Nat → Int32 → Int32 → Int32 → Int32 → AxS → Option (Int32 × AxS)) (hK164 : ∀ (v0 : Nat) (v1 : Int32) (v2 : Int32) (v3 : Int32) (v4 : Int32) (S : AxS), K164 v0 v1 v2 v3 v4 S = some ((r9, S9)) → AW g l (axRm (5) 0 0) mt_X10_count (axMQ g 0 0 (.inl (some (.int r9)), S9)) 0 0 S 164 [(0, .ref v0), (1, .int v1), (2, .int v2), (3, .int v3), (4, .int v4)] []) (v0 : Nat) (v1 : Int32) (v2 : Int32) (v3 : Int32) (v4 : Int32) (S : AxS) (h : F_X10_count_164b N K164 v0 v1 v2 v3 v4 S = some ((r9, S9))) : AW g l (axRm (5) 0 0) mt_X10_count (axMQ g 0 0 (.inl (some (.int r9)), S9)) 0 0 S 164 [(0, .ref v0), (1, .int v1), (2, .int v2), (3, .int v3), (4, .int v4)] [] := by
  unfold F_X10_count_164b at h
  refine aw_iload 4 dX10_count_164 rfl ?_
  refine aw_bipush 60 dX10_count_166 (by decide) ?_
  refine aw_icmp_ge 243 dX10_count_168 (by decide) h (fun h => ?_) (fun h => ?_)
  · refine aw_iload_n 1 dX10_count_243 rfl rfl ?_
    refine aw_if_ne 251 dX10_count_244 (by decide) h (fun h => ?_) (fun h => ?_)
    · refine aw_iload_n 3 dX10_count_251 rfl rfl ?_
      exact aw_iret dX10_count_252 rfl (Nat.le_refl _) (Nat.le_refl _) h
    · refine aw_iload_n 2 dX10_count_247 rfl rfl ?_
      refine aw_goto 252 dX10_count_248 (by decide) ?_
      exact aw_iret dX10_count_252 rfl (Nat.le_refl _) (Nat.le_refl _) h
  · refine aw_iconst 0 dX10_count_171 rfl ?_
    refine aw_istore [(5, .int 0), (0, .ref v0), (1, .int v1), (2, .int v2), (3, .int v3), (4, .int v4)] dX10_count_172 rfl rfl ?_
    refine aw_iconst 0 dX10_count_174 rfl ?_
    refine aw_istore [(6, .int 0), (5, .int 0), (0, .ref v0), (1, .int v1), (2, .int v2), (3, .int v3), (4, .int v4)] dX10_count_175 rfl rfl ?_
    refine aw_env [(0, .ref v0), (1, .int v1), (2, .int v2), (3, .int v3), (4, .int v4), (5, .int 0), (6, .int 0)] [2, 3, 4, 5, 6, 1, 0] rfl ?_
    exact L1_X10_count_177 N K164 hK164 N v0 v1 v2 v3 v4 0 0 S h
theorem L1_X10_count_164 {g : AxG} {l : Launch} {r9 : Int32} {S9 : AxS} (N : Nat)  : ∀ (n : Nat) (v0 : Nat) (v1 : Int32) (v2 : Int32) (v3 : Int32) (v4 : Int32) (S : AxS), F_X10_count_164 N  n v0 v1 v2 v3 v4 S = some ((r9, S9)) → AW g l (axRm (5) 0 0) mt_X10_count (axMQ g 0 0 (.inl (some (.int r9)), S9)) 0 0 S 164 [(0, .ref v0), (1, .int v1), (2, .int v2), (3, .int v3), (4, .int v4)] [] := by
  intro n
  induction n with
  | zero => intro v0 v1 v2 v3 v4 S h; cases h
  | succ n ih => intro v0 v1 v2 v3 v4 S h; exact L1_X10_count_164b N (F_X10_count_164 N  n) ih v0 v1 v2 v3 v4 S h
theorem L1_X10_count_149 {g : AxG} {l : Launch} {r9 : Int32} {S9 : AxS} (N : Nat) (K92 : Nat → Int32 → Int32 → Int32 → Int32 → Int32 → AxS → Option (Int32 × AxS)) (hK92 : ∀ (v0 : Nat) (v1 : Int32) (v2 : Int32) (v3 : Int32) (v4 : Int32) (v5 : Int32) (S : AxS), K92 v0 v1 v2 v3 v4 v5 S = some ((r9, S9)) → AW g l (axRm (5) 0 0) mt_X10_count (axMQ g 0 0 (.inl (some (.int r9)), S9)) 0 0 S 92 [(0, .ref v0), (1, .int v1), (2, .int v2), (3, .int v3), (4, .int v4), (5, .int v5)] []) (v0 : Nat) (v1 : Int32) (v2 : Int32) (v3 : Int32) (v4 : Int32) (v5 : Int32) (S : AxS) (h : F_X10_count_149 N K92 v0 v1 v2 v3 v4 v5 S = some ((r9, S9))) : AW g l (axRm (5) 0 0) mt_X10_count (axMQ g 0 0 (.inl (some (.int r9)), S9)) 0 0 S 149 [(0, .ref v0), (1, .int v1), (2, .int v2), (3, .int v3), (4, .int v4), (5, .int v5)] [] := by
  unfold F_X10_count_149 at h
  refine aw_iinc 5 [(5, .int (v5 + 1)), (0, .ref v0), (1, .int v1), (2, .int v2), (3, .int v3), (4, .int v4)] (v5 + 1) dX10_count_149 rfl rfl rfl rfl ?_
  refine aw_goto 92 dX10_count_152 (by decide) ?_
  refine aw_env [(0, .ref v0), (1, .int v1), (2, .int v2), (3, .int v3), (4, .int v4), (5, .int (v5 + 1))] [1, 2, 3, 4, 5, 0] rfl ?_
  exact hK92 v0 v1 v2 v3 v4 (v5 + 1) S h
theorem L1_X10_count_110b {g : AxG} {l : Launch} {r9 : Int32} {S9 : AxS} (N : Nat) (K92 : Nat → Int32 → Int32 → Int32 → Int32 → Int32 → AxS → Option (Int32 × AxS)) (hK92 : ∀ (v0 : Nat) (v1 : Int32) (v2 : Int32) (v3 : Int32) (v4 : Int32) (v5 : Int32) (S : AxS), K92 v0 v1 v2 v3 v4 v5 S = some ((r9, S9)) → AW g l (axRm (5) 0 0) mt_X10_count (axMQ g 0 0 (.inl (some (.int r9)), S9)) 0 0 S 92 [(0, .ref v0), (1, .int v1), (2, .int v2), (3, .int v3), (4, .int v4), (5, .int v5)] []) (K110 : Nat → Int32 → Int32 → Int32 → Int32 → Int32 → Int32 → AxS → Option (Int32 × AxS)) (hK110 : ∀ (v0 : Nat) (v1 : Int32) (v2 : Int32) (v3 : Int32) (v4 : Int32) (v5 : Int32) (v6 : Int32) (S : AxS), K110 v0 v1 v2 v3 v4 v5 v6 S = some ((r9, S9)) → AW g l (axRm (5) 0 0) mt_X10_count (axMQ g 0 0 (.inl (some (.int r9)), S9)) 0 0 S 110 [(0, .ref v0), (1, .int v1), (2, .int v2), (3, .int v3), (4, .int v4), (5, .int v5), (6, .int v6)] []) (v0 : Nat) (v1 : Int32) (v2 : Int32) (v3 : Int32) (v4 : Int32) (v5 : Int32) (v6 : Int32) (S : AxS) (h : F_X10_count_110b N K92 K110 v0 v1 v2 v3 v4 v5 v6 S = some ((r9, S9))) : AW g l (axRm (5) 0 0) mt_X10_count (axMQ g 0 0 (.inl (some (.int r9)), S9)) 0 0 S 110 [(0, .ref v0), (1, .int v1), (2, .int v2), (3, .int v3), (4, .int v4), (5, .int v5), (6, .int v6)] [] := by
  unfold F_X10_count_110b at h
  refine aw_iload 6 dX10_count_110 rfl ?_
  refine aw_bipush 60 dX10_count_112 (by decide) ?_
  refine aw_icmp_ge 149 dX10_count_114 (by decide) h (fun h => ?_) (fun h => ?_)
  · refine aw_env [(0, .ref v0), (1, .int v1), (2, .int v2), (3, .int v3), (4, .int v4), (5, .int v5)] [0, 1, 2, 3, 4, 5] rfl ?_
    exact L1_X10_count_149 N K92 hK92 v0 v1 v2 v3 v4 v5 S h
  · refine aw_aload_n 0 dX10_count_117 rfl rfl ?_
    obtain ⟨hL1, h⟩ := ax_is_spec h
    refine aw_doneI (rest := []) h (fun r9 S9 hF => aw_runV (As := []) (rest := []) (L1_X10_isStruck N hF) axc10 hL1 wd_1724 wd_1721 wd_1723 wd_73 wd_97 pd_X10_isStruck rfl (ax_rm (by omega) rfl) ax_hf0 (Nat.le_of_ble_eq_true rfl) rfl dX10_count_118) (fun x3 T2 h => ?_)
    refine aw_if_eq 149 dX10_count_121 (by decide) h (fun h => ?_) (fun h => ?_)
    · refine aw_env [(0, .ref v0), (1, .int v1), (2, .int v2), (3, .int v3), (4, .int v4), (5, .int v5)] [0, 1, 2, 3, 4, 5] rfl ?_
      exact L1_X10_count_149 N K92 hK92 v0 v1 v2 v3 v4 v5 T2 h
    · refine aw_aload_n 0 dX10_count_124 rfl rfl ?_
      refine aw_getR axc10 40 rfl rfl wd_1325 dX10_count_125 h (fun a4 h => ?_)
      refine aw_iload 6 dX10_count_128 rfl ?_
      refine aw_aald dX10_count_130 h (fun a5 h => ?_)
      refine aw_aload_n 0 dX10_count_131 rfl rfl ?_
      refine aw_getR axc10 39 rfl rfl wd_1324 dX10_count_132 h (fun a6 h => ?_)
      refine aw_iload 6 dX10_count_135 rfl ?_
      refine aw_iald dX10_count_137 h (fun x7 h => ?_)
      refine aw_dup2 rfl rfl dX10_count_138 ?_
      refine aw_iald dX10_count_139 h (fun x8 h => ?_)
      refine aw_iconst 1 dX10_count_140 rfl ?_
      refine aw_iadd dX10_count_141 ?_
      refine aw_iast dX10_count_142 h (fun T9 h => ?_)
      refine aw_iinc 6 [(6, .int (v6 + 1)), (0, .ref v0), (1, .int v1), (2, .int v2), (3, .int v3), (4, .int v4), (5, .int v5)] (v6 + 1) dX10_count_143 rfl rfl rfl rfl ?_
      refine aw_goto 110 dX10_count_146 (by decide) ?_
      refine aw_env [(0, .ref v0), (1, .int v1), (2, .int v2), (3, .int v3), (4, .int v4), (5, .int v5), (6, .int (v6 + 1))] [1, 2, 3, 4, 5, 6, 0] rfl ?_
      exact hK110 v0 v1 v2 v3 v4 v5 (v6 + 1) T9 h
theorem L1_X10_count_110 {g : AxG} {l : Launch} {r9 : Int32} {S9 : AxS} (N : Nat) (K92 : Nat → Int32 → Int32 → Int32 → Int32 → Int32 → AxS → Option (Int32 × AxS)) (hK92 : ∀ (v0 : Nat) (v1 : Int32) (v2 : Int32) (v3 : Int32) (v4 : Int32) (v5 : Int32) (S : AxS), K92 v0 v1 v2 v3 v4 v5 S = some ((r9, S9)) → AW g l (axRm (5) 0 0) mt_X10_count (axMQ g 0 0 (.inl (some (.int r9)), S9)) 0 0 S 92 [(0, .ref v0), (1, .int v1), (2, .int v2), (3, .int v3), (4, .int v4), (5, .int v5)] []) : ∀ (n : Nat) (v0 : Nat) (v1 : Int32) (v2 : Int32) (v3 : Int32) (v4 : Int32) (v5 : Int32) (v6 : Int32) (S : AxS), F_X10_count_110 N K92 n v0 v1 v2 v3 v4 v5 v6 S = some ((r9, S9)) → AW g l (axRm (5) 0 0) mt_X10_count (axMQ g 0 0 (.inl (some (.int r9)), S9)) 0 0 S 110 [(0, .ref v0), (1, .int v1), (2, .int v2), (3, .int v3), (4, .int v4), (5, .int v5), (6, .int v6)] [] := by
  intro n
  induction n with
  | zero => intro v0 v1 v2 v3 v4 v5 v6 S h; cases h
  | succ n ih => intro v0 v1 v2 v3 v4 v5 v6 S h; exact L1_X10_count_110b N K92 hK92 (F_X10_count_110 N K92 n) ih v0 v1 v2 v3 v4 v5 v6 S h
theorem L1_X10_count_92b {g : AxG} {l : Launch} {r9 : Int32} {S9 : AxS} (N : Nat) (K81 : Nat → Int32 → Int32 → Int32 → Int32 → AxS → Option (Int32 × AxS)) (hK81 : ∀ (v0 : Nat) (v1 : Int32) (v2 : Int32) (v3 : Int32) (v4 : Int32) (S : AxS), K81 v0 v1 v2 v3 v4 S = some ((r9, S9)) → AW g l (axRm (5) 0 0) mt_X10_count (axMQ g 0 0 (.inl (some (.int r9)), S9)) 0 0 S 81 [(0, .ref v0), (1, .int v1), (2, .int v2), (3, .int v3), (4, .int v4)] []) (K92 : Nat → Int32 → Int32 → Int32 → Int32 → Int32 → AxS → Option (Int32 × AxS)) (hK92 : ∀ (v0 : Nat) (v1 : Int32) (v2 : Int32) (v3 : Int32) (v4 : Int32) (v5 : Int32) (S : AxS), K92 v0 v1 v2 v3 v4 v5 S = some ((r9, S9)) → AW g l (axRm (5) 0 0) mt_X10_count (axMQ g 0 0 (.inl (some (.int r9)), S9)) 0 0 S 92 [(0, .ref v0), (1, .int v1), (2, .int v2), (3, .int v3), (4, .int v4), (5, .int v5)] []) (v0 : Nat) (v1 : Int32) (v2 : Int32) (v3 : Int32) (v4 : Int32) (v5 : Int32) (S : AxS) (h : F_X10_count_92b N K81 K92 v0 v1 v2 v3 v4 v5 S = some ((r9, S9))) : AW g l (axRm (5) 0 0) mt_X10_count (axMQ g 0 0 (.inl (some (.int r9)), S9)) 0 0 S 92 [(0, .ref v0), (1, .int v1), (2, .int v2), (3, .int v3), (4, .int v4), (5, .int v5)] [] := by
  unfold F_X10_count_92b at h
  refine aw_iload 5 dX10_count_92 rfl ?_
  refine aw_bipush 21 dX10_count_94 (by decide) ?_
  refine aw_icmp_ge 155 dX10_count_96 (by decide) h (fun h => ?_) (fun h => ?_)
  · refine aw_iinc 4 [(4, .int (v4 + 1)), (0, .ref v0), (1, .int v1), (2, .int v2), (3, .int v3), (5, .int v5)] (v4 + 1) dX10_count_155 rfl rfl rfl rfl ?_
    refine aw_goto 81 dX10_count_158 (by decide) ?_
    refine aw_env [(0, .ref v0), (1, .int v1), (2, .int v2), (3, .int v3), (4, .int (v4 + 1))] [1, 2, 3, 4, 0] rfl ?_
    exact hK81 v0 v1 v2 v3 (v4 + 1) S h
  · refine aw_aload_n 0 dX10_count_99 rfl rfl ?_
    refine aw_iload 4 dX10_count_100 rfl ?_
    refine aw_iload 5 dX10_count_102 rfl ?_
    obtain ⟨hL1, h⟩ := ax_is_spec h
    refine aw_doneV (rest := []) h (fun S9 hF => aw_runV (As := [.int v4, .int v5]) (rest := []) (L1_X10_strikesBy N hF) axc10 hL1 wd_1720 wd_1717 wd_1719 wd_72 wd_97 pd_X10_strikesBy rfl (ax_rm (by omega) rfl) ax_hf0 (Nat.le_of_ble_eq_true rfl) rfl dX10_count_104) (fun T2 h => ?_)
    refine aw_iconst 0 dX10_count_107 rfl ?_
    refine aw_istore [(6, .int 0), (0, .ref v0), (1, .int v1), (2, .int v2), (3, .int v3), (4, .int v4), (5, .int v5)] dX10_count_108 rfl rfl ?_
    refine aw_env [(0, .ref v0), (1, .int v1), (2, .int v2), (3, .int v3), (4, .int v4), (5, .int v5), (6, .int 0)] [1, 2, 3, 4, 5, 6, 0] rfl ?_
    exact L1_X10_count_110 N K92 hK92 N v0 v1 v2 v3 v4 v5 0 T2 h
theorem L1_X10_count_92 {g : AxG} {l : Launch} {r9 : Int32} {S9 : AxS} (N : Nat) (K81 : Nat → Int32 → Int32 → Int32 → Int32 → AxS → Option (Int32 × AxS)) (hK81 : ∀ (v0 : Nat) (v1 : Int32) (v2 : Int32) (v3 : Int32) (v4 : Int32) (S : AxS), K81 v0 v1 v2 v3 v4 S = some ((r9, S9)) → AW g l (axRm (5) 0 0) mt_X10_count (axMQ g 0 0 (.inl (some (.int r9)), S9)) 0 0 S 81 [(0, .ref v0), (1, .int v1), (2, .int v2), (3, .int v3), (4, .int v4)] []) : ∀ (n : Nat) (v0 : Nat) (v1 : Int32) (v2 : Int32) (v3 : Int32) (v4 : Int32) (v5 : Int32) (S : AxS), F_X10_count_92 N K81 n v0 v1 v2 v3 v4 v5 S = some ((r9, S9)) → AW g l (axRm (5) 0 0) mt_X10_count (axMQ g 0 0 (.inl (some (.int r9)), S9)) 0 0 S 92 [(0, .ref v0), (1, .int v1), (2, .int v2), (3, .int v3), (4, .int v4), (5, .int v5)] [] := by
  intro n
  induction n with
  | zero => intro v0 v1 v2 v3 v4 v5 S h; cases h
  | succ n ih => intro v0 v1 v2 v3 v4 v5 S h; exact L1_X10_count_92b N K81 hK81 (F_X10_count_92 N K81 n) ih v0 v1 v2 v3 v4 v5 S h
theorem L1_X10_count_81b {g : AxG} {l : Launch} {r9 : Int32} {S9 : AxS} (N : Nat) (K81 : Nat → Int32 → Int32 → Int32 → Int32 → AxS → Option (Int32 × AxS)) (hK81 : ∀ (v0 : Nat) (v1 : Int32) (v2 : Int32) (v3 : Int32) (v4 : Int32) (S : AxS), K81 v0 v1 v2 v3 v4 S = some ((r9, S9)) → AW g l (axRm (5) 0 0) mt_X10_count (axMQ g 0 0 (.inl (some (.int r9)), S9)) 0 0 S 81 [(0, .ref v0), (1, .int v1), (2, .int v2), (3, .int v3), (4, .int v4)] []) (v0 : Nat) (v1 : Int32) (v2 : Int32) (v3 : Int32) (v4 : Int32) (S : AxS) (h : F_X10_count_81b N K81 v0 v1 v2 v3 v4 S = some ((r9, S9))) : AW g l (axRm (5) 0 0) mt_X10_count (axMQ g 0 0 (.inl (some (.int r9)), S9)) 0 0 S 81 [(0, .ref v0), (1, .int v1), (2, .int v2), (3, .int v3), (4, .int v4)] [] := by
  unfold F_X10_count_81b at h
  refine aw_iload 4 dX10_count_81 rfl ?_
  refine aw_sipush 200 dX10_count_83 (by decide) ?_
  refine aw_icmp_ge 161 dX10_count_86 (by decide) h (fun h => ?_) (fun h => ?_)
  · refine aw_iconst 0 dX10_count_161 rfl ?_
    refine aw_istore [(4, .int 0), (0, .ref v0), (1, .int v1), (2, .int v2), (3, .int v3)] dX10_count_162 rfl rfl ?_
    refine aw_env [(0, .ref v0), (1, .int v1), (2, .int v2), (3, .int v3), (4, .int 0)] [1, 2, 3, 4, 0] rfl ?_
    exact L1_X10_count_164 N  N v0 v1 v2 v3 0 S h
  · refine aw_iconst 0 dX10_count_89 rfl ?_
    refine aw_istore [(5, .int 0), (0, .ref v0), (1, .int v1), (2, .int v2), (3, .int v3), (4, .int v4)] dX10_count_90 rfl rfl ?_
    refine aw_env [(0, .ref v0), (1, .int v1), (2, .int v2), (3, .int v3), (4, .int v4), (5, .int 0)] [1, 2, 3, 4, 5, 0] rfl ?_
    exact L1_X10_count_92 N K81 hK81 N v0 v1 v2 v3 v4 0 S h
theorem L1_X10_count_81 {g : AxG} {l : Launch} {r9 : Int32} {S9 : AxS} (N : Nat)  : ∀ (n : Nat) (v0 : Nat) (v1 : Int32) (v2 : Int32) (v3 : Int32) (v4 : Int32) (S : AxS), F_X10_count_81 N  n v0 v1 v2 v3 v4 S = some ((r9, S9)) → AW g l (axRm (5) 0 0) mt_X10_count (axMQ g 0 0 (.inl (some (.int r9)), S9)) 0 0 S 81 [(0, .ref v0), (1, .int v1), (2, .int v2), (3, .int v3), (4, .int v4)] [] := by
  intro n
  induction n with
  | zero => intro v0 v1 v2 v3 v4 S h; cases h
  | succ n ih => intro v0 v1 v2 v3 v4 S h; exact L1_X10_count_81b N (F_X10_count_81 N  n) ih v0 v1 v2 v3 v4 S h
theorem L1_X10_count_47b {g : AxG} {l : Launch} {r9 : Int32} {S9 : AxS} (N : Nat) (K37 : Nat → Int32 → Int32 → Int32 → Int32 → AxS → Option (Int32 × AxS)) (hK37 : ∀ (v0 : Nat) (v1 : Int32) (v2 : Int32) (v3 : Int32) (v4 : Int32) (S : AxS), K37 v0 v1 v2 v3 v4 S = some ((r9, S9)) → AW g l (axRm (5) 0 0) mt_X10_count (axMQ g 0 0 (.inl (some (.int r9)), S9)) 0 0 S 37 [(0, .ref v0), (1, .int v1), (2, .int v2), (3, .int v3), (4, .int v4)] []) (K47 : Nat → Int32 → Int32 → Int32 → Int32 → Int32 → AxS → Option (Int32 × AxS)) (hK47 : ∀ (v0 : Nat) (v1 : Int32) (v2 : Int32) (v3 : Int32) (v4 : Int32) (v5 : Int32) (S : AxS), K47 v0 v1 v2 v3 v4 v5 S = some ((r9, S9)) → AW g l (axRm (5) 0 0) mt_X10_count (axMQ g 0 0 (.inl (some (.int r9)), S9)) 0 0 S 47 [(0, .ref v0), (1, .int v1), (2, .int v2), (3, .int v3), (4, .int v4), (5, .int v5)] []) (v0 : Nat) (v1 : Int32) (v2 : Int32) (v3 : Int32) (v4 : Int32) (v5 : Int32) (S : AxS) (h : F_X10_count_47b N K37 K47 v0 v1 v2 v3 v4 v5 S = some ((r9, S9))) : AW g l (axRm (5) 0 0) mt_X10_count (axMQ g 0 0 (.inl (some (.int r9)), S9)) 0 0 S 47 [(0, .ref v0), (1, .int v1), (2, .int v2), (3, .int v3), (4, .int v4), (5, .int v5)] [] := by
  unfold F_X10_count_47b at h
  refine aw_iload 5 dX10_count_47 rfl ?_
  refine aw_sipush 999 dX10_count_49 (by decide) ?_
  refine aw_icmp_gt 72 dX10_count_52 (by decide) h (fun h => ?_) (fun h => ?_)
  · refine aw_iinc 4 [(4, .int (v4 + 1)), (0, .ref v0), (1, .int v1), (2, .int v2), (3, .int v3), (5, .int v5)] (v4 + 1) dX10_count_72 rfl rfl rfl rfl ?_
    refine aw_goto 37 dX10_count_75 (by decide) ?_
    refine aw_env [(0, .ref v0), (1, .int v1), (2, .int v2), (3, .int v3), (4, .int (v4 + 1))] [1, 2, 3, 4, 0] rfl ?_
    exact hK37 v0 v1 v2 v3 (v4 + 1) S h
  · refine aw_aload_n 0 dX10_count_55 rfl rfl ?_
    refine aw_getR axc10 40 rfl rfl wd_1325 dX10_count_56 h (fun a1 h => ?_)
    refine aw_iload 4 dX10_count_59 rfl ?_
    refine aw_aald dX10_count_61 h (fun a2 h => ?_)
    refine aw_iload 5 dX10_count_62 rfl ?_
    refine aw_iconst 0 dX10_count_64 rfl ?_
    refine aw_iast dX10_count_65 h (fun T3 h => ?_)
    refine aw_iinc 5 [(5, .int (v5 + 1)), (0, .ref v0), (1, .int v1), (2, .int v2), (3, .int v3), (4, .int v4)] (v5 + 1) dX10_count_66 rfl rfl rfl rfl ?_
    refine aw_goto 47 dX10_count_69 (by decide) ?_
    refine aw_env [(0, .ref v0), (1, .int v1), (2, .int v2), (3, .int v3), (4, .int v4), (5, .int (v5 + 1))] [1, 2, 3, 4, 5, 0] rfl ?_
    exact hK47 v0 v1 v2 v3 v4 (v5 + 1) T3 h
theorem L1_X10_count_47 {g : AxG} {l : Launch} {r9 : Int32} {S9 : AxS} (N : Nat) (K37 : Nat → Int32 → Int32 → Int32 → Int32 → AxS → Option (Int32 × AxS)) (hK37 : ∀ (v0 : Nat) (v1 : Int32) (v2 : Int32) (v3 : Int32) (v4 : Int32) (S : AxS), K37 v0 v1 v2 v3 v4 S = some ((r9, S9)) → AW g l (axRm (5) 0 0) mt_X10_count (axMQ g 0 0 (.inl (some (.int r9)), S9)) 0 0 S 37 [(0, .ref v0), (1, .int v1), (2, .int v2), (3, .int v3), (4, .int v4)] []) : ∀ (n : Nat) (v0 : Nat) (v1 : Int32) (v2 : Int32) (v3 : Int32) (v4 : Int32) (v5 : Int32) (S : AxS), F_X10_count_47 N K37 n v0 v1 v2 v3 v4 v5 S = some ((r9, S9)) → AW g l (axRm (5) 0 0) mt_X10_count (axMQ g 0 0 (.inl (some (.int r9)), S9)) 0 0 S 47 [(0, .ref v0), (1, .int v1), (2, .int v2), (3, .int v3), (4, .int v4), (5, .int v5)] [] := by
  intro n
  induction n with
  | zero => intro v0 v1 v2 v3 v4 v5 S h; cases h
  | succ n ih => intro v0 v1 v2 v3 v4 v5 S h; exact L1_X10_count_47b N K37 hK37 (F_X10_count_47 N K37 n) ih v0 v1 v2 v3 v4 v5 S h
theorem L1_X10_count_37b {g : AxG} {l : Launch} {r9 : Int32} {S9 : AxS} (N : Nat) (K37 : Nat → Int32 → Int32 → Int32 → Int32 → AxS → Option (Int32 × AxS)) (hK37 : ∀ (v0 : Nat) (v1 : Int32) (v2 : Int32) (v3 : Int32) (v4 : Int32) (S : AxS), K37 v0 v1 v2 v3 v4 S = some ((r9, S9)) → AW g l (axRm (5) 0 0) mt_X10_count (axMQ g 0 0 (.inl (some (.int r9)), S9)) 0 0 S 37 [(0, .ref v0), (1, .int v1), (2, .int v2), (3, .int v3), (4, .int v4)] []) (v0 : Nat) (v1 : Int32) (v2 : Int32) (v3 : Int32) (v4 : Int32) (S : AxS) (h : F_X10_count_37b N K37 v0 v1 v2 v3 v4 S = some ((r9, S9))) : AW g l (axRm (5) 0 0) mt_X10_count (axMQ g 0 0 (.inl (some (.int r9)), S9)) 0 0 S 37 [(0, .ref v0), (1, .int v1), (2, .int v2), (3, .int v3), (4, .int v4)] [] := by
  unfold F_X10_count_37b at h
  refine aw_iload 4 dX10_count_37 rfl ?_
  refine aw_bipush 60 dX10_count_39 (by decide) ?_
  refine aw_icmp_ge 78 dX10_count_41 (by decide) h (fun h => ?_) (fun h => ?_)
  · refine aw_iconst 0 dX10_count_78 rfl ?_
    refine aw_istore [(4, .int 0), (0, .ref v0), (1, .int v1), (2, .int v2), (3, .int v3)] dX10_count_79 rfl rfl ?_
    refine aw_env [(0, .ref v0), (1, .int v1), (2, .int v2), (3, .int v3), (4, .int 0)] [1, 2, 3, 4, 0] rfl ?_
    exact L1_X10_count_81 N  N v0 v1 v2 v3 0 S h
  · refine aw_iconst 0 dX10_count_44 rfl ?_
    refine aw_istore [(5, .int 0), (0, .ref v0), (1, .int v1), (2, .int v2), (3, .int v3), (4, .int v4)] dX10_count_45 rfl rfl ?_
    refine aw_env [(0, .ref v0), (1, .int v1), (2, .int v2), (3, .int v3), (4, .int v4), (5, .int 0)] [1, 2, 3, 4, 5, 0] rfl ?_
    exact L1_X10_count_47 N K37 hK37 N v0 v1 v2 v3 v4 0 S h
theorem L1_X10_count_37 {g : AxG} {l : Launch} {r9 : Int32} {S9 : AxS} (N : Nat)  : ∀ (n : Nat) (v0 : Nat) (v1 : Int32) (v2 : Int32) (v3 : Int32) (v4 : Int32) (S : AxS), F_X10_count_37 N  n v0 v1 v2 v3 v4 S = some ((r9, S9)) → AW g l (axRm (5) 0 0) mt_X10_count (axMQ g 0 0 (.inl (some (.int r9)), S9)) 0 0 S 37 [(0, .ref v0), (1, .int v1), (2, .int v2), (3, .int v3), (4, .int v4)] [] := by
  intro n
  induction n with
  | zero => intro v0 v1 v2 v3 v4 S h; cases h
  | succ n ih => intro v0 v1 v2 v3 v4 S h; exact L1_X10_count_37b N (F_X10_count_37 N  n) ih v0 v1 v2 v3 v4 S h
theorem L1_X10_count_20 {g : AxG} {l : Launch} {r9 : Int32} {S9 : AxS} (N : Nat)  (v0 : Nat) (v1 : Int32) (w0 : Int32) (w1 : Nat) (S : AxS) (h : F_X10_count_20 N  v0 v1 w0 w1 S = some ((r9, S9))) : AW g l (axRm (5) 0 0) mt_X10_count (axMQ g 0 0 (.inl (some (.int r9)), S9)) 0 0 S 20 [(0, .ref v0), (1, .int v1)] [.int w0, .ref w1] := by
  unfold F_X10_count_20 at h
  refine aw_iconst 1 dX10_count_20 rfl ?_
  refine aw_iconst 1 dX10_count_21 rfl ?_
  obtain ⟨hL1, h⟩ := ax_is_spec h
  refine aw_doneI (rest := []) h (fun r9 S9 hF => aw_runV (As := [.int w0, .int 1, .int 1]) (rest := []) (L1_X10_bad N hF) axc10 hL1 wd_1452 wd_1449 wd_1451 wd_38 wd_97 pd_X10_bad rfl (ax_rm (by omega) rfl) ax_hf0 (Nat.le_of_ble_eq_true rfl) rfl dX10_count_22) (fun x3 T2 h => ?_)
  refine aw_if_eq 30 dX10_count_25 (by decide) h (fun h => ?_) (fun h => ?_)
  · refine aw_iconst (-1) dX10_count_30 rfl ?_
    refine aw_istore_n 2 [(2, .int ((-1))), (0, .ref v0), (1, .int v1)] dX10_count_31 rfl rfl rfl ?_
    refine aw_iconst (-1) dX10_count_32 rfl ?_
    refine aw_istore_n 3 [(3, .int ((-1))), (2, .int ((-1))), (0, .ref v0), (1, .int v1)] dX10_count_33 rfl rfl rfl ?_
    refine aw_iconst 0 dX10_count_34 rfl ?_
    refine aw_istore [(4, .int 0), (3, .int ((-1))), (2, .int ((-1))), (0, .ref v0), (1, .int v1)] dX10_count_35 rfl rfl ?_
    refine aw_env [(0, .ref v0), (1, .int v1), (2, .int ((-1))), (3, .int ((-1))), (4, .int 0)] [3, 4, 2, 1, 0] rfl ?_
    exact L1_X10_count_37 N  N v0 v1 ((-1)) ((-1)) 0 T2 h
  · refine aw_iconst 0 dX10_count_28 rfl ?_
    exact aw_iret dX10_count_29 rfl (Nat.le_refl _) (Nat.le_refl _) h
theorem L1_X10_count {g : AxG} {l : Launch} (N : Nat) {v0 : Nat} {v1 : Int32} {S : AxS} {r9 : Int32} {S9 : AxS} (h : F_X10_count N v0 v1 S = some ((r9, S9))) : AxMet g l yX10_count cX10_count 7 (some .int) (5) 0 0 [.ref v0, .int v1] S ((.inl (some (.int r9)), S9)) := by
  refine ax_met (own := RX10) (ini := false) (by decide +kernel) rfl (fun h => nomatch h) rfl ?_
  show AW g l (axRm (5) 0 0) mt_X10_count (axMQ g 0 0 (.inl (some (.int r9)), S9)) 0 0 S 0 [(0, .ref v0), (1, .int v1)] []
  unfold F_X10_count at h
  refine aw_aload_n 0 dX10_count_0 rfl rfl ?_
  refine aw_iconst 0 dX10_count_1 rfl ?_
  refine aw_putI axc10 0 rfl rfl wd_1285 rfl rfl rfl dX10_count_2 h (fun T1 h => ?_)
  refine aw_aload_n 0 dX10_count_5 rfl rfl ?_
  refine aw_iload_n 1 dX10_count_6 rfl rfl ?_
  refine aw_iconst 0 dX10_count_7 rfl ?_
  refine aw_iconst 1 dX10_count_8 rfl ?_
  refine aw_doneI (rest := [.ref v0]) h (fun r9 S9 hF => aw_runS (As := [.int v1, .int 0, .int 1]) (rest := [.ref v0]) (L1_X10_in N hF) wd_1448 wd_1446 wd_1447 wd_97 pd_X10_in.2 rfl (ax_rm (by omega) rfl) ax_hf0 (Nat.le_of_ble_eq_true rfl) rfl dX10_count_9) (fun x3 T2 h => ?_)
  refine aw_if_ne 19 dX10_count_12 (by decide) h (fun h => ?_) (fun h => ?_)
  · refine aw_iconst 0 dX10_count_19 rfl ?_
    refine aw_env [(0, .ref v0), (1, .int v1)] [0, 1] rfl ?_
    exact L1_X10_count_20 N  v0 v1 0 v0 T2 h
  · refine aw_iconst 1 dX10_count_15 rfl ?_
    refine aw_goto 20 dX10_count_16 (by decide) ?_
    refine aw_env [(0, .ref v0), (1, .int v1)] [0, 1] rfl ?_
    exact L1_X10_count_20 N  v0 v1 1 v0 T2 h

theorem dX10_dulls_0 : decode cX10_dulls 0 = .ok (.iconst 0, 1) := by decide +kernel
theorem dX10_dulls_1 : decode cX10_dulls 1 = .ok (.istore 4, 2) := by decide +kernel
theorem dX10_dulls_3 : decode cX10_dulls 3 = .ok (.iload 4, 2) := by decide +kernel
theorem dX10_dulls_5 : decode cX10_dulls 5 = .ok (.bipush 10, 2) := by decide +kernel
theorem dX10_dulls_7 : decode cX10_dulls 7 = .ok (.if_icmp .ge 26, 3) := by decide +kernel
theorem dX10_dulls_10 : decode cX10_dulls 10 = .ok (.aload_n 0, 1) := by decide +kernel
theorem dX10_dulls_11 : decode cX10_dulls 11 = .ok (.getfield 82, 3) := by decide +kernel
theorem dX10_dulls_14 : decode cX10_dulls 14 = .ok (.iload 4, 2) := by decide +kernel
theorem dX10_dulls_16 : decode cX10_dulls 16 = .ok (.iload 4, 2) := by decide +kernel
theorem dX10_dulls_18 : decode cX10_dulls 18 = .ok (.ifCond .ne 7, 3) := by decide +kernel
theorem dX10_dulls_21 : decode cX10_dulls 21 = .ok (.lconst 1, 1) := by decide +kernel
theorem dX10_dulls_22 : decode cX10_dulls 22 = .ok (.goto 4, 3) := by decide +kernel
theorem dX10_dulls_25 : decode cX10_dulls 25 = .ok (.lconst 0, 1) := by decide +kernel
theorem dX10_dulls_26 : decode cX10_dulls 26 = .ok (.lastore, 1) := by decide +kernel
theorem dX10_dulls_27 : decode cX10_dulls 27 = .ok (.iinc 4 1, 3) := by decide +kernel
theorem dX10_dulls_30 : decode cX10_dulls 30 = .ok (.goto (-27), 3) := by decide +kernel
theorem dX10_dulls_33 : decode cX10_dulls 33 = .ok (.iconst 0, 1) := by decide +kernel
theorem dX10_dulls_34 : decode cX10_dulls 34 = .ok (.istore 4, 2) := by decide +kernel
theorem dX10_dulls_36 : decode cX10_dulls 36 = .ok (.iload 4, 2) := by decide +kernel
theorem dX10_dulls_38 : decode cX10_dulls 38 = .ok (.iload_n 1, 1) := by decide +kernel
theorem dX10_dulls_39 : decode cX10_dulls 39 = .ok (.if_icmp .ge 65, 3) := by decide +kernel
theorem dX10_dulls_42 : decode cX10_dulls 42 = .ok (.iload_n 1, 1) := by decide +kernel
theorem dX10_dulls_43 : decode cX10_dulls 43 = .ok (.istore 5, 2) := by decide +kernel
theorem dX10_dulls_45 : decode cX10_dulls 45 = .ok (.iload 5, 2) := by decide +kernel
theorem dX10_dulls_47 : decode cX10_dulls 47 = .ok (.ifCond .lt 51, 3) := by decide +kernel
theorem dX10_dulls_50 : decode cX10_dulls 50 = .ok (.aload_n 0, 1) := by decide +kernel
theorem dX10_dulls_51 : decode cX10_dulls 51 = .ok (.getfield 82, 3) := by decide +kernel
theorem dX10_dulls_54 : decode cX10_dulls 54 = .ok (.iload 5, 2) := by decide +kernel
theorem dX10_dulls_56 : decode cX10_dulls 56 = .ok (.aload_n 0, 1) := by decide +kernel
theorem dX10_dulls_57 : decode cX10_dulls 57 = .ok (.getfield 82, 3) := by decide +kernel
theorem dX10_dulls_60 : decode cX10_dulls 60 = .ok (.iload 5, 2) := by decide +kernel
theorem dX10_dulls_62 : decode cX10_dulls 62 = .ok (.laload, 1) := by decide +kernel
theorem dX10_dulls_63 : decode cX10_dulls 63 = .ok (.bipush 16, 2) := by decide +kernel
theorem dX10_dulls_65 : decode cX10_dulls 65 = .ok (.iload_n 2, 1) := by decide +kernel
theorem dX10_dulls_66 : decode cX10_dulls 66 = .ok (.isub, 1) := by decide +kernel
theorem dX10_dulls_67 : decode cX10_dulls 67 = .ok (.i2l, 1) := by decide +kernel
theorem dX10_dulls_68 : decode cX10_dulls 68 = .ok (.lmul, 1) := by decide +kernel
theorem dX10_dulls_69 : decode cX10_dulls 69 = .ok (.iload 5, 2) := by decide +kernel
theorem dX10_dulls_71 : decode cX10_dulls 71 = .ok (.ifCond .ne 7, 3) := by decide +kernel
theorem dX10_dulls_74 : decode cX10_dulls 74 = .ok (.lconst 0, 1) := by decide +kernel
theorem dX10_dulls_75 : decode cX10_dulls 75 = .ok (.goto 15, 3) := by decide +kernel
theorem dX10_dulls_78 : decode cX10_dulls 78 = .ok (.aload_n 0, 1) := by decide +kernel
theorem dX10_dulls_79 : decode cX10_dulls 79 = .ok (.getfield 82, 3) := by decide +kernel
theorem dX10_dulls_82 : decode cX10_dulls 82 = .ok (.iload 5, 2) := by decide +kernel
theorem dX10_dulls_84 : decode cX10_dulls 84 = .ok (.iconst 1, 1) := by decide +kernel
theorem dX10_dulls_85 : decode cX10_dulls 85 = .ok (.isub, 1) := by decide +kernel
theorem dX10_dulls_86 : decode cX10_dulls 86 = .ok (.laload, 1) := by decide +kernel
theorem dX10_dulls_87 : decode cX10_dulls 87 = .ok (.iload_n 2, 1) := by decide +kernel
theorem dX10_dulls_88 : decode cX10_dulls 88 = .ok (.i2l, 1) := by decide +kernel
theorem dX10_dulls_89 : decode cX10_dulls 89 = .ok (.lmul, 1) := by decide +kernel
theorem dX10_dulls_90 : decode cX10_dulls 90 = .ok (.ladd, 1) := by decide +kernel
theorem dX10_dulls_91 : decode cX10_dulls 91 = .ok (.lastore, 1) := by decide +kernel
theorem dX10_dulls_92 : decode cX10_dulls 92 = .ok (.iinc 5 (-1), 3) := by decide +kernel
theorem dX10_dulls_95 : decode cX10_dulls 95 = .ok (.goto (-50), 3) := by decide +kernel
theorem dX10_dulls_98 : decode cX10_dulls 98 = .ok (.iinc 4 1, 3) := by decide +kernel
theorem dX10_dulls_101 : decode cX10_dulls 101 = .ok (.goto (-65), 3) := by decide +kernel
theorem dX10_dulls_104 : decode cX10_dulls 104 = .ok (.lconst 0, 1) := by decide +kernel
theorem dX10_dulls_105 : decode cX10_dulls 105 = .ok (.lstore 4, 2) := by decide +kernel
theorem dX10_dulls_107 : decode cX10_dulls 107 = .ok (.iload_n 3, 1) := by decide +kernel
theorem dX10_dulls_108 : decode cX10_dulls 108 = .ok (.istore 6, 2) := by decide +kernel
theorem dX10_dulls_110 : decode cX10_dulls 110 = .ok (.iload 6, 2) := by decide +kernel
theorem dX10_dulls_112 : decode cX10_dulls 112 = .ok (.iload_n 1, 1) := by decide +kernel
theorem dX10_dulls_113 : decode cX10_dulls 113 = .ok (.if_icmp .gt 21, 3) := by decide +kernel
theorem dX10_dulls_116 : decode cX10_dulls 116 = .ok (.lload 4, 2) := by decide +kernel
theorem dX10_dulls_118 : decode cX10_dulls 118 = .ok (.aload_n 0, 1) := by decide +kernel
theorem dX10_dulls_119 : decode cX10_dulls 119 = .ok (.getfield 82, 3) := by decide +kernel
theorem dX10_dulls_122 : decode cX10_dulls 122 = .ok (.iload 6, 2) := by decide +kernel
theorem dX10_dulls_124 : decode cX10_dulls 124 = .ok (.laload, 1) := by decide +kernel
theorem dX10_dulls_125 : decode cX10_dulls 125 = .ok (.ladd, 1) := by decide +kernel
theorem dX10_dulls_126 : decode cX10_dulls 126 = .ok (.lstore 4, 2) := by decide +kernel
theorem dX10_dulls_128 : decode cX10_dulls 128 = .ok (.iinc 6 1, 3) := by decide +kernel
theorem dX10_dulls_131 : decode cX10_dulls 131 = .ok (.goto (-21), 3) := by decide +kernel
theorem dX10_dulls_134 : decode cX10_dulls 134 = .ok (.lload 4, 2) := by decide +kernel
theorem dX10_dulls_136 : decode cX10_dulls 136 = .ok (.lreturn, 1) := by decide +kernel
abbrev mt_X10_dulls : AxM := (RX10, cX10_dulls, 7, (some .long), false, [])
theorem L1_X10_dulls_110b {g : AxG} {l : Launch} {r9 : Int64} {S9 : AxS} (N : Nat) (K110 : Nat → Int32 → Int64 → Int32 → AxS → Option (Int64 × AxS)) (hK110 : ∀ (v0 : Nat) (v1 : Int32) (v4 : Int64) (v6 : Int32) (S : AxS), K110 v0 v1 v4 v6 S = some ((r9, S9)) → AW g l (axRm (0) 0 0) mt_X10_dulls (axMQ g 0 0 (.inl (some (.long r9)), S9)) 0 0 S 110 [(0, .ref v0), (1, .int v1), (4, .long v4), (6, .int v6)] []) (v0 : Nat) (v1 : Int32) (v4 : Int64) (v6 : Int32) (S : AxS) (h : F_X10_dulls_110b N K110 v0 v1 v4 v6 S = some ((r9, S9))) : AW g l (axRm (0) 0 0) mt_X10_dulls (axMQ g 0 0 (.inl (some (.long r9)), S9)) 0 0 S 110 [(0, .ref v0), (1, .int v1), (4, .long v4), (6, .int v6)] [] := by
  unfold F_X10_dulls_110b at h
  refine aw_iload 3 dX10_dulls_110 rfl ?_
  refine aw_iload_n 1 dX10_dulls_112 rfl rfl ?_
  refine aw_icmp_gt 134 dX10_dulls_113 (by decide) h (fun h => ?_) (fun h => ?_)
  · refine aw_lload 2 dX10_dulls_134 rfl ?_
    exact aw_lret dX10_dulls_136 rfl (Nat.le_refl _) (Nat.le_refl _) h
  · refine aw_lload 2 dX10_dulls_116 rfl ?_
    refine aw_aload_n 0 dX10_dulls_118 rfl rfl ?_
    refine aw_getR axc10 41 rfl rfl wd_1326 dX10_dulls_119 h (fun a1 h => ?_)
    refine aw_iload 3 dX10_dulls_122 rfl ?_
    refine aw_lald dX10_dulls_124 h (fun x2 h => ?_)
    refine aw_ladd dX10_dulls_125 ?_
    refine aw_lstore [(4, .long (v4 + x2)), (0, .ref v0), (1, .int v1), (6, .int v6)] dX10_dulls_126 rfl rfl ?_
    refine aw_iinc 3 [(6, .int (v6 + 1)), (4, .long (v4 + x2)), (0, .ref v0), (1, .int v1)] (v6 + 1) dX10_dulls_128 rfl rfl rfl rfl ?_
    refine aw_goto 110 dX10_dulls_131 (by decide) ?_
    refine aw_env [(0, .ref v0), (1, .int v1), (4, .long (v4 + x2)), (6, .int (v6 + 1))] [2, 3, 1, 0] rfl ?_
    exact hK110 v0 v1 (v4 + x2) (v6 + 1) S h
theorem L1_X10_dulls_110 {g : AxG} {l : Launch} {r9 : Int64} {S9 : AxS} (N : Nat)  : ∀ (n : Nat) (v0 : Nat) (v1 : Int32) (v4 : Int64) (v6 : Int32) (S : AxS), F_X10_dulls_110 N  n v0 v1 v4 v6 S = some ((r9, S9)) → AW g l (axRm (0) 0 0) mt_X10_dulls (axMQ g 0 0 (.inl (some (.long r9)), S9)) 0 0 S 110 [(0, .ref v0), (1, .int v1), (4, .long v4), (6, .int v6)] [] := by
  intro n
  induction n with
  | zero => intro v0 v1 v4 v6 S h; cases h
  | succ n ih => intro v0 v1 v4 v6 S h; exact L1_X10_dulls_110b N (F_X10_dulls_110 N  n) ih v0 v1 v4 v6 S h
theorem L1_X10_dulls_90 {g : AxG} {l : Launch} {r9 : Int64} {S9 : AxS} (N : Nat) (K45 : Nat → Int32 → Int32 → Int32 → Int32 → Int32 → AxS → Option (Int64 × AxS)) (hK45 : ∀ (v0 : Nat) (v1 : Int32) (v2 : Int32) (v3 : Int32) (v4 : Int32) (v5 : Int32) (S : AxS), K45 v0 v1 v2 v3 v4 v5 S = some ((r9, S9)) → AW g l (axRm (0) 0 0) mt_X10_dulls (axMQ g 0 0 (.inl (some (.long r9)), S9)) 0 0 S 45 [(0, .ref v0), (1, .int v1), (2, .int v2), (3, .int v3), (4, .int v4), (5, .int v5)] []) (v0 : Nat) (v1 : Int32) (v2 : Int32) (v3 : Int32) (v4 : Int32) (v5 : Int32) (w0 : Int64) (w1 : Int64) (w2 : Int32) (w3 : Nat) (S : AxS) (h : F_X10_dulls_90 N K45 v0 v1 v2 v3 v4 v5 w0 w1 w2 w3 S = some ((r9, S9))) : AW g l (axRm (0) 0 0) mt_X10_dulls (axMQ g 0 0 (.inl (some (.long r9)), S9)) 0 0 S 90 [(0, .ref v0), (1, .int v1), (2, .int v2), (3, .int v3), (4, .int v4), (5, .int v5)] [.long w0, .long w1, .int w2, .ref w3] := by
  unfold F_X10_dulls_90 at h
  refine aw_ladd dX10_dulls_90 ?_
  refine aw_last dX10_dulls_91 h (fun T1 h => ?_)
  refine aw_iinc 5 [(5, .int (v5 + (-1))), (0, .ref v0), (1, .int v1), (2, .int v2), (3, .int v3), (4, .int v4)] (v5 + (-1)) dX10_dulls_92 rfl rfl rfl rfl ?_
  refine aw_goto 45 dX10_dulls_95 (by decide) ?_
  refine aw_env [(0, .ref v0), (1, .int v1), (2, .int v2), (3, .int v3), (4, .int v4), (5, .int (v5 + (-1)))] [1, 2, 3, 4, 5, 0] rfl ?_
  exact hK45 v0 v1 v2 v3 v4 (v5 + (-1)) T1 h
theorem L1_X10_dulls_45b {g : AxG} {l : Launch} {r9 : Int64} {S9 : AxS} (N : Nat) (K36 : Nat → Int32 → Int32 → Int32 → Int32 → AxS → Option (Int64 × AxS)) (hK36 : ∀ (v0 : Nat) (v1 : Int32) (v2 : Int32) (v3 : Int32) (v4 : Int32) (S : AxS), K36 v0 v1 v2 v3 v4 S = some ((r9, S9)) → AW g l (axRm (0) 0 0) mt_X10_dulls (axMQ g 0 0 (.inl (some (.long r9)), S9)) 0 0 S 36 [(0, .ref v0), (1, .int v1), (2, .int v2), (3, .int v3), (4, .int v4)] []) (K45 : Nat → Int32 → Int32 → Int32 → Int32 → Int32 → AxS → Option (Int64 × AxS)) (hK45 : ∀ (v0 : Nat) (v1 : Int32) (v2 : Int32) (v3 : Int32) (v4 : Int32) (v5 : Int32) (S : AxS), K45 v0 v1 v2 v3 v4 v5 S = some ((r9, S9)) → AW g l (axRm (0) 0 0) mt_X10_dulls (axMQ g 0 0 (.inl (some (.long r9)), S9)) 0 0 S 45 [(0, .ref v0), (1, .int v1), (2, .int v2), (3, .int v3), (4, .int v4), (5, .int v5)] []) (v0 : Nat) (v1 : Int32) (v2 : Int32) (v3 : Int32) (v4 : Int32) (v5 : Int32) (S : AxS) (h : F_X10_dulls_45b N K36 K45 v0 v1 v2 v3 v4 v5 S = some ((r9, S9))) : AW g l (axRm (0) 0 0) mt_X10_dulls (axMQ g 0 0 (.inl (some (.long r9)), S9)) 0 0 S 45 [(0, .ref v0), (1, .int v1), (2, .int v2), (3, .int v3), (4, .int v4), (5, .int v5)] [] := by
  unfold F_X10_dulls_45b at h
  refine aw_iload 5 dX10_dulls_45 rfl ?_
  refine aw_if_lt 98 dX10_dulls_47 (by decide) h (fun h => ?_) (fun h => ?_)
  · refine aw_iinc 4 [(4, .int (v4 + 1)), (0, .ref v0), (1, .int v1), (2, .int v2), (3, .int v3), (5, .int v5)] (v4 + 1) dX10_dulls_98 rfl rfl rfl rfl ?_
    refine aw_goto 36 dX10_dulls_101 (by decide) ?_
    refine aw_env [(0, .ref v0), (1, .int v1), (2, .int v2), (3, .int v3), (4, .int (v4 + 1))] [1, 2, 3, 4, 0] rfl ?_
    exact hK36 v0 v1 v2 v3 (v4 + 1) S h
  · refine aw_aload_n 0 dX10_dulls_50 rfl rfl ?_
    refine aw_getR axc10 41 rfl rfl wd_1326 dX10_dulls_51 h (fun a1 h => ?_)
    refine aw_iload 5 dX10_dulls_54 rfl ?_
    refine aw_aload_n 0 dX10_dulls_56 rfl rfl ?_
    refine aw_getR axc10 41 rfl rfl wd_1326 dX10_dulls_57 h (fun a2 h => ?_)
    refine aw_iload 5 dX10_dulls_60 rfl ?_
    refine aw_lald dX10_dulls_62 h (fun x3 h => ?_)
    refine aw_bipush 16 dX10_dulls_63 (by decide) ?_
    refine aw_iload_n 2 dX10_dulls_65 rfl rfl ?_
    refine aw_isub dX10_dulls_66 ?_
    refine aw_i2l dX10_dulls_67 ?_
    refine aw_lmul dX10_dulls_68 ?_
    refine aw_iload 5 dX10_dulls_69 rfl ?_
    refine aw_if_ne 78 dX10_dulls_71 (by decide) h (fun h => ?_) (fun h => ?_)
    · refine aw_aload_n 0 dX10_dulls_78 rfl rfl ?_
      refine aw_getR axc10 41 rfl rfl wd_1326 dX10_dulls_79 h (fun a4 h => ?_)
      refine aw_iload 5 dX10_dulls_82 rfl ?_
      refine aw_iconst 1 dX10_dulls_84 rfl ?_
      refine aw_isub dX10_dulls_85 ?_
      refine aw_lald dX10_dulls_86 h (fun x5 h => ?_)
      refine aw_iload_n 2 dX10_dulls_87 rfl rfl ?_
      refine aw_i2l dX10_dulls_88 ?_
      refine aw_lmul dX10_dulls_89 ?_
      refine aw_env [(0, .ref v0), (1, .int v1), (2, .int v2), (3, .int v3), (4, .int v4), (5, .int v5)] [0, 1, 2, 3, 4, 5] rfl ?_
      exact L1_X10_dulls_90 N K45 hK45 v0 v1 v2 v3 v4 v5 (x5 * (Int32.toInt64 v2)) (x3 * (Int32.toInt64 (16 - v2))) v5 a1 S h
    · refine aw_lconst 0 dX10_dulls_74 rfl ?_
      refine aw_goto 90 dX10_dulls_75 (by decide) ?_
      refine aw_env [(0, .ref v0), (1, .int v1), (2, .int v2), (3, .int v3), (4, .int v4), (5, .int v5)] [0, 1, 2, 3, 4, 5] rfl ?_
      exact L1_X10_dulls_90 N K45 hK45 v0 v1 v2 v3 v4 v5 0 (x3 * (Int32.toInt64 (16 - v2))) v5 a1 S h
theorem L1_X10_dulls_45 {g : AxG} {l : Launch} {r9 : Int64} {S9 : AxS} (N : Nat) (K36 : Nat → Int32 → Int32 → Int32 → Int32 → AxS → Option (Int64 × AxS)) (hK36 : ∀ (v0 : Nat) (v1 : Int32) (v2 : Int32) (v3 : Int32) (v4 : Int32) (S : AxS), K36 v0 v1 v2 v3 v4 S = some ((r9, S9)) → AW g l (axRm (0) 0 0) mt_X10_dulls (axMQ g 0 0 (.inl (some (.long r9)), S9)) 0 0 S 36 [(0, .ref v0), (1, .int v1), (2, .int v2), (3, .int v3), (4, .int v4)] []) : ∀ (n : Nat) (v0 : Nat) (v1 : Int32) (v2 : Int32) (v3 : Int32) (v4 : Int32) (v5 : Int32) (S : AxS), F_X10_dulls_45 N K36 n v0 v1 v2 v3 v4 v5 S = some ((r9, S9)) → AW g l (axRm (0) 0 0) mt_X10_dulls (axMQ g 0 0 (.inl (some (.long r9)), S9)) 0 0 S 45 [(0, .ref v0), (1, .int v1), (2, .int v2), (3, .int v3), (4, .int v4), (5, .int v5)] [] := by
  intro n
  induction n with
  | zero => intro v0 v1 v2 v3 v4 v5 S h; cases h
  | succ n ih => intro v0 v1 v2 v3 v4 v5 S h; exact L1_X10_dulls_45b N K36 hK36 (F_X10_dulls_45 N K36 n) ih v0 v1 v2 v3 v4 v5 S h
theorem L1_X10_dulls_36b {g : AxG} {l : Launch} {r9 : Int64} {S9 : AxS} (N : Nat) (K36 : Nat → Int32 → Int32 → Int32 → Int32 → AxS → Option (Int64 × AxS)) (hK36 : ∀ (v0 : Nat) (v1 : Int32) (v2 : Int32) (v3 : Int32) (v4 : Int32) (S : AxS), K36 v0 v1 v2 v3 v4 S = some ((r9, S9)) → AW g l (axRm (0) 0 0) mt_X10_dulls (axMQ g 0 0 (.inl (some (.long r9)), S9)) 0 0 S 36 [(0, .ref v0), (1, .int v1), (2, .int v2), (3, .int v3), (4, .int v4)] []) (v0 : Nat) (v1 : Int32) (v2 : Int32) (v3 : Int32) (v4 : Int32) (S : AxS) (h : F_X10_dulls_36b N K36 v0 v1 v2 v3 v4 S = some ((r9, S9))) : AW g l (axRm (0) 0 0) mt_X10_dulls (axMQ g 0 0 (.inl (some (.long r9)), S9)) 0 0 S 36 [(0, .ref v0), (1, .int v1), (2, .int v2), (3, .int v3), (4, .int v4)] [] := by
  unfold F_X10_dulls_36b at h
  refine aw_iload 4 dX10_dulls_36 rfl ?_
  refine aw_iload_n 1 dX10_dulls_38 rfl rfl ?_
  refine aw_icmp_ge 104 dX10_dulls_39 (by decide) h (fun h => ?_) (fun h => ?_)
  · refine aw_lconst 0 dX10_dulls_104 rfl ?_
    refine aw_lstore [(4, .long 0), (0, .ref v0), (1, .int v1), (2, .int v2), (3, .int v3)] dX10_dulls_105 rfl rfl ?_
    refine aw_iload_n 4 dX10_dulls_107 rfl rfl ?_
    refine aw_istore [(6, .int v3), (4, .long 0), (0, .ref v0), (1, .int v1), (2, .int v2), (3, .int v3)] dX10_dulls_108 rfl rfl ?_
    refine aw_env [(0, .ref v0), (1, .int v1), (4, .long 0), (6, .int v3)] [2, 3, 1, 0] rfl ?_
    exact L1_X10_dulls_110 N  N v0 v1 0 v3 S h
  · refine aw_iload_n 1 dX10_dulls_42 rfl rfl ?_
    refine aw_istore [(5, .int v1), (0, .ref v0), (1, .int v1), (2, .int v2), (3, .int v3), (4, .int v4)] dX10_dulls_43 rfl rfl ?_
    refine aw_env [(0, .ref v0), (1, .int v1), (2, .int v2), (3, .int v3), (4, .int v4), (5, .int v1)] [1, 2, 3, 4, 5, 0] rfl ?_
    exact L1_X10_dulls_45 N K36 hK36 N v0 v1 v2 v3 v4 v1 S h
theorem L1_X10_dulls_36 {g : AxG} {l : Launch} {r9 : Int64} {S9 : AxS} (N : Nat)  : ∀ (n : Nat) (v0 : Nat) (v1 : Int32) (v2 : Int32) (v3 : Int32) (v4 : Int32) (S : AxS), F_X10_dulls_36 N  n v0 v1 v2 v3 v4 S = some ((r9, S9)) → AW g l (axRm (0) 0 0) mt_X10_dulls (axMQ g 0 0 (.inl (some (.long r9)), S9)) 0 0 S 36 [(0, .ref v0), (1, .int v1), (2, .int v2), (3, .int v3), (4, .int v4)] [] := by
  intro n
  induction n with
  | zero => intro v0 v1 v2 v3 v4 S h; cases h
  | succ n ih => intro v0 v1 v2 v3 v4 S h; exact L1_X10_dulls_36b N (F_X10_dulls_36 N  n) ih v0 v1 v2 v3 v4 S h
theorem L1_X10_dulls_26 {g : AxG} {l : Launch} {r9 : Int64} {S9 : AxS} (N : Nat) (K3 : Nat → Int32 → Int32 → Int32 → Int32 → AxS → Option (Int64 × AxS)) (hK3 : ∀ (v0 : Nat) (v1 : Int32) (v2 : Int32) (v3 : Int32) (v4 : Int32) (S : AxS), K3 v0 v1 v2 v3 v4 S = some ((r9, S9)) → AW g l (axRm (0) 0 0) mt_X10_dulls (axMQ g 0 0 (.inl (some (.long r9)), S9)) 0 0 S 3 [(0, .ref v0), (1, .int v1), (2, .int v2), (3, .int v3), (4, .int v4)] []) (v0 : Nat) (v1 : Int32) (v2 : Int32) (v3 : Int32) (v4 : Int32) (w0 : Int64) (w1 : Int32) (w2 : Nat) (S : AxS) (h : F_X10_dulls_26 N K3 v0 v1 v2 v3 v4 w0 w1 w2 S = some ((r9, S9))) : AW g l (axRm (0) 0 0) mt_X10_dulls (axMQ g 0 0 (.inl (some (.long r9)), S9)) 0 0 S 26 [(0, .ref v0), (1, .int v1), (2, .int v2), (3, .int v3), (4, .int v4)] [.long w0, .int w1, .ref w2] := by
  unfold F_X10_dulls_26 at h
  refine aw_last dX10_dulls_26 h (fun T1 h => ?_)
  refine aw_iinc 4 [(4, .int (v4 + 1)), (0, .ref v0), (1, .int v1), (2, .int v2), (3, .int v3)] (v4 + 1) dX10_dulls_27 rfl rfl rfl rfl ?_
  refine aw_goto 3 dX10_dulls_30 (by decide) ?_
  refine aw_env [(0, .ref v0), (1, .int v1), (2, .int v2), (3, .int v3), (4, .int (v4 + 1))] [1, 2, 3, 4, 0] rfl ?_
  exact hK3 v0 v1 v2 v3 (v4 + 1) T1 h
theorem L1_X10_dulls_3b {g : AxG} {l : Launch} {r9 : Int64} {S9 : AxS} (N : Nat) (K3 : Nat → Int32 → Int32 → Int32 → Int32 → AxS → Option (Int64 × AxS)) (hK3 : ∀ (v0 : Nat) (v1 : Int32) (v2 : Int32) (v3 : Int32) (v4 : Int32) (S : AxS), K3 v0 v1 v2 v3 v4 S = some ((r9, S9)) → AW g l (axRm (0) 0 0) mt_X10_dulls (axMQ g 0 0 (.inl (some (.long r9)), S9)) 0 0 S 3 [(0, .ref v0), (1, .int v1), (2, .int v2), (3, .int v3), (4, .int v4)] []) (v0 : Nat) (v1 : Int32) (v2 : Int32) (v3 : Int32) (v4 : Int32) (S : AxS) (h : F_X10_dulls_3b N K3 v0 v1 v2 v3 v4 S = some ((r9, S9))) : AW g l (axRm (0) 0 0) mt_X10_dulls (axMQ g 0 0 (.inl (some (.long r9)), S9)) 0 0 S 3 [(0, .ref v0), (1, .int v1), (2, .int v2), (3, .int v3), (4, .int v4)] [] := by
  unfold F_X10_dulls_3b at h
  refine aw_iload 4 dX10_dulls_3 rfl ?_
  refine aw_bipush 10 dX10_dulls_5 (by decide) ?_
  refine aw_icmp_ge 33 dX10_dulls_7 (by decide) h (fun h => ?_) (fun h => ?_)
  · refine aw_iconst 0 dX10_dulls_33 rfl ?_
    refine aw_istore [(4, .int 0), (0, .ref v0), (1, .int v1), (2, .int v2), (3, .int v3)] dX10_dulls_34 rfl rfl ?_
    refine aw_env [(0, .ref v0), (1, .int v1), (2, .int v2), (3, .int v3), (4, .int 0)] [1, 2, 3, 4, 0] rfl ?_
    exact L1_X10_dulls_36 N  N v0 v1 v2 v3 0 S h
  · refine aw_aload_n 0 dX10_dulls_10 rfl rfl ?_
    refine aw_getR axc10 41 rfl rfl wd_1326 dX10_dulls_11 h (fun a1 h => ?_)
    refine aw_iload 4 dX10_dulls_14 rfl ?_
    refine aw_iload 4 dX10_dulls_16 rfl ?_
    refine aw_if_ne 25 dX10_dulls_18 (by decide) h (fun h => ?_) (fun h => ?_)
    · refine aw_lconst 0 dX10_dulls_25 rfl ?_
      refine aw_env [(0, .ref v0), (1, .int v1), (2, .int v2), (3, .int v3), (4, .int v4)] [0, 1, 2, 3, 4] rfl ?_
      exact L1_X10_dulls_26 N K3 hK3 v0 v1 v2 v3 v4 0 v4 a1 S h
    · refine aw_lconst 1 dX10_dulls_21 rfl ?_
      refine aw_goto 26 dX10_dulls_22 (by decide) ?_
      refine aw_env [(0, .ref v0), (1, .int v1), (2, .int v2), (3, .int v3), (4, .int v4)] [0, 1, 2, 3, 4] rfl ?_
      exact L1_X10_dulls_26 N K3 hK3 v0 v1 v2 v3 v4 1 v4 a1 S h
theorem L1_X10_dulls_3 {g : AxG} {l : Launch} {r9 : Int64} {S9 : AxS} (N : Nat)  : ∀ (n : Nat) (v0 : Nat) (v1 : Int32) (v2 : Int32) (v3 : Int32) (v4 : Int32) (S : AxS), F_X10_dulls_3 N  n v0 v1 v2 v3 v4 S = some ((r9, S9)) → AW g l (axRm (0) 0 0) mt_X10_dulls (axMQ g 0 0 (.inl (some (.long r9)), S9)) 0 0 S 3 [(0, .ref v0), (1, .int v1), (2, .int v2), (3, .int v3), (4, .int v4)] [] := by
  intro n
  induction n with
  | zero => intro v0 v1 v2 v3 v4 S h; cases h
  | succ n ih => intro v0 v1 v2 v3 v4 S h; exact L1_X10_dulls_3b N (F_X10_dulls_3 N  n) ih v0 v1 v2 v3 v4 S h
theorem L1_X10_dulls {g : AxG} {l : Launch} (N : Nat) {v0 : Nat} {v1 : Int32} {v2 : Int32} {v3 : Int32} {S : AxS} {r9 : Int64} {S9 : AxS} (h : F_X10_dulls N v0 v1 v2 v3 S = some ((r9, S9))) : AxMet g l yX10_dulls cX10_dulls 7 (some .long) (0) 0 0 [.ref v0, .int v1, .int v2, .int v3] S ((.inl (some (.long r9)), S9)) := by
  refine ax_met (own := RX10) (ini := false) (by decide +kernel) rfl (fun h => nomatch h) rfl ?_
  show AW g l (axRm (0) 0 0) mt_X10_dulls (axMQ g 0 0 (.inl (some (.long r9)), S9)) 0 0 S 0 [(0, .ref v0), (1, .int v1), (2, .int v2), (3, .int v3)] []
  unfold F_X10_dulls at h
  refine aw_iconst 0 dX10_dulls_0 rfl ?_
  refine aw_istore [(4, .int 0), (0, .ref v0), (1, .int v1), (2, .int v2), (3, .int v3)] dX10_dulls_1 rfl rfl ?_
  refine aw_env [(0, .ref v0), (1, .int v1), (2, .int v2), (3, .int v3), (4, .int 0)] [1, 2, 3, 4, 0] rfl ?_
  exact L1_X10_dulls_3 N  N v0 v1 v2 v3 0 S h

theorem dX10_whole_0 : decode cX10_whole 0 = .ok (.lconst 1, 1) := by decide +kernel
theorem dX10_whole_1 : decode cX10_whole 1 = .ok (.iconst 4, 1) := by decide +kernel
theorem dX10_whole_2 : decode cX10_whole 2 = .ok (.iload_n 0, 1) := by decide +kernel
theorem dX10_whole_3 : decode cX10_whole 3 = .ok (.imul, 1) := by decide +kernel
theorem dX10_whole_4 : decode cX10_whole 4 = .ok (.lshl, 1) := by decide +kernel
theorem dX10_whole_5 : decode cX10_whole 5 = .ok (.lreturn, 1) := by decide +kernel
abbrev mt_X10_whole : AxM := (RX10, cX10_whole, 1, (some .long), false, [])
theorem L1_X10_whole {g : AxG} {l : Launch} (N : Nat) {v0 : Int32} {S : AxS} {r9 : Int64} {S9 : AxS} (h : F_X10_whole N v0 S = some ((r9, S9))) : AxMet g l yX10_whole cX10_whole 1 (some .long) (0) 0 0 [.int v0] S ((.inl (some (.long r9)), S9)) := by
  refine ax_met (own := RX10) (ini := false) (by decide +kernel) rfl (fun h => nomatch h) rfl ?_
  show AW g l (axRm (0) 0 0) mt_X10_whole (axMQ g 0 0 (.inl (some (.long r9)), S9)) 0 0 S 0 [(0, .int v0)] []
  unfold F_X10_whole at h
  refine aw_lconst 1 dX10_whole_0 rfl ?_
  refine aw_iconst 4 dX10_whole_1 rfl ?_
  refine aw_iload_n 0 dX10_whole_2 rfl rfl ?_
  refine aw_imul dX10_whole_3 ?_
  refine aw_lshl dX10_whole_4 ?_
  exact aw_lret dX10_whole_5 rfl (Nat.le_refl _) (Nat.le_refl _) h
