theorem dX10_heirs_0 : decode cX10_heirs 0 = .ok (.aload_n 0, 1) := by decide +kernel
theorem dX10_heirs_1 : decode cX10_heirs 1 = .ok (.iconst 0, 1) := by decide +kernel
theorem dX10_heirs_2 : decode cX10_heirs 2 = .ok (.putfield 104, 3) := by decide +kernel
theorem dX10_heirs_5 : decode cX10_heirs 5 = .ok (.aload_n 0, 1) := by decide +kernel
theorem dX10_heirs_6 : decode cX10_heirs 6 = .ok (.iload_n 1, 1) := by decide +kernel
theorem dX10_heirs_7 : decode cX10_heirs 7 = .ok (.iconst 0, 1) := by decide +kernel
theorem dX10_heirs_8 : decode cX10_heirs 8 = .ok (.bipush 9, 2) := by decide +kernel
theorem dX10_heirs_10 : decode cX10_heirs 10 = .ok (.invokestatic 138, 3) := by decide +kernel
theorem dX10_heirs_13 : decode cX10_heirs 13 = .ok (.ifCond .eq 12, 3) := by decide +kernel
theorem dX10_heirs_16 : decode cX10_heirs 16 = .ok (.iload_n 2, 1) := by decide +kernel
theorem dX10_heirs_17 : decode cX10_heirs 17 = .ok (.iconst 0, 1) := by decide +kernel
theorem dX10_heirs_18 : decode cX10_heirs 18 = .ok (.iconst 2, 1) := by decide +kernel
theorem dX10_heirs_19 : decode cX10_heirs 19 = .ok (.invokestatic 138, 3) := by decide +kernel
theorem dX10_heirs_22 : decode cX10_heirs 22 = .ok (.ifCond .ne 7, 3) := by decide +kernel
theorem dX10_heirs_25 : decode cX10_heirs 25 = .ok (.iconst 1, 1) := by decide +kernel
theorem dX10_heirs_26 : decode cX10_heirs 26 = .ok (.goto 4, 3) := by decide +kernel
theorem dX10_heirs_29 : decode cX10_heirs 29 = .ok (.iconst 0, 1) := by decide +kernel
theorem dX10_heirs_30 : decode cX10_heirs 30 = .ok (.iconst 1, 1) := by decide +kernel
theorem dX10_heirs_31 : decode cX10_heirs 31 = .ok (.iconst 1, 1) := by decide +kernel
theorem dX10_heirs_32 : decode cX10_heirs 32 = .ok (.invokevirtual 193, 3) := by decide +kernel
theorem dX10_heirs_35 : decode cX10_heirs 35 = .ok (.ifCond .eq 5, 3) := by decide +kernel
theorem dX10_heirs_38 : decode cX10_heirs 38 = .ok (.iconst 0, 1) := by decide +kernel
theorem dX10_heirs_39 : decode cX10_heirs 39 = .ok (.ireturn, 1) := by decide +kernel
theorem dX10_heirs_40 : decode cX10_heirs 40 = .ok (.iconst 1, 1) := by decide +kernel
theorem dX10_heirs_41 : decode cX10_heirs 41 = .ok (.istore_n 3, 1) := by decide +kernel
theorem dX10_heirs_42 : decode cX10_heirs 42 = .ok (.iconst 0, 1) := by decide +kernel
theorem dX10_heirs_43 : decode cX10_heirs 43 = .ok (.istore 4, 2) := by decide +kernel
theorem dX10_heirs_45 : decode cX10_heirs 45 = .ok (.iconst (-1), 1) := by decide +kernel
theorem dX10_heirs_46 : decode cX10_heirs 46 = .ok (.istore 5, 2) := by decide +kernel
theorem dX10_heirs_48 : decode cX10_heirs 48 = .ok (.iconst 0, 1) := by decide +kernel
theorem dX10_heirs_49 : decode cX10_heirs 49 = .ok (.istore 6, 2) := by decide +kernel
theorem dX10_heirs_51 : decode cX10_heirs 51 = .ok (.iconst 0, 1) := by decide +kernel
theorem dX10_heirs_52 : decode cX10_heirs 52 = .ok (.istore 7, 2) := by decide +kernel
theorem dX10_heirs_54 : decode cX10_heirs 54 = .ok (.iload 7, 2) := by decide +kernel
theorem dX10_heirs_56 : decode cX10_heirs 56 = .ok (.aload_n 0, 1) := by decide +kernel
theorem dX10_heirs_57 : decode cX10_heirs 57 = .ok (.getfield 23, 3) := by decide +kernel
theorem dX10_heirs_60 : decode cX10_heirs 60 = .ok (.iconst 3, 1) := by decide +kernel
theorem dX10_heirs_61 : decode cX10_heirs 61 = .ok (.iaload, 1) := by decide +kernel
theorem dX10_heirs_62 : decode cX10_heirs 62 = .ok (.if_icmp .ge 15, 3) := by decide +kernel
theorem dX10_heirs_65 : decode cX10_heirs 65 = .ok (.iload_n 3, 1) := by decide +kernel
theorem dX10_heirs_66 : decode cX10_heirs 66 = .ok (.iload_n 1, 1) := by decide +kernel
theorem dX10_heirs_67 : decode cX10_heirs 67 = .ok (.iconst 1, 1) := by decide +kernel
theorem dX10_heirs_68 : decode cX10_heirs 68 = .ok (.iadd, 1) := by decide +kernel
theorem dX10_heirs_69 : decode cX10_heirs 69 = .ok (.imul, 1) := by decide +kernel
theorem dX10_heirs_70 : decode cX10_heirs 70 = .ok (.istore_n 3, 1) := by decide +kernel
theorem dX10_heirs_71 : decode cX10_heirs 71 = .ok (.iinc 7 1, 3) := by decide +kernel
theorem dX10_heirs_74 : decode cX10_heirs 74 = .ok (.goto (-20), 3) := by decide +kernel
theorem dX10_heirs_77 : decode cX10_heirs 77 = .ok (.iconst 0, 1) := by decide +kernel
theorem dX10_heirs_78 : decode cX10_heirs 78 = .ok (.istore 7, 2) := by decide +kernel
theorem dX10_heirs_80 : decode cX10_heirs 80 = .ok (.iload 7, 2) := by decide +kernel
theorem dX10_heirs_82 : decode cX10_heirs 82 = .ok (.iload_n 3, 1) := by decide +kernel
theorem dX10_heirs_83 : decode cX10_heirs 83 = .ok (.if_icmp .ge 156, 3) := by decide +kernel
theorem dX10_heirs_86 : decode cX10_heirs 86 = .ok (.iload 7, 2) := by decide +kernel
theorem dX10_heirs_88 : decode cX10_heirs 88 = .ok (.istore 8, 2) := by decide +kernel
theorem dX10_heirs_90 : decode cX10_heirs 90 = .ok (.iconst 0, 1) := by decide +kernel
theorem dX10_heirs_91 : decode cX10_heirs 91 = .ok (.istore 9, 2) := by decide +kernel
theorem dX10_heirs_93 : decode cX10_heirs 93 = .ok (.iconst 0, 1) := by decide +kernel
theorem dX10_heirs_94 : decode cX10_heirs 94 = .ok (.istore 10, 2) := by decide +kernel
theorem dX10_heirs_96 : decode cX10_heirs 96 = .ok (.aload_n 0, 1) := by decide +kernel
theorem dX10_heirs_97 : decode cX10_heirs 97 = .ok (.getfield 23, 3) := by decide +kernel
theorem dX10_heirs_100 : decode cX10_heirs 100 = .ok (.iconst 3, 1) := by decide +kernel
theorem dX10_heirs_101 : decode cX10_heirs 101 = .ok (.iaload, 1) := by decide +kernel
theorem dX10_heirs_102 : decode cX10_heirs 102 = .ok (.iconst 1, 1) := by decide +kernel
theorem dX10_heirs_103 : decode cX10_heirs 103 = .ok (.isub, 1) := by decide +kernel
theorem dX10_heirs_104 : decode cX10_heirs 104 = .ok (.istore 11, 2) := by decide +kernel
theorem dX10_heirs_106 : decode cX10_heirs 106 = .ok (.iload 11, 2) := by decide +kernel
theorem dX10_heirs_108 : decode cX10_heirs 108 = .ok (.ifCond .lt 30, 3) := by decide +kernel
theorem dX10_heirs_111 : decode cX10_heirs 111 = .ok (.aload_n 0, 1) := by decide +kernel
theorem dX10_heirs_112 : decode cX10_heirs 112 = .ok (.getfield 95, 3) := by decide +kernel
theorem dX10_heirs_115 : decode cX10_heirs 115 = .ok (.iload 11, 2) := by decide +kernel
theorem dX10_heirs_117 : decode cX10_heirs 117 = .ok (.iload 8, 2) := by decide +kernel
theorem dX10_heirs_119 : decode cX10_heirs 119 = .ok (.iload_n 1, 1) := by decide +kernel
theorem dX10_heirs_120 : decode cX10_heirs 120 = .ok (.iconst 1, 1) := by decide +kernel
theorem dX10_heirs_121 : decode cX10_heirs 121 = .ok (.iadd, 1) := by decide +kernel
theorem dX10_heirs_122 : decode cX10_heirs 122 = .ok (.irem, 1) := by decide +kernel
theorem dX10_heirs_123 : decode cX10_heirs 123 = .ok (.iastore, 1) := by decide +kernel
theorem dX10_heirs_124 : decode cX10_heirs 124 = .ok (.iload 8, 2) := by decide +kernel
theorem dX10_heirs_126 : decode cX10_heirs 126 = .ok (.iload_n 1, 1) := by decide +kernel
theorem dX10_heirs_127 : decode cX10_heirs 127 = .ok (.iconst 1, 1) := by decide +kernel
theorem dX10_heirs_128 : decode cX10_heirs 128 = .ok (.iadd, 1) := by decide +kernel
theorem dX10_heirs_129 : decode cX10_heirs 129 = .ok (.idiv, 1) := by decide +kernel
theorem dX10_heirs_130 : decode cX10_heirs 130 = .ok (.istore 8, 2) := by decide +kernel
theorem dX10_heirs_132 : decode cX10_heirs 132 = .ok (.iinc 11 (-1), 3) := by decide +kernel
theorem dX10_heirs_135 : decode cX10_heirs 135 = .ok (.goto (-29), 3) := by decide +kernel
theorem dX10_heirs_138 : decode cX10_heirs 138 = .ok (.aload_n 0, 1) := by decide +kernel
theorem dX10_heirs_139 : decode cX10_heirs 139 = .ok (.iload_n 1, 1) := by decide +kernel
theorem dX10_heirs_140 : decode cX10_heirs 140 = .ok (.invokevirtual 374, 3) := by decide +kernel
theorem dX10_heirs_143 : decode cX10_heirs 143 = .ok (.ifCond .ne 6, 3) := by decide +kernel
theorem dX10_heirs_146 : decode cX10_heirs 146 = .ok (.goto 87, 3) := by decide +kernel
theorem dX10_heirs_149 : decode cX10_heirs 149 = .ok (.iconst 0, 1) := by decide +kernel
theorem dX10_heirs_150 : decode cX10_heirs 150 = .ok (.istore 11, 2) := by decide +kernel
theorem dX10_heirs_152 : decode cX10_heirs 152 = .ok (.iload 11, 2) := by decide +kernel
theorem dX10_heirs_154 : decode cX10_heirs 154 = .ok (.aload_n 0, 1) := by decide +kernel
theorem dX10_heirs_155 : decode cX10_heirs 155 = .ok (.getfield 23, 3) := by decide +kernel
theorem dX10_heirs_158 : decode cX10_heirs 158 = .ok (.iconst 3, 1) := by decide +kernel
theorem dX10_heirs_159 : decode cX10_heirs 159 = .ok (.iaload, 1) := by decide +kernel
theorem dX10_heirs_160 : decode cX10_heirs 160 = .ok (.if_icmp .ge 42, 3) := by decide +kernel
theorem dX10_heirs_163 : decode cX10_heirs 163 = .ok (.bipush 10, 2) := by decide +kernel
theorem dX10_heirs_165 : decode cX10_heirs 165 = .ok (.iload 9, 2) := by decide +kernel
theorem dX10_heirs_167 : decode cX10_heirs 167 = .ok (.imul, 1) := by decide +kernel
theorem dX10_heirs_168 : decode cX10_heirs 168 = .ok (.aload_n 0, 1) := by decide +kernel
theorem dX10_heirs_169 : decode cX10_heirs 169 = .ok (.getfield 95, 3) := by decide +kernel
theorem dX10_heirs_172 : decode cX10_heirs 172 = .ok (.iload 11, 2) := by decide +kernel
theorem dX10_heirs_174 : decode cX10_heirs 174 = .ok (.iaload, 1) := by decide +kernel
theorem dX10_heirs_175 : decode cX10_heirs 175 = .ok (.iadd, 1) := by decide +kernel
theorem dX10_heirs_176 : decode cX10_heirs 176 = .ok (.istore 9, 2) := by decide +kernel
theorem dX10_heirs_178 : decode cX10_heirs 178 = .ok (.iload 10, 2) := by decide +kernel
theorem dX10_heirs_180 : decode cX10_heirs 180 = .ok (.aload_n 0, 1) := by decide +kernel
theorem dX10_heirs_181 : decode cX10_heirs 181 = .ok (.iload 11, 2) := by decide +kernel
theorem dX10_heirs_183 : decode cX10_heirs 183 = .ok (.aload_n 0, 1) := by decide +kernel
theorem dX10_heirs_184 : decode cX10_heirs 184 = .ok (.getfield 95, 3) := by decide +kernel
theorem dX10_heirs_187 : decode cX10_heirs 187 = .ok (.iload 11, 2) := by decide +kernel
theorem dX10_heirs_189 : decode cX10_heirs 189 = .ok (.iaload, 1) := by decide +kernel
theorem dX10_heirs_190 : decode cX10_heirs 190 = .ok (.invokevirtual 371, 3) := by decide +kernel
theorem dX10_heirs_193 : decode cX10_heirs 193 = .ok (.iadd, 1) := by decide +kernel
theorem dX10_heirs_194 : decode cX10_heirs 194 = .ok (.istore 10, 2) := by decide +kernel
theorem dX10_heirs_196 : decode cX10_heirs 196 = .ok (.iinc 11 1, 3) := by decide +kernel
theorem dX10_heirs_199 : decode cX10_heirs 199 = .ok (.goto (-47), 3) := by decide +kernel
theorem dX10_heirs_202 : decode cX10_heirs 202 = .ok (.iload 4, 2) := by decide +kernel
theorem dX10_heirs_204 : decode cX10_heirs 204 = .ok (.ifCond .ne 8, 3) := by decide +kernel
theorem dX10_heirs_207 : decode cX10_heirs 207 = .ok (.iload 9, 2) := by decide +kernel
theorem dX10_heirs_209 : decode cX10_heirs 209 = .ok (.goto 5, 3) := by decide +kernel
theorem dX10_heirs_212 : decode cX10_heirs 212 = .ok (.iload 5, 2) := by decide +kernel
theorem dX10_heirs_214 : decode cX10_heirs 214 = .ok (.istore 5, 2) := by decide +kernel
theorem dX10_heirs_216 : decode cX10_heirs 216 = .ok (.iload 4, 2) := by decide +kernel
theorem dX10_heirs_218 : decode cX10_heirs 218 = .ok (.ifCond .ne 8, 3) := by decide +kernel
theorem dX10_heirs_221 : decode cX10_heirs 221 = .ok (.iload 10, 2) := by decide +kernel
theorem dX10_heirs_223 : decode cX10_heirs 223 = .ok (.goto 5, 3) := by decide +kernel
theorem dX10_heirs_226 : decode cX10_heirs 226 = .ok (.iload 6, 2) := by decide +kernel
theorem dX10_heirs_228 : decode cX10_heirs 228 = .ok (.istore 6, 2) := by decide +kernel
theorem dX10_heirs_230 : decode cX10_heirs 230 = .ok (.iinc 4 1, 3) := by decide +kernel
theorem dX10_heirs_233 : decode cX10_heirs 233 = .ok (.iinc 7 1, 3) := by decide +kernel
theorem dX10_heirs_236 : decode cX10_heirs 236 = .ok (.goto (-156), 3) := by decide +kernel
theorem dX10_heirs_239 : decode cX10_heirs 239 = .ok (.iload_n 2, 1) := by decide +kernel
theorem dX10_heirs_240 : decode cX10_heirs 240 = .ok (.ifCond .ne 8, 3) := by decide +kernel
theorem dX10_heirs_243 : decode cX10_heirs 243 = .ok (.iload 4, 2) := by decide +kernel
theorem dX10_heirs_245 : decode cX10_heirs 245 = .ok (.goto 15, 3) := by decide +kernel
theorem dX10_heirs_248 : decode cX10_heirs 248 = .ok (.iload_n 2, 1) := by decide +kernel
theorem dX10_heirs_249 : decode cX10_heirs 249 = .ok (.iconst 1, 1) := by decide +kernel
theorem dX10_heirs_250 : decode cX10_heirs 250 = .ok (.if_icmp .ne 8, 3) := by decide +kernel
theorem dX10_heirs_253 : decode cX10_heirs 253 = .ok (.iload 5, 2) := by decide +kernel
theorem dX10_heirs_255 : decode cX10_heirs 255 = .ok (.goto 5, 3) := by decide +kernel
theorem dX10_heirs_258 : decode cX10_heirs 258 = .ok (.iload 6, 2) := by decide +kernel
theorem dX10_heirs_260 : decode cX10_heirs 260 = .ok (.ireturn, 1) := by decide +kernel
abbrev mt_X10_heirs : AxM := (RX10, cX10_heirs, 12, (some .int), false, [])
theorem L1_X10_heirs_233 {g : AxG} {l : Launch} {r9 : Int32} {S9 : AxS} (N : Nat) (K80 : Nat → Int32 → Int32 → Int32 → Int32 → Int32 → Int32 → Int32 → AxS → Option (Int32 × AxS)) (hK80 : ∀ (v0 : Nat) (v1 : Int32) (v2 : Int32) (v3 : Int32) (v4 : Int32) (v5 : Int32) (v6 : Int32) (v7 : Int32) (S : AxS), K80 v0 v1 v2 v3 v4 v5 v6 v7 S = some ((r9, S9)) → AW g l (axRm (3) 0 0) mt_X10_heirs (axMQ g 0 0 (.inl (some (.int r9)), S9)) 0 0 S 80 [(0, .ref v0), (1, .int v1), (2, .int v2), (3, .int v3), (4, .int v4), (5, .int v5), (6, .int v6), (7, .int v7)] []) (v0 : Nat) (v1 : Int32) (v2 : Int32) (v3 : Int32) (v4 : Int32) (v5 : Int32) (v6 : Int32) (v7 : Int32) (S : AxS) (h : F_X10_heirs_233 N K80 v0 v1 v2 v3 v4 v5 v6 v7 S = some ((r9, S9))) : AW g l (axRm (3) 0 0) mt_X10_heirs (axMQ g 0 0 (.inl (some (.int r9)), S9)) 0 0 S 233 [(0, .ref v0), (1, .int v1), (2, .int v2), (3, .int v3), (4, .int v4), (5, .int v5), (6, .int v6), (7, .int v7)] [] := by
  unfold F_X10_heirs_233 at h
  refine aw_iinc 7 [(7, .int (v7 + 1)), (0, .ref v0), (1, .int v1), (2, .int v2), (3, .int v3), (4, .int v4), (5, .int v5), (6, .int v6)] (v7 + 1) dX10_heirs_233 rfl rfl rfl rfl ?_
  refine aw_goto 80 dX10_heirs_236 (by decide) ?_
  refine aw_env [(0, .ref v0), (1, .int v1), (2, .int v2), (3, .int v3), (4, .int v4), (5, .int v5), (6, .int v6), (7, .int (v7 + 1))] [1, 2, 3, 4, 5, 6, 7, 0] rfl ?_
  exact hK80 v0 v1 v2 v3 v4 v5 v6 (v7 + 1) S h
theorem L1_X10_heirs_228 {g : AxG} {l : Launch} {r9 : Int32} {S9 : AxS} (N : Nat) (K80 : Nat → Int32 → Int32 → Int32 → Int32 → Int32 → Int32 → Int32 → AxS → Option (Int32 × AxS)) (hK80 : ∀ (v0 : Nat) (v1 : Int32) (v2 : Int32) (v3 : Int32) (v4 : Int32) (v5 : Int32) (v6 : Int32) (v7 : Int32) (S : AxS), K80 v0 v1 v2 v3 v4 v5 v6 v7 S = some ((r9, S9)) → AW g l (axRm (3) 0 0) mt_X10_heirs (axMQ g 0 0 (.inl (some (.int r9)), S9)) 0 0 S 80 [(0, .ref v0), (1, .int v1), (2, .int v2), (3, .int v3), (4, .int v4), (5, .int v5), (6, .int v6), (7, .int v7)] []) (v0 : Nat) (v1 : Int32) (v2 : Int32) (v3 : Int32) (v4 : Int32) (v5 : Int32) (v7 : Int32) (w0 : Int32) (S : AxS) (h : F_X10_heirs_228 N K80 v0 v1 v2 v3 v4 v5 v7 w0 S = some ((r9, S9))) : AW g l (axRm (3) 0 0) mt_X10_heirs (axMQ g 0 0 (.inl (some (.int r9)), S9)) 0 0 S 228 [(0, .ref v0), (1, .int v1), (2, .int v2), (3, .int v3), (4, .int v4), (5, .int v5), (7, .int v7)] [.int w0] := by
  unfold F_X10_heirs_228 at h
  refine aw_istore [(6, .int w0), (0, .ref v0), (1, .int v1), (2, .int v2), (3, .int v3), (4, .int v4), (5, .int v5), (7, .int v7)] dX10_heirs_228 rfl rfl ?_
  refine aw_iinc 5 [(4, .int (v4 + 1)), (6, .int w0), (0, .ref v0), (1, .int v1), (2, .int v2), (3, .int v3), (5, .int v5), (7, .int v7)] (v4 + 1) dX10_heirs_230 rfl rfl rfl rfl ?_
  refine aw_env [(0, .ref v0), (1, .int v1), (2, .int v2), (3, .int v3), (4, .int (v4 + 1)), (5, .int v5), (6, .int w0), (7, .int v7)] [2, 3, 4, 5, 0, 6, 1, 7] rfl ?_
  exact L1_X10_heirs_233 N K80 hK80 v0 v1 v2 v3 (v4 + 1) v5 w0 v7 S h
theorem L1_X10_heirs_214 {g : AxG} {l : Launch} {r9 : Int32} {S9 : AxS} (N : Nat) (K80 : Nat → Int32 → Int32 → Int32 → Int32 → Int32 → Int32 → Int32 → AxS → Option (Int32 × AxS)) (hK80 : ∀ (v0 : Nat) (v1 : Int32) (v2 : Int32) (v3 : Int32) (v4 : Int32) (v5 : Int32) (v6 : Int32) (v7 : Int32) (S : AxS), K80 v0 v1 v2 v3 v4 v5 v6 v7 S = some ((r9, S9)) → AW g l (axRm (3) 0 0) mt_X10_heirs (axMQ g 0 0 (.inl (some (.int r9)), S9)) 0 0 S 80 [(0, .ref v0), (1, .int v1), (2, .int v2), (3, .int v3), (4, .int v4), (5, .int v5), (6, .int v6), (7, .int v7)] []) (v0 : Nat) (v1 : Int32) (v2 : Int32) (v3 : Int32) (v4 : Int32) (v6 : Int32) (v7 : Int32) (v10 : Int32) (w0 : Int32) (S : AxS) (h : F_X10_heirs_214 N K80 v0 v1 v2 v3 v4 v6 v7 v10 w0 S = some ((r9, S9))) : AW g l (axRm (3) 0 0) mt_X10_heirs (axMQ g 0 0 (.inl (some (.int r9)), S9)) 0 0 S 214 [(0, .ref v0), (1, .int v1), (2, .int v2), (3, .int v3), (4, .int v4), (6, .int v6), (7, .int v7), (10, .int v10)] [.int w0] := by
  unfold F_X10_heirs_214 at h
  refine aw_istore [(5, .int w0), (0, .ref v0), (1, .int v1), (2, .int v2), (3, .int v3), (4, .int v4), (6, .int v6), (7, .int v7), (10, .int v10)] dX10_heirs_214 rfl rfl ?_
  refine aw_iload 5 dX10_heirs_216 rfl ?_
  refine aw_if_ne 226 dX10_heirs_218 (by decide) h (fun h => ?_) (fun h => ?_)
  · refine aw_iload 6 dX10_heirs_226 rfl ?_
    refine aw_env [(0, .ref v0), (1, .int v1), (2, .int v2), (3, .int v3), (4, .int v4), (5, .int w0), (7, .int v7)] [1, 2, 3, 4, 5, 0, 7] rfl ?_
    exact L1_X10_heirs_228 N K80 hK80 v0 v1 v2 v3 v4 w0 v7 v6 S h
  · refine aw_iload 8 dX10_heirs_221 rfl ?_
    refine aw_goto 228 dX10_heirs_223 (by decide) ?_
    refine aw_env [(0, .ref v0), (1, .int v1), (2, .int v2), (3, .int v3), (4, .int v4), (5, .int w0), (7, .int v7)] [1, 2, 3, 4, 5, 0, 7] rfl ?_
    exact L1_X10_heirs_228 N K80 hK80 v0 v1 v2 v3 v4 w0 v7 v10 S h
theorem L1_X10_heirs_152b {g : AxG} {l : Launch} {r9 : Int32} {S9 : AxS} (N : Nat) (K80 : Nat → Int32 → Int32 → Int32 → Int32 → Int32 → Int32 → Int32 → AxS → Option (Int32 × AxS)) (hK80 : ∀ (v0 : Nat) (v1 : Int32) (v2 : Int32) (v3 : Int32) (v4 : Int32) (v5 : Int32) (v6 : Int32) (v7 : Int32) (S : AxS), K80 v0 v1 v2 v3 v4 v5 v6 v7 S = some ((r9, S9)) → AW g l (axRm (3) 0 0) mt_X10_heirs (axMQ g 0 0 (.inl (some (.int r9)), S9)) 0 0 S 80 [(0, .ref v0), (1, .int v1), (2, .int v2), (3, .int v3), (4, .int v4), (5, .int v5), (6, .int v6), (7, .int v7)] []) (K152 : Nat → Int32 → Int32 → Int32 → Int32 → Int32 → Int32 → Int32 → Int32 → Int32 → Int32 → AxS → Option (Int32 × AxS)) (hK152 : ∀ (v0 : Nat) (v1 : Int32) (v2 : Int32) (v3 : Int32) (v4 : Int32) (v5 : Int32) (v6 : Int32) (v7 : Int32) (v9 : Int32) (v10 : Int32) (v11 : Int32) (S : AxS), K152 v0 v1 v2 v3 v4 v5 v6 v7 v9 v10 v11 S = some ((r9, S9)) → AW g l (axRm (3) 0 0) mt_X10_heirs (axMQ g 0 0 (.inl (some (.int r9)), S9)) 0 0 S 152 [(0, .ref v0), (1, .int v1), (2, .int v2), (3, .int v3), (4, .int v4), (5, .int v5), (6, .int v6), (7, .int v7), (9, .int v9), (10, .int v10), (11, .int v11)] []) (v0 : Nat) (v1 : Int32) (v2 : Int32) (v3 : Int32) (v4 : Int32) (v5 : Int32) (v6 : Int32) (v7 : Int32) (v9 : Int32) (v10 : Int32) (v11 : Int32) (S : AxS) (h : F_X10_heirs_152b N K80 K152 v0 v1 v2 v3 v4 v5 v6 v7 v9 v10 v11 S = some ((r9, S9))) : AW g l (axRm (3) 0 0) mt_X10_heirs (axMQ g 0 0 (.inl (some (.int r9)), S9)) 0 0 S 152 [(0, .ref v0), (1, .int v1), (2, .int v2), (3, .int v3), (4, .int v4), (5, .int v5), (6, .int v6), (7, .int v7), (9, .int v9), (10, .int v10), (11, .int v11)] [] := by
  unfold F_X10_heirs_152b at h
  refine aw_iload 10 dX10_heirs_152 rfl ?_
  refine aw_aload_n 0 dX10_heirs_154 rfl rfl ?_
  refine aw_getR axc10 12 rfl rfl wd_1297 dX10_heirs_155 h (fun a1 h => ?_)
  refine aw_iconst 3 dX10_heirs_158 rfl ?_
  refine aw_iald dX10_heirs_159 h (fun x2 h => ?_)
  refine aw_icmp_ge 202 dX10_heirs_160 (by decide) h (fun h => ?_) (fun h => ?_)
  · refine aw_iload 4 dX10_heirs_202 rfl ?_
    refine aw_if_ne 212 dX10_heirs_204 (by decide) h (fun h => ?_) (fun h => ?_)
    · refine aw_iload 5 dX10_heirs_212 rfl ?_
      refine aw_env [(0, .ref v0), (1, .int v1), (2, .int v2), (3, .int v3), (4, .int v4), (6, .int v6), (7, .int v7), (10, .int v10)] [0, 1, 2, 3, 4, 6, 7, 9] rfl ?_
      exact L1_X10_heirs_214 N K80 hK80 v0 v1 v2 v3 v4 v6 v7 v10 v5 S h
    · refine aw_iload 8 dX10_heirs_207 rfl ?_
      refine aw_goto 214 dX10_heirs_209 (by decide) ?_
      refine aw_env [(0, .ref v0), (1, .int v1), (2, .int v2), (3, .int v3), (4, .int v4), (6, .int v6), (7, .int v7), (10, .int v10)] [0, 1, 2, 3, 4, 6, 7, 9] rfl ?_
      exact L1_X10_heirs_214 N K80 hK80 v0 v1 v2 v3 v4 v6 v7 v10 v9 S h
  · refine aw_bipush 10 dX10_heirs_163 (by decide) ?_
    refine aw_iload 8 dX10_heirs_165 rfl ?_
    refine aw_imul dX10_heirs_167 ?_
    refine aw_aload_n 0 dX10_heirs_168 rfl rfl ?_
    refine aw_getR axc10 46 rfl rfl wd_1331 dX10_heirs_169 h (fun a3 h => ?_)
    refine aw_iload 10 dX10_heirs_172 rfl ?_
    refine aw_iald dX10_heirs_174 h (fun x4 h => ?_)
    refine aw_iadd dX10_heirs_175 ?_
    refine aw_istore [(9, .int ((10 * v9) + x4)), (0, .ref v0), (1, .int v1), (2, .int v2), (3, .int v3), (4, .int v4), (5, .int v5), (6, .int v6), (7, .int v7), (10, .int v10), (11, .int v11)] dX10_heirs_176 rfl rfl ?_
    refine aw_iload 9 dX10_heirs_178 rfl ?_
    refine aw_aload_n 1 dX10_heirs_180 rfl rfl ?_
    refine aw_iload 10 dX10_heirs_181 rfl ?_
    refine aw_aload_n 1 dX10_heirs_183 rfl rfl ?_
    refine aw_getR axc10 46 rfl rfl wd_1331 dX10_heirs_184 h (fun a5 h => ?_)
    refine aw_iload 10 dX10_heirs_187 rfl ?_
    refine aw_iald dX10_heirs_189 h (fun x6 h => ?_)
    obtain ⟨hL7, h⟩ := ax_is_spec h
    refine aw_doneI (rest := [.int v10]) h (fun r9 S9 hF => aw_runV (As := [.int v11, .int x6]) (rest := [.int v10]) (L1_X10_getsBy N hF) axc10 hL7 wd_1786 wd_1783 wd_1785 wd_80 wd_97 pd_X10_getsBy rfl (ax_rm (by omega) rfl) ax_hf0 (Nat.le_of_ble_eq_true rfl) rfl dX10_heirs_190) (fun x9 T8 h => ?_)
    refine aw_iadd dX10_heirs_193 ?_
    refine aw_istore [(10, .int (v10 + x9)), (9, .int ((10 * v9) + x4)), (0, .ref v0), (1, .int v1), (2, .int v2), (3, .int v3), (4, .int v4), (5, .int v5), (6, .int v6), (7, .int v7), (11, .int v11)] dX10_heirs_194 rfl rfl ?_
    refine aw_iinc 10 [(11, .int (v11 + 1)), (10, .int (v10 + x9)), (9, .int ((10 * v9) + x4)), (0, .ref v0), (1, .int v1), (2, .int v2), (3, .int v3), (4, .int v4), (5, .int v5), (6, .int v6), (7, .int v7)] (v11 + 1) dX10_heirs_196 rfl rfl rfl rfl ?_
    refine aw_goto 152 dX10_heirs_199 (by decide) ?_
    refine aw_env [(0, .ref v0), (1, .int v1), (2, .int v2), (3, .int v3), (4, .int v4), (5, .int v5), (6, .int v6), (7, .int v7), (9, .int ((10 * v9) + x4)), (10, .int (v10 + x9)), (11, .int (v11 + 1))] [3, 4, 5, 6, 7, 8, 9, 10, 2, 1, 0] rfl ?_
    exact hK152 v0 v1 v2 v3 v4 v5 v6 v7 ((10 * v9) + x4) (v10 + x9) (v11 + 1) T8 h
theorem L1_X10_heirs_152 {g : AxG} {l : Launch} {r9 : Int32} {S9 : AxS} (N : Nat) (K80 : Nat → Int32 → Int32 → Int32 → Int32 → Int32 → Int32 → Int32 → AxS → Option (Int32 × AxS)) (hK80 : ∀ (v0 : Nat) (v1 : Int32) (v2 : Int32) (v3 : Int32) (v4 : Int32) (v5 : Int32) (v6 : Int32) (v7 : Int32) (S : AxS), K80 v0 v1 v2 v3 v4 v5 v6 v7 S = some ((r9, S9)) → AW g l (axRm (3) 0 0) mt_X10_heirs (axMQ g 0 0 (.inl (some (.int r9)), S9)) 0 0 S 80 [(0, .ref v0), (1, .int v1), (2, .int v2), (3, .int v3), (4, .int v4), (5, .int v5), (6, .int v6), (7, .int v7)] []) : ∀ (n : Nat) (v0 : Nat) (v1 : Int32) (v2 : Int32) (v3 : Int32) (v4 : Int32) (v5 : Int32) (v6 : Int32) (v7 : Int32) (v9 : Int32) (v10 : Int32) (v11 : Int32) (S : AxS), F_X10_heirs_152 N K80 n v0 v1 v2 v3 v4 v5 v6 v7 v9 v10 v11 S = some ((r9, S9)) → AW g l (axRm (3) 0 0) mt_X10_heirs (axMQ g 0 0 (.inl (some (.int r9)), S9)) 0 0 S 152 [(0, .ref v0), (1, .int v1), (2, .int v2), (3, .int v3), (4, .int v4), (5, .int v5), (6, .int v6), (7, .int v7), (9, .int v9), (10, .int v10), (11, .int v11)] [] := by
  intro n
  induction n with
  | zero => intro v0 v1 v2 v3 v4 v5 v6 v7 v9 v10 v11 S h; cases h
  | succ n ih => intro v0 v1 v2 v3 v4 v5 v6 v7 v9 v10 v11 S h; exact L1_X10_heirs_152b N K80 hK80 (F_X10_heirs_152 N K80 n) ih v0 v1 v2 v3 v4 v5 v6 v7 v9 v10 v11 S h
theorem L1_X10_heirs_106b {g : AxG} {l : Launch} {r9 : Int32} {S9 : AxS} (N : Nat) (K80 : Nat → Int32 → Int32 → Int32 → Int32 → Int32 → Int32 → Int32 → AxS → Option (Int32 × AxS)) (hK80 : ∀ (v0 : Nat) (v1 : Int32) (v2 : Int32) (v3 : Int32) (v4 : Int32) (v5 : Int32) (v6 : Int32) (v7 : Int32) (S : AxS), K80 v0 v1 v2 v3 v4 v5 v6 v7 S = some ((r9, S9)) → AW g l (axRm (3) 0 0) mt_X10_heirs (axMQ g 0 0 (.inl (some (.int r9)), S9)) 0 0 S 80 [(0, .ref v0), (1, .int v1), (2, .int v2), (3, .int v3), (4, .int v4), (5, .int v5), (6, .int v6), (7, .int v7)] []) (K106 : Nat → Int32 → Int32 → Int32 → Int32 → Int32 → Int32 → Int32 → Int32 → Int32 → Int32 → Int32 → AxS → Option (Int32 × AxS)) (hK106 : ∀ (v0 : Nat) (v1 : Int32) (v2 : Int32) (v3 : Int32) (v4 : Int32) (v5 : Int32) (v6 : Int32) (v7 : Int32) (v8 : Int32) (v9 : Int32) (v10 : Int32) (v11 : Int32) (S : AxS), K106 v0 v1 v2 v3 v4 v5 v6 v7 v8 v9 v10 v11 S = some ((r9, S9)) → AW g l (axRm (3) 0 0) mt_X10_heirs (axMQ g 0 0 (.inl (some (.int r9)), S9)) 0 0 S 106 [(0, .ref v0), (1, .int v1), (2, .int v2), (3, .int v3), (4, .int v4), (5, .int v5), (6, .int v6), (7, .int v7), (8, .int v8), (9, .int v9), (10, .int v10), (11, .int v11)] []) (v0 : Nat) (v1 : Int32) (v2 : Int32) (v3 : Int32) (v4 : Int32) (v5 : Int32) (v6 : Int32) (v7 : Int32) (v8 : Int32) (v9 : Int32) (v10 : Int32) (v11 : Int32) (S : AxS) (h : F_X10_heirs_106b N K80 K106 v0 v1 v2 v3 v4 v5 v6 v7 v8 v9 v10 v11 S = some ((r9, S9))) : AW g l (axRm (3) 0 0) mt_X10_heirs (axMQ g 0 0 (.inl (some (.int r9)), S9)) 0 0 S 106 [(0, .ref v0), (1, .int v1), (2, .int v2), (3, .int v3), (4, .int v4), (5, .int v5), (6, .int v6), (7, .int v7), (8, .int v8), (9, .int v9), (10, .int v10), (11, .int v11)] [] := by
  unfold F_X10_heirs_106b at h
  refine aw_iload 11 dX10_heirs_106 rfl ?_
  refine aw_if_lt 138 dX10_heirs_108 (by decide) h (fun h => ?_) (fun h => ?_)
  · refine aw_aload_n 0 dX10_heirs_138 rfl rfl ?_
    refine aw_iload_n 1 dX10_heirs_139 rfl rfl ?_
    obtain ⟨hL1, h⟩ := ax_is_spec h
    refine aw_doneI (rest := []) h (fun r9 S9 hF => aw_runV (As := [.int v1]) (rest := []) (L1_X10_isRest N hF) axc10 hL1 wd_1782 wd_1779 wd_1781 wd_79 wd_97 pd_X10_isRest rfl (ax_rm (by omega) rfl) ax_hf0 (Nat.le_of_ble_eq_true rfl) rfl dX10_heirs_140) (fun x3 T2 h => ?_)
    refine aw_if_ne 149 dX10_heirs_143 (by decide) h (fun h => ?_) (fun h => ?_)
    · refine aw_iconst 0 dX10_heirs_149 rfl ?_
      refine aw_istore [(11, .int 0), (0, .ref v0), (1, .int v1), (2, .int v2), (3, .int v3), (4, .int v4), (5, .int v5), (6, .int v6), (7, .int v7), (8, .int v8), (9, .int v9), (10, .int v10)] dX10_heirs_150 rfl rfl ?_
      refine aw_env [(0, .ref v0), (1, .int v1), (2, .int v2), (3, .int v3), (4, .int v4), (5, .int v5), (6, .int v6), (7, .int v7), (9, .int v9), (10, .int v10), (11, .int 0)] [1, 2, 3, 4, 5, 6, 7, 8, 10, 11, 0] rfl ?_
      exact L1_X10_heirs_152 N K80 hK80 N v0 v1 v2 v3 v4 v5 v6 v7 v9 v10 0 T2 h
    · refine aw_goto 233 dX10_heirs_146 (by decide) ?_
      refine aw_env [(0, .ref v0), (1, .int v1), (2, .int v2), (3, .int v3), (4, .int v4), (5, .int v5), (6, .int v6), (7, .int v7)] [0, 1, 2, 3, 4, 5, 6, 7] rfl ?_
      exact L1_X10_heirs_233 N K80 hK80 v0 v1 v2 v3 v4 v5 v6 v7 T2 h
  · refine aw_aload_n 0 dX10_heirs_111 rfl rfl ?_
    refine aw_getR axc10 46 rfl rfl wd_1331 dX10_heirs_112 h (fun a4 h => ?_)
    refine aw_iload 11 dX10_heirs_115 rfl ?_
    refine aw_iload 8 dX10_heirs_117 rfl ?_
    refine aw_iload_n 1 dX10_heirs_119 rfl rfl ?_
    refine aw_iconst 1 dX10_heirs_120 rfl ?_
    refine aw_iadd dX10_heirs_121 ?_
    refine aw_irem dX10_heirs_122 h (fun h => ?_)
    refine aw_iast dX10_heirs_123 h (fun T5 h => ?_)
    refine aw_iload 8 dX10_heirs_124 rfl ?_
    refine aw_iload_n 1 dX10_heirs_126 rfl rfl ?_
    refine aw_iconst 1 dX10_heirs_127 rfl ?_
    refine aw_iadd dX10_heirs_128 ?_
    refine aw_idiv dX10_heirs_129 h (fun h => ?_)
    refine aw_istore [(8, .int (v8 / (v1 + 1))), (0, .ref v0), (1, .int v1), (2, .int v2), (3, .int v3), (4, .int v4), (5, .int v5), (6, .int v6), (7, .int v7), (9, .int v9), (10, .int v10), (11, .int v11)] dX10_heirs_130 rfl rfl ?_
    refine aw_iinc 11 [(11, .int (v11 + (-1))), (8, .int (v8 / (v1 + 1))), (0, .ref v0), (1, .int v1), (2, .int v2), (3, .int v3), (4, .int v4), (5, .int v5), (6, .int v6), (7, .int v7), (9, .int v9), (10, .int v10)] (v11 + (-1)) dX10_heirs_132 rfl rfl rfl rfl ?_
    refine aw_goto 106 dX10_heirs_135 (by decide) ?_
    refine aw_env [(0, .ref v0), (1, .int v1), (2, .int v2), (3, .int v3), (4, .int v4), (5, .int v5), (6, .int v6), (7, .int v7), (8, .int (v8 / (v1 + 1))), (9, .int v9), (10, .int v10), (11, .int (v11 + (-1)))] [2, 3, 4, 5, 6, 7, 8, 9, 1, 10, 11, 0] rfl ?_
    exact hK106 v0 v1 v2 v3 v4 v5 v6 v7 (v8 / (v1 + 1)) v9 v10 (v11 + (-1)) T5 h
theorem L1_X10_heirs_106 {g : AxG} {l : Launch} {r9 : Int32} {S9 : AxS} (N : Nat) (K80 : Nat → Int32 → Int32 → Int32 → Int32 → Int32 → Int32 → Int32 → AxS → Option (Int32 × AxS)) (hK80 : ∀ (v0 : Nat) (v1 : Int32) (v2 : Int32) (v3 : Int32) (v4 : Int32) (v5 : Int32) (v6 : Int32) (v7 : Int32) (S : AxS), K80 v0 v1 v2 v3 v4 v5 v6 v7 S = some ((r9, S9)) → AW g l (axRm (3) 0 0) mt_X10_heirs (axMQ g 0 0 (.inl (some (.int r9)), S9)) 0 0 S 80 [(0, .ref v0), (1, .int v1), (2, .int v2), (3, .int v3), (4, .int v4), (5, .int v5), (6, .int v6), (7, .int v7)] []) : ∀ (n : Nat) (v0 : Nat) (v1 : Int32) (v2 : Int32) (v3 : Int32) (v4 : Int32) (v5 : Int32) (v6 : Int32) (v7 : Int32) (v8 : Int32) (v9 : Int32) (v10 : Int32) (v11 : Int32) (S : AxS), F_X10_heirs_106 N K80 n v0 v1 v2 v3 v4 v5 v6 v7 v8 v9 v10 v11 S = some ((r9, S9)) → AW g l (axRm (3) 0 0) mt_X10_heirs (axMQ g 0 0 (.inl (some (.int r9)), S9)) 0 0 S 106 [(0, .ref v0), (1, .int v1), (2, .int v2), (3, .int v3), (4, .int v4), (5, .int v5), (6, .int v6), (7, .int v7), (8, .int v8), (9, .int v9), (10, .int v10), (11, .int v11)] [] := by
  intro n
  induction n with
  | zero => intro v0 v1 v2 v3 v4 v5 v6 v7 v8 v9 v10 v11 S h; cases h
  | succ n ih => intro v0 v1 v2 v3 v4 v5 v6 v7 v8 v9 v10 v11 S h; exact L1_X10_heirs_106b N K80 hK80 (F_X10_heirs_106 N K80 n) ih v0 v1 v2 v3 v4 v5 v6 v7 v8 v9 v10 v11 S h
theorem L1_X10_heirs_80b {g : AxG} {l : Launch} {r9 : Int32} {S9 : AxS} (N : Nat) (K80 : Nat → Int32 → Int32 → Int32 → Int32 → Int32 → Int32 → Int32 → AxS → Option (Int32 × AxS)) (hK80 : ∀ (v0 : Nat) (v1 : Int32) (v2 : Int32) (v3 : Int32) (v4 : Int32) (v5 : Int32) (v6 : Int32) (v7 : Int32) (S : AxS), K80 v0 v1 v2 v3 v4 v5 v6 v7 S = some ((r9, S9)) → AW g l (axRm (3) 0 0) mt_X10_heirs (axMQ g 0 0 (.inl (some (.int r9)), S9)) 0 0 S 80 [(0, .ref v0), (1, .int v1), (2, .int v2), (3, .int v3), (4, .int v4), (5, .int v5), (6, .int v6), (7, .int v7)] []) (v0 : Nat) (v1 : Int32) (v2 : Int32) (v3 : Int32) (v4 : Int32) (v5 : Int32) (v6 : Int32) (v7 : Int32) (S : AxS) (h : F_X10_heirs_80b N K80 v0 v1 v2 v3 v4 v5 v6 v7 S = some ((r9, S9))) : AW g l (axRm (3) 0 0) mt_X10_heirs (axMQ g 0 0 (.inl (some (.int r9)), S9)) 0 0 S 80 [(0, .ref v0), (1, .int v1), (2, .int v2), (3, .int v3), (4, .int v4), (5, .int v5), (6, .int v6), (7, .int v7)] [] := by
  unfold F_X10_heirs_80b at h
  refine aw_iload 7 dX10_heirs_80 rfl ?_
  refine aw_iload_n 3 dX10_heirs_82 rfl rfl ?_
  refine aw_icmp_ge 239 dX10_heirs_83 (by decide) h (fun h => ?_) (fun h => ?_)
  · refine aw_iload_n 2 dX10_heirs_239 rfl rfl ?_
    refine aw_if_ne 248 dX10_heirs_240 (by decide) h (fun h => ?_) (fun h => ?_)
    · refine aw_iload_n 2 dX10_heirs_248 rfl rfl ?_
      refine aw_iconst 1 dX10_heirs_249 rfl ?_
      refine aw_icmp_ne 258 dX10_heirs_250 (by decide) h (fun h => ?_) (fun h => ?_)
      · refine aw_iload 6 dX10_heirs_258 rfl ?_
        exact aw_iret dX10_heirs_260 rfl (Nat.le_refl _) (Nat.le_refl _) h
      · refine aw_iload 5 dX10_heirs_253 rfl ?_
        refine aw_goto 260 dX10_heirs_255 (by decide) ?_
        exact aw_iret dX10_heirs_260 rfl (Nat.le_refl _) (Nat.le_refl _) h
    · refine aw_iload 4 dX10_heirs_243 rfl ?_
      refine aw_goto 260 dX10_heirs_245 (by decide) ?_
      exact aw_iret dX10_heirs_260 rfl (Nat.le_refl _) (Nat.le_refl _) h
  · refine aw_iload 7 dX10_heirs_86 rfl ?_
    refine aw_istore [(8, .int v7), (0, .ref v0), (1, .int v1), (2, .int v2), (3, .int v3), (4, .int v4), (5, .int v5), (6, .int v6), (7, .int v7)] dX10_heirs_88 rfl rfl ?_
    refine aw_iconst 0 dX10_heirs_90 rfl ?_
    refine aw_istore [(9, .int 0), (8, .int v7), (0, .ref v0), (1, .int v1), (2, .int v2), (3, .int v3), (4, .int v4), (5, .int v5), (6, .int v6), (7, .int v7)] dX10_heirs_91 rfl rfl ?_
    refine aw_iconst 0 dX10_heirs_93 rfl ?_
    refine aw_istore [(10, .int 0), (9, .int 0), (8, .int v7), (0, .ref v0), (1, .int v1), (2, .int v2), (3, .int v3), (4, .int v4), (5, .int v5), (6, .int v6), (7, .int v7)] dX10_heirs_94 rfl rfl ?_
    refine aw_aload_n 3 dX10_heirs_96 rfl rfl ?_
    refine aw_getR axc10 12 rfl rfl wd_1297 dX10_heirs_97 h (fun a1 h => ?_)
    refine aw_iconst 3 dX10_heirs_100 rfl ?_
    refine aw_iald dX10_heirs_101 h (fun x2 h => ?_)
    refine aw_iconst 1 dX10_heirs_102 rfl ?_
    refine aw_isub dX10_heirs_103 ?_
    refine aw_istore [(11, .int (x2 - 1)), (10, .int 0), (9, .int 0), (8, .int v7), (0, .ref v0), (1, .int v1), (2, .int v2), (3, .int v3), (4, .int v4), (5, .int v5), (6, .int v6), (7, .int v7)] dX10_heirs_104 rfl rfl ?_
    refine aw_env [(0, .ref v0), (1, .int v1), (2, .int v2), (3, .int v3), (4, .int v4), (5, .int v5), (6, .int v6), (7, .int v7), (8, .int v7), (9, .int 0), (10, .int 0), (11, .int (x2 - 1))] [4, 5, 6, 7, 8, 9, 10, 11, 3, 2, 1, 0] rfl ?_
    exact L1_X10_heirs_106 N K80 hK80 N v0 v1 v2 v3 v4 v5 v6 v7 v7 0 0 (x2 - 1) S h
theorem L1_X10_heirs_80 {g : AxG} {l : Launch} {r9 : Int32} {S9 : AxS} (N : Nat)  : ∀ (n : Nat) (v0 : Nat) (v1 : Int32) (v2 : Int32) (v3 : Int32) (v4 : Int32) (v5 : Int32) (v6 : Int32) (v7 : Int32) (S : AxS), F_X10_heirs_80 N  n v0 v1 v2 v3 v4 v5 v6 v7 S = some ((r9, S9)) → AW g l (axRm (3) 0 0) mt_X10_heirs (axMQ g 0 0 (.inl (some (.int r9)), S9)) 0 0 S 80 [(0, .ref v0), (1, .int v1), (2, .int v2), (3, .int v3), (4, .int v4), (5, .int v5), (6, .int v6), (7, .int v7)] [] := by
  intro n
  induction n with
  | zero => intro v0 v1 v2 v3 v4 v5 v6 v7 S h; cases h
  | succ n ih => intro v0 v1 v2 v3 v4 v5 v6 v7 S h; exact L1_X10_heirs_80b N (F_X10_heirs_80 N  n) ih v0 v1 v2 v3 v4 v5 v6 v7 S h
theorem L1_X10_heirs_54b {g : AxG} {l : Launch} {r9 : Int32} {S9 : AxS} (N : Nat) (K54 : Nat → Int32 → Int32 → Int32 → Int32 → Int32 → Int32 → Int32 → AxS → Option (Int32 × AxS)) (hK54 : ∀ (v0 : Nat) (v1 : Int32) (v2 : Int32) (v3 : Int32) (v4 : Int32) (v5 : Int32) (v6 : Int32) (v7 : Int32) (S : AxS), K54 v0 v1 v2 v3 v4 v5 v6 v7 S = some ((r9, S9)) → AW g l (axRm (3) 0 0) mt_X10_heirs (axMQ g 0 0 (.inl (some (.int r9)), S9)) 0 0 S 54 [(0, .ref v0), (1, .int v1), (2, .int v2), (3, .int v3), (4, .int v4), (5, .int v5), (6, .int v6), (7, .int v7)] []) (v0 : Nat) (v1 : Int32) (v2 : Int32) (v3 : Int32) (v4 : Int32) (v5 : Int32) (v6 : Int32) (v7 : Int32) (S : AxS) (h : F_X10_heirs_54b N K54 v0 v1 v2 v3 v4 v5 v6 v7 S = some ((r9, S9))) : AW g l (axRm (3) 0 0) mt_X10_heirs (axMQ g 0 0 (.inl (some (.int r9)), S9)) 0 0 S 54 [(0, .ref v0), (1, .int v1), (2, .int v2), (3, .int v3), (4, .int v4), (5, .int v5), (6, .int v6), (7, .int v7)] [] := by
  unfold F_X10_heirs_54b at h
  refine aw_iload 7 dX10_heirs_54 rfl ?_
  refine aw_aload_n 0 dX10_heirs_56 rfl rfl ?_
  refine aw_getR axc10 12 rfl rfl wd_1297 dX10_heirs_57 h (fun a1 h => ?_)
  refine aw_iconst 3 dX10_heirs_60 rfl ?_
  refine aw_iald dX10_heirs_61 h (fun x2 h => ?_)
  refine aw_icmp_ge 77 dX10_heirs_62 (by decide) h (fun h => ?_) (fun h => ?_)
  · refine aw_iconst 0 dX10_heirs_77 rfl ?_
    refine aw_istore [(7, .int 0), (0, .ref v0), (1, .int v1), (2, .int v2), (3, .int v3), (4, .int v4), (5, .int v5), (6, .int v6)] dX10_heirs_78 rfl rfl ?_
    refine aw_env [(0, .ref v0), (1, .int v1), (2, .int v2), (3, .int v3), (4, .int v4), (5, .int v5), (6, .int v6), (7, .int 0)] [1, 2, 3, 4, 5, 6, 7, 0] rfl ?_
    exact L1_X10_heirs_80 N  N v0 v1 v2 v3 v4 v5 v6 0 S h
  · refine aw_iload_n 3 dX10_heirs_65 rfl rfl ?_
    refine aw_iload_n 1 dX10_heirs_66 rfl rfl ?_
    refine aw_iconst 1 dX10_heirs_67 rfl ?_
    refine aw_iadd dX10_heirs_68 ?_
    refine aw_imul dX10_heirs_69 ?_
    refine aw_istore_n 3 [(3, .int (v3 * (v1 + 1))), (0, .ref v0), (1, .int v1), (2, .int v2), (4, .int v4), (5, .int v5), (6, .int v6), (7, .int v7)] dX10_heirs_70 rfl rfl rfl ?_
    refine aw_iinc 7 [(7, .int (v7 + 1)), (3, .int (v3 * (v1 + 1))), (0, .ref v0), (1, .int v1), (2, .int v2), (4, .int v4), (5, .int v5), (6, .int v6)] (v7 + 1) dX10_heirs_71 rfl rfl rfl rfl ?_
    refine aw_goto 54 dX10_heirs_74 (by decide) ?_
    refine aw_env [(0, .ref v0), (1, .int v1), (2, .int v2), (3, .int (v3 * (v1 + 1))), (4, .int v4), (5, .int v5), (6, .int v6), (7, .int (v7 + 1))] [2, 3, 4, 1, 5, 6, 7, 0] rfl ?_
    exact hK54 v0 v1 v2 (v3 * (v1 + 1)) v4 v5 v6 (v7 + 1) S h
theorem L1_X10_heirs_54 {g : AxG} {l : Launch} {r9 : Int32} {S9 : AxS} (N : Nat)  : ∀ (n : Nat) (v0 : Nat) (v1 : Int32) (v2 : Int32) (v3 : Int32) (v4 : Int32) (v5 : Int32) (v6 : Int32) (v7 : Int32) (S : AxS), F_X10_heirs_54 N  n v0 v1 v2 v3 v4 v5 v6 v7 S = some ((r9, S9)) → AW g l (axRm (3) 0 0) mt_X10_heirs (axMQ g 0 0 (.inl (some (.int r9)), S9)) 0 0 S 54 [(0, .ref v0), (1, .int v1), (2, .int v2), (3, .int v3), (4, .int v4), (5, .int v5), (6, .int v6), (7, .int v7)] [] := by
  intro n
  induction n with
  | zero => intro v0 v1 v2 v3 v4 v5 v6 v7 S h; cases h
  | succ n ih => intro v0 v1 v2 v3 v4 v5 v6 v7 S h; exact L1_X10_heirs_54b N (F_X10_heirs_54 N  n) ih v0 v1 v2 v3 v4 v5 v6 v7 S h
theorem L1_X10_heirs_30 {g : AxG} {l : Launch} {r9 : Int32} {S9 : AxS} (N : Nat)  (v0 : Nat) (v1 : Int32) (v2 : Int32) (w0 : Int32) (w1 : Nat) (S : AxS) (h : F_X10_heirs_30 N  v0 v1 v2 w0 w1 S = some ((r9, S9))) : AW g l (axRm (3) 0 0) mt_X10_heirs (axMQ g 0 0 (.inl (some (.int r9)), S9)) 0 0 S 30 [(0, .ref v0), (1, .int v1), (2, .int v2)] [.int w0, .ref w1] := by
  unfold F_X10_heirs_30 at h
  refine aw_iconst 1 dX10_heirs_30 rfl ?_
  refine aw_iconst 1 dX10_heirs_31 rfl ?_
  obtain ⟨hL1, h⟩ := ax_is_spec h
  refine aw_doneI (rest := []) h (fun r9 S9 hF => aw_runV (As := [.int w0, .int 1, .int 1]) (rest := []) (L1_X10_bad N hF) axc10 hL1 wd_1452 wd_1449 wd_1451 wd_38 wd_97 pd_X10_bad rfl (ax_rm (by omega) rfl) ax_hf0 (Nat.le_of_ble_eq_true rfl) rfl dX10_heirs_32) (fun x3 T2 h => ?_)
  refine aw_if_eq 40 dX10_heirs_35 (by decide) h (fun h => ?_) (fun h => ?_)
  · refine aw_iconst 1 dX10_heirs_40 rfl ?_
    refine aw_istore_n 3 [(3, .int 1), (0, .ref v0), (1, .int v1), (2, .int v2)] dX10_heirs_41 rfl rfl rfl ?_
    refine aw_iconst 0 dX10_heirs_42 rfl ?_
    refine aw_istore [(4, .int 0), (3, .int 1), (0, .ref v0), (1, .int v1), (2, .int v2)] dX10_heirs_43 rfl rfl ?_
    refine aw_iconst (-1) dX10_heirs_45 rfl ?_
    refine aw_istore [(5, .int ((-1))), (4, .int 0), (3, .int 1), (0, .ref v0), (1, .int v1), (2, .int v2)] dX10_heirs_46 rfl rfl ?_
    refine aw_iconst 0 dX10_heirs_48 rfl ?_
    refine aw_istore [(6, .int 0), (5, .int ((-1))), (4, .int 0), (3, .int 1), (0, .ref v0), (1, .int v1), (2, .int v2)] dX10_heirs_49 rfl rfl ?_
    refine aw_iconst 0 dX10_heirs_51 rfl ?_
    refine aw_istore [(7, .int 0), (6, .int 0), (5, .int ((-1))), (4, .int 0), (3, .int 1), (0, .ref v0), (1, .int v1), (2, .int v2)] dX10_heirs_52 rfl rfl ?_
    refine aw_env [(0, .ref v0), (1, .int v1), (2, .int v2), (3, .int 1), (4, .int 0), (5, .int ((-1))), (6, .int 0), (7, .int 0)] [5, 6, 7, 4, 3, 2, 1, 0] rfl ?_
    exact L1_X10_heirs_54 N  N v0 v1 v2 1 0 ((-1)) 0 0 T2 h
  · refine aw_iconst 0 dX10_heirs_38 rfl ?_
    exact aw_iret dX10_heirs_39 rfl (Nat.le_refl _) (Nat.le_refl _) h
theorem L1_X10_heirs_25 {g : AxG} {l : Launch} {r9 : Int32} {S9 : AxS} (N : Nat)  (v0 : Nat) (v1 : Int32) (v2 : Int32) (w0 : Nat) (S : AxS) (h : F_X10_heirs_25 N  v0 v1 v2 w0 S = some ((r9, S9))) : AW g l (axRm (3) 0 0) mt_X10_heirs (axMQ g 0 0 (.inl (some (.int r9)), S9)) 0 0 S 25 [(0, .ref v0), (1, .int v1), (2, .int v2)] [.ref w0] := by
  unfold F_X10_heirs_25 at h
  refine aw_iconst 1 dX10_heirs_25 rfl ?_
  refine aw_goto 30 dX10_heirs_26 (by decide) ?_
  refine aw_env [(0, .ref v0), (1, .int v1), (2, .int v2)] [0, 1, 2] rfl ?_
  exact L1_X10_heirs_30 N  v0 v1 v2 1 w0 S h
theorem L1_X10_heirs {g : AxG} {l : Launch} (N : Nat) {v0 : Nat} {v1 : Int32} {v2 : Int32} {S : AxS} {r9 : Int32} {S9 : AxS} (h : F_X10_heirs N v0 v1 v2 S = some ((r9, S9))) : AxMet g l yX10_heirs cX10_heirs 12 (some .int) (3) 0 0 [.ref v0, .int v1, .int v2] S ((.inl (some (.int r9)), S9)) := by
  refine ax_met (own := RX10) (ini := false) (by decide +kernel) rfl (fun h => nomatch h) rfl ?_
  show AW g l (axRm (3) 0 0) mt_X10_heirs (axMQ g 0 0 (.inl (some (.int r9)), S9)) 0 0 S 0 [(0, .ref v0), (1, .int v1), (2, .int v2)] []
  unfold F_X10_heirs at h
  refine aw_aload_n 0 dX10_heirs_0 rfl rfl ?_
  refine aw_iconst 0 dX10_heirs_1 rfl ?_
  refine aw_putI axc10 0 rfl rfl wd_1285 rfl rfl rfl dX10_heirs_2 h (fun T1 h => ?_)
  refine aw_aload_n 0 dX10_heirs_5 rfl rfl ?_
  refine aw_iload_n 1 dX10_heirs_6 rfl rfl ?_
  refine aw_iconst 0 dX10_heirs_7 rfl ?_
  refine aw_bipush 9 dX10_heirs_8 (by decide) ?_
  refine aw_doneI (rest := [.ref v0]) h (fun r9 S9 hF => aw_runS (As := [.int v1, .int 0, .int 9]) (rest := [.ref v0]) (L1_X10_in N hF) wd_1448 wd_1446 wd_1447 wd_97 pd_X10_in.2 rfl (ax_rm (by omega) rfl) ax_hf0 (Nat.le_of_ble_eq_true rfl) rfl dX10_heirs_10) (fun x3 T2 h => ?_)
  refine aw_if_eq 25 dX10_heirs_13 (by decide) h (fun h => ?_) (fun h => ?_)
  · refine aw_env [(0, .ref v0), (1, .int v1), (2, .int v2)] [0, 1, 2] rfl ?_
    exact L1_X10_heirs_25 N  v0 v1 v2 v0 T2 h
  · refine aw_iload_n 2 dX10_heirs_16 rfl rfl ?_
    refine aw_iconst 0 dX10_heirs_17 rfl ?_
    refine aw_iconst 2 dX10_heirs_18 rfl ?_
    refine aw_doneI (rest := [.ref v0]) h (fun r9 S9 hF => aw_runS (As := [.int v2, .int 0, .int 2]) (rest := [.ref v0]) (L1_X10_in N hF) wd_1448 wd_1446 wd_1447 wd_97 pd_X10_in.2 rfl (ax_rm (by omega) rfl) ax_hf0 (Nat.le_of_ble_eq_true rfl) rfl dX10_heirs_19) (fun x5 T4 h => ?_)
    refine aw_if_ne 29 dX10_heirs_22 (by decide) h (fun h => ?_) (fun h => ?_)
    · refine aw_iconst 0 dX10_heirs_29 rfl ?_
      refine aw_env [(0, .ref v0), (1, .int v1), (2, .int v2)] [0, 1, 2] rfl ?_
      exact L1_X10_heirs_30 N  v0 v1 v2 0 v0 T4 h
    · refine aw_env [(0, .ref v0), (1, .int v1), (2, .int v2)] [0, 1, 2] rfl ?_
      exact L1_X10_heirs_25 N  v0 v1 v2 v0 T4 h

theorem dX10_level_0 : decode cX10_level 0 = .ok (.aload_n 0, 1) := by decide +kernel
theorem dX10_level_1 : decode cX10_level 1 = .ok (.iconst 0, 1) := by decide +kernel
theorem dX10_level_2 : decode cX10_level 2 = .ok (.putfield 104, 3) := by decide +kernel
theorem dX10_level_5 : decode cX10_level 5 = .ok (.aload_n 0, 1) := by decide +kernel
theorem dX10_level_6 : decode cX10_level 6 = .ok (.iload_n 1, 1) := by decide +kernel
theorem dX10_level_7 : decode cX10_level 7 = .ok (.iconst 0, 1) := by decide +kernel
theorem dX10_level_8 : decode cX10_level 8 = .ok (.sipush 200, 3) := by decide +kernel
theorem dX10_level_11 : decode cX10_level 11 = .ok (.invokestatic 138, 3) := by decide +kernel
theorem dX10_level_14 : decode cX10_level 14 = .ok (.ifCond .ne 7, 3) := by decide +kernel
theorem dX10_level_17 : decode cX10_level 17 = .ok (.iconst 1, 1) := by decide +kernel
theorem dX10_level_18 : decode cX10_level 18 = .ok (.goto 4, 3) := by decide +kernel
theorem dX10_level_21 : decode cX10_level 21 = .ok (.iconst 0, 1) := by decide +kernel
theorem dX10_level_22 : decode cX10_level 22 = .ok (.iconst 1, 1) := by decide +kernel
theorem dX10_level_23 : decode cX10_level 23 = .ok (.iconst 1, 1) := by decide +kernel
theorem dX10_level_24 : decode cX10_level 24 = .ok (.invokevirtual 193, 3) := by decide +kernel
theorem dX10_level_27 : decode cX10_level 27 = .ok (.ifCond .eq 5, 3) := by decide +kernel
theorem dX10_level_30 : decode cX10_level 30 = .ok (.iconst 0, 1) := by decide +kernel
theorem dX10_level_31 : decode cX10_level 31 = .ok (.ireturn, 1) := by decide +kernel
theorem dX10_level_32 : decode cX10_level 32 = .ok (.iconst 0, 1) := by decide +kernel
theorem dX10_level_33 : decode cX10_level 33 = .ok (.istore_n 2, 1) := by decide +kernel
theorem dX10_level_34 : decode cX10_level 34 = .ok (.iload_n 2, 1) := by decide +kernel
theorem dX10_level_35 : decode cX10_level 35 = .ok (.bipush 20, 2) := by decide +kernel
theorem dX10_level_37 : decode cX10_level 37 = .ok (.if_icmp .gt 54, 3) := by decide +kernel
theorem dX10_level_40 : decode cX10_level 40 = .ok (.iconst 0, 1) := by decide +kernel
theorem dX10_level_41 : decode cX10_level 41 = .ok (.istore_n 3, 1) := by decide +kernel
theorem dX10_level_42 : decode cX10_level 42 = .ok (.iconst 0, 1) := by decide +kernel
theorem dX10_level_43 : decode cX10_level 43 = .ok (.istore 4, 2) := by decide +kernel
theorem dX10_level_45 : decode cX10_level 45 = .ok (.iload 4, 2) := by decide +kernel
theorem dX10_level_47 : decode cX10_level 47 = .ok (.aload_n 0, 1) := by decide +kernel
theorem dX10_level_48 : decode cX10_level 48 = .ok (.getfield 23, 3) := by decide +kernel
theorem dX10_level_51 : decode cX10_level 51 = .ok (.iconst 0, 1) := by decide +kernel
theorem dX10_level_52 : decode cX10_level 52 = .ok (.iaload, 1) := by decide +kernel
theorem dX10_level_53 : decode cX10_level 53 = .ok (.if_icmp .ge 25, 3) := by decide +kernel
theorem dX10_level_56 : decode cX10_level 56 = .ok (.iload_n 3, 1) := by decide +kernel
theorem dX10_level_57 : decode cX10_level 57 = .ok (.iload_n 2, 1) := by decide +kernel
theorem dX10_level_58 : decode cX10_level 58 = .ok (.aload_n 0, 1) := by decide +kernel
theorem dX10_level_59 : decode cX10_level 59 = .ok (.getfield 37, 3) := by decide +kernel
theorem dX10_level_62 : decode cX10_level 62 = .ok (.iconst 0, 1) := by decide +kernel
theorem dX10_level_63 : decode cX10_level 63 = .ok (.aaload, 1) := by decide +kernel
theorem dX10_level_64 : decode cX10_level 64 = .ok (.iload 4, 2) := by decide +kernel
theorem dX10_level_66 : decode cX10_level 66 = .ok (.iaload, 1) := by decide +kernel
theorem dX10_level_67 : decode cX10_level 67 = .ok (.invokestatic 172, 3) := by decide +kernel
theorem dX10_level_70 : decode cX10_level 70 = .ok (.iadd, 1) := by decide +kernel
theorem dX10_level_71 : decode cX10_level 71 = .ok (.istore_n 3, 1) := by decide +kernel
theorem dX10_level_72 : decode cX10_level 72 = .ok (.iinc 4 1, 3) := by decide +kernel
theorem dX10_level_75 : decode cX10_level 75 = .ok (.goto (-30), 3) := by decide +kernel
theorem dX10_level_78 : decode cX10_level 78 = .ok (.iload_n 3, 1) := by decide +kernel
theorem dX10_level_79 : decode cX10_level 79 = .ok (.iload_n 1, 1) := by decide +kernel
theorem dX10_level_80 : decode cX10_level 80 = .ok (.if_icmp .lt 5, 3) := by decide +kernel
theorem dX10_level_83 : decode cX10_level 83 = .ok (.iload_n 2, 1) := by decide +kernel
theorem dX10_level_84 : decode cX10_level 84 = .ok (.ireturn, 1) := by decide +kernel
theorem dX10_level_85 : decode cX10_level 85 = .ok (.iinc 2 1, 3) := by decide +kernel
theorem dX10_level_88 : decode cX10_level 88 = .ok (.goto (-54), 3) := by decide +kernel
theorem dX10_level_91 : decode cX10_level 91 = .ok (.iconst (-1), 1) := by decide +kernel
theorem dX10_level_92 : decode cX10_level 92 = .ok (.ireturn, 1) := by decide +kernel
abbrev mt_X10_level : AxM := (RX10, cX10_level, 5, (some .int), false, [])
theorem L1_X10_level_45b {g : AxG} {l : Launch} {r9 : Int32} {S9 : AxS} (N : Nat) (K34 : Nat → Int32 → Int32 → AxS → Option (Int32 × AxS)) (hK34 : ∀ (v0 : Nat) (v1 : Int32) (v2 : Int32) (S : AxS), K34 v0 v1 v2 S = some ((r9, S9)) → AW g l (axRm (1) 0 0) mt_X10_level (axMQ g 0 0 (.inl (some (.int r9)), S9)) 0 0 S 34 [(0, .ref v0), (1, .int v1), (2, .int v2)] []) (K45 : Nat → Int32 → Int32 → Int32 → Int32 → AxS → Option (Int32 × AxS)) (hK45 : ∀ (v0 : Nat) (v1 : Int32) (v2 : Int32) (v3 : Int32) (v4 : Int32) (S : AxS), K45 v0 v1 v2 v3 v4 S = some ((r9, S9)) → AW g l (axRm (1) 0 0) mt_X10_level (axMQ g 0 0 (.inl (some (.int r9)), S9)) 0 0 S 45 [(0, .ref v0), (1, .int v1), (2, .int v2), (3, .int v3), (4, .int v4)] []) (v0 : Nat) (v1 : Int32) (v2 : Int32) (v3 : Int32) (v4 : Int32) (S : AxS) (h : F_X10_level_45b N K34 K45 v0 v1 v2 v3 v4 S = some ((r9, S9))) : AW g l (axRm (1) 0 0) mt_X10_level (axMQ g 0 0 (.inl (some (.int r9)), S9)) 0 0 S 45 [(0, .ref v0), (1, .int v1), (2, .int v2), (3, .int v3), (4, .int v4)] [] := by
  unfold F_X10_level_45b at h
  refine aw_iload 4 dX10_level_45 rfl ?_
  refine aw_aload_n 0 dX10_level_47 rfl rfl ?_
  refine aw_getR axc10 12 rfl rfl wd_1297 dX10_level_48 h (fun a1 h => ?_)
  refine aw_iconst 0 dX10_level_51 rfl ?_
  refine aw_iald dX10_level_52 h (fun x2 h => ?_)
  refine aw_icmp_ge 78 dX10_level_53 (by decide) h (fun h => ?_) (fun h => ?_)
  · refine aw_iload_n 3 dX10_level_78 rfl rfl ?_
    refine aw_iload_n 1 dX10_level_79 rfl rfl ?_
    refine aw_icmp_lt 85 dX10_level_80 (by decide) h (fun h => ?_) (fun h => ?_)
    · refine aw_iinc 2 [(2, .int (v2 + 1)), (0, .ref v0), (1, .int v1), (3, .int v3), (4, .int v4)] (v2 + 1) dX10_level_85 rfl rfl rfl rfl ?_
      refine aw_goto 34 dX10_level_88 (by decide) ?_
      refine aw_env [(0, .ref v0), (1, .int v1), (2, .int (v2 + 1))] [1, 2, 0] rfl ?_
      exact hK34 v0 v1 (v2 + 1) S h
    · refine aw_iload_n 2 dX10_level_83 rfl rfl ?_
      exact aw_iret dX10_level_84 rfl (Nat.le_refl _) (Nat.le_refl _) h
  · refine aw_iload_n 3 dX10_level_56 rfl rfl ?_
    refine aw_iload_n 2 dX10_level_57 rfl rfl ?_
    refine aw_aload_n 0 dX10_level_58 rfl rfl ?_
    refine aw_getR axc10 16 rfl rfl wd_1301 dX10_level_59 h (fun a3 h => ?_)
    refine aw_iconst 0 dX10_level_62 rfl ?_
    refine aw_aald dX10_level_63 h (fun a4 h => ?_)
    refine aw_iload 4 dX10_level_64 rfl ?_
    refine aw_iald dX10_level_66 h (fun x5 h => ?_)
    refine aw_doneI (rest := [.int v3]) h (fun r9 S9 hF => aw_runS (As := [.int v2, .int x5]) (rest := [.int v3]) (L1_X10_less N hF) wd_1500 wd_1498 wd_1499 wd_97 pd_X10_less.2 rfl (ax_rm (by omega) rfl) ax_hf0 (Nat.le_of_ble_eq_true rfl) rfl dX10_level_67) (fun x7 T6 h => ?_)
    refine aw_iadd dX10_level_70 ?_
    refine aw_istore_n 3 [(3, .int (v3 + x7)), (0, .ref v0), (1, .int v1), (2, .int v2), (4, .int v4)] dX10_level_71 rfl rfl rfl ?_
    refine aw_iinc 4 [(4, .int (v4 + 1)), (3, .int (v3 + x7)), (0, .ref v0), (1, .int v1), (2, .int v2)] (v4 + 1) dX10_level_72 rfl rfl rfl rfl ?_
    refine aw_goto 45 dX10_level_75 (by decide) ?_
    refine aw_env [(0, .ref v0), (1, .int v1), (2, .int v2), (3, .int (v3 + x7)), (4, .int (v4 + 1))] [2, 3, 4, 1, 0] rfl ?_
    exact hK45 v0 v1 v2 (v3 + x7) (v4 + 1) T6 h
theorem L1_X10_level_45 {g : AxG} {l : Launch} {r9 : Int32} {S9 : AxS} (N : Nat) (K34 : Nat → Int32 → Int32 → AxS → Option (Int32 × AxS)) (hK34 : ∀ (v0 : Nat) (v1 : Int32) (v2 : Int32) (S : AxS), K34 v0 v1 v2 S = some ((r9, S9)) → AW g l (axRm (1) 0 0) mt_X10_level (axMQ g 0 0 (.inl (some (.int r9)), S9)) 0 0 S 34 [(0, .ref v0), (1, .int v1), (2, .int v2)] []) : ∀ (n : Nat) (v0 : Nat) (v1 : Int32) (v2 : Int32) (v3 : Int32) (v4 : Int32) (S : AxS), F_X10_level_45 N K34 n v0 v1 v2 v3 v4 S = some ((r9, S9)) → AW g l (axRm (1) 0 0) mt_X10_level (axMQ g 0 0 (.inl (some (.int r9)), S9)) 0 0 S 45 [(0, .ref v0), (1, .int v1), (2, .int v2), (3, .int v3), (4, .int v4)] [] := by
  intro n
  induction n with
  | zero => intro v0 v1 v2 v3 v4 S h; cases h
  | succ n ih => intro v0 v1 v2 v3 v4 S h; exact L1_X10_level_45b N K34 hK34 (F_X10_level_45 N K34 n) ih v0 v1 v2 v3 v4 S h
theorem L1_X10_level_34b {g : AxG} {l : Launch} {r9 : Int32} {S9 : AxS} (N : Nat) (K34 : Nat → Int32 → Int32 → AxS → Option (Int32 × AxS)) (hK34 : ∀ (v0 : Nat) (v1 : Int32) (v2 : Int32) (S : AxS), K34 v0 v1 v2 S = some ((r9, S9)) → AW g l (axRm (1) 0 0) mt_X10_level (axMQ g 0 0 (.inl (some (.int r9)), S9)) 0 0 S 34 [(0, .ref v0), (1, .int v1), (2, .int v2)] []) (v0 : Nat) (v1 : Int32) (v2 : Int32) (S : AxS) (h : F_X10_level_34b N K34 v0 v1 v2 S = some ((r9, S9))) : AW g l (axRm (1) 0 0) mt_X10_level (axMQ g 0 0 (.inl (some (.int r9)), S9)) 0 0 S 34 [(0, .ref v0), (1, .int v1), (2, .int v2)] [] := by
  unfold F_X10_level_34b at h
  refine aw_iload_n 2 dX10_level_34 rfl rfl ?_
  refine aw_bipush 20 dX10_level_35 (by decide) ?_
  refine aw_icmp_gt 91 dX10_level_37 (by decide) h (fun h => ?_) (fun h => ?_)
  · refine aw_iconst (-1) dX10_level_91 rfl ?_
    exact aw_iret dX10_level_92 rfl (Nat.le_refl _) (Nat.le_refl _) h
  · refine aw_iconst 0 dX10_level_40 rfl ?_
    refine aw_istore_n 3 [(3, .int 0), (0, .ref v0), (1, .int v1), (2, .int v2)] dX10_level_41 rfl rfl rfl ?_
    refine aw_iconst 0 dX10_level_42 rfl ?_
    refine aw_istore [(4, .int 0), (3, .int 0), (0, .ref v0), (1, .int v1), (2, .int v2)] dX10_level_43 rfl rfl ?_
    refine aw_env [(0, .ref v0), (1, .int v1), (2, .int v2), (3, .int 0), (4, .int 0)] [2, 3, 4, 1, 0] rfl ?_
    exact L1_X10_level_45 N K34 hK34 N v0 v1 v2 0 0 S h
theorem L1_X10_level_34 {g : AxG} {l : Launch} {r9 : Int32} {S9 : AxS} (N : Nat)  : ∀ (n : Nat) (v0 : Nat) (v1 : Int32) (v2 : Int32) (S : AxS), F_X10_level_34 N  n v0 v1 v2 S = some ((r9, S9)) → AW g l (axRm (1) 0 0) mt_X10_level (axMQ g 0 0 (.inl (some (.int r9)), S9)) 0 0 S 34 [(0, .ref v0), (1, .int v1), (2, .int v2)] [] := by
  intro n
  induction n with
  | zero => intro v0 v1 v2 S h; cases h
  | succ n ih => intro v0 v1 v2 S h; exact L1_X10_level_34b N (F_X10_level_34 N  n) ih v0 v1 v2 S h
theorem L1_X10_level_22 {g : AxG} {l : Launch} {r9 : Int32} {S9 : AxS} (N : Nat)  (v0 : Nat) (v1 : Int32) (w0 : Int32) (w1 : Nat) (S : AxS) (h : F_X10_level_22 N  v0 v1 w0 w1 S = some ((r9, S9))) : AW g l (axRm (1) 0 0) mt_X10_level (axMQ g 0 0 (.inl (some (.int r9)), S9)) 0 0 S 22 [(0, .ref v0), (1, .int v1)] [.int w0, .ref w1] := by
  unfold F_X10_level_22 at h
  refine aw_iconst 1 dX10_level_22 rfl ?_
  refine aw_iconst 1 dX10_level_23 rfl ?_
  obtain ⟨hL1, h⟩ := ax_is_spec h
  refine aw_doneI (rest := []) h (fun r9 S9 hF => aw_runV (As := [.int w0, .int 1, .int 1]) (rest := []) (L1_X10_bad N hF) axc10 hL1 wd_1452 wd_1449 wd_1451 wd_38 wd_97 pd_X10_bad rfl (ax_rm (by omega) rfl) ax_hf0 (Nat.le_of_ble_eq_true rfl) rfl dX10_level_24) (fun x3 T2 h => ?_)
  refine aw_if_eq 32 dX10_level_27 (by decide) h (fun h => ?_) (fun h => ?_)
  · refine aw_iconst 0 dX10_level_32 rfl ?_
    refine aw_istore_n 2 [(2, .int 0), (0, .ref v0), (1, .int v1)] dX10_level_33 rfl rfl rfl ?_
    refine aw_env [(0, .ref v0), (1, .int v1), (2, .int 0)] [1, 2, 0] rfl ?_
    exact L1_X10_level_34 N  N v0 v1 0 T2 h
  · refine aw_iconst 0 dX10_level_30 rfl ?_
    exact aw_iret dX10_level_31 rfl (Nat.le_refl _) (Nat.le_refl _) h
theorem L1_X10_level {g : AxG} {l : Launch} (N : Nat) {v0 : Nat} {v1 : Int32} {S : AxS} {r9 : Int32} {S9 : AxS} (h : F_X10_level N v0 v1 S = some ((r9, S9))) : AxMet g l yX10_level cX10_level 5 (some .int) (1) 0 0 [.ref v0, .int v1] S ((.inl (some (.int r9)), S9)) := by
  refine ax_met (own := RX10) (ini := false) (by decide +kernel) rfl (fun h => nomatch h) rfl ?_
  show AW g l (axRm (1) 0 0) mt_X10_level (axMQ g 0 0 (.inl (some (.int r9)), S9)) 0 0 S 0 [(0, .ref v0), (1, .int v1)] []
  unfold F_X10_level at h
  refine aw_aload_n 0 dX10_level_0 rfl rfl ?_
  refine aw_iconst 0 dX10_level_1 rfl ?_
  refine aw_putI axc10 0 rfl rfl wd_1285 rfl rfl rfl dX10_level_2 h (fun T1 h => ?_)
  refine aw_aload_n 0 dX10_level_5 rfl rfl ?_
  refine aw_iload_n 1 dX10_level_6 rfl rfl ?_
  refine aw_iconst 0 dX10_level_7 rfl ?_
  refine aw_sipush 200 dX10_level_8 (by decide) ?_
  refine aw_doneI (rest := [.ref v0]) h (fun r9 S9 hF => aw_runS (As := [.int v1, .int 0, .int 200]) (rest := [.ref v0]) (L1_X10_in N hF) wd_1448 wd_1446 wd_1447 wd_97 pd_X10_in.2 rfl (ax_rm (by omega) rfl) ax_hf0 (Nat.le_of_ble_eq_true rfl) rfl dX10_level_11) (fun x3 T2 h => ?_)
  refine aw_if_ne 21 dX10_level_14 (by decide) h (fun h => ?_) (fun h => ?_)
  · refine aw_iconst 0 dX10_level_21 rfl ?_
    refine aw_env [(0, .ref v0), (1, .int v1)] [0, 1] rfl ?_
    exact L1_X10_level_22 N  v0 v1 0 v0 T2 h
  · refine aw_iconst 1 dX10_level_17 rfl ?_
    refine aw_goto 22 dX10_level_18 (by decide) ?_
    refine aw_env [(0, .ref v0), (1, .int v1)] [0, 1] rfl ?_
    exact L1_X10_level_22 N  v0 v1 1 v0 T2 h

theorem dX10_draw_0 : decode cX10_draw 0 = .ok (.aload_n 0, 1) := by decide +kernel
theorem dX10_draw_1 : decode cX10_draw 1 = .ok (.aload_n 0, 1) := by decide +kernel
theorem dX10_draw_2 : decode cX10_draw 2 = .ok (.getfield 377, 3) := by decide +kernel
theorem dX10_draw_5 : decode cX10_draw 5 = .ok (.ldc_w 380, 3) := by decide +kernel
theorem dX10_draw_8 : decode cX10_draw 8 = .ok (.imul, 1) := by decide +kernel
theorem dX10_draw_9 : decode cX10_draw 9 = .ok (.sipush 12345, 3) := by decide +kernel
theorem dX10_draw_12 : decode cX10_draw 12 = .ok (.iadd, 1) := by decide +kernel
theorem dX10_draw_13 : decode cX10_draw 13 = .ok (.putfield 377, 3) := by decide +kernel
theorem dX10_draw_16 : decode cX10_draw 16 = .ok (.aload_n 0, 1) := by decide +kernel
theorem dX10_draw_17 : decode cX10_draw 17 = .ok (.getfield 377, 3) := by decide +kernel
theorem dX10_draw_20 : decode cX10_draw 20 = .ok (.bipush 16, 2) := by decide +kernel
theorem dX10_draw_22 : decode cX10_draw 22 = .ok (.ishr, 1) := by decide +kernel
theorem dX10_draw_23 : decode cX10_draw 23 = .ok (.bipush 15, 2) := by decide +kernel
theorem dX10_draw_25 : decode cX10_draw 25 = .ok (.iand, 1) := by decide +kernel
theorem dX10_draw_26 : decode cX10_draw 26 = .ok (.ireturn, 1) := by decide +kernel
abbrev mt_X10_draw : AxM := (RX10, cX10_draw, 1, (some .int), false, [])
theorem L1_X10_draw {g : AxG} {l : Launch} (N : Nat) {v0 : Nat} {S : AxS} {r9 : Int32} {S9 : AxS} (h : F_X10_draw N v0 S = some ((r9, S9))) : AxMet g l yX10_draw cX10_draw 1 (some .int) (0) 0 0 [.ref v0] S ((.inl (some (.int r9)), S9)) := by
  refine ax_met (own := RX10) (ini := false) (by decide +kernel) rfl (fun h => nomatch h) rfl ?_
  show AW g l (axRm (0) 0 0) mt_X10_draw (axMQ g 0 0 (.inl (some (.int r9)), S9)) 0 0 S 0 [(0, .ref v0)] []
  unfold F_X10_draw at h
  refine aw_aload_n 0 dX10_draw_0 rfl rfl ?_
  refine aw_aload_n 0 dX10_draw_1 rfl rfl ?_
  refine aw_getI axc10 47 rfl rfl wd_1332 dX10_draw_2 h (fun x1 h => ?_)
  refine aw_ldcwI wd_1810 dX10_draw_5 ?_
  refine aw_imul dX10_draw_8 ?_
  refine aw_sipush 12345 dX10_draw_9 (by decide) ?_
  refine aw_iadd dX10_draw_12 ?_
  refine aw_putI axc10 47 rfl rfl wd_1332 rfl rfl rfl dX10_draw_13 h (fun T2 h => ?_)
  refine aw_aload_n 0 dX10_draw_16 rfl rfl ?_
  refine aw_getI axc10 47 rfl rfl wd_1332 dX10_draw_17 h (fun x3 h => ?_)
  refine aw_bipush 16 dX10_draw_20 (by decide) ?_
  refine aw_ishr dX10_draw_22 ?_
  refine aw_bipush 15 dX10_draw_23 (by decide) ?_
  refine aw_iand dX10_draw_25 ?_
  exact aw_iret dX10_draw_26 rfl (Nat.le_refl _) (Nat.le_refl _) h

theorem dX10_yearsBy_0 : decode cX10_yearsBy 0 = .ok (.aload_n 0, 1) := by decide +kernel
theorem dX10_yearsBy_1 : decode cX10_yearsBy 1 = .ok (.getfield 61, 3) := by decide +kernel
theorem dX10_yearsBy_4 : decode cX10_yearsBy 4 = .ok (.aload_n 0, 1) := by decide +kernel
theorem dX10_yearsBy_5 : decode cX10_yearsBy 5 = .ok (.getfield 64, 3) := by decide +kernel
theorem dX10_yearsBy_8 : decode cX10_yearsBy 8 = .ok (.invokestatic 322, 3) := by decide +kernel
theorem dX10_yearsBy_11 : decode cX10_yearsBy 11 = .ok (.aload_n 0, 1) := by decide +kernel
theorem dX10_yearsBy_12 : decode cX10_yearsBy 12 = .ok (.iload_n 1, 1) := by decide +kernel
theorem dX10_yearsBy_13 : decode cX10_yearsBy 13 = .ok (.putfield 377, 3) := by decide +kernel
theorem dX10_yearsBy_16 : decode cX10_yearsBy 16 = .ok (.aload_n 0, 1) := by decide +kernel
theorem dX10_yearsBy_17 : decode cX10_yearsBy 17 = .ok (.iconst 0, 1) := by decide +kernel
theorem dX10_yearsBy_18 : decode cX10_yearsBy 18 = .ok (.putfield 381, 3) := by decide +kernel
theorem dX10_yearsBy_21 : decode cX10_yearsBy 21 = .ok (.iconst 0, 1) := by decide +kernel
theorem dX10_yearsBy_22 : decode cX10_yearsBy 22 = .ok (.istore 6, 2) := by decide +kernel
theorem dX10_yearsBy_24 : decode cX10_yearsBy 24 = .ok (.iload 6, 2) := by decide +kernel
theorem dX10_yearsBy_26 : decode cX10_yearsBy 26 = .ok (.iload_n 2, 1) := by decide +kernel
theorem dX10_yearsBy_27 : decode cX10_yearsBy 27 = .ok (.if_icmp .ge 133, 3) := by decide +kernel
theorem dX10_yearsBy_30 : decode cX10_yearsBy 30 = .ok (.aload_n 0, 1) := by decide +kernel
theorem dX10_yearsBy_31 : decode cX10_yearsBy 31 = .ok (.getfield 64, 3) := by decide +kernel
theorem dX10_yearsBy_34 : decode cX10_yearsBy 34 = .ok (.bipush 12, 2) := by decide +kernel
theorem dX10_yearsBy_36 : decode cX10_yearsBy 36 = .ok (.aload_n 0, 1) := by decide +kernel
theorem dX10_yearsBy_37 : decode cX10_yearsBy 37 = .ok (.invokevirtual 384, 3) := by decide +kernel
theorem dX10_yearsBy_40 : decode cX10_yearsBy 40 = .ok (.iload_n 3, 1) := by decide +kernel
theorem dX10_yearsBy_41 : decode cX10_yearsBy 41 = .ok (.if_icmp .ge 7, 3) := by decide +kernel
theorem dX10_yearsBy_44 : decode cX10_yearsBy 44 = .ok (.iconst 1, 1) := by decide +kernel
theorem dX10_yearsBy_45 : decode cX10_yearsBy 45 = .ok (.goto 4, 3) := by decide +kernel
theorem dX10_yearsBy_48 : decode cX10_yearsBy 48 = .ok (.iconst 0, 1) := by decide +kernel
theorem dX10_yearsBy_49 : decode cX10_yearsBy 49 = .ok (.iastore, 1) := by decide +kernel
theorem dX10_yearsBy_50 : decode cX10_yearsBy 50 = .ok (.aload_n 0, 1) := by decide +kernel
theorem dX10_yearsBy_51 : decode cX10_yearsBy 51 = .ok (.dup, 1) := by decide +kernel
theorem dX10_yearsBy_52 : decode cX10_yearsBy 52 = .ok (.getfield 381, 3) := by decide +kernel
theorem dX10_yearsBy_55 : decode cX10_yearsBy 55 = .ok (.aload_n 0, 1) := by decide +kernel
theorem dX10_yearsBy_56 : decode cX10_yearsBy 56 = .ok (.getfield 64, 3) := by decide +kernel
theorem dX10_yearsBy_59 : decode cX10_yearsBy 59 = .ok (.bipush 12, 2) := by decide +kernel
theorem dX10_yearsBy_61 : decode cX10_yearsBy 61 = .ok (.iaload, 1) := by decide +kernel
theorem dX10_yearsBy_62 : decode cX10_yearsBy 62 = .ok (.iadd, 1) := by decide +kernel
theorem dX10_yearsBy_63 : decode cX10_yearsBy 63 = .ok (.putfield 381, 3) := by decide +kernel
theorem dX10_yearsBy_66 : decode cX10_yearsBy 66 = .ok (.aload_n 0, 1) := by decide +kernel
theorem dX10_yearsBy_67 : decode cX10_yearsBy 67 = .ok (.invokevirtual 384, 3) := by decide +kernel
theorem dX10_yearsBy_70 : decode cX10_yearsBy 70 = .ok (.iload 4, 2) := by decide +kernel
theorem dX10_yearsBy_72 : decode cX10_yearsBy 72 = .ok (.if_icmp .ge 7, 3) := by decide +kernel
theorem dX10_yearsBy_75 : decode cX10_yearsBy 75 = .ok (.iconst 1, 1) := by decide +kernel
theorem dX10_yearsBy_76 : decode cX10_yearsBy 76 = .ok (.goto 4, 3) := by decide +kernel
theorem dX10_yearsBy_79 : decode cX10_yearsBy 79 = .ok (.iconst 0, 1) := by decide +kernel
theorem dX10_yearsBy_80 : decode cX10_yearsBy 80 = .ok (.istore 7, 2) := by decide +kernel
theorem dX10_yearsBy_82 : decode cX10_yearsBy 82 = .ok (.iconst 0, 1) := by decide +kernel
theorem dX10_yearsBy_83 : decode cX10_yearsBy 83 = .ok (.istore 8, 2) := by decide +kernel
theorem dX10_yearsBy_85 : decode cX10_yearsBy 85 = .ok (.iload 8, 2) := by decide +kernel
theorem dX10_yearsBy_87 : decode cX10_yearsBy 87 = .ok (.aload_n 0, 1) := by decide +kernel
theorem dX10_yearsBy_88 : decode cX10_yearsBy 88 = .ok (.getfield 23, 3) := by decide +kernel
theorem dX10_yearsBy_91 : decode cX10_yearsBy 91 = .ok (.iconst 0, 1) := by decide +kernel
theorem dX10_yearsBy_92 : decode cX10_yearsBy 92 = .ok (.iaload, 1) := by decide +kernel
theorem dX10_yearsBy_93 : decode cX10_yearsBy 93 = .ok (.if_icmp .ge 25, 3) := by decide +kernel
theorem dX10_yearsBy_96 : decode cX10_yearsBy 96 = .ok (.iload 7, 2) := by decide +kernel
theorem dX10_yearsBy_98 : decode cX10_yearsBy 98 = .ok (.ifCond .ne 20, 3) := by decide +kernel
theorem dX10_yearsBy_101 : decode cX10_yearsBy 101 = .ok (.aload_n 0, 1) := by decide +kernel
theorem dX10_yearsBy_102 : decode cX10_yearsBy 102 = .ok (.aload_n 0, 1) := by decide +kernel
theorem dX10_yearsBy_103 : decode cX10_yearsBy 103 = .ok (.getfield 64, 3) := by decide +kernel
theorem dX10_yearsBy_106 : decode cX10_yearsBy 106 = .ok (.iload 8, 2) := by decide +kernel
theorem dX10_yearsBy_108 : decode cX10_yearsBy 108 = .ok (.invokevirtual 302, 3) := by decide +kernel
theorem dX10_yearsBy_111 : decode cX10_yearsBy 111 = .ok (.pop, 1) := by decide +kernel
theorem dX10_yearsBy_112 : decode cX10_yearsBy 112 = .ok (.iinc 8 1, 3) := by decide +kernel
theorem dX10_yearsBy_115 : decode cX10_yearsBy 115 = .ok (.goto (-30), 3) := by decide +kernel
theorem dX10_yearsBy_118 : decode cX10_yearsBy 118 = .ok (.aload_n 0, 1) := by decide +kernel
theorem dX10_yearsBy_119 : decode cX10_yearsBy 119 = .ok (.getfield 64, 3) := by decide +kernel
theorem dX10_yearsBy_122 : decode cX10_yearsBy 122 = .ok (.iload 5, 2) := by decide +kernel
theorem dX10_yearsBy_124 : decode cX10_yearsBy 124 = .ok (.aload_n 0, 1) := by decide +kernel
theorem dX10_yearsBy_125 : decode cX10_yearsBy 125 = .ok (.getfield 64, 3) := by decide +kernel
theorem dX10_yearsBy_128 : decode cX10_yearsBy 128 = .ok (.iconst 1, 1) := by decide +kernel
theorem dX10_yearsBy_129 : decode cX10_yearsBy 129 = .ok (.iaload, 1) := by decide +kernel
theorem dX10_yearsBy_130 : decode cX10_yearsBy 130 = .ok (.aload_n 0, 1) := by decide +kernel
theorem dX10_yearsBy_131 : decode cX10_yearsBy 131 = .ok (.getfield 64, 3) := by decide +kernel
theorem dX10_yearsBy_134 : decode cX10_yearsBy 134 = .ok (.iconst 0, 1) := by decide +kernel
theorem dX10_yearsBy_135 : decode cX10_yearsBy 135 = .ok (.iaload, 1) := by decide +kernel
theorem dX10_yearsBy_136 : decode cX10_yearsBy 136 = .ok (.invokestatic 172, 3) := by decide +kernel
theorem dX10_yearsBy_139 : decode cX10_yearsBy 139 = .ok (.invokestatic 172, 3) := by decide +kernel
theorem dX10_yearsBy_142 : decode cX10_yearsBy 142 = .ok (.invokestatic 298, 3) := by decide +kernel
theorem dX10_yearsBy_145 : decode cX10_yearsBy 145 = .ok (.pop, 1) := by decide +kernel
theorem dX10_yearsBy_146 : decode cX10_yearsBy 146 = .ok (.aload_n 0, 1) := by decide +kernel
theorem dX10_yearsBy_147 : decode cX10_yearsBy 147 = .ok (.aload_n 0, 1) := by decide +kernel
theorem dX10_yearsBy_148 : decode cX10_yearsBy 148 = .ok (.getfield 64, 3) := by decide +kernel
theorem dX10_yearsBy_151 : decode cX10_yearsBy 151 = .ok (.invokevirtual 305, 3) := by decide +kernel
theorem dX10_yearsBy_154 : decode cX10_yearsBy 154 = .ok (.iinc 6 1, 3) := by decide +kernel
theorem dX10_yearsBy_157 : decode cX10_yearsBy 157 = .ok (.goto (-133), 3) := by decide +kernel
theorem dX10_yearsBy_160 : decode cX10_yearsBy 160 = .ok (.return_, 1) := by decide +kernel
abbrev mt_X10_yearsBy : AxM := (RX10, cX10_yearsBy, 9, none, false, [])
theorem L1_X10_yearsBy_118 {g : AxG} {l : Launch} {S9 : AxS} (N : Nat) (K24 : Nat → Int32 → Int32 → Int32 → Int32 → Int32 → AxS → Option (AxS)) (hK24 : ∀ (v0 : Nat) (v2 : Int32) (v3 : Int32) (v4 : Int32) (v5 : Int32) (v6 : Int32) (S : AxS), K24 v0 v2 v3 v4 v5 v6 S = some S9 → AW g l (axRm (5) 0 0) mt_X10_yearsBy (axMQ g 0 0 (.inl none, S9)) 0 0 S 24 [(0, .ref v0), (2, .int v2), (3, .int v3), (4, .int v4), (5, .int v5), (6, .int v6)] []) (v0 : Nat) (v2 : Int32) (v3 : Int32) (v4 : Int32) (v5 : Int32) (v6 : Int32) (S : AxS) (h : F_X10_yearsBy_118 N K24 v0 v2 v3 v4 v5 v6 S = some S9) : AW g l (axRm (5) 0 0) mt_X10_yearsBy (axMQ g 0 0 (.inl none, S9)) 0 0 S 118 [(0, .ref v0), (2, .int v2), (3, .int v3), (4, .int v4), (5, .int v5), (6, .int v6)] [] := by
  unfold F_X10_yearsBy_118 at h
  refine aw_aload_n 0 dX10_yearsBy_118 rfl rfl ?_
  refine aw_getR axc10 28 rfl rfl wd_1313 dX10_yearsBy_119 h (fun a1 h => ?_)
  refine aw_iload 4 dX10_yearsBy_122 rfl ?_
  refine aw_aload_n 0 dX10_yearsBy_124 rfl rfl ?_
  refine aw_getR axc10 28 rfl rfl wd_1313 dX10_yearsBy_125 h (fun a2 h => ?_)
  refine aw_iconst 1 dX10_yearsBy_128 rfl ?_
  refine aw_iald dX10_yearsBy_129 h (fun x3 h => ?_)
  refine aw_aload_n 0 dX10_yearsBy_130 rfl rfl ?_
  refine aw_getR axc10 28 rfl rfl wd_1313 dX10_yearsBy_131 h (fun a4 h => ?_)
  refine aw_iconst 0 dX10_yearsBy_134 rfl ?_
  refine aw_iald dX10_yearsBy_135 h (fun x5 h => ?_)
  refine aw_doneI (rest := [.int v5, .ref a1]) h (fun r9 S9 hF => aw_runS (As := [.int x3, .int x5]) (rest := [.int v5, .ref a1]) (L1_X10_less N hF) wd_1500 wd_1498 wd_1499 wd_97 pd_X10_less.2 rfl (ax_rm (by omega) rfl) ax_hf0 (Nat.le_of_ble_eq_true rfl) rfl dX10_yearsBy_136) (fun x7 T6 h => ?_)
  refine aw_doneI (rest := [.ref a1]) h (fun r9 S9 hF => aw_runS (As := [.int v5, .int x7]) (rest := [.ref a1]) (L1_X10_less N hF) wd_1500 wd_1498 wd_1499 wd_97 pd_X10_less.2 rfl (ax_rm (by omega) rfl) ax_hf0 (Nat.le_of_ble_eq_true rfl) rfl dX10_yearsBy_139) (fun x9 T8 h => ?_)
  refine aw_doneI (rest := []) h (fun r9 S9 hF => aw_runS (As := [.ref a1, .int x9]) (rest := []) (L1_X10_pays N hF) wd_1593 wd_1591 wd_1592 wd_97 pd_X10_pays.2 rfl (ax_rm (by omega) rfl) ax_hf0 (Nat.le_of_ble_eq_true rfl) rfl dX10_yearsBy_142) (fun x11 T10 h => ?_)
  refine aw_pop rfl dX10_yearsBy_145 ?_
  refine aw_aload_n 0 dX10_yearsBy_146 rfl rfl ?_
  refine aw_aload_n 0 dX10_yearsBy_147 rfl rfl ?_
  refine aw_getR axc10 28 rfl rfl wd_1313 dX10_yearsBy_148 h (fun a12 h => ?_)
  obtain ⟨hL13, h⟩ := ax_is_spec h
  refine aw_doneV (rest := []) h (fun S9 hF => aw_runV (As := [.ref a12]) (rest := []) (L1_X10_nightEnds N hF) axc10 hL13 wd_1604 wd_1601 wd_1603 wd_65 wd_97 pd_X10_nightEnds rfl (ax_rm (by omega) rfl) ax_hf0 (Nat.le_of_ble_eq_true rfl) rfl dX10_yearsBy_151) (fun T14 h => ?_)
  refine aw_iinc 5 [(6, .int (v6 + 1)), (0, .ref v0), (2, .int v2), (3, .int v3), (4, .int v4), (5, .int v5)] (v6 + 1) dX10_yearsBy_154 rfl rfl rfl rfl ?_
  refine aw_goto 24 dX10_yearsBy_157 (by decide) ?_
  refine aw_env [(0, .ref v0), (2, .int v2), (3, .int v3), (4, .int v4), (5, .int v5), (6, .int (v6 + 1))] [1, 2, 3, 4, 5, 0] rfl ?_
  exact hK24 v0 v2 v3 v4 v5 (v6 + 1) T14 h
theorem L1_X10_yearsBy_85b {g : AxG} {l : Launch} {S9 : AxS} (N : Nat) (K24 : Nat → Int32 → Int32 → Int32 → Int32 → Int32 → AxS → Option (AxS)) (hK24 : ∀ (v0 : Nat) (v2 : Int32) (v3 : Int32) (v4 : Int32) (v5 : Int32) (v6 : Int32) (S : AxS), K24 v0 v2 v3 v4 v5 v6 S = some S9 → AW g l (axRm (5) 0 0) mt_X10_yearsBy (axMQ g 0 0 (.inl none, S9)) 0 0 S 24 [(0, .ref v0), (2, .int v2), (3, .int v3), (4, .int v4), (5, .int v5), (6, .int v6)] []) (K85 : Nat → Int32 → Int32 → Int32 → Int32 → Int32 → Int32 → Int32 → AxS → Option (AxS)) (hK85 : ∀ (v0 : Nat) (v2 : Int32) (v3 : Int32) (v4 : Int32) (v5 : Int32) (v6 : Int32) (v7 : Int32) (v8 : Int32) (S : AxS), K85 v0 v2 v3 v4 v5 v6 v7 v8 S = some S9 → AW g l (axRm (5) 0 0) mt_X10_yearsBy (axMQ g 0 0 (.inl none, S9)) 0 0 S 85 [(0, .ref v0), (2, .int v2), (3, .int v3), (4, .int v4), (5, .int v5), (6, .int v6), (7, .int v7), (8, .int v8)] []) (v0 : Nat) (v2 : Int32) (v3 : Int32) (v4 : Int32) (v5 : Int32) (v6 : Int32) (v7 : Int32) (v8 : Int32) (S : AxS) (h : F_X10_yearsBy_85b N K24 K85 v0 v2 v3 v4 v5 v6 v7 v8 S = some S9) : AW g l (axRm (5) 0 0) mt_X10_yearsBy (axMQ g 0 0 (.inl none, S9)) 0 0 S 85 [(0, .ref v0), (2, .int v2), (3, .int v3), (4, .int v4), (5, .int v5), (6, .int v6), (7, .int v7), (8, .int v8)] [] := by
  unfold F_X10_yearsBy_85b at h
  refine aw_iload 7 dX10_yearsBy_85 rfl ?_
  refine aw_aload_n 0 dX10_yearsBy_87 rfl rfl ?_
  refine aw_getR axc10 12 rfl rfl wd_1297 dX10_yearsBy_88 h (fun a1 h => ?_)
  refine aw_iconst 0 dX10_yearsBy_91 rfl ?_
  refine aw_iald dX10_yearsBy_92 h (fun x2 h => ?_)
  refine aw_icmp_ge 118 dX10_yearsBy_93 (by decide) h (fun h => ?_) (fun h => ?_)
  · refine aw_env [(0, .ref v0), (2, .int v2), (3, .int v3), (4, .int v4), (5, .int v5), (6, .int v6)] [0, 1, 2, 3, 4, 5] rfl ?_
    exact L1_X10_yearsBy_118 N K24 hK24 v0 v2 v3 v4 v5 v6 S h
  · refine aw_iload 6 dX10_yearsBy_96 rfl ?_
    refine aw_if_ne 118 dX10_yearsBy_98 (by decide) h (fun h => ?_) (fun h => ?_)
    · refine aw_env [(0, .ref v0), (2, .int v2), (3, .int v3), (4, .int v4), (5, .int v5), (6, .int v6)] [0, 1, 2, 3, 4, 5] rfl ?_
      exact L1_X10_yearsBy_118 N K24 hK24 v0 v2 v3 v4 v5 v6 S h
    · refine aw_aload_n 0 dX10_yearsBy_101 rfl rfl ?_
      refine aw_aload_n 0 dX10_yearsBy_102 rfl rfl ?_
      refine aw_getR axc10 28 rfl rfl wd_1313 dX10_yearsBy_103 h (fun a3 h => ?_)
      refine aw_iload 7 dX10_yearsBy_106 rfl ?_
      obtain ⟨hL4, h⟩ := ax_is_spec h
      refine aw_doneI (rest := []) h (fun r9 S9 hF => aw_runV (As := [.ref a3, .int v8]) (rest := []) (L1_X10_gives N hF) axc10 hL4 wd_1597 wd_1594 wd_1596 wd_64 wd_97 pd_X10_gives rfl (ax_rm (by omega) rfl) ax_hf0 (Nat.le_of_ble_eq_true rfl) rfl dX10_yearsBy_108) (fun x6 T5 h => ?_)
      refine aw_pop rfl dX10_yearsBy_111 ?_
      refine aw_iinc 7 [(8, .int (v8 + 1)), (0, .ref v0), (2, .int v2), (3, .int v3), (4, .int v4), (5, .int v5), (6, .int v6), (7, .int v7)] (v8 + 1) dX10_yearsBy_112 rfl rfl rfl rfl ?_
      refine aw_goto 85 dX10_yearsBy_115 (by decide) ?_
      refine aw_env [(0, .ref v0), (2, .int v2), (3, .int v3), (4, .int v4), (5, .int v5), (6, .int v6), (7, .int v7), (8, .int (v8 + 1))] [1, 2, 3, 4, 5, 6, 7, 0] rfl ?_
      exact hK85 v0 v2 v3 v4 v5 v6 v7 (v8 + 1) T5 h
theorem L1_X10_yearsBy_85 {g : AxG} {l : Launch} {S9 : AxS} (N : Nat) (K24 : Nat → Int32 → Int32 → Int32 → Int32 → Int32 → AxS → Option (AxS)) (hK24 : ∀ (v0 : Nat) (v2 : Int32) (v3 : Int32) (v4 : Int32) (v5 : Int32) (v6 : Int32) (S : AxS), K24 v0 v2 v3 v4 v5 v6 S = some S9 → AW g l (axRm (5) 0 0) mt_X10_yearsBy (axMQ g 0 0 (.inl none, S9)) 0 0 S 24 [(0, .ref v0), (2, .int v2), (3, .int v3), (4, .int v4), (5, .int v5), (6, .int v6)] []) : ∀ (n : Nat) (v0 : Nat) (v2 : Int32) (v3 : Int32) (v4 : Int32) (v5 : Int32) (v6 : Int32) (v7 : Int32) (v8 : Int32) (S : AxS), F_X10_yearsBy_85 N K24 n v0 v2 v3 v4 v5 v6 v7 v8 S = some S9 → AW g l (axRm (5) 0 0) mt_X10_yearsBy (axMQ g 0 0 (.inl none, S9)) 0 0 S 85 [(0, .ref v0), (2, .int v2), (3, .int v3), (4, .int v4), (5, .int v5), (6, .int v6), (7, .int v7), (8, .int v8)] [] := by
  intro n
  induction n with
  | zero => intro v0 v2 v3 v4 v5 v6 v7 v8 S h; cases h
  | succ n ih => intro v0 v2 v3 v4 v5 v6 v7 v8 S h; exact L1_X10_yearsBy_85b N K24 hK24 (F_X10_yearsBy_85 N K24 n) ih v0 v2 v3 v4 v5 v6 v7 v8 S h
theorem L1_X10_yearsBy_80 {g : AxG} {l : Launch} {S9 : AxS} (N : Nat) (K24 : Nat → Int32 → Int32 → Int32 → Int32 → Int32 → AxS → Option (AxS)) (hK24 : ∀ (v0 : Nat) (v2 : Int32) (v3 : Int32) (v4 : Int32) (v5 : Int32) (v6 : Int32) (S : AxS), K24 v0 v2 v3 v4 v5 v6 S = some S9 → AW g l (axRm (5) 0 0) mt_X10_yearsBy (axMQ g 0 0 (.inl none, S9)) 0 0 S 24 [(0, .ref v0), (2, .int v2), (3, .int v3), (4, .int v4), (5, .int v5), (6, .int v6)] []) (v0 : Nat) (v2 : Int32) (v3 : Int32) (v4 : Int32) (v5 : Int32) (v6 : Int32) (w0 : Int32) (S : AxS) (h : F_X10_yearsBy_80 N K24 v0 v2 v3 v4 v5 v6 w0 S = some S9) : AW g l (axRm (5) 0 0) mt_X10_yearsBy (axMQ g 0 0 (.inl none, S9)) 0 0 S 80 [(0, .ref v0), (2, .int v2), (3, .int v3), (4, .int v4), (5, .int v5), (6, .int v6)] [.int w0] := by
  unfold F_X10_yearsBy_80 at h
  refine aw_istore [(7, .int w0), (0, .ref v0), (2, .int v2), (3, .int v3), (4, .int v4), (5, .int v5), (6, .int v6)] dX10_yearsBy_80 rfl rfl ?_
  refine aw_iconst 0 dX10_yearsBy_82 rfl ?_
  refine aw_istore [(8, .int 0), (7, .int w0), (0, .ref v0), (2, .int v2), (3, .int v3), (4, .int v4), (5, .int v5), (6, .int v6)] dX10_yearsBy_83 rfl rfl ?_
  refine aw_env [(0, .ref v0), (2, .int v2), (3, .int v3), (4, .int v4), (5, .int v5), (6, .int v6), (7, .int w0), (8, .int 0)] [2, 3, 4, 5, 6, 7, 1, 0] rfl ?_
  exact L1_X10_yearsBy_85 N K24 hK24 N v0 v2 v3 v4 v5 v6 w0 0 S h
theorem L1_X10_yearsBy_49 {g : AxG} {l : Launch} {S9 : AxS} (N : Nat) (K24 : Nat → Int32 → Int32 → Int32 → Int32 → Int32 → AxS → Option (AxS)) (hK24 : ∀ (v0 : Nat) (v2 : Int32) (v3 : Int32) (v4 : Int32) (v5 : Int32) (v6 : Int32) (S : AxS), K24 v0 v2 v3 v4 v5 v6 S = some S9 → AW g l (axRm (5) 0 0) mt_X10_yearsBy (axMQ g 0 0 (.inl none, S9)) 0 0 S 24 [(0, .ref v0), (2, .int v2), (3, .int v3), (4, .int v4), (5, .int v5), (6, .int v6)] []) (v0 : Nat) (v2 : Int32) (v3 : Int32) (v4 : Int32) (v5 : Int32) (v6 : Int32) (w0 : Int32) (w1 : Int32) (w2 : Nat) (S : AxS) (h : F_X10_yearsBy_49 N K24 v0 v2 v3 v4 v5 v6 w0 w1 w2 S = some S9) : AW g l (axRm (5) 0 0) mt_X10_yearsBy (axMQ g 0 0 (.inl none, S9)) 0 0 S 49 [(0, .ref v0), (2, .int v2), (3, .int v3), (4, .int v4), (5, .int v5), (6, .int v6)] [.int w0, .int w1, .ref w2] := by
  unfold F_X10_yearsBy_49 at h
  refine aw_iast dX10_yearsBy_49 h (fun T1 h => ?_)
  refine aw_aload_n 0 dX10_yearsBy_50 rfl rfl ?_
  refine aw_dup rfl dX10_yearsBy_51 ?_
  refine aw_getI axc10 48 rfl rfl wd_1333 dX10_yearsBy_52 h (fun x2 h => ?_)
  refine aw_aload_n 0 dX10_yearsBy_55 rfl rfl ?_
  refine aw_getR axc10 28 rfl rfl wd_1313 dX10_yearsBy_56 h (fun a3 h => ?_)
  refine aw_bipush 12 dX10_yearsBy_59 (by decide) ?_
  refine aw_iald dX10_yearsBy_61 h (fun x4 h => ?_)
  refine aw_iadd dX10_yearsBy_62 ?_
  refine aw_putI axc10 48 rfl rfl wd_1333 rfl rfl rfl dX10_yearsBy_63 h (fun T5 h => ?_)
  refine aw_aload_n 0 dX10_yearsBy_66 rfl rfl ?_
  obtain ⟨hL6, h⟩ := ax_is_spec h
  refine aw_doneI (rest := []) h (fun r9 S9 hF => aw_runV (As := []) (rest := []) (L1_X10_draw N hF) axc10 hL6 wd_1809 wd_1806 wd_1808 wd_83 wd_97 pd_X10_draw rfl (ax_rm (by omega) rfl) ax_hf0 (Nat.le_of_ble_eq_true rfl) rfl dX10_yearsBy_67) (fun x8 T7 h => ?_)
  refine aw_iload 3 dX10_yearsBy_70 rfl ?_
  refine aw_icmp_ge 79 dX10_yearsBy_72 (by decide) h (fun h => ?_) (fun h => ?_)
  · refine aw_iconst 0 dX10_yearsBy_79 rfl ?_
    refine aw_env [(0, .ref v0), (2, .int v2), (3, .int v3), (4, .int v4), (5, .int v5), (6, .int v6)] [0, 1, 2, 3, 4, 5] rfl ?_
    exact L1_X10_yearsBy_80 N K24 hK24 v0 v2 v3 v4 v5 v6 0 T7 h
  · refine aw_iconst 1 dX10_yearsBy_75 rfl ?_
    refine aw_goto 80 dX10_yearsBy_76 (by decide) ?_
    refine aw_env [(0, .ref v0), (2, .int v2), (3, .int v3), (4, .int v4), (5, .int v5), (6, .int v6)] [0, 1, 2, 3, 4, 5] rfl ?_
    exact L1_X10_yearsBy_80 N K24 hK24 v0 v2 v3 v4 v5 v6 1 T7 h
theorem L1_X10_yearsBy_24b {g : AxG} {l : Launch} {S9 : AxS} (N : Nat) (K24 : Nat → Int32 → Int32 → Int32 → Int32 → Int32 → AxS → Option (AxS)) (hK24 : ∀ (v0 : Nat) (v2 : Int32) (v3 : Int32) (v4 : Int32) (v5 : Int32) (v6 : Int32) (S : AxS), K24 v0 v2 v3 v4 v5 v6 S = some S9 → AW g l (axRm (5) 0 0) mt_X10_yearsBy (axMQ g 0 0 (.inl none, S9)) 0 0 S 24 [(0, .ref v0), (2, .int v2), (3, .int v3), (4, .int v4), (5, .int v5), (6, .int v6)] []) (v0 : Nat) (v2 : Int32) (v3 : Int32) (v4 : Int32) (v5 : Int32) (v6 : Int32) (S : AxS) (h : F_X10_yearsBy_24b N K24 v0 v2 v3 v4 v5 v6 S = some S9) : AW g l (axRm (5) 0 0) mt_X10_yearsBy (axMQ g 0 0 (.inl none, S9)) 0 0 S 24 [(0, .ref v0), (2, .int v2), (3, .int v3), (4, .int v4), (5, .int v5), (6, .int v6)] [] := by
  unfold F_X10_yearsBy_24b at h
  refine aw_iload 5 dX10_yearsBy_24 rfl ?_
  refine aw_iload_n 1 dX10_yearsBy_26 rfl rfl ?_
  refine aw_icmp_ge 160 dX10_yearsBy_27 (by decide) h (fun h => ?_) (fun h => ?_)
  · exact aw_vret dX10_yearsBy_160 rfl (Nat.le_refl _) (Nat.le_refl _) h
  · refine aw_aload_n 0 dX10_yearsBy_30 rfl rfl ?_
    refine aw_getR axc10 28 rfl rfl wd_1313 dX10_yearsBy_31 h (fun a1 h => ?_)
    refine aw_bipush 12 dX10_yearsBy_34 (by decide) ?_
    refine aw_aload_n 0 dX10_yearsBy_36 rfl rfl ?_
    obtain ⟨hL2, h⟩ := ax_is_spec h
    refine aw_doneI (rest := [.int 12, .ref a1]) h (fun r9 S9 hF => aw_runV (As := []) (rest := [.int 12, .ref a1]) (L1_X10_draw N hF) axc10 hL2 wd_1809 wd_1806 wd_1808 wd_83 wd_97 pd_X10_draw rfl (ax_rm (by omega) rfl) ax_hf0 (Nat.le_of_ble_eq_true rfl) rfl dX10_yearsBy_37) (fun x4 T3 h => ?_)
    refine aw_iload_n 2 dX10_yearsBy_40 rfl rfl ?_
    refine aw_icmp_ge 48 dX10_yearsBy_41 (by decide) h (fun h => ?_) (fun h => ?_)
    · refine aw_iconst 0 dX10_yearsBy_48 rfl ?_
      refine aw_env [(0, .ref v0), (2, .int v2), (3, .int v3), (4, .int v4), (5, .int v5), (6, .int v6)] [0, 1, 2, 3, 4, 5] rfl ?_
      exact L1_X10_yearsBy_49 N K24 hK24 v0 v2 v3 v4 v5 v6 0 12 a1 T3 h
    · refine aw_iconst 1 dX10_yearsBy_44 rfl ?_
      refine aw_goto 49 dX10_yearsBy_45 (by decide) ?_
      refine aw_env [(0, .ref v0), (2, .int v2), (3, .int v3), (4, .int v4), (5, .int v5), (6, .int v6)] [0, 1, 2, 3, 4, 5] rfl ?_
      exact L1_X10_yearsBy_49 N K24 hK24 v0 v2 v3 v4 v5 v6 1 12 a1 T3 h
theorem L1_X10_yearsBy_24 {g : AxG} {l : Launch} {S9 : AxS} (N : Nat)  : ∀ (n : Nat) (v0 : Nat) (v2 : Int32) (v3 : Int32) (v4 : Int32) (v5 : Int32) (v6 : Int32) (S : AxS), F_X10_yearsBy_24 N  n v0 v2 v3 v4 v5 v6 S = some S9 → AW g l (axRm (5) 0 0) mt_X10_yearsBy (axMQ g 0 0 (.inl none, S9)) 0 0 S 24 [(0, .ref v0), (2, .int v2), (3, .int v3), (4, .int v4), (5, .int v5), (6, .int v6)] [] := by
  intro n
  induction n with
  | zero => intro v0 v2 v3 v4 v5 v6 S h; cases h
  | succ n ih => intro v0 v2 v3 v4 v5 v6 S h; exact L1_X10_yearsBy_24b N (F_X10_yearsBy_24 N  n) ih v0 v2 v3 v4 v5 v6 S h
theorem L1_X10_yearsBy {g : AxG} {l : Launch} (N : Nat) {v0 : Nat} {v1 : Int32} {v2 : Int32} {v3 : Int32} {v4 : Int32} {v5 : Int32} {S : AxS} {S9 : AxS} (h : F_X10_yearsBy N v0 v1 v2 v3 v4 v5 S = some S9) : AxMet g l yX10_yearsBy cX10_yearsBy 9 none (5) 0 0 [.ref v0, .int v1, .int v2, .int v3, .int v4, .int v5] S ((.inl none, S9)) := by
  refine ax_met (own := RX10) (ini := false) (by decide +kernel) rfl (fun h => nomatch h) rfl ?_
  show AW g l (axRm (5) 0 0) mt_X10_yearsBy (axMQ g 0 0 (.inl none, S9)) 0 0 S 0 [(0, .ref v0), (1, .int v1), (2, .int v2), (3, .int v3), (4, .int v4), (5, .int v5)] []
  unfold F_X10_yearsBy at h
  refine aw_aload_n 0 dX10_yearsBy_0 rfl rfl ?_
  refine aw_getR axc10 27 rfl rfl wd_1312 dX10_yearsBy_1 h (fun a1 h => ?_)
  refine aw_aload_n 0 dX10_yearsBy_4 rfl rfl ?_
  refine aw_getR axc10 28 rfl rfl wd_1313 dX10_yearsBy_5 h (fun a2 h => ?_)
  refine aw_doneV (rest := []) h (fun S9 hF => aw_runS (As := [.ref a1, .ref a2]) (rest := []) (L1_X10_copies N hF) wd_1582 wd_1580 wd_1581 wd_97 pd_X10_copies.2 rfl (ax_rm (by omega) rfl) ax_hf0 (Nat.le_of_ble_eq_true rfl) rfl dX10_yearsBy_8) (fun T3 h => ?_)
  refine aw_aload_n 0 dX10_yearsBy_11 rfl rfl ?_
  refine aw_iload_n 1 dX10_yearsBy_12 rfl rfl ?_
  refine aw_putI axc10 47 rfl rfl wd_1332 rfl rfl rfl dX10_yearsBy_13 h (fun T5 h => ?_)
  refine aw_aload_n 0 dX10_yearsBy_16 rfl rfl ?_
  refine aw_iconst 0 dX10_yearsBy_17 rfl ?_
  refine aw_putI axc10 48 rfl rfl wd_1333 rfl rfl rfl dX10_yearsBy_18 h (fun T6 h => ?_)
  refine aw_iconst 0 dX10_yearsBy_21 rfl ?_
  refine aw_istore [(6, .int 0), (0, .ref v0), (1, .int v1), (2, .int v2), (3, .int v3), (4, .int v4), (5, .int v5)] dX10_yearsBy_22 rfl rfl ?_
  refine aw_env [(0, .ref v0), (2, .int v2), (3, .int v3), (4, .int v4), (5, .int v5), (6, .int 0)] [1, 3, 4, 5, 6, 0] rfl ?_
  exact L1_X10_yearsBy_24 N  N v0 v2 v3 v4 v5 0 T6 h

theorem dX10_areYears_0 : decode cX10_areYears 0 = .ok (.iload_n 0, 1) := by decide +kernel
theorem dX10_areYears_1 : decode cX10_areYears 1 = .ok (.iconst 1, 1) := by decide +kernel
theorem dX10_areYears_2 : decode cX10_areYears 2 = .ok (.bipush 96, 2) := by decide +kernel
theorem dX10_areYears_4 : decode cX10_areYears 4 = .ok (.invokestatic 138, 3) := by decide +kernel
theorem dX10_areYears_7 : decode cX10_areYears 7 = .ok (.ifCond .eq 37, 3) := by decide +kernel
theorem dX10_areYears_10 : decode cX10_areYears 10 = .ok (.iload_n 1, 1) := by decide +kernel
theorem dX10_areYears_11 : decode cX10_areYears 11 = .ok (.iconst 0, 1) := by decide +kernel
theorem dX10_areYears_12 : decode cX10_areYears 12 = .ok (.bipush 16, 2) := by decide +kernel
theorem dX10_areYears_14 : decode cX10_areYears 14 = .ok (.invokestatic 138, 3) := by decide +kernel
theorem dX10_areYears_17 : decode cX10_areYears 17 = .ok (.ifCond .eq 27, 3) := by decide +kernel
theorem dX10_areYears_20 : decode cX10_areYears 20 = .ok (.iload_n 2, 1) := by decide +kernel
theorem dX10_areYears_21 : decode cX10_areYears 21 = .ok (.iconst 0, 1) := by decide +kernel
theorem dX10_areYears_22 : decode cX10_areYears 22 = .ok (.bipush 16, 2) := by decide +kernel
theorem dX10_areYears_24 : decode cX10_areYears 24 = .ok (.invokestatic 138, 3) := by decide +kernel
theorem dX10_areYears_27 : decode cX10_areYears 27 = .ok (.ifCond .eq 17, 3) := by decide +kernel
theorem dX10_areYears_30 : decode cX10_areYears 30 = .ok (.iload_n 3, 1) := by decide +kernel
theorem dX10_areYears_31 : decode cX10_areYears 31 = .ok (.iconst 0, 1) := by decide +kernel
theorem dX10_areYears_32 : decode cX10_areYears 32 = .ok (.bipush 99, 2) := by decide +kernel
theorem dX10_areYears_34 : decode cX10_areYears 34 = .ok (.invokestatic 138, 3) := by decide +kernel
theorem dX10_areYears_37 : decode cX10_areYears 37 = .ok (.ifCond .eq 7, 3) := by decide +kernel
theorem dX10_areYears_40 : decode cX10_areYears 40 = .ok (.iconst 1, 1) := by decide +kernel
theorem dX10_areYears_41 : decode cX10_areYears 41 = .ok (.goto 4, 3) := by decide +kernel
theorem dX10_areYears_44 : decode cX10_areYears 44 = .ok (.iconst 0, 1) := by decide +kernel
theorem dX10_areYears_45 : decode cX10_areYears 45 = .ok (.ireturn, 1) := by decide +kernel
abbrev mt_X10_areYears : AxM := (RX10, cX10_areYears, 4, (some .boolean), false, [])
theorem L1_X10_areYears {g : AxG} {l : Launch} (N : Nat) {v0 : Int32} {v1 : Int32} {v2 : Int32} {v3 : Int32} {S : AxS} {r9 : Int32} {S9 : AxS} (h : F_X10_areYears N v0 v1 v2 v3 S = some ((r9, S9))) : AxMet g l yX10_areYears cX10_areYears 4 (some .boolean) (1) 0 0 [.int v0, .int v1, .int v2, .int v3] S ((.inl (some (.int r9)), S9)) := by
  refine ax_met (own := RX10) (ini := false) (by decide +kernel) rfl (fun h => nomatch h) rfl ?_
  show AW g l (axRm (1) 0 0) mt_X10_areYears (axMQ g 0 0 (.inl (some (.int r9)), S9)) 0 0 S 0 [(0, .int v0), (1, .int v1), (2, .int v2), (3, .int v3)] []
  unfold F_X10_areYears at h
  refine aw_iload_n 0 dX10_areYears_0 rfl rfl ?_
  refine aw_iconst 1 dX10_areYears_1 rfl ?_
  refine aw_bipush 96 dX10_areYears_2 (by decide) ?_
  refine aw_doneI (rest := []) h (fun r9 S9 hF => aw_runS (As := [.int v0, .int 1, .int 96]) (rest := []) (L1_X10_in N hF) wd_1448 wd_1446 wd_1447 wd_97 pd_X10_in.2 rfl (ax_rm (by omega) rfl) ax_hf0 (Nat.le_of_ble_eq_true rfl) rfl dX10_areYears_4) (fun x2 T1 h => ?_)
  refine aw_if_eq 44 dX10_areYears_7 (by decide) h (fun h => ?_) (fun h => ?_)
  · refine aw_iconst 0 dX10_areYears_44 rfl ?_
    exact aw_zret dX10_areYears_45 rfl (Nat.le_refl _) (Nat.le_refl _) h
  · refine aw_iload_n 1 dX10_areYears_10 rfl rfl ?_
    refine aw_iconst 0 dX10_areYears_11 rfl ?_
    refine aw_bipush 16 dX10_areYears_12 (by decide) ?_
    refine aw_doneI (rest := []) h (fun r9 S9 hF => aw_runS (As := [.int v1, .int 0, .int 16]) (rest := []) (L1_X10_in N hF) wd_1448 wd_1446 wd_1447 wd_97 pd_X10_in.2 rfl (ax_rm (by omega) rfl) ax_hf0 (Nat.le_of_ble_eq_true rfl) rfl dX10_areYears_14) (fun x4 T3 h => ?_)
    refine aw_if_eq 44 dX10_areYears_17 (by decide) h (fun h => ?_) (fun h => ?_)
    · refine aw_iconst 0 dX10_areYears_44 rfl ?_
      exact aw_zret dX10_areYears_45 rfl (Nat.le_refl _) (Nat.le_refl _) h
    · refine aw_iload_n 2 dX10_areYears_20 rfl rfl ?_
      refine aw_iconst 0 dX10_areYears_21 rfl ?_
      refine aw_bipush 16 dX10_areYears_22 (by decide) ?_
      refine aw_doneI (rest := []) h (fun r9 S9 hF => aw_runS (As := [.int v2, .int 0, .int 16]) (rest := []) (L1_X10_in N hF) wd_1448 wd_1446 wd_1447 wd_97 pd_X10_in.2 rfl (ax_rm (by omega) rfl) ax_hf0 (Nat.le_of_ble_eq_true rfl) rfl dX10_areYears_24) (fun x6 T5 h => ?_)
      refine aw_if_eq 44 dX10_areYears_27 (by decide) h (fun h => ?_) (fun h => ?_)
      · refine aw_iconst 0 dX10_areYears_44 rfl ?_
        exact aw_zret dX10_areYears_45 rfl (Nat.le_refl _) (Nat.le_refl _) h
      · refine aw_iload_n 3 dX10_areYears_30 rfl rfl ?_
        refine aw_iconst 0 dX10_areYears_31 rfl ?_
        refine aw_bipush 99 dX10_areYears_32 (by decide) ?_
        refine aw_doneI (rest := []) h (fun r9 S9 hF => aw_runS (As := [.int v3, .int 0, .int 99]) (rest := []) (L1_X10_in N hF) wd_1448 wd_1446 wd_1447 wd_97 pd_X10_in.2 rfl (ax_rm (by omega) rfl) ax_hf0 (Nat.le_of_ble_eq_true rfl) rfl dX10_areYears_34) (fun x8 T7 h => ?_)
        refine aw_if_eq 44 dX10_areYears_37 (by decide) h (fun h => ?_) (fun h => ?_)
        · refine aw_iconst 0 dX10_areYears_44 rfl ?_
          exact aw_zret dX10_areYears_45 rfl (Nat.le_refl _) (Nat.le_refl _) h
        · refine aw_iconst 1 dX10_areYears_40 rfl ?_
          refine aw_goto 45 dX10_areYears_41 (by decide) ?_
          exact aw_zret dX10_areYears_45 rfl (Nat.le_refl _) (Nat.le_refl _) h

theorem dX10_years_0 : decode cX10_years 0 = .ok (.aload_n 0, 1) := by decide +kernel
theorem dX10_years_1 : decode cX10_years 1 = .ok (.iconst 0, 1) := by decide +kernel
theorem dX10_years_2 : decode cX10_years 2 = .ok (.putfield 104, 3) := by decide +kernel
theorem dX10_years_5 : decode cX10_years 5 = .ok (.aload_n 0, 1) := by decide +kernel
theorem dX10_years_6 : decode cX10_years 6 = .ok (.iload_n 2, 1) := by decide +kernel
theorem dX10_years_7 : decode cX10_years 7 = .ok (.iload_n 3, 1) := by decide +kernel
theorem dX10_years_8 : decode cX10_years 8 = .ok (.iload 4, 2) := by decide +kernel
theorem dX10_years_10 : decode cX10_years 10 = .ok (.iload 5, 2) := by decide +kernel
theorem dX10_years_12 : decode cX10_years 12 = .ok (.invokestatic 387, 3) := by decide +kernel
theorem dX10_years_15 : decode cX10_years 15 = .ok (.ifCond .eq 13, 3) := by decide +kernel
theorem dX10_years_18 : decode cX10_years 18 = .ok (.iload 6, 2) := by decide +kernel
theorem dX10_years_20 : decode cX10_years 20 = .ok (.iconst 0, 1) := by decide +kernel
theorem dX10_years_21 : decode cX10_years 21 = .ok (.iconst 3, 1) := by decide +kernel
theorem dX10_years_22 : decode cX10_years 22 = .ok (.invokestatic 138, 3) := by decide +kernel
theorem dX10_years_25 : decode cX10_years 25 = .ok (.ifCond .ne 7, 3) := by decide +kernel
theorem dX10_years_28 : decode cX10_years 28 = .ok (.iconst 1, 1) := by decide +kernel
theorem dX10_years_29 : decode cX10_years 29 = .ok (.goto 4, 3) := by decide +kernel
theorem dX10_years_32 : decode cX10_years 32 = .ok (.iconst 0, 1) := by decide +kernel
theorem dX10_years_33 : decode cX10_years 33 = .ok (.iconst 1, 1) := by decide +kernel
theorem dX10_years_34 : decode cX10_years 34 = .ok (.iconst 1, 1) := by decide +kernel
theorem dX10_years_35 : decode cX10_years 35 = .ok (.invokevirtual 193, 3) := by decide +kernel
theorem dX10_years_38 : decode cX10_years 38 = .ok (.ifCond .eq 5, 3) := by decide +kernel
theorem dX10_years_41 : decode cX10_years 41 = .ok (.iconst 0, 1) := by decide +kernel
theorem dX10_years_42 : decode cX10_years 42 = .ok (.ireturn, 1) := by decide +kernel
theorem dX10_years_43 : decode cX10_years 43 = .ok (.aload_n 0, 1) := by decide +kernel
theorem dX10_years_44 : decode cX10_years 44 = .ok (.iload_n 1, 1) := by decide +kernel
theorem dX10_years_45 : decode cX10_years 45 = .ok (.iload_n 2, 1) := by decide +kernel
theorem dX10_years_46 : decode cX10_years 46 = .ok (.iload_n 3, 1) := by decide +kernel
theorem dX10_years_47 : decode cX10_years 47 = .ok (.iload 4, 2) := by decide +kernel
theorem dX10_years_49 : decode cX10_years 49 = .ok (.iload 5, 2) := by decide +kernel
theorem dX10_years_51 : decode cX10_years 51 = .ok (.invokevirtual 391, 3) := by decide +kernel
theorem dX10_years_54 : decode cX10_years 54 = .ok (.iload 6, 2) := by decide +kernel
theorem dX10_years_56 : decode cX10_years 56 = .ok (.tableswitch 67 0 2 #[28, 35, 51], 28) := by decide +kernel
theorem dX10_years_84 : decode cX10_years 84 = .ok (.aload_n 0, 1) := by decide +kernel
theorem dX10_years_85 : decode cX10_years 85 = .ok (.getfield 64, 3) := by decide +kernel
theorem dX10_years_88 : decode cX10_years 88 = .ok (.iconst 0, 1) := by decide +kernel
theorem dX10_years_89 : decode cX10_years 89 = .ok (.iaload, 1) := by decide +kernel
theorem dX10_years_90 : decode cX10_years 90 = .ok (.ireturn, 1) := by decide +kernel
theorem dX10_years_91 : decode cX10_years 91 = .ok (.aload_n 0, 1) := by decide +kernel
theorem dX10_years_92 : decode cX10_years 92 = .ok (.getfield 64, 3) := by decide +kernel
theorem dX10_years_95 : decode cX10_years 95 = .ok (.bipush 9, 2) := by decide +kernel
theorem dX10_years_97 : decode cX10_years 97 = .ok (.iaload, 1) := by decide +kernel
theorem dX10_years_98 : decode cX10_years 98 = .ok (.aload_n 0, 1) := by decide +kernel
theorem dX10_years_99 : decode cX10_years 99 = .ok (.getfield 61, 3) := by decide +kernel
theorem dX10_years_102 : decode cX10_years 102 = .ok (.bipush 9, 2) := by decide +kernel
theorem dX10_years_104 : decode cX10_years 104 = .ok (.iaload, 1) := by decide +kernel
theorem dX10_years_105 : decode cX10_years 105 = .ok (.isub, 1) := by decide +kernel
theorem dX10_years_106 : decode cX10_years 106 = .ok (.ireturn, 1) := by decide +kernel
theorem dX10_years_107 : decode cX10_years 107 = .ok (.aload_n 0, 1) := by decide +kernel
theorem dX10_years_108 : decode cX10_years 108 = .ok (.getfield 64, 3) := by decide +kernel
theorem dX10_years_111 : decode cX10_years 111 = .ok (.bipush 10, 2) := by decide +kernel
theorem dX10_years_113 : decode cX10_years 113 = .ok (.iaload, 1) := by decide +kernel
theorem dX10_years_114 : decode cX10_years 114 = .ok (.aload_n 0, 1) := by decide +kernel
theorem dX10_years_115 : decode cX10_years 115 = .ok (.getfield 61, 3) := by decide +kernel
theorem dX10_years_118 : decode cX10_years 118 = .ok (.bipush 10, 2) := by decide +kernel
theorem dX10_years_120 : decode cX10_years 120 = .ok (.iaload, 1) := by decide +kernel
theorem dX10_years_121 : decode cX10_years 121 = .ok (.isub, 1) := by decide +kernel
theorem dX10_years_122 : decode cX10_years 122 = .ok (.ireturn, 1) := by decide +kernel
theorem dX10_years_123 : decode cX10_years 123 = .ok (.aload_n 0, 1) := by decide +kernel
theorem dX10_years_124 : decode cX10_years 124 = .ok (.getfield 381, 3) := by decide +kernel
theorem dX10_years_127 : decode cX10_years 127 = .ok (.ireturn, 1) := by decide +kernel
abbrev mt_X10_years : AxM := (RX10, cX10_years, 7, (some .int), false, [])
theorem L1_X10_years_33 {g : AxG} {l : Launch} {r9 : Int32} {S9 : AxS} (N : Nat)  (v0 : Nat) (v1 : Int32) (v2 : Int32) (v3 : Int32) (v4 : Int32) (v5 : Int32) (v6 : Int32) (w0 : Int32) (w1 : Nat) (S : AxS) (h : F_X10_years_33 N  v0 v1 v2 v3 v4 v5 v6 w0 w1 S = some ((r9, S9))) : AW g l (axRm (6) 0 0) mt_X10_years (axMQ g 0 0 (.inl (some (.int r9)), S9)) 0 0 S 33 [(0, .ref v0), (1, .int v1), (2, .int v2), (3, .int v3), (4, .int v4), (5, .int v5), (6, .int v6)] [.int w0, .ref w1] := by
  unfold F_X10_years_33 at h
  refine aw_iconst 1 dX10_years_33 rfl ?_
  refine aw_iconst 1 dX10_years_34 rfl ?_
  obtain ⟨hL1, h⟩ := ax_is_spec h
  refine aw_doneI (rest := []) h (fun r9 S9 hF => aw_runV (As := [.int w0, .int 1, .int 1]) (rest := []) (L1_X10_bad N hF) axc10 hL1 wd_1452 wd_1449 wd_1451 wd_38 wd_97 pd_X10_bad rfl (ax_rm (by omega) rfl) ax_hf0 (Nat.le_of_ble_eq_true rfl) rfl dX10_years_35) (fun x3 T2 h => ?_)
  refine aw_if_eq 43 dX10_years_38 (by decide) h (fun h => ?_) (fun h => ?_)
  · refine aw_aload_n 0 dX10_years_43 rfl rfl ?_
    refine aw_iload_n 1 dX10_years_44 rfl rfl ?_
    refine aw_iload_n 2 dX10_years_45 rfl rfl ?_
    refine aw_iload_n 3 dX10_years_46 rfl rfl ?_
    refine aw_iload 4 dX10_years_47 rfl ?_
    refine aw_iload 5 dX10_years_49 rfl ?_
    obtain ⟨hL4, h⟩ := ax_is_spec h
    refine aw_doneV (rest := []) h (fun S9 hF => aw_runV (As := [.int v1, .int v2, .int v3, .int v4, .int v5]) (rest := []) (L1_X10_yearsBy N hF) axc10 hL4 wd_1805 wd_1802 wd_1804 wd_82 wd_97 pd_X10_yearsBy rfl (ax_rm (by omega) rfl) ax_hf0 (Nat.le_of_ble_eq_true rfl) rfl dX10_years_51) (fun T5 h => ?_)
    refine aw_iload 6 dX10_years_54 rfl ?_
    refine aw_case 0 h (fun h => ?_) (fun c9 h => ?_)
    · refine aw_tswIn 84 (off := 28) dX10_years_56 (by decide) (by decide) (by decide) (by decide) ?_
      refine aw_aload_n 0 dX10_years_84 rfl rfl ?_
      refine aw_getR axc10 28 rfl rfl wd_1313 dX10_years_85 h (fun a7 h => ?_)
      refine aw_iconst 0 dX10_years_88 rfl ?_
      refine aw_iald dX10_years_89 h (fun x8 h => ?_)
      exact aw_iret dX10_years_90 rfl (Nat.le_refl _) (Nat.le_refl _) h
    refine aw_case 1 h (fun h => ?_) (fun c14 h => ?_)
    · refine aw_tswIn 91 (off := 35) dX10_years_56 (by decide) (by decide) (by decide) (by decide) ?_
      refine aw_aload_n 0 dX10_years_91 rfl rfl ?_
      refine aw_getR axc10 28 rfl rfl wd_1313 dX10_years_92 h (fun a10 h => ?_)
      refine aw_bipush 9 dX10_years_95 (by decide) ?_
      refine aw_iald dX10_years_97 h (fun x11 h => ?_)
      refine aw_aload_n 0 dX10_years_98 rfl rfl ?_
      refine aw_getR axc10 27 rfl rfl wd_1312 dX10_years_99 h (fun a12 h => ?_)
      refine aw_bipush 9 dX10_years_102 (by decide) ?_
      refine aw_iald dX10_years_104 h (fun x13 h => ?_)
      refine aw_isub dX10_years_105 ?_
      exact aw_iret dX10_years_106 rfl (Nat.le_refl _) (Nat.le_refl _) h
    refine aw_case 2 h (fun h => ?_) (fun c19 h => ?_)
    · refine aw_tswIn 107 (off := 51) dX10_years_56 (by decide) (by decide) (by decide) (by decide) ?_
      refine aw_aload_n 0 dX10_years_107 rfl rfl ?_
      refine aw_getR axc10 28 rfl rfl wd_1313 dX10_years_108 h (fun a15 h => ?_)
      refine aw_bipush 10 dX10_years_111 (by decide) ?_
      refine aw_iald dX10_years_113 h (fun x16 h => ?_)
      refine aw_aload_n 0 dX10_years_114 rfl rfl ?_
      refine aw_getR axc10 27 rfl rfl wd_1312 dX10_years_115 h (fun a17 h => ?_)
      refine aw_bipush 10 dX10_years_118 (by decide) ?_
      refine aw_iald dX10_years_120 h (fun x18 h => ?_)
      refine aw_isub dX10_years_121 ?_
      exact aw_iret dX10_years_122 rfl (Nat.le_refl _) (Nat.le_refl _) h
    refine aw_tswOut 123 dX10_years_56 (by have q0 := ax_i32ne c9 (v := 0) (i := 0) (by decide); have q1 := ax_i32ne c14 (v := 1) (i := 1) (by decide); have q2 := ax_i32ne c19 (v := 2) (i := 2) (by decide); omega) (by decide) ?_
    refine aw_aload_n 0 dX10_years_123 rfl rfl ?_
    refine aw_getI axc10 48 rfl rfl wd_1333 dX10_years_124 h (fun x20 h => ?_)
    exact aw_iret dX10_years_127 rfl (Nat.le_refl _) (Nat.le_refl _) h
  · refine aw_iconst 0 dX10_years_41 rfl ?_
    exact aw_iret dX10_years_42 rfl (Nat.le_refl _) (Nat.le_refl _) h
theorem L1_X10_years_28 {g : AxG} {l : Launch} {r9 : Int32} {S9 : AxS} (N : Nat)  (v0 : Nat) (v1 : Int32) (v2 : Int32) (v3 : Int32) (v4 : Int32) (v5 : Int32) (v6 : Int32) (w0 : Nat) (S : AxS) (h : F_X10_years_28 N  v0 v1 v2 v3 v4 v5 v6 w0 S = some ((r9, S9))) : AW g l (axRm (6) 0 0) mt_X10_years (axMQ g 0 0 (.inl (some (.int r9)), S9)) 0 0 S 28 [(0, .ref v0), (1, .int v1), (2, .int v2), (3, .int v3), (4, .int v4), (5, .int v5), (6, .int v6)] [.ref w0] := by
  unfold F_X10_years_28 at h
  refine aw_iconst 1 dX10_years_28 rfl ?_
  refine aw_goto 33 dX10_years_29 (by decide) ?_
  refine aw_env [(0, .ref v0), (1, .int v1), (2, .int v2), (3, .int v3), (4, .int v4), (5, .int v5), (6, .int v6)] [0, 1, 2, 3, 4, 5, 6] rfl ?_
  exact L1_X10_years_33 N  v0 v1 v2 v3 v4 v5 v6 1 w0 S h
theorem L1_X10_years {g : AxG} {l : Launch} (N : Nat) {v0 : Nat} {v1 : Int32} {v2 : Int32} {v3 : Int32} {v4 : Int32} {v5 : Int32} {v6 : Int32} {S : AxS} {r9 : Int32} {S9 : AxS} (h : F_X10_years N v0 v1 v2 v3 v4 v5 v6 S = some ((r9, S9))) : AxMet g l yX10_years cX10_years 7 (some .int) (6) 0 0 [.ref v0, .int v1, .int v2, .int v3, .int v4, .int v5, .int v6] S ((.inl (some (.int r9)), S9)) := by
  refine ax_met (own := RX10) (ini := false) (by decide +kernel) rfl (fun h => nomatch h) rfl ?_
  show AW g l (axRm (6) 0 0) mt_X10_years (axMQ g 0 0 (.inl (some (.int r9)), S9)) 0 0 S 0 [(0, .ref v0), (1, .int v1), (2, .int v2), (3, .int v3), (4, .int v4), (5, .int v5), (6, .int v6)] []
  unfold F_X10_years at h
  refine aw_aload_n 0 dX10_years_0 rfl rfl ?_
  refine aw_iconst 0 dX10_years_1 rfl ?_
  refine aw_putI axc10 0 rfl rfl wd_1285 rfl rfl rfl dX10_years_2 h (fun T1 h => ?_)
  refine aw_aload_n 0 dX10_years_5 rfl rfl ?_
  refine aw_iload_n 2 dX10_years_6 rfl rfl ?_
  refine aw_iload_n 3 dX10_years_7 rfl rfl ?_
  refine aw_iload 4 dX10_years_8 rfl ?_
  refine aw_iload 5 dX10_years_10 rfl ?_
  refine aw_doneI (rest := [.ref v0]) h (fun r9 S9 hF => aw_runS (As := [.int v2, .int v3, .int v4, .int v5]) (rest := [.ref v0]) (L1_X10_areYears N hF) wd_1801 wd_1799 wd_1800 wd_97 pd_X10_areYears.2 rfl (ax_rm (by omega) rfl) ax_hf0 (Nat.le_of_ble_eq_true rfl) rfl dX10_years_12) (fun x3 T2 h => ?_)
  refine aw_if_eq 28 dX10_years_15 (by decide) h (fun h => ?_) (fun h => ?_)
  · refine aw_env [(0, .ref v0), (1, .int v1), (2, .int v2), (3, .int v3), (4, .int v4), (5, .int v5), (6, .int v6)] [0, 1, 2, 3, 4, 5, 6] rfl ?_
    exact L1_X10_years_28 N  v0 v1 v2 v3 v4 v5 v6 v0 T2 h
  · refine aw_iload 6 dX10_years_18 rfl ?_
    refine aw_iconst 0 dX10_years_20 rfl ?_
    refine aw_iconst 3 dX10_years_21 rfl ?_
    refine aw_doneI (rest := [.ref v0]) h (fun r9 S9 hF => aw_runS (As := [.int v6, .int 0, .int 3]) (rest := [.ref v0]) (L1_X10_in N hF) wd_1448 wd_1446 wd_1447 wd_97 pd_X10_in.2 rfl (ax_rm (by omega) rfl) ax_hf0 (Nat.le_of_ble_eq_true rfl) rfl dX10_years_22) (fun x5 T4 h => ?_)
    refine aw_if_ne 32 dX10_years_25 (by decide) h (fun h => ?_) (fun h => ?_)
    · refine aw_iconst 0 dX10_years_32 rfl ?_
      refine aw_env [(0, .ref v0), (1, .int v1), (2, .int v2), (3, .int v3), (4, .int v4), (5, .int v5), (6, .int v6)] [0, 1, 2, 3, 4, 5, 6] rfl ?_
      exact L1_X10_years_33 N  v0 v1 v2 v3 v4 v5 v6 0 v0 T4 h
    · refine aw_env [(0, .ref v0), (1, .int v1), (2, .int v2), (3, .int v3), (4, .int v4), (5, .int v5), (6, .int v6)] [0, 1, 2, 3, 4, 5, 6] rfl ?_
      exact L1_X10_years_28 N  v0 v1 v2 v3 v4 v5 v6 v0 T4 h

theorem dX10_span_0 : decode cX10_span 0 = .ok (.aload_n 0, 1) := by decide +kernel
theorem dX10_span_1 : decode cX10_span 1 = .ok (.iconst 0, 1) := by decide +kernel
theorem dX10_span_2 : decode cX10_span 2 = .ok (.putfield 104, 3) := by decide +kernel
theorem dX10_span_5 : decode cX10_span 5 = .ok (.aload_n 0, 1) := by decide +kernel
theorem dX10_span_6 : decode cX10_span 6 = .ok (.iload_n 2, 1) := by decide +kernel
theorem dX10_span_7 : decode cX10_span 7 = .ok (.iconst 1, 1) := by decide +kernel
theorem dX10_span_8 : decode cX10_span 8 = .ok (.bipush 20, 2) := by decide +kernel
theorem dX10_span_10 : decode cX10_span 10 = .ok (.invokestatic 138, 3) := by decide +kernel
theorem dX10_span_13 : decode cX10_span 13 = .ok (.ifCond .eq 26, 3) := by decide +kernel
theorem dX10_span_16 : decode cX10_span 16 = .ok (.iload_n 3, 1) := by decide +kernel
theorem dX10_span_17 : decode cX10_span 17 = .ok (.iload 4, 2) := by decide +kernel
theorem dX10_span_19 : decode cX10_span 19 = .ok (.iload 5, 2) := by decide +kernel
theorem dX10_span_21 : decode cX10_span 21 = .ok (.iload 6, 2) := by decide +kernel
theorem dX10_span_23 : decode cX10_span 23 = .ok (.invokestatic 387, 3) := by decide +kernel
theorem dX10_span_26 : decode cX10_span 26 = .ok (.ifCond .eq 13, 3) := by decide +kernel
theorem dX10_span_29 : decode cX10_span 29 = .ok (.iload 7, 2) := by decide +kernel
theorem dX10_span_31 : decode cX10_span 31 = .ok (.iconst 0, 1) := by decide +kernel
theorem dX10_span_32 : decode cX10_span 32 = .ok (.iconst 2, 1) := by decide +kernel
theorem dX10_span_33 : decode cX10_span 33 = .ok (.invokestatic 138, 3) := by decide +kernel
theorem dX10_span_36 : decode cX10_span 36 = .ok (.ifCond .ne 7, 3) := by decide +kernel
theorem dX10_span_39 : decode cX10_span 39 = .ok (.iconst 1, 1) := by decide +kernel
theorem dX10_span_40 : decode cX10_span 40 = .ok (.goto 4, 3) := by decide +kernel
theorem dX10_span_43 : decode cX10_span 43 = .ok (.iconst 0, 1) := by decide +kernel
theorem dX10_span_44 : decode cX10_span 44 = .ok (.iconst 1, 1) := by decide +kernel
theorem dX10_span_45 : decode cX10_span 45 = .ok (.iconst 1, 1) := by decide +kernel
theorem dX10_span_46 : decode cX10_span 46 = .ok (.invokevirtual 193, 3) := by decide +kernel
theorem dX10_span_49 : decode cX10_span 49 = .ok (.ifCond .eq 5, 3) := by decide +kernel
theorem dX10_span_52 : decode cX10_span 52 = .ok (.iconst 0, 1) := by decide +kernel
theorem dX10_span_53 : decode cX10_span 53 = .ok (.ireturn, 1) := by decide +kernel
theorem dX10_span_54 : decode cX10_span 54 = .ok (.iconst (-1), 1) := by decide +kernel
theorem dX10_span_55 : decode cX10_span 55 = .ok (.istore 8, 2) := by decide +kernel
theorem dX10_span_57 : decode cX10_span 57 = .ok (.iconst 0, 1) := by decide +kernel
theorem dX10_span_58 : decode cX10_span 58 = .ok (.istore 9, 2) := by decide +kernel
theorem dX10_span_60 : decode cX10_span 60 = .ok (.iconst 0, 1) := by decide +kernel
theorem dX10_span_61 : decode cX10_span 61 = .ok (.istore 10, 2) := by decide +kernel
theorem dX10_span_63 : decode cX10_span 63 = .ok (.iconst 0, 1) := by decide +kernel
theorem dX10_span_64 : decode cX10_span 64 = .ok (.istore 11, 2) := by decide +kernel
theorem dX10_span_66 : decode cX10_span 66 = .ok (.iload 11, 2) := by decide +kernel
theorem dX10_span_68 : decode cX10_span 68 = .ok (.iload_n 2, 1) := by decide +kernel
theorem dX10_span_69 : decode cX10_span 69 = .ok (.if_icmp .ge 84, 3) := by decide +kernel
theorem dX10_span_72 : decode cX10_span 72 = .ok (.aload_n 0, 1) := by decide +kernel
theorem dX10_span_73 : decode cX10_span 73 = .ok (.iload_n 1, 1) := by decide +kernel
theorem dX10_span_74 : decode cX10_span 74 = .ok (.iload 11, 2) := by decide +kernel
theorem dX10_span_76 : decode cX10_span 76 = .ok (.iadd, 1) := by decide +kernel
theorem dX10_span_77 : decode cX10_span 77 = .ok (.iload_n 3, 1) := by decide +kernel
theorem dX10_span_78 : decode cX10_span 78 = .ok (.iload 4, 2) := by decide +kernel
theorem dX10_span_80 : decode cX10_span 80 = .ok (.iload 5, 2) := by decide +kernel
theorem dX10_span_82 : decode cX10_span 82 = .ok (.iload 6, 2) := by decide +kernel
theorem dX10_span_84 : decode cX10_span 84 = .ok (.invokevirtual 391, 3) := by decide +kernel
theorem dX10_span_87 : decode cX10_span 87 = .ok (.iload 8, 2) := by decide +kernel
theorem dX10_span_89 : decode cX10_span 89 = .ok (.iconst (-1), 1) := by decide +kernel
theorem dX10_span_90 : decode cX10_span 90 = .ok (.if_icmp .ne 12, 3) := by decide +kernel
theorem dX10_span_93 : decode cX10_span 93 = .ok (.aload_n 0, 1) := by decide +kernel
theorem dX10_span_94 : decode cX10_span 94 = .ok (.getfield 64, 3) := by decide +kernel
theorem dX10_span_97 : decode cX10_span 97 = .ok (.iconst 0, 1) := by decide +kernel
theorem dX10_span_98 : decode cX10_span 98 = .ok (.iaload, 1) := by decide +kernel
theorem dX10_span_99 : decode cX10_span 99 = .ok (.goto 14, 3) := by decide +kernel
theorem dX10_span_102 : decode cX10_span 102 = .ok (.iload 8, 2) := by decide +kernel
theorem dX10_span_104 : decode cX10_span 104 = .ok (.aload_n 0, 1) := by decide +kernel
theorem dX10_span_105 : decode cX10_span 105 = .ok (.getfield 64, 3) := by decide +kernel
theorem dX10_span_108 : decode cX10_span 108 = .ok (.iconst 0, 1) := by decide +kernel
theorem dX10_span_109 : decode cX10_span 109 = .ok (.iaload, 1) := by decide +kernel
theorem dX10_span_110 : decode cX10_span 110 = .ok (.invokestatic 172, 3) := by decide +kernel
theorem dX10_span_113 : decode cX10_span 113 = .ok (.istore 8, 2) := by decide +kernel
theorem dX10_span_115 : decode cX10_span 115 = .ok (.iload 9, 2) := by decide +kernel
theorem dX10_span_117 : decode cX10_span 117 = .ok (.aload_n 0, 1) := by decide +kernel
theorem dX10_span_118 : decode cX10_span 118 = .ok (.getfield 64, 3) := by decide +kernel
theorem dX10_span_121 : decode cX10_span 121 = .ok (.iconst 0, 1) := by decide +kernel
theorem dX10_span_122 : decode cX10_span 122 = .ok (.iaload, 1) := by decide +kernel
theorem dX10_span_123 : decode cX10_span 123 = .ok (.invokestatic 257, 3) := by decide +kernel
theorem dX10_span_126 : decode cX10_span 126 = .ok (.istore 9, 2) := by decide +kernel
theorem dX10_span_128 : decode cX10_span 128 = .ok (.iload 10, 2) := by decide +kernel
theorem dX10_span_130 : decode cX10_span 130 = .ok (.aload_n 0, 1) := by decide +kernel
theorem dX10_span_131 : decode cX10_span 131 = .ok (.getfield 64, 3) := by decide +kernel
theorem dX10_span_134 : decode cX10_span 134 = .ok (.iconst 0, 1) := by decide +kernel
theorem dX10_span_135 : decode cX10_span 135 = .ok (.iaload, 1) := by decide +kernel
theorem dX10_span_136 : decode cX10_span 136 = .ok (.ifCond .ne 7, 3) := by decide +kernel
theorem dX10_span_139 : decode cX10_span 139 = .ok (.iconst 1, 1) := by decide +kernel
theorem dX10_span_140 : decode cX10_span 140 = .ok (.goto 4, 3) := by decide +kernel
theorem dX10_span_143 : decode cX10_span 143 = .ok (.iconst 0, 1) := by decide +kernel
theorem dX10_span_144 : decode cX10_span 144 = .ok (.iadd, 1) := by decide +kernel
theorem dX10_span_145 : decode cX10_span 145 = .ok (.istore 10, 2) := by decide +kernel
theorem dX10_span_147 : decode cX10_span 147 = .ok (.iinc 11 1, 3) := by decide +kernel
theorem dX10_span_150 : decode cX10_span 150 = .ok (.goto (-84), 3) := by decide +kernel
theorem dX10_span_153 : decode cX10_span 153 = .ok (.iload 7, 2) := by decide +kernel
theorem dX10_span_155 : decode cX10_span 155 = .ok (.ifCond .ne 8, 3) := by decide +kernel
theorem dX10_span_158 : decode cX10_span 158 = .ok (.iload 8, 2) := by decide +kernel
theorem dX10_span_160 : decode cX10_span 160 = .ok (.goto 16, 3) := by decide +kernel
theorem dX10_span_163 : decode cX10_span 163 = .ok (.iload 7, 2) := by decide +kernel
theorem dX10_span_165 : decode cX10_span 165 = .ok (.iconst 1, 1) := by decide +kernel
theorem dX10_span_166 : decode cX10_span 166 = .ok (.if_icmp .ne 8, 3) := by decide +kernel
theorem dX10_span_169 : decode cX10_span 169 = .ok (.iload 9, 2) := by decide +kernel
theorem dX10_span_171 : decode cX10_span 171 = .ok (.goto 5, 3) := by decide +kernel
theorem dX10_span_174 : decode cX10_span 174 = .ok (.iload 10, 2) := by decide +kernel
theorem dX10_span_176 : decode cX10_span 176 = .ok (.ireturn, 1) := by decide +kernel
abbrev mt_X10_span : AxM := (RX10, cX10_span, 12, (some .int), false, [])
theorem L1_X10_span_144 {g : AxG} {l : Launch} {r9 : Int32} {S9 : AxS} (N : Nat) (K66 : Nat → Int32 → Int32 → Int32 → Int32 → Int32 → Int32 → Int32 → Int32 → Int32 → Int32 → Int32 → AxS → Option (Int32 × AxS)) (hK66 : ∀ (v0 : Nat) (v1 : Int32) (v2 : Int32) (v3 : Int32) (v4 : Int32) (v5 : Int32) (v6 : Int32) (v7 : Int32) (v8 : Int32) (v9 : Int32) (v10 : Int32) (v11 : Int32) (S : AxS), K66 v0 v1 v2 v3 v4 v5 v6 v7 v8 v9 v10 v11 S = some ((r9, S9)) → AW g l (axRm (6) 0 0) mt_X10_span (axMQ g 0 0 (.inl (some (.int r9)), S9)) 0 0 S 66 [(0, .ref v0), (1, .int v1), (2, .int v2), (3, .int v3), (4, .int v4), (5, .int v5), (6, .int v6), (7, .int v7), (8, .int v8), (9, .int v9), (10, .int v10), (11, .int v11)] []) (v0 : Nat) (v1 : Int32) (v2 : Int32) (v3 : Int32) (v4 : Int32) (v5 : Int32) (v6 : Int32) (v7 : Int32) (v8 : Int32) (v9 : Int32) (v11 : Int32) (w0 : Int32) (w1 : Int32) (S : AxS) (h : F_X10_span_144 N K66 v0 v1 v2 v3 v4 v5 v6 v7 v8 v9 v11 w0 w1 S = some ((r9, S9))) : AW g l (axRm (6) 0 0) mt_X10_span (axMQ g 0 0 (.inl (some (.int r9)), S9)) 0 0 S 144 [(0, .ref v0), (1, .int v1), (2, .int v2), (3, .int v3), (4, .int v4), (5, .int v5), (6, .int v6), (7, .int v7), (8, .int v8), (9, .int v9), (11, .int v11)] [.int w0, .int w1] := by
  unfold F_X10_span_144 at h
  refine aw_iadd dX10_span_144 ?_
  refine aw_istore [(10, .int (w1 + w0)), (0, .ref v0), (1, .int v1), (2, .int v2), (3, .int v3), (4, .int v4), (5, .int v5), (6, .int v6), (7, .int v7), (8, .int v8), (9, .int v9), (11, .int v11)] dX10_span_145 rfl rfl ?_
  refine aw_iinc 11 [(11, .int (v11 + 1)), (10, .int (w1 + w0)), (0, .ref v0), (1, .int v1), (2, .int v2), (3, .int v3), (4, .int v4), (5, .int v5), (6, .int v6), (7, .int v7), (8, .int v8), (9, .int v9)] (v11 + 1) dX10_span_147 rfl rfl rfl rfl ?_
  refine aw_goto 66 dX10_span_150 (by decide) ?_
  refine aw_env [(0, .ref v0), (1, .int v1), (2, .int v2), (3, .int v3), (4, .int v4), (5, .int v5), (6, .int v6), (7, .int v7), (8, .int v8), (9, .int v9), (10, .int (w1 + w0)), (11, .int (v11 + 1))] [2, 3, 4, 5, 6, 7, 8, 9, 10, 11, 1, 0] rfl ?_
  exact hK66 v0 v1 v2 v3 v4 v5 v6 v7 v8 v9 (w1 + w0) (v11 + 1) S h
theorem L1_X10_span_113 {g : AxG} {l : Launch} {r9 : Int32} {S9 : AxS} (N : Nat) (K66 : Nat → Int32 → Int32 → Int32 → Int32 → Int32 → Int32 → Int32 → Int32 → Int32 → Int32 → Int32 → AxS → Option (Int32 × AxS)) (hK66 : ∀ (v0 : Nat) (v1 : Int32) (v2 : Int32) (v3 : Int32) (v4 : Int32) (v5 : Int32) (v6 : Int32) (v7 : Int32) (v8 : Int32) (v9 : Int32) (v10 : Int32) (v11 : Int32) (S : AxS), K66 v0 v1 v2 v3 v4 v5 v6 v7 v8 v9 v10 v11 S = some ((r9, S9)) → AW g l (axRm (6) 0 0) mt_X10_span (axMQ g 0 0 (.inl (some (.int r9)), S9)) 0 0 S 66 [(0, .ref v0), (1, .int v1), (2, .int v2), (3, .int v3), (4, .int v4), (5, .int v5), (6, .int v6), (7, .int v7), (8, .int v8), (9, .int v9), (10, .int v10), (11, .int v11)] []) (v0 : Nat) (v1 : Int32) (v2 : Int32) (v3 : Int32) (v4 : Int32) (v5 : Int32) (v6 : Int32) (v7 : Int32) (v9 : Int32) (v10 : Int32) (v11 : Int32) (w0 : Int32) (S : AxS) (h : F_X10_span_113 N K66 v0 v1 v2 v3 v4 v5 v6 v7 v9 v10 v11 w0 S = some ((r9, S9))) : AW g l (axRm (6) 0 0) mt_X10_span (axMQ g 0 0 (.inl (some (.int r9)), S9)) 0 0 S 113 [(0, .ref v0), (1, .int v1), (2, .int v2), (3, .int v3), (4, .int v4), (5, .int v5), (6, .int v6), (7, .int v7), (9, .int v9), (10, .int v10), (11, .int v11)] [.int w0] := by
  unfold F_X10_span_113 at h
  refine aw_istore [(8, .int w0), (0, .ref v0), (1, .int v1), (2, .int v2), (3, .int v3), (4, .int v4), (5, .int v5), (6, .int v6), (7, .int v7), (9, .int v9), (10, .int v10), (11, .int v11)] dX10_span_113 rfl rfl ?_
  refine aw_iload 9 dX10_span_115 rfl ?_
  refine aw_aload_n 1 dX10_span_117 rfl rfl ?_
  refine aw_getR axc10 28 rfl rfl wd_1313 dX10_span_118 h (fun a1 h => ?_)
  refine aw_iconst 0 dX10_span_121 rfl ?_
  refine aw_iald dX10_span_122 h (fun x2 h => ?_)
  refine aw_doneI (rest := []) h (fun r9 S9 hF => aw_runS (As := [.int v9, .int x2]) (rest := []) (L1_X10_more N hF) wd_1614 wd_1612 wd_1613 wd_97 pd_X10_more.2 rfl (ax_rm (by omega) rfl) ax_hf0 (Nat.le_of_ble_eq_true rfl) rfl dX10_span_123) (fun x4 T3 h => ?_)
  refine aw_istore [(9, .int x4), (8, .int w0), (0, .ref v0), (1, .int v1), (2, .int v2), (3, .int v3), (4, .int v4), (5, .int v5), (6, .int v6), (7, .int v7), (10, .int v10), (11, .int v11)] dX10_span_126 rfl rfl ?_
  refine aw_iload 10 dX10_span_128 rfl ?_
  refine aw_aload_n 2 dX10_span_130 rfl rfl ?_
  refine aw_getR axc10 28 rfl rfl wd_1313 dX10_span_131 h (fun a5 h => ?_)
  refine aw_iconst 0 dX10_span_134 rfl ?_
  refine aw_iald dX10_span_135 h (fun x6 h => ?_)
  refine aw_if_ne 143 dX10_span_136 (by decide) h (fun h => ?_) (fun h => ?_)
  · refine aw_iconst 0 dX10_span_143 rfl ?_
    refine aw_env [(0, .ref v0), (1, .int v1), (2, .int v2), (3, .int v3), (4, .int v4), (5, .int v5), (6, .int v6), (7, .int v7), (8, .int w0), (9, .int x4), (11, .int v11)] [2, 3, 4, 5, 6, 7, 8, 9, 1, 0, 11] rfl ?_
    exact L1_X10_span_144 N K66 hK66 v0 v1 v2 v3 v4 v5 v6 v7 w0 x4 v11 0 v10 T3 h
  · refine aw_iconst 1 dX10_span_139 rfl ?_
    refine aw_goto 144 dX10_span_140 (by decide) ?_
    refine aw_env [(0, .ref v0), (1, .int v1), (2, .int v2), (3, .int v3), (4, .int v4), (5, .int v5), (6, .int v6), (7, .int v7), (8, .int w0), (9, .int x4), (11, .int v11)] [2, 3, 4, 5, 6, 7, 8, 9, 1, 0, 11] rfl ?_
    exact L1_X10_span_144 N K66 hK66 v0 v1 v2 v3 v4 v5 v6 v7 w0 x4 v11 1 v10 T3 h
theorem L1_X10_span_66b {g : AxG} {l : Launch} {r9 : Int32} {S9 : AxS} (N : Nat) (K66 : Nat → Int32 → Int32 → Int32 → Int32 → Int32 → Int32 → Int32 → Int32 → Int32 → Int32 → Int32 → AxS → Option (Int32 × AxS)) (hK66 : ∀ (v0 : Nat) (v1 : Int32) (v2 : Int32) (v3 : Int32) (v4 : Int32) (v5 : Int32) (v6 : Int32) (v7 : Int32) (v8 : Int32) (v9 : Int32) (v10 : Int32) (v11 : Int32) (S : AxS), K66 v0 v1 v2 v3 v4 v5 v6 v7 v8 v9 v10 v11 S = some ((r9, S9)) → AW g l (axRm (6) 0 0) mt_X10_span (axMQ g 0 0 (.inl (some (.int r9)), S9)) 0 0 S 66 [(0, .ref v0), (1, .int v1), (2, .int v2), (3, .int v3), (4, .int v4), (5, .int v5), (6, .int v6), (7, .int v7), (8, .int v8), (9, .int v9), (10, .int v10), (11, .int v11)] []) (v0 : Nat) (v1 : Int32) (v2 : Int32) (v3 : Int32) (v4 : Int32) (v5 : Int32) (v6 : Int32) (v7 : Int32) (v8 : Int32) (v9 : Int32) (v10 : Int32) (v11 : Int32) (S : AxS) (h : F_X10_span_66b N K66 v0 v1 v2 v3 v4 v5 v6 v7 v8 v9 v10 v11 S = some ((r9, S9))) : AW g l (axRm (6) 0 0) mt_X10_span (axMQ g 0 0 (.inl (some (.int r9)), S9)) 0 0 S 66 [(0, .ref v0), (1, .int v1), (2, .int v2), (3, .int v3), (4, .int v4), (5, .int v5), (6, .int v6), (7, .int v7), (8, .int v8), (9, .int v9), (10, .int v10), (11, .int v11)] [] := by
  unfold F_X10_span_66b at h
  refine aw_iload 11 dX10_span_66 rfl ?_
  refine aw_iload_n 2 dX10_span_68 rfl rfl ?_
  refine aw_icmp_ge 153 dX10_span_69 (by decide) h (fun h => ?_) (fun h => ?_)
  · refine aw_iload 7 dX10_span_153 rfl ?_
    refine aw_if_ne 163 dX10_span_155 (by decide) h (fun h => ?_) (fun h => ?_)
    · refine aw_iload 7 dX10_span_163 rfl ?_
      refine aw_iconst 1 dX10_span_165 rfl ?_
      refine aw_icmp_ne 174 dX10_span_166 (by decide) h (fun h => ?_) (fun h => ?_)
      · refine aw_iload 10 dX10_span_174 rfl ?_
        exact aw_iret dX10_span_176 rfl (Nat.le_refl _) (Nat.le_refl _) h
      · refine aw_iload 9 dX10_span_169 rfl ?_
        refine aw_goto 176 dX10_span_171 (by decide) ?_
        exact aw_iret dX10_span_176 rfl (Nat.le_refl _) (Nat.le_refl _) h
    · refine aw_iload 8 dX10_span_158 rfl ?_
      refine aw_goto 176 dX10_span_160 (by decide) ?_
      exact aw_iret dX10_span_176 rfl (Nat.le_refl _) (Nat.le_refl _) h
  · refine aw_aload_n 0 dX10_span_72 rfl rfl ?_
    refine aw_iload_n 1 dX10_span_73 rfl rfl ?_
    refine aw_iload 11 dX10_span_74 rfl ?_
    refine aw_iadd dX10_span_76 ?_
    refine aw_iload_n 3 dX10_span_77 rfl rfl ?_
    refine aw_iload 4 dX10_span_78 rfl ?_
    refine aw_iload 5 dX10_span_80 rfl ?_
    refine aw_iload 6 dX10_span_82 rfl ?_
    obtain ⟨hL1, h⟩ := ax_is_spec h
    refine aw_doneV (rest := []) h (fun S9 hF => aw_runV (As := [.int (v1 + v11), .int v3, .int v4, .int v5, .int v6]) (rest := []) (L1_X10_yearsBy N hF) axc10 hL1 wd_1805 wd_1802 wd_1804 wd_82 wd_97 pd_X10_yearsBy rfl (ax_rm (by omega) rfl) ax_hf0 (Nat.le_of_ble_eq_true rfl) rfl dX10_span_84) (fun T2 h => ?_)
    refine aw_iload 8 dX10_span_87 rfl ?_
    refine aw_iconst (-1) dX10_span_89 rfl ?_
    refine aw_icmp_ne 102 dX10_span_90 (by decide) h (fun h => ?_) (fun h => ?_)
    · refine aw_iload 8 dX10_span_102 rfl ?_
      refine aw_aload_n 0 dX10_span_104 rfl rfl ?_
      refine aw_getR axc10 28 rfl rfl wd_1313 dX10_span_105 h (fun a4 h => ?_)
      refine aw_iconst 0 dX10_span_108 rfl ?_
      refine aw_iald dX10_span_109 h (fun x5 h => ?_)
      refine aw_doneI (rest := []) h (fun r9 S9 hF => aw_runS (As := [.int v8, .int x5]) (rest := []) (L1_X10_less N hF) wd_1500 wd_1498 wd_1499 wd_97 pd_X10_less.2 rfl (ax_rm (by omega) rfl) ax_hf0 (Nat.le_of_ble_eq_true rfl) rfl dX10_span_110) (fun x7 T6 h => ?_)
      refine aw_env [(0, .ref v0), (1, .int v1), (2, .int v2), (3, .int v3), (4, .int v4), (5, .int v5), (6, .int v6), (7, .int v7), (9, .int v9), (10, .int v10), (11, .int v11)] [0, 1, 2, 3, 4, 5, 6, 7, 9, 10, 11] rfl ?_
      exact L1_X10_span_113 N K66 hK66 v0 v1 v2 v3 v4 v5 v6 v7 v9 v10 v11 x7 T6 h
    · refine aw_aload_n 0 dX10_span_93 rfl rfl ?_
      refine aw_getR axc10 28 rfl rfl wd_1313 dX10_span_94 h (fun a8 h => ?_)
      refine aw_iconst 0 dX10_span_97 rfl ?_
      refine aw_iald dX10_span_98 h (fun x9 h => ?_)
      refine aw_goto 113 dX10_span_99 (by decide) ?_
      refine aw_env [(0, .ref v0), (1, .int v1), (2, .int v2), (3, .int v3), (4, .int v4), (5, .int v5), (6, .int v6), (7, .int v7), (9, .int v9), (10, .int v10), (11, .int v11)] [0, 1, 2, 3, 4, 5, 6, 7, 9, 10, 11] rfl ?_
      exact L1_X10_span_113 N K66 hK66 v0 v1 v2 v3 v4 v5 v6 v7 v9 v10 v11 x9 T2 h
theorem L1_X10_span_66 {g : AxG} {l : Launch} {r9 : Int32} {S9 : AxS} (N : Nat)  : ∀ (n : Nat) (v0 : Nat) (v1 : Int32) (v2 : Int32) (v3 : Int32) (v4 : Int32) (v5 : Int32) (v6 : Int32) (v7 : Int32) (v8 : Int32) (v9 : Int32) (v10 : Int32) (v11 : Int32) (S : AxS), F_X10_span_66 N  n v0 v1 v2 v3 v4 v5 v6 v7 v8 v9 v10 v11 S = some ((r9, S9)) → AW g l (axRm (6) 0 0) mt_X10_span (axMQ g 0 0 (.inl (some (.int r9)), S9)) 0 0 S 66 [(0, .ref v0), (1, .int v1), (2, .int v2), (3, .int v3), (4, .int v4), (5, .int v5), (6, .int v6), (7, .int v7), (8, .int v8), (9, .int v9), (10, .int v10), (11, .int v11)] [] := by
  intro n
  induction n with
  | zero => intro v0 v1 v2 v3 v4 v5 v6 v7 v8 v9 v10 v11 S h; cases h
  | succ n ih => intro v0 v1 v2 v3 v4 v5 v6 v7 v8 v9 v10 v11 S h; exact L1_X10_span_66b N (F_X10_span_66 N  n) ih v0 v1 v2 v3 v4 v5 v6 v7 v8 v9 v10 v11 S h
theorem L1_X10_span_44 {g : AxG} {l : Launch} {r9 : Int32} {S9 : AxS} (N : Nat)  (v0 : Nat) (v1 : Int32) (v2 : Int32) (v3 : Int32) (v4 : Int32) (v5 : Int32) (v6 : Int32) (v7 : Int32) (w0 : Int32) (w1 : Nat) (S : AxS) (h : F_X10_span_44 N  v0 v1 v2 v3 v4 v5 v6 v7 w0 w1 S = some ((r9, S9))) : AW g l (axRm (6) 0 0) mt_X10_span (axMQ g 0 0 (.inl (some (.int r9)), S9)) 0 0 S 44 [(0, .ref v0), (1, .int v1), (2, .int v2), (3, .int v3), (4, .int v4), (5, .int v5), (6, .int v6), (7, .int v7)] [.int w0, .ref w1] := by
  unfold F_X10_span_44 at h
  refine aw_iconst 1 dX10_span_44 rfl ?_
  refine aw_iconst 1 dX10_span_45 rfl ?_
  obtain ⟨hL1, h⟩ := ax_is_spec h
  refine aw_doneI (rest := []) h (fun r9 S9 hF => aw_runV (As := [.int w0, .int 1, .int 1]) (rest := []) (L1_X10_bad N hF) axc10 hL1 wd_1452 wd_1449 wd_1451 wd_38 wd_97 pd_X10_bad rfl (ax_rm (by omega) rfl) ax_hf0 (Nat.le_of_ble_eq_true rfl) rfl dX10_span_46) (fun x3 T2 h => ?_)
  refine aw_if_eq 54 dX10_span_49 (by decide) h (fun h => ?_) (fun h => ?_)
  · refine aw_iconst (-1) dX10_span_54 rfl ?_
    refine aw_istore [(8, .int ((-1))), (0, .ref v0), (1, .int v1), (2, .int v2), (3, .int v3), (4, .int v4), (5, .int v5), (6, .int v6), (7, .int v7)] dX10_span_55 rfl rfl ?_
    refine aw_iconst 0 dX10_span_57 rfl ?_
    refine aw_istore [(9, .int 0), (8, .int ((-1))), (0, .ref v0), (1, .int v1), (2, .int v2), (3, .int v3), (4, .int v4), (5, .int v5), (6, .int v6), (7, .int v7)] dX10_span_58 rfl rfl ?_
    refine aw_iconst 0 dX10_span_60 rfl ?_
    refine aw_istore [(10, .int 0), (9, .int 0), (8, .int ((-1))), (0, .ref v0), (1, .int v1), (2, .int v2), (3, .int v3), (4, .int v4), (5, .int v5), (6, .int v6), (7, .int v7)] dX10_span_61 rfl rfl ?_
    refine aw_iconst 0 dX10_span_63 rfl ?_
    refine aw_istore [(11, .int 0), (10, .int 0), (9, .int 0), (8, .int ((-1))), (0, .ref v0), (1, .int v1), (2, .int v2), (3, .int v3), (4, .int v4), (5, .int v5), (6, .int v6), (7, .int v7)] dX10_span_64 rfl rfl ?_
    refine aw_env [(0, .ref v0), (1, .int v1), (2, .int v2), (3, .int v3), (4, .int v4), (5, .int v5), (6, .int v6), (7, .int v7), (8, .int ((-1))), (9, .int 0), (10, .int 0), (11, .int 0)] [4, 5, 6, 7, 8, 9, 10, 11, 3, 2, 1, 0] rfl ?_
    exact L1_X10_span_66 N  N v0 v1 v2 v3 v4 v5 v6 v7 ((-1)) 0 0 0 T2 h
  · refine aw_iconst 0 dX10_span_52 rfl ?_
    exact aw_iret dX10_span_53 rfl (Nat.le_refl _) (Nat.le_refl _) h
theorem L1_X10_span_39 {g : AxG} {l : Launch} {r9 : Int32} {S9 : AxS} (N : Nat)  (v0 : Nat) (v1 : Int32) (v2 : Int32) (v3 : Int32) (v4 : Int32) (v5 : Int32) (v6 : Int32) (v7 : Int32) (w0 : Nat) (S : AxS) (h : F_X10_span_39 N  v0 v1 v2 v3 v4 v5 v6 v7 w0 S = some ((r9, S9))) : AW g l (axRm (6) 0 0) mt_X10_span (axMQ g 0 0 (.inl (some (.int r9)), S9)) 0 0 S 39 [(0, .ref v0), (1, .int v1), (2, .int v2), (3, .int v3), (4, .int v4), (5, .int v5), (6, .int v6), (7, .int v7)] [.ref w0] := by
  unfold F_X10_span_39 at h
  refine aw_iconst 1 dX10_span_39 rfl ?_
  refine aw_goto 44 dX10_span_40 (by decide) ?_
  refine aw_env [(0, .ref v0), (1, .int v1), (2, .int v2), (3, .int v3), (4, .int v4), (5, .int v5), (6, .int v6), (7, .int v7)] [0, 1, 2, 3, 4, 5, 6, 7] rfl ?_
  exact L1_X10_span_44 N  v0 v1 v2 v3 v4 v5 v6 v7 1 w0 S h
theorem L1_X10_span {g : AxG} {l : Launch} (N : Nat) {v0 : Nat} {v1 : Int32} {v2 : Int32} {v3 : Int32} {v4 : Int32} {v5 : Int32} {v6 : Int32} {v7 : Int32} {S : AxS} {r9 : Int32} {S9 : AxS} (h : F_X10_span N v0 v1 v2 v3 v4 v5 v6 v7 S = some ((r9, S9))) : AxMet g l yX10_span cX10_span 12 (some .int) (6) 0 0 [.ref v0, .int v1, .int v2, .int v3, .int v4, .int v5, .int v6, .int v7] S ((.inl (some (.int r9)), S9)) := by
  refine ax_met (own := RX10) (ini := false) (by decide +kernel) rfl (fun h => nomatch h) rfl ?_
  show AW g l (axRm (6) 0 0) mt_X10_span (axMQ g 0 0 (.inl (some (.int r9)), S9)) 0 0 S 0 [(0, .ref v0), (1, .int v1), (2, .int v2), (3, .int v3), (4, .int v4), (5, .int v5), (6, .int v6), (7, .int v7)] []
  unfold F_X10_span at h
  refine aw_aload_n 0 dX10_span_0 rfl rfl ?_
  refine aw_iconst 0 dX10_span_1 rfl ?_
  refine aw_putI axc10 0 rfl rfl wd_1285 rfl rfl rfl dX10_span_2 h (fun T1 h => ?_)
  refine aw_aload_n 0 dX10_span_5 rfl rfl ?_
  refine aw_iload_n 2 dX10_span_6 rfl rfl ?_
  refine aw_iconst 1 dX10_span_7 rfl ?_
  refine aw_bipush 20 dX10_span_8 (by decide) ?_
  refine aw_doneI (rest := [.ref v0]) h (fun r9 S9 hF => aw_runS (As := [.int v2, .int 1, .int 20]) (rest := [.ref v0]) (L1_X10_in N hF) wd_1448 wd_1446 wd_1447 wd_97 pd_X10_in.2 rfl (ax_rm (by omega) rfl) ax_hf0 (Nat.le_of_ble_eq_true rfl) rfl dX10_span_10) (fun x3 T2 h => ?_)
  refine aw_if_eq 39 dX10_span_13 (by decide) h (fun h => ?_) (fun h => ?_)
  · refine aw_env [(0, .ref v0), (1, .int v1), (2, .int v2), (3, .int v3), (4, .int v4), (5, .int v5), (6, .int v6), (7, .int v7)] [0, 1, 2, 3, 4, 5, 6, 7] rfl ?_
    exact L1_X10_span_39 N  v0 v1 v2 v3 v4 v5 v6 v7 v0 T2 h
  · refine aw_iload_n 3 dX10_span_16 rfl rfl ?_
    refine aw_iload 4 dX10_span_17 rfl ?_
    refine aw_iload 5 dX10_span_19 rfl ?_
    refine aw_iload 6 dX10_span_21 rfl ?_
    refine aw_doneI (rest := [.ref v0]) h (fun r9 S9 hF => aw_runS (As := [.int v3, .int v4, .int v5, .int v6]) (rest := [.ref v0]) (L1_X10_areYears N hF) wd_1801 wd_1799 wd_1800 wd_97 pd_X10_areYears.2 rfl (ax_rm (by omega) rfl) ax_hf0 (Nat.le_of_ble_eq_true rfl) rfl dX10_span_23) (fun x5 T4 h => ?_)
    refine aw_if_eq 39 dX10_span_26 (by decide) h (fun h => ?_) (fun h => ?_)
    · refine aw_env [(0, .ref v0), (1, .int v1), (2, .int v2), (3, .int v3), (4, .int v4), (5, .int v5), (6, .int v6), (7, .int v7)] [0, 1, 2, 3, 4, 5, 6, 7] rfl ?_
      exact L1_X10_span_39 N  v0 v1 v2 v3 v4 v5 v6 v7 v0 T4 h
    · refine aw_iload 7 dX10_span_29 rfl ?_
      refine aw_iconst 0 dX10_span_31 rfl ?_
      refine aw_iconst 2 dX10_span_32 rfl ?_
      refine aw_doneI (rest := [.ref v0]) h (fun r9 S9 hF => aw_runS (As := [.int v7, .int 0, .int 2]) (rest := [.ref v0]) (L1_X10_in N hF) wd_1448 wd_1446 wd_1447 wd_97 pd_X10_in.2 rfl (ax_rm (by omega) rfl) ax_hf0 (Nat.le_of_ble_eq_true rfl) rfl dX10_span_33) (fun x7 T6 h => ?_)
      refine aw_if_ne 43 dX10_span_36 (by decide) h (fun h => ?_) (fun h => ?_)
      · refine aw_iconst 0 dX10_span_43 rfl ?_
        refine aw_env [(0, .ref v0), (1, .int v1), (2, .int v2), (3, .int v3), (4, .int v4), (5, .int v5), (6, .int v6), (7, .int v7)] [0, 1, 2, 3, 4, 5, 6, 7] rfl ?_
        exact L1_X10_span_44 N  v0 v1 v2 v3 v4 v5 v6 v7 0 v0 T6 h
      · refine aw_env [(0, .ref v0), (1, .int v1), (2, .int v2), (3, .int v3), (4, .int v4), (5, .int v5), (6, .int v6), (7, .int v7)] [0, 1, 2, 3, 4, 5, 6, 7] rfl ?_
        exact L1_X10_span_39 N  v0 v1 v2 v3 v4 v5 v6 v7 v0 T6 h

theorem dX10_puts_0 : decode cX10_puts 0 = .ok (.iload_n 3, 1) := by decide +kernel
theorem dX10_puts_1 : decode cX10_puts 1 = .ok (.ifCond .ne 10, 3) := by decide +kernel
theorem dX10_puts_4 : decode cX10_puts 4 = .ok (.aload_n 1, 1) := by decide +kernel
theorem dX10_puts_5 : decode cX10_puts 5 = .ok (.aload_n 0, 1) := by decide +kernel
theorem dX10_puts_6 : decode cX10_puts 6 = .ok (.getfield 395, 3) := by decide +kernel
theorem dX10_puts_9 : decode cX10_puts 9 = .ok (.iload_n 2, 1) := by decide +kernel
theorem dX10_puts_10 : decode cX10_puts 10 = .ok (.iastore, 1) := by decide +kernel
theorem dX10_puts_11 : decode cX10_puts 11 = .ok (.aload_n 0, 1) := by decide +kernel
theorem dX10_puts_12 : decode cX10_puts 12 = .ok (.dup, 1) := by decide +kernel
theorem dX10_puts_13 : decode cX10_puts 13 = .ok (.getfield 395, 3) := by decide +kernel
theorem dX10_puts_16 : decode cX10_puts 16 = .ok (.iconst 1, 1) := by decide +kernel
theorem dX10_puts_17 : decode cX10_puts 17 = .ok (.iadd, 1) := by decide +kernel
theorem dX10_puts_18 : decode cX10_puts 18 = .ok (.putfield 395, 3) := by decide +kernel
theorem dX10_puts_21 : decode cX10_puts 21 = .ok (.aload_n 1, 1) := by decide +kernel
theorem dX10_puts_22 : decode cX10_puts 22 = .ok (.aload_n 0, 1) := by decide +kernel
theorem dX10_puts_23 : decode cX10_puts 23 = .ok (.getfield 395, 3) := by decide +kernel
theorem dX10_puts_26 : decode cX10_puts 26 = .ok (.iconst 1, 1) := by decide +kernel
theorem dX10_puts_27 : decode cX10_puts 27 = .ok (.isub, 1) := by decide +kernel
theorem dX10_puts_28 : decode cX10_puts 28 = .ok (.iaload, 1) := by decide +kernel
theorem dX10_puts_29 : decode cX10_puts 29 = .ok (.ireturn, 1) := by decide +kernel
abbrev mt_X10_puts : AxM := (RX10, cX10_puts, 4, (some .int), false, [])
theorem L1_X10_puts_11 {g : AxG} {l : Launch} {r9 : Int32} {S9 : AxS} (N : Nat)  (v0 : Nat) (v1 : Nat) (S : AxS) (h : F_X10_puts_11 N  v0 v1 S = some ((r9, S9))) : AW g l (axRm (0) 0 0) mt_X10_puts (axMQ g 0 0 (.inl (some (.int r9)), S9)) 0 0 S 11 [(0, .ref v0), (1, .ref v1)] [] := by
  unfold F_X10_puts_11 at h
  refine aw_aload_n 0 dX10_puts_11 rfl rfl ?_
  refine aw_dup rfl dX10_puts_12 ?_
  refine aw_getI axc10 35 rfl rfl wd_1320 dX10_puts_13 h (fun x1 h => ?_)
  refine aw_iconst 1 dX10_puts_16 rfl ?_
  refine aw_iadd dX10_puts_17 ?_
  refine aw_putI axc10 35 rfl rfl wd_1320 rfl rfl rfl dX10_puts_18 h (fun T2 h => ?_)
  refine aw_aload_n 1 dX10_puts_21 rfl rfl ?_
  refine aw_aload_n 0 dX10_puts_22 rfl rfl ?_
  refine aw_getI axc10 35 rfl rfl wd_1320 dX10_puts_23 h (fun x3 h => ?_)
  refine aw_iconst 1 dX10_puts_26 rfl ?_
  refine aw_isub dX10_puts_27 ?_
  refine aw_iald dX10_puts_28 h (fun x4 h => ?_)
  exact aw_iret dX10_puts_29 rfl (Nat.le_refl _) (Nat.le_refl _) h
theorem L1_X10_puts {g : AxG} {l : Launch} (N : Nat) {v0 : Nat} {v1 : Nat} {v2 : Int32} {v3 : Int32} {S : AxS} {r9 : Int32} {S9 : AxS} (h : F_X10_puts N v0 v1 v2 v3 S = some ((r9, S9))) : AxMet g l yX10_puts cX10_puts 4 (some .int) (0) 0 0 [.ref v0, .ref v1, .int v2, .int v3] S ((.inl (some (.int r9)), S9)) := by
  refine ax_met (own := RX10) (ini := false) (by decide +kernel) rfl (fun h => nomatch h) rfl ?_
  show AW g l (axRm (0) 0 0) mt_X10_puts (axMQ g 0 0 (.inl (some (.int r9)), S9)) 0 0 S 0 [(0, .ref v0), (1, .ref v1), (2, .int v2), (3, .int v3)] []
  unfold F_X10_puts at h
  refine aw_iload_n 3 dX10_puts_0 rfl rfl ?_
  refine aw_if_ne 11 dX10_puts_1 (by decide) h (fun h => ?_) (fun h => ?_)
  · refine aw_env [(0, .ref v0), (1, .ref v1)] [0, 1] rfl ?_
    exact L1_X10_puts_11 N  v0 v1 S h
  · refine aw_aload_n 1 dX10_puts_4 rfl rfl ?_
    refine aw_aload_n 0 dX10_puts_5 rfl rfl ?_
    refine aw_getI axc10 35 rfl rfl wd_1320 dX10_puts_6 h (fun x1 h => ?_)
    refine aw_iload_n 2 dX10_puts_9 rfl rfl ?_
    refine aw_iast dX10_puts_10 h (fun T2 h => ?_)
    refine aw_env [(0, .ref v0), (1, .ref v1)] [0, 1] rfl ?_
    exact L1_X10_puts_11 N  v0 v1 T2 h

theorem dX10_putsAll_0 : decode cX10_putsAll 0 = .ok (.aload_n 0, 1) := by decide +kernel
theorem dX10_putsAll_1 : decode cX10_putsAll 1 = .ok (.iconst 0, 1) := by decide +kernel
theorem dX10_putsAll_2 : decode cX10_putsAll 2 = .ok (.putfield 395, 3) := by decide +kernel
theorem dX10_putsAll_5 : decode cX10_putsAll 5 = .ok (.aload_n 0, 1) := by decide +kernel
theorem dX10_putsAll_6 : decode cX10_putsAll 6 = .ok (.aload_n 0, 1) := by decide +kernel
theorem dX10_putsAll_7 : decode cX10_putsAll 7 = .ok (.aload_n 1, 1) := by decide +kernel
theorem dX10_putsAll_8 : decode cX10_putsAll 8 = .ok (.aload_n 0, 1) := by decide +kernel
theorem dX10_putsAll_9 : decode cX10_putsAll 9 = .ok (.getfield 220, 3) := by decide +kernel
theorem dX10_putsAll_12 : decode cX10_putsAll 12 = .ok (.iload_n 2, 1) := by decide +kernel
theorem dX10_putsAll_13 : decode cX10_putsAll 13 = .ok (.invokevirtual 398, 3) := by decide +kernel
theorem dX10_putsAll_16 : decode cX10_putsAll 16 = .ok (.putfield 220, 3) := by decide +kernel
theorem dX10_putsAll_19 : decode cX10_putsAll 19 = .ok (.iconst 0, 1) := by decide +kernel
theorem dX10_putsAll_20 : decode cX10_putsAll 20 = .ok (.istore_n 3, 1) := by decide +kernel
theorem dX10_putsAll_21 : decode cX10_putsAll 21 = .ok (.iload_n 3, 1) := by decide +kernel
theorem dX10_putsAll_22 : decode cX10_putsAll 22 = .ok (.bipush 29, 2) := by decide +kernel
theorem dX10_putsAll_24 : decode cX10_putsAll 24 = .ok (.if_icmp .ge 27, 3) := by decide +kernel
theorem dX10_putsAll_27 : decode cX10_putsAll 27 = .ok (.aload_n 0, 1) := by decide +kernel
theorem dX10_putsAll_28 : decode cX10_putsAll 28 = .ok (.getfield 61, 3) := by decide +kernel
theorem dX10_putsAll_31 : decode cX10_putsAll 31 = .ok (.iload_n 3, 1) := by decide +kernel
theorem dX10_putsAll_32 : decode cX10_putsAll 32 = .ok (.aload_n 0, 1) := by decide +kernel
theorem dX10_putsAll_33 : decode cX10_putsAll 33 = .ok (.aload_n 1, 1) := by decide +kernel
theorem dX10_putsAll_34 : decode cX10_putsAll 34 = .ok (.aload_n 0, 1) := by decide +kernel
theorem dX10_putsAll_35 : decode cX10_putsAll 35 = .ok (.getfield 61, 3) := by decide +kernel
theorem dX10_putsAll_38 : decode cX10_putsAll 38 = .ok (.iload_n 3, 1) := by decide +kernel
theorem dX10_putsAll_39 : decode cX10_putsAll 39 = .ok (.iaload, 1) := by decide +kernel
theorem dX10_putsAll_40 : decode cX10_putsAll 40 = .ok (.iload_n 2, 1) := by decide +kernel
theorem dX10_putsAll_41 : decode cX10_putsAll 41 = .ok (.invokevirtual 398, 3) := by decide +kernel
theorem dX10_putsAll_44 : decode cX10_putsAll 44 = .ok (.iastore, 1) := by decide +kernel
theorem dX10_putsAll_45 : decode cX10_putsAll 45 = .ok (.iinc 3 1, 3) := by decide +kernel
theorem dX10_putsAll_48 : decode cX10_putsAll 48 = .ok (.goto (-27), 3) := by decide +kernel
theorem dX10_putsAll_51 : decode cX10_putsAll 51 = .ok (.iconst 0, 1) := by decide +kernel
theorem dX10_putsAll_52 : decode cX10_putsAll 52 = .ok (.istore_n 3, 1) := by decide +kernel
theorem dX10_putsAll_53 : decode cX10_putsAll 53 = .ok (.iload_n 3, 1) := by decide +kernel
theorem dX10_putsAll_54 : decode cX10_putsAll 54 = .ok (.bipush 16, 2) := by decide +kernel
theorem dX10_putsAll_56 : decode cX10_putsAll 56 = .ok (.if_icmp .ge 49, 3) := by decide +kernel
theorem dX10_putsAll_59 : decode cX10_putsAll 59 = .ok (.iconst 0, 1) := by decide +kernel
theorem dX10_putsAll_60 : decode cX10_putsAll 60 = .ok (.istore 4, 2) := by decide +kernel
theorem dX10_putsAll_62 : decode cX10_putsAll 62 = .ok (.iload 4, 2) := by decide +kernel
theorem dX10_putsAll_64 : decode cX10_putsAll 64 = .ok (.bipush 29, 2) := by decide +kernel
theorem dX10_putsAll_66 : decode cX10_putsAll 66 = .ok (.if_icmp .ge 33, 3) := by decide +kernel
theorem dX10_putsAll_69 : decode cX10_putsAll 69 = .ok (.aload_n 0, 1) := by decide +kernel
theorem dX10_putsAll_70 : decode cX10_putsAll 70 = .ok (.getfield 67, 3) := by decide +kernel
theorem dX10_putsAll_73 : decode cX10_putsAll 73 = .ok (.iload_n 3, 1) := by decide +kernel
theorem dX10_putsAll_74 : decode cX10_putsAll 74 = .ok (.aaload, 1) := by decide +kernel
theorem dX10_putsAll_75 : decode cX10_putsAll 75 = .ok (.iload 4, 2) := by decide +kernel
theorem dX10_putsAll_77 : decode cX10_putsAll 77 = .ok (.aload_n 0, 1) := by decide +kernel
theorem dX10_putsAll_78 : decode cX10_putsAll 78 = .ok (.aload_n 1, 1) := by decide +kernel
theorem dX10_putsAll_79 : decode cX10_putsAll 79 = .ok (.aload_n 0, 1) := by decide +kernel
theorem dX10_putsAll_80 : decode cX10_putsAll 80 = .ok (.getfield 67, 3) := by decide +kernel
theorem dX10_putsAll_83 : decode cX10_putsAll 83 = .ok (.iload_n 3, 1) := by decide +kernel
theorem dX10_putsAll_84 : decode cX10_putsAll 84 = .ok (.aaload, 1) := by decide +kernel
theorem dX10_putsAll_85 : decode cX10_putsAll 85 = .ok (.iload 4, 2) := by decide +kernel
theorem dX10_putsAll_87 : decode cX10_putsAll 87 = .ok (.iaload, 1) := by decide +kernel
theorem dX10_putsAll_88 : decode cX10_putsAll 88 = .ok (.iload_n 2, 1) := by decide +kernel
theorem dX10_putsAll_89 : decode cX10_putsAll 89 = .ok (.invokevirtual 398, 3) := by decide +kernel
theorem dX10_putsAll_92 : decode cX10_putsAll 92 = .ok (.iastore, 1) := by decide +kernel
theorem dX10_putsAll_93 : decode cX10_putsAll 93 = .ok (.iinc 4 1, 3) := by decide +kernel
theorem dX10_putsAll_96 : decode cX10_putsAll 96 = .ok (.goto (-34), 3) := by decide +kernel
theorem dX10_putsAll_99 : decode cX10_putsAll 99 = .ok (.iinc 3 1, 3) := by decide +kernel
theorem dX10_putsAll_102 : decode cX10_putsAll 102 = .ok (.goto (-49), 3) := by decide +kernel
theorem dX10_putsAll_105 : decode cX10_putsAll 105 = .ok (.return_, 1) := by decide +kernel
abbrev mt_X10_putsAll : AxM := (RX10, cX10_putsAll, 5, none, false, [])
theorem L1_X10_putsAll_62b {g : AxG} {l : Launch} {S9 : AxS} (N : Nat) (K53 : Nat → Nat → Int32 → Int32 → AxS → Option (AxS)) (hK53 : ∀ (v0 : Nat) (v1 : Nat) (v2 : Int32) (v3 : Int32) (S : AxS), K53 v0 v1 v2 v3 S = some S9 → AW g l (axRm (1) 0 0) mt_X10_putsAll (axMQ g 0 0 (.inl none, S9)) 0 0 S 53 [(0, .ref v0), (1, .ref v1), (2, .int v2), (3, .int v3)] []) (K62 : Nat → Nat → Int32 → Int32 → Int32 → AxS → Option (AxS)) (hK62 : ∀ (v0 : Nat) (v1 : Nat) (v2 : Int32) (v3 : Int32) (v4 : Int32) (S : AxS), K62 v0 v1 v2 v3 v4 S = some S9 → AW g l (axRm (1) 0 0) mt_X10_putsAll (axMQ g 0 0 (.inl none, S9)) 0 0 S 62 [(0, .ref v0), (1, .ref v1), (2, .int v2), (3, .int v3), (4, .int v4)] []) (v0 : Nat) (v1 : Nat) (v2 : Int32) (v3 : Int32) (v4 : Int32) (S : AxS) (h : F_X10_putsAll_62b N K53 K62 v0 v1 v2 v3 v4 S = some S9) : AW g l (axRm (1) 0 0) mt_X10_putsAll (axMQ g 0 0 (.inl none, S9)) 0 0 S 62 [(0, .ref v0), (1, .ref v1), (2, .int v2), (3, .int v3), (4, .int v4)] [] := by
  unfold F_X10_putsAll_62b at h
  refine aw_iload 4 dX10_putsAll_62 rfl ?_
  refine aw_bipush 29 dX10_putsAll_64 (by decide) ?_
  refine aw_icmp_ge 99 dX10_putsAll_66 (by decide) h (fun h => ?_) (fun h => ?_)
  · refine aw_iinc 3 [(3, .int (v3 + 1)), (0, .ref v0), (1, .ref v1), (2, .int v2), (4, .int v4)] (v3 + 1) dX10_putsAll_99 rfl rfl rfl rfl ?_
    refine aw_goto 53 dX10_putsAll_102 (by decide) ?_
    refine aw_env [(0, .ref v0), (1, .ref v1), (2, .int v2), (3, .int (v3 + 1))] [1, 2, 3, 0] rfl ?_
    exact hK53 v0 v1 v2 (v3 + 1) S h
  · refine aw_aload_n 0 dX10_putsAll_69 rfl rfl ?_
    refine aw_getR axc10 29 rfl rfl wd_1314 dX10_putsAll_70 h (fun a1 h => ?_)
    refine aw_iload_n 3 dX10_putsAll_73 rfl rfl ?_
    refine aw_aald dX10_putsAll_74 h (fun a2 h => ?_)
    refine aw_iload 4 dX10_putsAll_75 rfl ?_
    refine aw_aload_n 0 dX10_putsAll_77 rfl rfl ?_
    refine aw_aload_n 1 dX10_putsAll_78 rfl rfl ?_
    refine aw_aload_n 0 dX10_putsAll_79 rfl rfl ?_
    refine aw_getR axc10 29 rfl rfl wd_1314 dX10_putsAll_80 h (fun a3 h => ?_)
    refine aw_iload_n 3 dX10_putsAll_83 rfl rfl ?_
    refine aw_aald dX10_putsAll_84 h (fun a4 h => ?_)
    refine aw_iload 4 dX10_putsAll_85 rfl ?_
    refine aw_iald dX10_putsAll_87 h (fun x5 h => ?_)
    refine aw_iload_n 2 dX10_putsAll_88 rfl rfl ?_
    obtain ⟨hL6, h⟩ := ax_is_spec h
    refine aw_doneI (rest := [.int v4, .ref a2]) h (fun r9 S9 hF => aw_runV (As := [.ref v1, .int x5, .int v2]) (rest := [.int v4, .ref a2]) (L1_X10_puts N hF) axc10 hL6 wd_1826 wd_1823 wd_1825 wd_85 wd_97 pd_X10_puts rfl (ax_rm (by omega) rfl) ax_hf0 (Nat.le_of_ble_eq_true rfl) rfl dX10_putsAll_89) (fun x8 T7 h => ?_)
    refine aw_iast dX10_putsAll_92 h (fun T9 h => ?_)
    refine aw_iinc 4 [(4, .int (v4 + 1)), (0, .ref v0), (1, .ref v1), (2, .int v2), (3, .int v3)] (v4 + 1) dX10_putsAll_93 rfl rfl rfl rfl ?_
    refine aw_goto 62 dX10_putsAll_96 (by decide) ?_
    refine aw_env [(0, .ref v0), (1, .ref v1), (2, .int v2), (3, .int v3), (4, .int (v4 + 1))] [1, 2, 3, 4, 0] rfl ?_
    exact hK62 v0 v1 v2 v3 (v4 + 1) T9 h
theorem L1_X10_putsAll_62 {g : AxG} {l : Launch} {S9 : AxS} (N : Nat) (K53 : Nat → Nat → Int32 → Int32 → AxS → Option (AxS)) (hK53 : ∀ (v0 : Nat) (v1 : Nat) (v2 : Int32) (v3 : Int32) (S : AxS), K53 v0 v1 v2 v3 S = some S9 → AW g l (axRm (1) 0 0) mt_X10_putsAll (axMQ g 0 0 (.inl none, S9)) 0 0 S 53 [(0, .ref v0), (1, .ref v1), (2, .int v2), (3, .int v3)] []) : ∀ (n : Nat) (v0 : Nat) (v1 : Nat) (v2 : Int32) (v3 : Int32) (v4 : Int32) (S : AxS), F_X10_putsAll_62 N K53 n v0 v1 v2 v3 v4 S = some S9 → AW g l (axRm (1) 0 0) mt_X10_putsAll (axMQ g 0 0 (.inl none, S9)) 0 0 S 62 [(0, .ref v0), (1, .ref v1), (2, .int v2), (3, .int v3), (4, .int v4)] [] := by
  intro n
  induction n with
  | zero => intro v0 v1 v2 v3 v4 S h; cases h
  | succ n ih => intro v0 v1 v2 v3 v4 S h; exact L1_X10_putsAll_62b N K53 hK53 (F_X10_putsAll_62 N K53 n) ih v0 v1 v2 v3 v4 S h
theorem L1_X10_putsAll_53b {g : AxG} {l : Launch} {S9 : AxS} (N : Nat) (K53 : Nat → Nat → Int32 → Int32 → AxS → Option (AxS)) (hK53 : ∀ (v0 : Nat) (v1 : Nat) (v2 : Int32) (v3 : Int32) (S : AxS), K53 v0 v1 v2 v3 S = some S9 → AW g l (axRm (1) 0 0) mt_X10_putsAll (axMQ g 0 0 (.inl none, S9)) 0 0 S 53 [(0, .ref v0), (1, .ref v1), (2, .int v2), (3, .int v3)] []) (v0 : Nat) (v1 : Nat) (v2 : Int32) (v3 : Int32) (S : AxS) (h : F_X10_putsAll_53b N K53 v0 v1 v2 v3 S = some S9) : AW g l (axRm (1) 0 0) mt_X10_putsAll (axMQ g 0 0 (.inl none, S9)) 0 0 S 53 [(0, .ref v0), (1, .ref v1), (2, .int v2), (3, .int v3)] [] := by
  unfold F_X10_putsAll_53b at h
  refine aw_iload_n 3 dX10_putsAll_53 rfl rfl ?_
  refine aw_bipush 16 dX10_putsAll_54 (by decide) ?_
  refine aw_icmp_ge 105 dX10_putsAll_56 (by decide) h (fun h => ?_) (fun h => ?_)
  · exact aw_vret dX10_putsAll_105 rfl (Nat.le_refl _) (Nat.le_refl _) h
  · refine aw_iconst 0 dX10_putsAll_59 rfl ?_
    refine aw_istore [(4, .int 0), (0, .ref v0), (1, .ref v1), (2, .int v2), (3, .int v3)] dX10_putsAll_60 rfl rfl ?_
    refine aw_env [(0, .ref v0), (1, .ref v1), (2, .int v2), (3, .int v3), (4, .int 0)] [1, 2, 3, 4, 0] rfl ?_
    exact L1_X10_putsAll_62 N K53 hK53 N v0 v1 v2 v3 0 S h
theorem L1_X10_putsAll_53 {g : AxG} {l : Launch} {S9 : AxS} (N : Nat)  : ∀ (n : Nat) (v0 : Nat) (v1 : Nat) (v2 : Int32) (v3 : Int32) (S : AxS), F_X10_putsAll_53 N  n v0 v1 v2 v3 S = some S9 → AW g l (axRm (1) 0 0) mt_X10_putsAll (axMQ g 0 0 (.inl none, S9)) 0 0 S 53 [(0, .ref v0), (1, .ref v1), (2, .int v2), (3, .int v3)] [] := by
  intro n
  induction n with
  | zero => intro v0 v1 v2 v3 S h; cases h
  | succ n ih => intro v0 v1 v2 v3 S h; exact L1_X10_putsAll_53b N (F_X10_putsAll_53 N  n) ih v0 v1 v2 v3 S h
theorem L1_X10_putsAll_21b {g : AxG} {l : Launch} {S9 : AxS} (N : Nat) (K21 : Nat → Nat → Int32 → Int32 → AxS → Option (AxS)) (hK21 : ∀ (v0 : Nat) (v1 : Nat) (v2 : Int32) (v3 : Int32) (S : AxS), K21 v0 v1 v2 v3 S = some S9 → AW g l (axRm (1) 0 0) mt_X10_putsAll (axMQ g 0 0 (.inl none, S9)) 0 0 S 21 [(0, .ref v0), (1, .ref v1), (2, .int v2), (3, .int v3)] []) (v0 : Nat) (v1 : Nat) (v2 : Int32) (v3 : Int32) (S : AxS) (h : F_X10_putsAll_21b N K21 v0 v1 v2 v3 S = some S9) : AW g l (axRm (1) 0 0) mt_X10_putsAll (axMQ g 0 0 (.inl none, S9)) 0 0 S 21 [(0, .ref v0), (1, .ref v1), (2, .int v2), (3, .int v3)] [] := by
  unfold F_X10_putsAll_21b at h
  refine aw_iload_n 3 dX10_putsAll_21 rfl rfl ?_
  refine aw_bipush 29 dX10_putsAll_22 (by decide) ?_
  refine aw_icmp_ge 51 dX10_putsAll_24 (by decide) h (fun h => ?_) (fun h => ?_)
  · refine aw_iconst 0 dX10_putsAll_51 rfl ?_
    refine aw_istore_n 3 [(3, .int 0), (0, .ref v0), (1, .ref v1), (2, .int v2)] dX10_putsAll_52 rfl rfl rfl ?_
    refine aw_env [(0, .ref v0), (1, .ref v1), (2, .int v2), (3, .int 0)] [1, 2, 3, 0] rfl ?_
    exact L1_X10_putsAll_53 N  N v0 v1 v2 0 S h
  · refine aw_aload_n 0 dX10_putsAll_27 rfl rfl ?_
    refine aw_getR axc10 27 rfl rfl wd_1312 dX10_putsAll_28 h (fun a1 h => ?_)
    refine aw_iload_n 3 dX10_putsAll_31 rfl rfl ?_
    refine aw_aload_n 0 dX10_putsAll_32 rfl rfl ?_
    refine aw_aload_n 1 dX10_putsAll_33 rfl rfl ?_
    refine aw_aload_n 0 dX10_putsAll_34 rfl rfl ?_
    refine aw_getR axc10 27 rfl rfl wd_1312 dX10_putsAll_35 h (fun a2 h => ?_)
    refine aw_iload_n 3 dX10_putsAll_38 rfl rfl ?_
    refine aw_iald dX10_putsAll_39 h (fun x3 h => ?_)
    refine aw_iload_n 2 dX10_putsAll_40 rfl rfl ?_
    obtain ⟨hL4, h⟩ := ax_is_spec h
    refine aw_doneI (rest := [.int v3, .ref a1]) h (fun r9 S9 hF => aw_runV (As := [.ref v1, .int x3, .int v2]) (rest := [.int v3, .ref a1]) (L1_X10_puts N hF) axc10 hL4 wd_1826 wd_1823 wd_1825 wd_85 wd_97 pd_X10_puts rfl (ax_rm (by omega) rfl) ax_hf0 (Nat.le_of_ble_eq_true rfl) rfl dX10_putsAll_41) (fun x6 T5 h => ?_)
    refine aw_iast dX10_putsAll_44 h (fun T7 h => ?_)
    refine aw_iinc 3 [(3, .int (v3 + 1)), (0, .ref v0), (1, .ref v1), (2, .int v2)] (v3 + 1) dX10_putsAll_45 rfl rfl rfl rfl ?_
    refine aw_goto 21 dX10_putsAll_48 (by decide) ?_
    refine aw_env [(0, .ref v0), (1, .ref v1), (2, .int v2), (3, .int (v3 + 1))] [1, 2, 3, 0] rfl ?_
    exact hK21 v0 v1 v2 (v3 + 1) T7 h
theorem L1_X10_putsAll_21 {g : AxG} {l : Launch} {S9 : AxS} (N : Nat)  : ∀ (n : Nat) (v0 : Nat) (v1 : Nat) (v2 : Int32) (v3 : Int32) (S : AxS), F_X10_putsAll_21 N  n v0 v1 v2 v3 S = some S9 → AW g l (axRm (1) 0 0) mt_X10_putsAll (axMQ g 0 0 (.inl none, S9)) 0 0 S 21 [(0, .ref v0), (1, .ref v1), (2, .int v2), (3, .int v3)] [] := by
  intro n
  induction n with
  | zero => intro v0 v1 v2 v3 S h; cases h
  | succ n ih => intro v0 v1 v2 v3 S h; exact L1_X10_putsAll_21b N (F_X10_putsAll_21 N  n) ih v0 v1 v2 v3 S h
theorem L1_X10_putsAll {g : AxG} {l : Launch} (N : Nat) {v0 : Nat} {v1 : Nat} {v2 : Int32} {S : AxS} {S9 : AxS} (h : F_X10_putsAll N v0 v1 v2 S = some S9) : AxMet g l yX10_putsAll cX10_putsAll 5 none (1) 0 0 [.ref v0, .ref v1, .int v2] S ((.inl none, S9)) := by
  refine ax_met (own := RX10) (ini := false) (by decide +kernel) rfl (fun h => nomatch h) rfl ?_
  show AW g l (axRm (1) 0 0) mt_X10_putsAll (axMQ g 0 0 (.inl none, S9)) 0 0 S 0 [(0, .ref v0), (1, .ref v1), (2, .int v2)] []
  unfold F_X10_putsAll at h
  refine aw_aload_n 0 dX10_putsAll_0 rfl rfl ?_
  refine aw_iconst 0 dX10_putsAll_1 rfl ?_
  refine aw_putI axc10 35 rfl rfl wd_1320 rfl rfl rfl dX10_putsAll_2 h (fun T1 h => ?_)
  refine aw_aload_n 0 dX10_putsAll_5 rfl rfl ?_
  refine aw_aload_n 0 dX10_putsAll_6 rfl rfl ?_
  refine aw_aload_n 1 dX10_putsAll_7 rfl rfl ?_
  refine aw_aload_n 0 dX10_putsAll_8 rfl rfl ?_
  refine aw_getI axc10 32 rfl rfl wd_1317 dX10_putsAll_9 h (fun x2 h => ?_)
  refine aw_iload_n 2 dX10_putsAll_12 rfl rfl ?_
  obtain ⟨hL3, h⟩ := ax_is_spec h
  refine aw_doneI (rest := [.ref v0]) h (fun r9 S9 hF => aw_runV (As := [.ref v1, .int x2, .int v2]) (rest := [.ref v0]) (L1_X10_puts N hF) axc10 hL3 wd_1826 wd_1823 wd_1825 wd_85 wd_97 pd_X10_puts rfl (ax_rm (by omega) rfl) ax_hf0 (Nat.le_of_ble_eq_true rfl) rfl dX10_putsAll_13) (fun x5 T4 h => ?_)
  refine aw_putI axc10 32 rfl rfl wd_1317 rfl rfl rfl dX10_putsAll_16 h (fun T6 h => ?_)
  refine aw_iconst 0 dX10_putsAll_19 rfl ?_
  refine aw_istore_n 3 [(3, .int 0), (0, .ref v0), (1, .ref v1), (2, .int v2)] dX10_putsAll_20 rfl rfl rfl ?_
  refine aw_env [(0, .ref v0), (1, .ref v1), (2, .int v2), (3, .int 0)] [1, 2, 3, 0] rfl ?_
  exact L1_X10_putsAll_21 N  N v0 v1 v2 0 T6 h

theorem dX10_image_0 : decode cX10_image 0 = .ok (.aload_n 0, 1) := by decide +kernel
theorem dX10_image_1 : decode cX10_image 1 = .ok (.iconst 0, 1) := by decide +kernel
theorem dX10_image_2 : decode cX10_image 2 = .ok (.putfield 104, 3) := by decide +kernel
theorem dX10_image_5 : decode cX10_image 5 = .ok (.aload_n 0, 1) := by decide +kernel
theorem dX10_image_6 : decode cX10_image 6 = .ok (.getfield 226, 3) := by decide +kernel
theorem dX10_image_9 : decode cX10_image 9 = .ok (.iconst 3, 1) := by decide +kernel
theorem dX10_image_10 : decode cX10_image 10 = .ok (.if_icmp .ne 5, 3) := by decide +kernel
theorem dX10_image_13 : decode cX10_image 13 = .ok (.iconst (-1), 1) := by decide +kernel
theorem dX10_image_14 : decode cX10_image 14 = .ok (.ireturn, 1) := by decide +kernel
theorem dX10_image_15 : decode cX10_image 15 = .ok (.aload_n 0, 1) := by decide +kernel
theorem dX10_image_16 : decode cX10_image 16 = .ok (.aload_n 0, 1) := by decide +kernel
theorem dX10_image_17 : decode cX10_image 17 = .ok (.getfield 70, 3) := by decide +kernel
theorem dX10_image_20 : decode cX10_image 20 = .ok (.aload_n 0, 1) := by decide +kernel
theorem dX10_image_21 : decode cX10_image 21 = .ok (.getfield 226, 3) := by decide +kernel
theorem dX10_image_24 : decode cX10_image 24 = .ok (.aaload, 1) := by decide +kernel
theorem dX10_image_25 : decode cX10_image 25 = .ok (.iconst 0, 1) := by decide +kernel
theorem dX10_image_26 : decode cX10_image 26 = .ok (.invokevirtual 402, 3) := by decide +kernel
theorem dX10_image_29 : decode cX10_image 29 = .ok (.aload_n 0, 1) := by decide +kernel
theorem dX10_image_30 : decode cX10_image 30 = .ok (.dup, 1) := by decide +kernel
theorem dX10_image_31 : decode cX10_image 31 = .ok (.getfield 226, 3) := by decide +kernel
theorem dX10_image_34 : decode cX10_image 34 = .ok (.iconst 1, 1) := by decide +kernel
theorem dX10_image_35 : decode cX10_image 35 = .ok (.iadd, 1) := by decide +kernel
theorem dX10_image_36 : decode cX10_image 36 = .ok (.putfield 226, 3) := by decide +kernel
theorem dX10_image_39 : decode cX10_image 39 = .ok (.aload_n 0, 1) := by decide +kernel
theorem dX10_image_40 : decode cX10_image 40 = .ok (.getfield 226, 3) := by decide +kernel
theorem dX10_image_43 : decode cX10_image 43 = .ok (.ireturn, 1) := by decide +kernel
abbrev mt_X10_image : AxM := (RX10, cX10_image, 1, (some .int), false, [])
theorem L1_X10_image {g : AxG} {l : Launch} (N : Nat) {v0 : Nat} {S : AxS} {r9 : Int32} {S9 : AxS} (h : F_X10_image N v0 S = some ((r9, S9))) : AxMet g l yX10_image cX10_image 1 (some .int) (2) 0 0 [.ref v0] S ((.inl (some (.int r9)), S9)) := by
  refine ax_met (own := RX10) (ini := false) (by decide +kernel) rfl (fun h => nomatch h) rfl ?_
  show AW g l (axRm (2) 0 0) mt_X10_image (axMQ g 0 0 (.inl (some (.int r9)), S9)) 0 0 S 0 [(0, .ref v0)] []
  unfold F_X10_image at h
  refine aw_aload_n 0 dX10_image_0 rfl rfl ?_
  refine aw_iconst 0 dX10_image_1 rfl ?_
  refine aw_putI axc10 0 rfl rfl wd_1285 rfl rfl rfl dX10_image_2 h (fun T1 h => ?_)
  refine aw_aload_n 0 dX10_image_5 rfl rfl ?_
  refine aw_getI axc10 34 rfl rfl wd_1319 dX10_image_6 h (fun x2 h => ?_)
  refine aw_iconst 3 dX10_image_9 rfl ?_
  refine aw_icmp_ne 15 dX10_image_10 (by decide) h (fun h => ?_) (fun h => ?_)
  · refine aw_aload_n 0 dX10_image_15 rfl rfl ?_
    refine aw_aload_n 0 dX10_image_16 rfl rfl ?_
    refine aw_getR axc10 30 rfl rfl wd_1315 dX10_image_17 h (fun a3 h => ?_)
    refine aw_aload_n 0 dX10_image_20 rfl rfl ?_
    refine aw_getI axc10 34 rfl rfl wd_1319 dX10_image_21 h (fun x4 h => ?_)
    refine aw_aald dX10_image_24 h (fun a5 h => ?_)
    refine aw_iconst 0 dX10_image_25 rfl ?_
    obtain ⟨hL6, h⟩ := ax_is_spec h
    refine aw_doneV (rest := []) h (fun S9 hF => aw_runV (As := [.ref a5, .int 0]) (rest := []) (L1_X10_putsAll N hF) axc10 hL6 wd_1822 wd_1819 wd_1821 wd_84 wd_97 pd_X10_putsAll rfl (ax_rm (by omega) rfl) ax_hf0 (Nat.le_of_ble_eq_true rfl) rfl dX10_image_26) (fun T7 h => ?_)
    refine aw_aload_n 0 dX10_image_29 rfl rfl ?_
    refine aw_dup rfl dX10_image_30 ?_
    refine aw_getI axc10 34 rfl rfl wd_1319 dX10_image_31 h (fun x9 h => ?_)
    refine aw_iconst 1 dX10_image_34 rfl ?_
    refine aw_iadd dX10_image_35 ?_
    refine aw_putI axc10 34 rfl rfl wd_1319 rfl rfl rfl dX10_image_36 h (fun T10 h => ?_)
    refine aw_aload_n 0 dX10_image_39 rfl rfl ?_
    refine aw_getI axc10 34 rfl rfl wd_1319 dX10_image_40 h (fun x11 h => ?_)
    exact aw_iret dX10_image_43 rfl (Nat.le_refl _) (Nat.le_refl _) h
  · refine aw_iconst (-1) dX10_image_13 rfl ?_
    exact aw_iret dX10_image_14 rfl (Nat.le_refl _) (Nat.le_refl _) h
