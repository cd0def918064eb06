theorem dX10_readsStep_0 : decode cX10_readsStep 0 = .ok (.aload_n 0, 1) := by decide +kernel
theorem dX10_readsStep_1 : decode cX10_readsStep 1 = .ok (.invokevirtual 264, 3) := by decide +kernel
theorem dX10_readsStep_4 : decode cX10_readsStep 4 = .ok (.istore_n 1, 1) := by decide +kernel
theorem dX10_readsStep_5 : decode cX10_readsStep 5 = .ok (.iload_n 1, 1) := by decide +kernel
theorem dX10_readsStep_6 : decode cX10_readsStep 6 = .ok (.iconst (-1), 1) := by decide +kernel
theorem dX10_readsStep_7 : decode cX10_readsStep 7 = .ok (.if_icmp .ne 12, 3) := by decide +kernel
theorem dX10_readsStep_10 : decode cX10_readsStep 10 = .ok (.aload_n 0, 1) := by decide +kernel
theorem dX10_readsStep_11 : decode cX10_readsStep 11 = .ok (.iconst 1, 1) := by decide +kernel
theorem dX10_readsStep_12 : decode cX10_readsStep 12 = .ok (.aload_n 0, 1) := by decide +kernel
theorem dX10_readsStep_13 : decode cX10_readsStep 13 = .ok (.getfield 113, 3) := by decide +kernel
theorem dX10_readsStep_16 : decode cX10_readsStep 16 = .ok (.invokevirtual 133, 3) := by decide +kernel
theorem dX10_readsStep_19 : decode cX10_readsStep 19 = .ok (.iload_n 1, 1) := by decide +kernel
theorem dX10_readsStep_20 : decode cX10_readsStep 20 = .ok (.bipush 6, 2) := by decide +kernel
theorem dX10_readsStep_22 : decode cX10_readsStep 22 = .ok (.if_icmp .ne 11, 3) := by decide +kernel
theorem dX10_readsStep_25 : decode cX10_readsStep 25 = .ok (.aload_n 0, 1) := by decide +kernel
theorem dX10_readsStep_26 : decode cX10_readsStep 26 = .ok (.invokevirtual 247, 3) := by decide +kernel
theorem dX10_readsStep_29 : decode cX10_readsStep 29 = .ok (.ifCond .ne 4, 3) := by decide +kernel
theorem dX10_readsStep_32 : decode cX10_readsStep 32 = .ok (.return_, 1) := by decide +kernel
theorem dX10_readsStep_33 : decode cX10_readsStep 33 = .ok (.aload_n 0, 1) := by decide +kernel
theorem dX10_readsStep_34 : decode cX10_readsStep 34 = .ok (.getfield 120, 3) := by decide +kernel
theorem dX10_readsStep_37 : decode cX10_readsStep 37 = .ok (.ifCond .eq 4, 3) := by decide +kernel
theorem dX10_readsStep_40 : decode cX10_readsStep 40 = .ok (.return_, 1) := by decide +kernel
theorem dX10_readsStep_41 : decode cX10_readsStep 41 = .ok (.aload_n 0, 1) := by decide +kernel
theorem dX10_readsStep_42 : decode cX10_readsStep 42 = .ok (.invokevirtual 163, 3) := by decide +kernel
theorem dX10_readsStep_45 : decode cX10_readsStep 45 = .ok (.aload_n 0, 1) := by decide +kernel
theorem dX10_readsStep_46 : decode cX10_readsStep 46 = .ok (.getfield 58, 3) := by decide +kernel
theorem dX10_readsStep_49 : decode cX10_readsStep 49 = .ok (.aload_n 0, 1) := by decide +kernel
theorem dX10_readsStep_50 : decode cX10_readsStep 50 = .ok (.getfield 267, 3) := by decide +kernel
theorem dX10_readsStep_53 : decode cX10_readsStep 53 = .ok (.aaload, 1) := by decide +kernel
theorem dX10_readsStep_54 : decode cX10_readsStep 54 = .ok (.astore_n 2, 1) := by decide +kernel
theorem dX10_readsStep_55 : decode cX10_readsStep 55 = .ok (.aload_n 0, 1) := by decide +kernel
theorem dX10_readsStep_56 : decode cX10_readsStep 56 = .ok (.dup, 1) := by decide +kernel
theorem dX10_readsStep_57 : decode cX10_readsStep 57 = .ok (.getfield 267, 3) := by decide +kernel
theorem dX10_readsStep_60 : decode cX10_readsStep 60 = .ok (.iconst 1, 1) := by decide +kernel
theorem dX10_readsStep_61 : decode cX10_readsStep 61 = .ok (.iadd, 1) := by decide +kernel
theorem dX10_readsStep_62 : decode cX10_readsStep 62 = .ok (.putfield 267, 3) := by decide +kernel
theorem dX10_readsStep_65 : decode cX10_readsStep 65 = .ok (.aload_n 2, 1) := by decide +kernel
theorem dX10_readsStep_66 : decode cX10_readsStep 66 = .ok (.iconst 0, 1) := by decide +kernel
theorem dX10_readsStep_67 : decode cX10_readsStep 67 = .ok (.iload_n 1, 1) := by decide +kernel
theorem dX10_readsStep_68 : decode cX10_readsStep 68 = .ok (.iastore, 1) := by decide +kernel
theorem dX10_readsStep_69 : decode cX10_readsStep 69 = .ok (.iload_n 1, 1) := by decide +kernel
theorem dX10_readsStep_70 : decode cX10_readsStep 70 = .ok (.ifCond .eq 8, 3) := by decide +kernel
theorem dX10_readsStep_73 : decode cX10_readsStep 73 = .ok (.iload_n 1, 1) := by decide +kernel
theorem dX10_readsStep_74 : decode cX10_readsStep 74 = .ok (.iconst 3, 1) := by decide +kernel
theorem dX10_readsStep_75 : decode cX10_readsStep 75 = .ok (.if_icmp .ne 14, 3) := by decide +kernel
theorem dX10_readsStep_78 : decode cX10_readsStep 78 = .ok (.aload_n 2, 1) := by decide +kernel
theorem dX10_readsStep_79 : decode cX10_readsStep 79 = .ok (.iconst 1, 1) := by decide +kernel
theorem dX10_readsStep_80 : decode cX10_readsStep 80 = .ok (.aload_n 0, 1) := by decide +kernel
theorem dX10_readsStep_81 : decode cX10_readsStep 81 = .ok (.iconst 1, 1) := by decide +kernel
theorem dX10_readsStep_82 : decode cX10_readsStep 82 = .ok (.sipush 999, 3) := by decide +kernel
theorem dX10_readsStep_85 : decode cX10_readsStep 85 = .ok (.invokevirtual 183, 3) := by decide +kernel
theorem dX10_readsStep_88 : decode cX10_readsStep 88 = .ok (.iastore, 1) := by decide +kernel
theorem dX10_readsStep_89 : decode cX10_readsStep 89 = .ok (.iload_n 1, 1) := by decide +kernel
theorem dX10_readsStep_90 : decode cX10_readsStep 90 = .ok (.iconst 1, 1) := by decide +kernel
theorem dX10_readsStep_91 : decode cX10_readsStep 91 = .ok (.if_icmp .ne 19, 3) := by decide +kernel
theorem dX10_readsStep_94 : decode cX10_readsStep 94 = .ok (.aload_n 2, 1) := by decide +kernel
theorem dX10_readsStep_95 : decode cX10_readsStep 95 = .ok (.iconst 1, 1) := by decide +kernel
theorem dX10_readsStep_96 : decode cX10_readsStep 96 = .ok (.aload_n 0, 1) := by decide +kernel
theorem dX10_readsStep_97 : decode cX10_readsStep 97 = .ok (.iconst 0, 1) := by decide +kernel
theorem dX10_readsStep_98 : decode cX10_readsStep 98 = .ok (.aload_n 0, 1) := by decide +kernel
theorem dX10_readsStep_99 : decode cX10_readsStep 99 = .ok (.getfield 23, 3) := by decide +kernel
theorem dX10_readsStep_102 : decode cX10_readsStep 102 = .ok (.iconst 0, 1) := by decide +kernel
theorem dX10_readsStep_103 : decode cX10_readsStep 103 = .ok (.iaload, 1) := by decide +kernel
theorem dX10_readsStep_104 : decode cX10_readsStep 104 = .ok (.iconst 1, 1) := by decide +kernel
theorem dX10_readsStep_105 : decode cX10_readsStep 105 = .ok (.isub, 1) := by decide +kernel
theorem dX10_readsStep_106 : decode cX10_readsStep 106 = .ok (.invokevirtual 183, 3) := by decide +kernel
theorem dX10_readsStep_109 : decode cX10_readsStep 109 = .ok (.iastore, 1) := by decide +kernel
theorem dX10_readsStep_110 : decode cX10_readsStep 110 = .ok (.iload_n 1, 1) := by decide +kernel
theorem dX10_readsStep_111 : decode cX10_readsStep 111 = .ok (.iconst 4, 1) := by decide +kernel
theorem dX10_readsStep_112 : decode cX10_readsStep 112 = .ok (.if_icmp .ne 35, 3) := by decide +kernel
theorem dX10_readsStep_115 : decode cX10_readsStep 115 = .ok (.aload_n 2, 1) := by decide +kernel
theorem dX10_readsStep_116 : decode cX10_readsStep 116 = .ok (.iconst 1, 1) := by decide +kernel
theorem dX10_readsStep_117 : decode cX10_readsStep 117 = .ok (.aload_n 0, 1) := by decide +kernel
theorem dX10_readsStep_118 : decode cX10_readsStep 118 = .ok (.iconst 0, 1) := by decide +kernel
theorem dX10_readsStep_119 : decode cX10_readsStep 119 = .ok (.aload_n 0, 1) := by decide +kernel
theorem dX10_readsStep_120 : decode cX10_readsStep 120 = .ok (.getfield 23, 3) := by decide +kernel
theorem dX10_readsStep_123 : decode cX10_readsStep 123 = .ok (.iconst 2, 1) := by decide +kernel
theorem dX10_readsStep_124 : decode cX10_readsStep 124 = .ok (.iaload, 1) := by decide +kernel
theorem dX10_readsStep_125 : decode cX10_readsStep 125 = .ok (.iconst 1, 1) := by decide +kernel
theorem dX10_readsStep_126 : decode cX10_readsStep 126 = .ok (.isub, 1) := by decide +kernel
theorem dX10_readsStep_127 : decode cX10_readsStep 127 = .ok (.invokevirtual 183, 3) := by decide +kernel
theorem dX10_readsStep_130 : decode cX10_readsStep 130 = .ok (.iastore, 1) := by decide +kernel
theorem dX10_readsStep_131 : decode cX10_readsStep 131 = .ok (.aload_n 2, 1) := by decide +kernel
theorem dX10_readsStep_132 : decode cX10_readsStep 132 = .ok (.iconst 2, 1) := by decide +kernel
theorem dX10_readsStep_133 : decode cX10_readsStep 133 = .ok (.aload_n 0, 1) := by decide +kernel
theorem dX10_readsStep_134 : decode cX10_readsStep 134 = .ok (.iconst 0, 1) := by decide +kernel
theorem dX10_readsStep_135 : decode cX10_readsStep 135 = .ok (.aload_n 0, 1) := by decide +kernel
theorem dX10_readsStep_136 : decode cX10_readsStep 136 = .ok (.getfield 23, 3) := by decide +kernel
theorem dX10_readsStep_139 : decode cX10_readsStep 139 = .ok (.iconst 2, 1) := by decide +kernel
theorem dX10_readsStep_140 : decode cX10_readsStep 140 = .ok (.iaload, 1) := by decide +kernel
theorem dX10_readsStep_141 : decode cX10_readsStep 141 = .ok (.iconst 1, 1) := by decide +kernel
theorem dX10_readsStep_142 : decode cX10_readsStep 142 = .ok (.isub, 1) := by decide +kernel
theorem dX10_readsStep_143 : decode cX10_readsStep 143 = .ok (.invokevirtual 183, 3) := by decide +kernel
theorem dX10_readsStep_146 : decode cX10_readsStep 146 = .ok (.iastore, 1) := by decide +kernel
theorem dX10_readsStep_147 : decode cX10_readsStep 147 = .ok (.iload_n 1, 1) := by decide +kernel
theorem dX10_readsStep_148 : decode cX10_readsStep 148 = .ok (.bipush 6, 2) := by decide +kernel
theorem dX10_readsStep_150 : decode cX10_readsStep 150 = .ok (.if_icmp .ne 70, 3) := by decide +kernel
theorem dX10_readsStep_153 : decode cX10_readsStep 153 = .ok (.aload_n 2, 1) := by decide +kernel
theorem dX10_readsStep_154 : decode cX10_readsStep 154 = .ok (.iconst 1, 1) := by decide +kernel
theorem dX10_readsStep_155 : decode cX10_readsStep 155 = .ok (.aload_n 0, 1) := by decide +kernel
theorem dX10_readsStep_156 : decode cX10_readsStep 156 = .ok (.iconst 0, 1) := by decide +kernel
theorem dX10_readsStep_157 : decode cX10_readsStep 157 = .ok (.bipush 30, 2) := by decide +kernel
theorem dX10_readsStep_159 : decode cX10_readsStep 159 = .ok (.invokevirtual 183, 3) := by decide +kernel
theorem dX10_readsStep_162 : decode cX10_readsStep 162 = .ok (.iastore, 1) := by decide +kernel
theorem dX10_readsStep_163 : decode cX10_readsStep 163 = .ok (.aload_n 0, 1) := by decide +kernel
theorem dX10_readsStep_164 : decode cX10_readsStep 164 = .ok (.bipush 91, 2) := by decide +kernel
theorem dX10_readsStep_166 : decode cX10_readsStep 166 = .ok (.invokevirtual 189, 3) := by decide +kernel
theorem dX10_readsStep_169 : decode cX10_readsStep 169 = .ok (.aload_n 0, 1) := by decide +kernel
theorem dX10_readsStep_170 : decode cX10_readsStep 170 = .ok (.invokevirtual 126, 3) := by decide +kernel
theorem dX10_readsStep_173 : decode cX10_readsStep 173 = .ok (.aload_n 0, 1) := by decide +kernel
theorem dX10_readsStep_174 : decode cX10_readsStep 174 = .ok (.getfield 120, 3) := by decide +kernel
theorem dX10_readsStep_177 : decode cX10_readsStep 177 = .ok (.ifCond .ne 27, 3) := by decide +kernel
theorem dX10_readsStep_180 : decode cX10_readsStep 180 = .ok (.aload_n 0, 1) := by decide +kernel
theorem dX10_readsStep_181 : decode cX10_readsStep 181 = .ok (.aload_n 0, 1) := by decide +kernel
theorem dX10_readsStep_182 : decode cX10_readsStep 182 = .ok (.getfield 113, 3) := by decide +kernel
theorem dX10_readsStep_185 : decode cX10_readsStep 185 = .ok (.invokevirtual 116, 3) := by decide +kernel
theorem dX10_readsStep_188 : decode cX10_readsStep 188 = .ok (.bipush 93, 2) := by decide +kernel
theorem dX10_readsStep_190 : decode cX10_readsStep 190 = .ok (.if_icmp .eq 14, 3) := by decide +kernel
theorem dX10_readsStep_193 : decode cX10_readsStep 193 = .ok (.aload_n 0, 1) := by decide +kernel
theorem dX10_readsStep_194 : decode cX10_readsStep 194 = .ok (.invokevirtual 270, 3) := by decide +kernel
theorem dX10_readsStep_197 : decode cX10_readsStep 197 = .ok (.aload_n 0, 1) := by decide +kernel
theorem dX10_readsStep_198 : decode cX10_readsStep 198 = .ok (.invokevirtual 126, 3) := by decide +kernel
theorem dX10_readsStep_201 : decode cX10_readsStep 201 = .ok (.goto (-28), 3) := by decide +kernel
theorem dX10_readsStep_204 : decode cX10_readsStep 204 = .ok (.aload_n 0, 1) := by decide +kernel
theorem dX10_readsStep_205 : decode cX10_readsStep 205 = .ok (.bipush 93, 2) := by decide +kernel
theorem dX10_readsStep_207 : decode cX10_readsStep 207 = .ok (.invokevirtual 189, 3) := by decide +kernel
theorem dX10_readsStep_210 : decode cX10_readsStep 210 = .ok (.aload_n 0, 1) := by decide +kernel
theorem dX10_readsStep_211 : decode cX10_readsStep 211 = .ok (.dup, 1) := by decide +kernel
theorem dX10_readsStep_212 : decode cX10_readsStep 212 = .ok (.getfield 169, 3) := by decide +kernel
theorem dX10_readsStep_215 : decode cX10_readsStep 215 = .ok (.iconst 1, 1) := by decide +kernel
theorem dX10_readsStep_216 : decode cX10_readsStep 216 = .ok (.isub, 1) := by decide +kernel
theorem dX10_readsStep_217 : decode cX10_readsStep 217 = .ok (.putfield 169, 3) := by decide +kernel
theorem dX10_readsStep_220 : decode cX10_readsStep 220 = .ok (.aload_n 2, 1) := by decide +kernel
theorem dX10_readsStep_221 : decode cX10_readsStep 221 = .ok (.iconst 3, 1) := by decide +kernel
theorem dX10_readsStep_222 : decode cX10_readsStep 222 = .ok (.aload_n 0, 1) := by decide +kernel
theorem dX10_readsStep_223 : decode cX10_readsStep 223 = .ok (.getfield 267, 3) := by decide +kernel
theorem dX10_readsStep_226 : decode cX10_readsStep 226 = .ok (.iastore, 1) := by decide +kernel
theorem dX10_readsStep_227 : decode cX10_readsStep 227 = .ok (.aload_n 0, 1) := by decide +kernel
theorem dX10_readsStep_228 : decode cX10_readsStep 228 = .ok (.bipush 59, 2) := by decide +kernel
theorem dX10_readsStep_230 : decode cX10_readsStep 230 = .ok (.invokevirtual 189, 3) := by decide +kernel
theorem dX10_readsStep_233 : decode cX10_readsStep 233 = .ok (.return_, 1) := by decide +kernel
abbrev mt_X10_readsStep : AxM := (RX10, cX10_readsStep, 3, none, false, [])
theorem L1_X10_readsStep_220 {g : AxG} {l : Launch} {S9 : AxS} (N : Nat) (kr : Nat → AxS → Option (AxS)) (d : Nat) (hkr : ∀ (a0 : Nat) (S : AxS) {S9 : AxS}, kr a0 S = some S9 → AxMet g l yX10_readsStep cX10_readsStep 3 none d 0 0 [.ref a0] S ((.inl none, S9)))  (v0 : Nat) (v2 : Nat) (S : AxS) (h : F_X10_readsStep_220 N kr  v0 v2 S = some S9) : AW g l (axRm (d + 5) 0 0) mt_X10_readsStep (axMQ g 0 0 (.inl none, S9)) 0 0 S 220 [(0, .ref v0), (2, .ref v2)] [] := by
  unfold F_X10_readsStep_220 at h
  refine aw_aload_n 1 dX10_readsStep_220 rfl rfl ?_
  refine aw_iconst 3 dX10_readsStep_221 rfl ?_
  refine aw_aload_n 0 dX10_readsStep_222 rfl rfl ?_
  refine aw_getI axc10 26 rfl rfl wd_1311 dX10_readsStep_223 h (fun x1 h => ?_)
  refine aw_iast dX10_readsStep_226 h (fun T2 h => ?_)
  refine aw_aload_n 0 dX10_readsStep_227 rfl rfl ?_
  refine aw_bipush 59 dX10_readsStep_228 (by decide) ?_
  obtain ⟨hL3, h⟩ := ax_is_spec h
  refine aw_doneV (rest := []) h (fun S9 hF => aw_runV (As := [.int 59]) (rest := []) (L1_X10_sign N hF) axc10 hL3 wd_1519 wd_1516 wd_1518 wd_50 wd_97 pd_X10_sign rfl (ax_rm (by omega) rfl) ax_hf0 (Nat.le_of_ble_eq_true rfl) rfl dX10_readsStep_230) (fun T4 h => ?_)
  exact aw_vret dX10_readsStep_233 rfl (Nat.le_refl _) (Nat.le_refl _) h
theorem L1_X10_readsStep_204 {g : AxG} {l : Launch} {S9 : AxS} (N : Nat) (kr : Nat → AxS → Option (AxS)) (d : Nat) (hkr : ∀ (a0 : Nat) (S : AxS) {S9 : AxS}, kr a0 S = some S9 → AxMet g l yX10_readsStep cX10_readsStep 3 none d 0 0 [.ref a0] S ((.inl none, S9)))  (v0 : Nat) (v2 : Nat) (S : AxS) (h : F_X10_readsStep_204 N kr  v0 v2 S = some S9) : AW g l (axRm (d + 5) 0 0) mt_X10_readsStep (axMQ g 0 0 (.inl none, S9)) 0 0 S 204 [(0, .ref v0), (2, .ref v2)] [] := by
  unfold F_X10_readsStep_204 at h
  refine aw_aload_n 0 dX10_readsStep_204 rfl rfl ?_
  refine aw_bipush 93 dX10_readsStep_205 (by decide) ?_
  obtain ⟨hL1, h⟩ := ax_is_spec h
  refine aw_doneV (rest := []) h (fun S9 hF => aw_runV (As := [.int 93]) (rest := []) (L1_X10_sign N hF) axc10 hL1 wd_1519 wd_1516 wd_1518 wd_50 wd_97 pd_X10_sign rfl (ax_rm (by omega) rfl) ax_hf0 (Nat.le_of_ble_eq_true rfl) rfl dX10_readsStep_207) (fun T2 h => ?_)
  refine aw_aload_n 0 dX10_readsStep_210 rfl rfl ?_
  refine aw_dup rfl dX10_readsStep_211 ?_
  refine aw_getI axc10 8 rfl rfl wd_1293 dX10_readsStep_212 h (fun x4 h => ?_)
  refine aw_iconst 1 dX10_readsStep_215 rfl ?_
  refine aw_isub dX10_readsStep_216 ?_
  refine aw_putI axc10 8 rfl rfl wd_1293 rfl rfl rfl dX10_readsStep_217 h (fun T5 h => ?_)
  refine aw_env [(0, .ref v0), (2, .ref v2)] [0, 1] rfl ?_
  exact L1_X10_readsStep_220 N kr d hkr  v0 v2 T5 h
theorem L1_X10_readsStep_173b {g : AxG} {l : Launch} {S9 : AxS} (N : Nat) (kr : Nat → AxS → Option (AxS)) (d : Nat) (hkr : ∀ (a0 : Nat) (S : AxS) {S9 : AxS}, kr a0 S = some S9 → AxMet g l yX10_readsStep cX10_readsStep 3 none d 0 0 [.ref a0] S ((.inl none, S9))) (K173 : Nat → Nat → AxS → Option (AxS)) (hK173 : ∀ (v0 : Nat) (v2 : Nat) (S : AxS), K173 v0 v2 S = some S9 → AW g l (axRm (d + 5) 0 0) mt_X10_readsStep (axMQ g 0 0 (.inl none, S9)) 0 0 S 173 [(0, .ref v0), (2, .ref v2)] []) (v0 : Nat) (v2 : Nat) (S : AxS) (h : F_X10_readsStep_173b N kr K173 v0 v2 S = some S9) : AW g l (axRm (d + 5) 0 0) mt_X10_readsStep (axMQ g 0 0 (.inl none, S9)) 0 0 S 173 [(0, .ref v0), (2, .ref v2)] [] := by
  unfold F_X10_readsStep_173b at h
  refine aw_aload_n 0 dX10_readsStep_173 rfl rfl ?_
  refine aw_getI axc10 5 rfl rfl wd_1290 dX10_readsStep_174 h (fun x1 h => ?_)
  refine aw_if_ne 204 dX10_readsStep_177 (by decide) h (fun h => ?_) (fun h => ?_)
  · refine aw_env [(0, .ref v0), (2, .ref v2)] [0, 1] rfl ?_
    exact L1_X10_readsStep_204 N kr d hkr  v0 v2 S h
  · refine aw_aload_n 0 dX10_readsStep_180 rfl rfl ?_
    refine aw_aload_n 0 dX10_readsStep_181 rfl rfl ?_
    refine aw_getI axc10 4 rfl rfl wd_1289 dX10_readsStep_182 h (fun x2 h => ?_)
    obtain ⟨hL3, h⟩ := ax_is_spec h
    refine aw_doneI (rest := []) h (fun r9 S9 hF => aw_runV (As := [.int x2]) (rest := []) (L1_X10_byteAt N hF) axc10 hL3 wd_1464 wd_1461 wd_1463 wd_41 wd_97 pd_X10_byteAt rfl (ax_rm (by omega) rfl) ax_hf0 (Nat.le_of_ble_eq_true rfl) rfl dX10_readsStep_185) (fun x5 T4 h => ?_)
    refine aw_bipush 93 dX10_readsStep_188 (by decide) ?_
    refine aw_icmp_eq 204 dX10_readsStep_190 (by decide) h (fun h => ?_) (fun h => ?_)
    · refine aw_env [(0, .ref v0), (2, .ref v2)] [0, 1] rfl ?_
      exact L1_X10_readsStep_204 N kr d hkr  v0 v2 T4 h
    · refine aw_aload_n 0 dX10_readsStep_193 rfl rfl ?_
      obtain ⟨hL6, h⟩ := ax_is_spec h
      refine aw_doneV (rest := []) h (fun S9 hF => aw_runV (As := []) (rest := []) (hkr v0 T4 hF) axc10 hL6 wd_1575 wd_1572 wd_1574 wd_60 wd_97 pd_X10_readsStep rfl (ax_rm (by omega) rfl) ax_hf0 (Nat.le_of_ble_eq_true rfl) rfl dX10_readsStep_194) (fun T7 h => ?_)
      refine aw_aload_n 0 dX10_readsStep_197 rfl rfl ?_
      obtain ⟨hL9, h⟩ := ax_is_spec h
      refine aw_doneV (rest := []) h (fun S9 hF => aw_runV (As := []) (rest := []) (L1_X10_blanks N hF) axc10 hL9 wd_1460 wd_1457 wd_1459 wd_40 wd_97 pd_X10_blanks rfl (ax_rm (by omega) rfl) ax_hf0 (Nat.le_of_ble_eq_true rfl) rfl dX10_readsStep_198) (fun T10 h => ?_)
      refine aw_goto 173 dX10_readsStep_201 (by decide) ?_
      refine aw_env [(0, .ref v0), (2, .ref v2)] [0, 1] rfl ?_
      exact hK173 v0 v2 T10 h
theorem L1_X10_readsStep_173 {g : AxG} {l : Launch} {S9 : AxS} (N : Nat) (kr : Nat → AxS → Option (AxS)) (d : Nat) (hkr : ∀ (a0 : Nat) (S : AxS) {S9 : AxS}, kr a0 S = some S9 → AxMet g l yX10_readsStep cX10_readsStep 3 none d 0 0 [.ref a0] S ((.inl none, S9)))  : ∀ (n : Nat) (v0 : Nat) (v2 : Nat) (S : AxS), F_X10_readsStep_173 N kr  n v0 v2 S = some S9 → AW g l (axRm (d + 5) 0 0) mt_X10_readsStep (axMQ g 0 0 (.inl none, S9)) 0 0 S 173 [(0, .ref v0), (2, .ref v2)] [] := by
  intro n
  induction n with
  | zero => intro v0 v2 S h; cases h
  | succ n ih => intro v0 v2 S h; exact L1_X10_readsStep_173b N kr d hkr (F_X10_readsStep_173 N kr  n) ih v0 v2 S h
theorem L1_X10_readsStep_147 {g : AxG} {l : Launch} {S9 : AxS} (N : Nat) (kr : Nat → AxS → Option (AxS)) (d : Nat) (hkr : ∀ (a0 : Nat) (S : AxS) {S9 : AxS}, kr a0 S = some S9 → AxMet g l yX10_readsStep cX10_readsStep 3 none d 0 0 [.ref a0] S ((.inl none, S9)))  (v0 : Nat) (v1 : Int32) (v2 : Nat) (S : AxS) (h : F_X10_readsStep_147 N kr  v0 v1 v2 S = some S9) : AW g l (axRm (d + 5) 0 0) mt_X10_readsStep (axMQ g 0 0 (.inl none, S9)) 0 0 S 147 [(0, .ref v0), (1, .int v1), (2, .ref v2)] [] := by
  unfold F_X10_readsStep_147 at h
  refine aw_iload_n 1 dX10_readsStep_147 rfl rfl ?_
  refine aw_bipush 6 dX10_readsStep_148 (by decide) ?_
  refine aw_icmp_ne 220 dX10_readsStep_150 (by decide) h (fun h => ?_) (fun h => ?_)
  · refine aw_env [(0, .ref v0), (2, .ref v2)] [0, 2] rfl ?_
    exact L1_X10_readsStep_220 N kr d hkr  v0 v2 S h
  · refine aw_aload_n 2 dX10_readsStep_153 rfl rfl ?_
    refine aw_iconst 1 dX10_readsStep_154 rfl ?_
    refine aw_aload_n 0 dX10_readsStep_155 rfl rfl ?_
    refine aw_iconst 0 dX10_readsStep_156 rfl ?_
    refine aw_bipush 30 dX10_readsStep_157 (by decide) ?_
    obtain ⟨hL1, h⟩ := ax_is_spec h
    refine aw_doneI (rest := [.int 1, .ref v2]) h (fun r9 S9 hF => aw_runV (As := [.int 0, .int 30]) (rest := [.int 1, .ref v2]) (L1_X10_number N hF) axc10 hL1 wd_1508 wd_1505 wd_1507 wd_49 wd_97 pd_X10_number rfl (ax_rm (by omega) rfl) ax_hf0 (Nat.le_of_ble_eq_true rfl) rfl dX10_readsStep_159) (fun x3 T2 h => ?_)
    refine aw_iast dX10_readsStep_162 h (fun T4 h => ?_)
    refine aw_aload_n 0 dX10_readsStep_163 rfl rfl ?_
    refine aw_bipush 91 dX10_readsStep_164 (by decide) ?_
    obtain ⟨hL5, h⟩ := ax_is_spec h
    refine aw_doneV (rest := []) h (fun S9 hF => aw_runV (As := [.int 91]) (rest := []) (L1_X10_sign N hF) axc10 hL5 wd_1519 wd_1516 wd_1518 wd_50 wd_97 pd_X10_sign rfl (ax_rm (by omega) rfl) ax_hf0 (Nat.le_of_ble_eq_true rfl) rfl dX10_readsStep_166) (fun T6 h => ?_)
    refine aw_aload_n 0 dX10_readsStep_169 rfl rfl ?_
    obtain ⟨hL8, h⟩ := ax_is_spec h
    refine aw_doneV (rest := []) h (fun S9 hF => aw_runV (As := []) (rest := []) (L1_X10_blanks N hF) axc10 hL8 wd_1460 wd_1457 wd_1459 wd_40 wd_97 pd_X10_blanks rfl (ax_rm (by omega) rfl) ax_hf0 (Nat.le_of_ble_eq_true rfl) rfl dX10_readsStep_170) (fun T9 h => ?_)
    refine aw_env [(0, .ref v0), (2, .ref v2)] [0, 2] rfl ?_
    exact L1_X10_readsStep_173 N kr d hkr  N v0 v2 T9 h
theorem L1_X10_readsStep_110 {g : AxG} {l : Launch} {S9 : AxS} (N : Nat) (kr : Nat → AxS → Option (AxS)) (d : Nat) (hkr : ∀ (a0 : Nat) (S : AxS) {S9 : AxS}, kr a0 S = some S9 → AxMet g l yX10_readsStep cX10_readsStep 3 none d 0 0 [.ref a0] S ((.inl none, S9)))  (v0 : Nat) (v1 : Int32) (v2 : Nat) (S : AxS) (h : F_X10_readsStep_110 N kr  v0 v1 v2 S = some S9) : AW g l (axRm (d + 5) 0 0) mt_X10_readsStep (axMQ g 0 0 (.inl none, S9)) 0 0 S 110 [(0, .ref v0), (1, .int v1), (2, .ref v2)] [] := by
  unfold F_X10_readsStep_110 at h
  refine aw_iload_n 1 dX10_readsStep_110 rfl rfl ?_
  refine aw_iconst 4 dX10_readsStep_111 rfl ?_
  refine aw_icmp_ne 147 dX10_readsStep_112 (by decide) h (fun h => ?_) (fun h => ?_)
  · refine aw_env [(0, .ref v0), (1, .int v1), (2, .ref v2)] [0, 1, 2] rfl ?_
    exact L1_X10_readsStep_147 N kr d hkr  v0 v1 v2 S h
  · refine aw_aload_n 2 dX10_readsStep_115 rfl rfl ?_
    refine aw_iconst 1 dX10_readsStep_116 rfl ?_
    refine aw_aload_n 0 dX10_readsStep_117 rfl rfl ?_
    refine aw_iconst 0 dX10_readsStep_118 rfl ?_
    refine aw_aload_n 0 dX10_readsStep_119 rfl rfl ?_
    refine aw_getR axc10 12 rfl rfl wd_1297 dX10_readsStep_120 h (fun a1 h => ?_)
    refine aw_iconst 2 dX10_readsStep_123 rfl ?_
    refine aw_iald dX10_readsStep_124 h (fun x2 h => ?_)
    refine aw_iconst 1 dX10_readsStep_125 rfl ?_
    refine aw_isub dX10_readsStep_126 ?_
    obtain ⟨hL3, h⟩ := ax_is_spec h
    refine aw_doneI (rest := [.int 1, .ref v2]) h (fun r9 S9 hF => aw_runV (As := [.int 0, .int (x2 - 1)]) (rest := [.int 1, .ref v2]) (L1_X10_number N hF) axc10 hL3 wd_1508 wd_1505 wd_1507 wd_49 wd_97 pd_X10_number rfl (ax_rm (by omega) rfl) ax_hf0 (Nat.le_of_ble_eq_true rfl) rfl dX10_readsStep_127) (fun x5 T4 h => ?_)
    refine aw_iast dX10_readsStep_130 h (fun T6 h => ?_)
    refine aw_aload_n 2 dX10_readsStep_131 rfl rfl ?_
    refine aw_iconst 2 dX10_readsStep_132 rfl ?_
    refine aw_aload_n 0 dX10_readsStep_133 rfl rfl ?_
    refine aw_iconst 0 dX10_readsStep_134 rfl ?_
    refine aw_aload_n 0 dX10_readsStep_135 rfl rfl ?_
    refine aw_getR axc10 12 rfl rfl wd_1297 dX10_readsStep_136 h (fun a7 h => ?_)
    refine aw_iconst 2 dX10_readsStep_139 rfl ?_
    refine aw_iald dX10_readsStep_140 h (fun x8 h => ?_)
    refine aw_iconst 1 dX10_readsStep_141 rfl ?_
    refine aw_isub dX10_readsStep_142 ?_
    obtain ⟨hL9, h⟩ := ax_is_spec h
    refine aw_doneI (rest := [.int 2, .ref v2]) h (fun r9 S9 hF => aw_runV (As := [.int 0, .int (x8 - 1)]) (rest := [.int 2, .ref v2]) (L1_X10_number N hF) axc10 hL9 wd_1508 wd_1505 wd_1507 wd_49 wd_97 pd_X10_number rfl (ax_rm (by omega) rfl) ax_hf0 (Nat.le_of_ble_eq_true rfl) rfl dX10_readsStep_143) (fun x11 T10 h => ?_)
    refine aw_iast dX10_readsStep_146 h (fun T12 h => ?_)
    refine aw_env [(0, .ref v0), (1, .int v1), (2, .ref v2)] [0, 1, 2] rfl ?_
    exact L1_X10_readsStep_147 N kr d hkr  v0 v1 v2 T12 h
theorem L1_X10_readsStep_89 {g : AxG} {l : Launch} {S9 : AxS} (N : Nat) (kr : Nat → AxS → Option (AxS)) (d : Nat) (hkr : ∀ (a0 : Nat) (S : AxS) {S9 : AxS}, kr a0 S = some S9 → AxMet g l yX10_readsStep cX10_readsStep 3 none d 0 0 [.ref a0] S ((.inl none, S9)))  (v0 : Nat) (v1 : Int32) (v2 : Nat) (S : AxS) (h : F_X10_readsStep_89 N kr  v0 v1 v2 S = some S9) : AW g l (axRm (d + 5) 0 0) mt_X10_readsStep (axMQ g 0 0 (.inl none, S9)) 0 0 S 89 [(0, .ref v0), (1, .int v1), (2, .ref v2)] [] := by
  unfold F_X10_readsStep_89 at h
  refine aw_iload_n 1 dX10_readsStep_89 rfl rfl ?_
  refine aw_iconst 1 dX10_readsStep_90 rfl ?_
  refine aw_icmp_ne 110 dX10_readsStep_91 (by decide) h (fun h => ?_) (fun h => ?_)
  · refine aw_env [(0, .ref v0), (1, .int v1), (2, .ref v2)] [0, 1, 2] rfl ?_
    exact L1_X10_readsStep_110 N kr d hkr  v0 v1 v2 S h
  · refine aw_aload_n 2 dX10_readsStep_94 rfl rfl ?_
    refine aw_iconst 1 dX10_readsStep_95 rfl ?_
    refine aw_aload_n 0 dX10_readsStep_96 rfl rfl ?_
    refine aw_iconst 0 dX10_readsStep_97 rfl ?_
    refine aw_aload_n 0 dX10_readsStep_98 rfl rfl ?_
    refine aw_getR axc10 12 rfl rfl wd_1297 dX10_readsStep_99 h (fun a1 h => ?_)
    refine aw_iconst 0 dX10_readsStep_102 rfl ?_
    refine aw_iald dX10_readsStep_103 h (fun x2 h => ?_)
    refine aw_iconst 1 dX10_readsStep_104 rfl ?_
    refine aw_isub dX10_readsStep_105 ?_
    obtain ⟨hL3, h⟩ := ax_is_spec h
    refine aw_doneI (rest := [.int 1, .ref v2]) h (fun r9 S9 hF => aw_runV (As := [.int 0, .int (x2 - 1)]) (rest := [.int 1, .ref v2]) (L1_X10_number N hF) axc10 hL3 wd_1508 wd_1505 wd_1507 wd_49 wd_97 pd_X10_number rfl (ax_rm (by omega) rfl) ax_hf0 (Nat.le_of_ble_eq_true rfl) rfl dX10_readsStep_106) (fun x5 T4 h => ?_)
    refine aw_iast dX10_readsStep_109 h (fun T6 h => ?_)
    refine aw_env [(0, .ref v0), (1, .int v1), (2, .ref v2)] [0, 1, 2] rfl ?_
    exact L1_X10_readsStep_110 N kr d hkr  v0 v1 v2 T6 h
theorem L1_X10_readsStep_78 {g : AxG} {l : Launch} {S9 : AxS} (N : Nat) (kr : Nat → AxS → Option (AxS)) (d : Nat) (hkr : ∀ (a0 : Nat) (S : AxS) {S9 : AxS}, kr a0 S = some S9 → AxMet g l yX10_readsStep cX10_readsStep 3 none d 0 0 [.ref a0] S ((.inl none, S9)))  (v0 : Nat) (v1 : Int32) (v2 : Nat) (S : AxS) (h : F_X10_readsStep_78 N kr  v0 v1 v2 S = some S9) : AW g l (axRm (d + 5) 0 0) mt_X10_readsStep (axMQ g 0 0 (.inl none, S9)) 0 0 S 78 [(0, .ref v0), (1, .int v1), (2, .ref v2)] [] := by
  unfold F_X10_readsStep_78 at h
  refine aw_aload_n 2 dX10_readsStep_78 rfl rfl ?_
  refine aw_iconst 1 dX10_readsStep_79 rfl ?_
  refine aw_aload_n 0 dX10_readsStep_80 rfl rfl ?_
  refine aw_iconst 1 dX10_readsStep_81 rfl ?_
  refine aw_sipush 999 dX10_readsStep_82 (by decide) ?_
  obtain ⟨hL1, h⟩ := ax_is_spec h
  refine aw_doneI (rest := [.int 1, .ref v2]) h (fun r9 S9 hF => aw_runV (As := [.int 1, .int 999]) (rest := [.int 1, .ref v2]) (L1_X10_number N hF) axc10 hL1 wd_1508 wd_1505 wd_1507 wd_49 wd_97 pd_X10_number rfl (ax_rm (by omega) rfl) ax_hf0 (Nat.le_of_ble_eq_true rfl) rfl dX10_readsStep_85) (fun x3 T2 h => ?_)
  refine aw_iast dX10_readsStep_88 h (fun T4 h => ?_)
  refine aw_env [(0, .ref v0), (1, .int v1), (2, .ref v2)] [0, 1, 2] rfl ?_
  exact L1_X10_readsStep_89 N kr d hkr  v0 v1 v2 T4 h
theorem L1_X10_readsStep_33 {g : AxG} {l : Launch} {S9 : AxS} (N : Nat) (kr : Nat → AxS → Option (AxS)) (d : Nat) (hkr : ∀ (a0 : Nat) (S : AxS) {S9 : AxS}, kr a0 S = some S9 → AxMet g l yX10_readsStep cX10_readsStep 3 none d 0 0 [.ref a0] S ((.inl none, S9)))  (v0 : Nat) (v1 : Int32) (S : AxS) (h : F_X10_readsStep_33 N kr  v0 v1 S = some S9) : AW g l (axRm (d + 5) 0 0) mt_X10_readsStep (axMQ g 0 0 (.inl none, S9)) 0 0 S 33 [(0, .ref v0), (1, .int v1)] [] := by
  unfold F_X10_readsStep_33 at h
  refine aw_aload_n 0 dX10_readsStep_33 rfl rfl ?_
  refine aw_getI axc10 5 rfl rfl wd_1290 dX10_readsStep_34 h (fun x1 h => ?_)
  refine aw_if_eq 41 dX10_readsStep_37 (by decide) h (fun h => ?_) (fun h => ?_)
  · refine aw_aload_n 0 dX10_readsStep_41 rfl rfl ?_
    obtain ⟨hL2, h⟩ := ax_is_spec h
    refine aw_doneV (rest := []) h (fun S9 hF => aw_runV (As := []) (rest := []) (L1_X10_skipWord N hF) axc10 hL2 wd_1504 wd_1501 wd_1503 wd_48 wd_97 pd_X10_skipWord rfl (ax_rm (by omega) rfl) ax_hf0 (Nat.le_of_ble_eq_true rfl) rfl dX10_readsStep_42) (fun T3 h => ?_)
    refine aw_aload_n 0 dX10_readsStep_45 rfl rfl ?_
    refine aw_getR axc10 25 rfl rfl wd_1310 dX10_readsStep_46 h (fun a5 h => ?_)
    refine aw_aload_n 0 dX10_readsStep_49 rfl rfl ?_
    refine aw_getI axc10 26 rfl rfl wd_1311 dX10_readsStep_50 h (fun x6 h => ?_)
    refine aw_aald dX10_readsStep_53 h (fun a7 h => ?_)
    refine aw_astore_n 2 [(2, .ref a7), (0, .ref v0), (1, .int v1)] dX10_readsStep_54 rfl rfl rfl ?_
    refine aw_aload_n 1 dX10_readsStep_55 rfl rfl ?_
    refine aw_dup rfl dX10_readsStep_56 ?_
    refine aw_getI axc10 26 rfl rfl wd_1311 dX10_readsStep_57 h (fun x8 h => ?_)
    refine aw_iconst 1 dX10_readsStep_60 rfl ?_
    refine aw_iadd dX10_readsStep_61 ?_
    refine aw_putI axc10 26 rfl rfl wd_1311 rfl rfl rfl dX10_readsStep_62 h (fun T9 h => ?_)
    refine aw_aload_n 0 dX10_readsStep_65 rfl rfl ?_
    refine aw_iconst 0 dX10_readsStep_66 rfl ?_
    refine aw_iload_n 2 dX10_readsStep_67 rfl rfl ?_
    refine aw_iast dX10_readsStep_68 h (fun T10 h => ?_)
    refine aw_iload_n 2 dX10_readsStep_69 rfl rfl ?_
    refine aw_if_eq 78 dX10_readsStep_70 (by decide) h (fun h => ?_) (fun h => ?_)
    · refine aw_env [(0, .ref v0), (1, .int v1), (2, .ref a7)] [1, 2, 0] rfl ?_
      exact L1_X10_readsStep_78 N kr d hkr  v0 v1 a7 T10 h
    · refine aw_iload_n 2 dX10_readsStep_73 rfl rfl ?_
      refine aw_iconst 3 dX10_readsStep_74 rfl ?_
      refine aw_icmp_ne 89 dX10_readsStep_75 (by decide) h (fun h => ?_) (fun h => ?_)
      · refine aw_env [(0, .ref v0), (1, .int v1), (2, .ref a7)] [1, 2, 0] rfl ?_
        exact L1_X10_readsStep_89 N kr d hkr  v0 v1 a7 T10 h
      · refine aw_env [(0, .ref v0), (1, .int v1), (2, .ref a7)] [1, 2, 0] rfl ?_
        exact L1_X10_readsStep_78 N kr d hkr  v0 v1 a7 T10 h
  · exact aw_vret dX10_readsStep_40 rfl (Nat.le_refl _) (Nat.le_refl _) h
theorem L1_X10_readsStep_19 {g : AxG} {l : Launch} {S9 : AxS} (N : Nat) (kr : Nat → AxS → Option (AxS)) (d : Nat) (hkr : ∀ (a0 : Nat) (S : AxS) {S9 : AxS}, kr a0 S = some S9 → AxMet g l yX10_readsStep cX10_readsStep 3 none d 0 0 [.ref a0] S ((.inl none, S9)))  (v0 : Nat) (v1 : Int32) (S : AxS) (h : F_X10_readsStep_19 N kr  v0 v1 S = some S9) : AW g l (axRm (d + 5) 0 0) mt_X10_readsStep (axMQ g 0 0 (.inl none, S9)) 0 0 S 19 [(0, .ref v0), (1, .int v1)] [] := by
  unfold F_X10_readsStep_19 at h
  refine aw_iload_n 1 dX10_readsStep_19 rfl rfl ?_
  refine aw_bipush 6 dX10_readsStep_20 (by decide) ?_
  refine aw_icmp_ne 33 dX10_readsStep_22 (by decide) h (fun h => ?_) (fun h => ?_)
  · refine aw_env [(0, .ref v0), (1, .int v1)] [0, 1] rfl ?_
    exact L1_X10_readsStep_33 N kr d hkr  v0 v1 S h
  · refine aw_aload_n 0 dX10_readsStep_25 rfl rfl ?_
    obtain ⟨hL1, h⟩ := ax_is_spec h
    refine aw_doneI (rest := []) h (fun r9 S9 hF => aw_runV (As := []) (rest := []) (L1_X10_opensOne N hF) axc10 hL1 wd_1543 wd_1540 wd_1542 wd_55 wd_97 pd_X10_opensOne rfl (ax_rm (by omega) rfl) ax_hf0 (Nat.le_of_ble_eq_true rfl) rfl dX10_readsStep_26) (fun x3 T2 h => ?_)
    refine aw_if_ne 33 dX10_readsStep_29 (by decide) h (fun h => ?_) (fun h => ?_)
    · refine aw_env [(0, .ref v0), (1, .int v1)] [0, 1] rfl ?_
      exact L1_X10_readsStep_33 N kr d hkr  v0 v1 T2 h
    · exact aw_vret dX10_readsStep_32 rfl (Nat.le_refl _) (Nat.le_refl _) h
theorem L1_X10_readsStep {g : AxG} {l : Launch} (N : Nat) (kr : Nat → AxS → Option (AxS)) (d : Nat) (hkr : ∀ (a0 : Nat) (S : AxS) {S9 : AxS}, kr a0 S = some S9 → AxMet g l yX10_readsStep cX10_readsStep 3 none d 0 0 [.ref a0] S ((.inl none, S9))) {v0 : Nat} {S : AxS} {S9 : AxS} (h : F_X10_readsStep N kr v0 S = some S9) : AxMet g l yX10_readsStep cX10_readsStep 3 none (d + 5) 0 0 [.ref v0] S ((.inl none, S9)) := by
  refine ax_met (own := RX10) (ini := false) (by decide +kernel) rfl (fun h => nomatch h) rfl ?_
  show AW g l (axRm (d + 5) 0 0) mt_X10_readsStep (axMQ g 0 0 (.inl none, S9)) 0 0 S 0 [(0, .ref v0)] []
  unfold F_X10_readsStep at h
  refine aw_aload_n 0 dX10_readsStep_0 rfl rfl ?_
  obtain ⟨hL1, h⟩ := ax_is_spec h
  refine aw_doneI (rest := []) h (fun r9 S9 hF => aw_runV (As := []) (rest := []) (L1_X10_stepHere N hF) axc10 hL1 wd_1579 wd_1576 wd_1578 wd_61 wd_97 pd_X10_stepHere rfl (ax_rm (by omega) rfl) ax_hf0 (Nat.le_of_ble_eq_true rfl) rfl dX10_readsStep_1) (fun x3 T2 h => ?_)
  refine aw_istore_n 1 [(1, .int x3), (0, .ref v0)] dX10_readsStep_4 rfl rfl rfl ?_
  refine aw_iload_n 0 dX10_readsStep_5 rfl rfl ?_
  refine aw_iconst (-1) dX10_readsStep_6 rfl ?_
  refine aw_icmp_ne 19 dX10_readsStep_7 (by decide) h (fun h => ?_) (fun h => ?_)
  · refine aw_env [(0, .ref v0), (1, .int x3)] [1, 0] rfl ?_
    exact L1_X10_readsStep_19 N kr d hkr  v0 x3 T2 h
  · refine aw_aload_n 1 dX10_readsStep_10 rfl rfl ?_
    refine aw_iconst 1 dX10_readsStep_11 rfl ?_
    refine aw_aload_n 1 dX10_readsStep_12 rfl rfl ?_
    refine aw_getI axc10 4 rfl rfl wd_1289 dX10_readsStep_13 h (fun x4 h => ?_)
    obtain ⟨hL5, h⟩ := ax_is_spec h
    refine aw_doneV (rest := []) h (fun S9 hF => aw_runV (As := [.int 1, .int x4]) (rest := []) (L1_X10_wrong N hF) axc10 hL5 wd_1493 wd_1490 wd_1492 wd_46 wd_97 pd_X10_wrong rfl (ax_rm (by omega) rfl) ax_hf0 (Nat.le_of_ble_eq_true rfl) rfl dX10_readsStep_16) (fun T6 h => ?_)
    refine aw_env [(0, .ref v0), (1, .int x3)] [1, 0] rfl ?_
    exact L1_X10_readsStep_19 N kr d hkr  v0 x3 T6 h
theorem L1GG_X10_readsStep {g : AxG} {l : Launch} (N : Nat) : ∀ (n : Nat) (v0 : Nat) (S : AxS) {S9 : AxS}, GG_X10_readsStep N n v0 S = some S9 → AxMet g l yX10_readsStep cX10_readsStep 3 none (5 * n) 0 0 [.ref v0] S ((.inl none, S9)) := by
  intro n
  induction n with
  | zero => intro v0 S S9 h; cases h
  | succ n ih =>
    intro v0 S S9 h
    have h9 := L1_X10_readsStep (g := g) (l := l) N (GG_X10_readsStep N n) (5 * n) (fun a0 S S9 h => ih a0 S h) h
    exact h9
theorem L1G_X10_readsStep {g : AxG} {l : Launch} (N : Nat) {v0 : Nat} {S : AxS} {S9 : AxS} (h : G_X10_readsStep N v0 S = some S9) : AxMet g l yX10_readsStep cX10_readsStep 3 none (45) 0 0 [.ref v0] S ((.inl none, S9)) := L1GG_X10_readsStep N 9 v0 S h


theorem dX10_book_0 : decode cX10_book 0 = .ok (.aload_n 0, 1) := by decide +kernel
theorem dX10_book_1 : decode cX10_book 1 = .ok (.iconst 0, 1) := by decide +kernel
theorem dX10_book_2 : decode cX10_book 2 = .ok (.putfield 104, 3) := by decide +kernel
theorem dX10_book_5 : decode cX10_book 5 = .ok (.aload_n 0, 1) := by decide +kernel
theorem dX10_book_6 : decode cX10_book 6 = .ok (.iload_n 1, 1) := by decide +kernel
theorem dX10_book_7 : decode cX10_book 7 = .ok (.iconst 0, 1) := by decide +kernel
theorem dX10_book_8 : decode cX10_book 8 = .ok (.aload_n 0, 1) := by decide +kernel
theorem dX10_book_9 : decode cX10_book 9 = .ok (.getfield 107, 3) := by decide +kernel
theorem dX10_book_12 : decode cX10_book 12 = .ok (.invokestatic 138, 3) := by decide +kernel
theorem dX10_book_15 : decode cX10_book 15 = .ok (.ifCond .eq 9, 3) := by decide +kernel
theorem dX10_book_18 : decode cX10_book 18 = .ok (.iload_n 1, 1) := by decide +kernel
theorem dX10_book_19 : decode cX10_book 19 = .ok (.bipush 100, 2) := by decide +kernel
theorem dX10_book_21 : decode cX10_book 21 = .ok (.if_icmp .le 7, 3) := by decide +kernel
theorem dX10_book_24 : decode cX10_book 24 = .ok (.iconst 1, 1) := by decide +kernel
theorem dX10_book_25 : decode cX10_book 25 = .ok (.goto 4, 3) := by decide +kernel
theorem dX10_book_28 : decode cX10_book 28 = .ok (.iconst 0, 1) := by decide +kernel
theorem dX10_book_29 : decode cX10_book 29 = .ok (.iconst 1, 1) := by decide +kernel
theorem dX10_book_30 : decode cX10_book 30 = .ok (.iconst 1, 1) := by decide +kernel
theorem dX10_book_31 : decode cX10_book 31 = .ok (.invokevirtual 193, 3) := by decide +kernel
theorem dX10_book_34 : decode cX10_book 34 = .ok (.ifCond .eq 5, 3) := by decide +kernel
theorem dX10_book_37 : decode cX10_book 37 = .ok (.iconst 0, 1) := by decide +kernel
theorem dX10_book_38 : decode cX10_book 38 = .ok (.ireturn, 1) := by decide +kernel
theorem dX10_book_39 : decode cX10_book 39 = .ok (.aload_n 0, 1) := by decide +kernel
theorem dX10_book_40 : decode cX10_book 40 = .ok (.iload_n 1, 1) := by decide +kernel
theorem dX10_book_41 : decode cX10_book 41 = .ok (.invokevirtual 197, 3) := by decide +kernel
theorem dX10_book_44 : decode cX10_book 44 = .ok (.iconst 0, 1) := by decide +kernel
theorem dX10_book_45 : decode cX10_book 45 = .ok (.istore_n 2, 1) := by decide +kernel
theorem dX10_book_46 : decode cX10_book 46 = .ok (.aload_n 0, 1) := by decide +kernel
theorem dX10_book_47 : decode cX10_book 47 = .ok (.getfield 120, 3) := by decide +kernel
theorem dX10_book_50 : decode cX10_book 50 = .ok (.ifCond .ne 142, 3) := by decide +kernel
theorem dX10_book_53 : decode cX10_book 53 = .ok (.aload_n 0, 1) := by decide +kernel
theorem dX10_book_54 : decode cX10_book 54 = .ok (.getfield 113, 3) := by decide +kernel
theorem dX10_book_57 : decode cX10_book 57 = .ok (.aload_n 0, 1) := by decide +kernel
theorem dX10_book_58 : decode cX10_book 58 = .ok (.getfield 110, 3) := by decide +kernel
theorem dX10_book_61 : decode cX10_book 61 = .ok (.if_icmp .ge 131, 3) := by decide +kernel
theorem dX10_book_64 : decode cX10_book 64 = .ok (.aload_n 0, 1) := by decide +kernel
theorem dX10_book_65 : decode cX10_book 65 = .ok (.getfield 113, 3) := by decide +kernel
theorem dX10_book_68 : decode cX10_book 68 = .ok (.istore_n 3, 1) := by decide +kernel
theorem dX10_book_69 : decode cX10_book 69 = .ok (.aload_n 0, 1) := by decide +kernel
theorem dX10_book_70 : decode cX10_book 70 = .ok (.iconst 0, 1) := by decide +kernel
theorem dX10_book_71 : decode cX10_book 71 = .ok (.bipush 59, 2) := by decide +kernel
theorem dX10_book_73 : decode cX10_book 73 = .ok (.invokevirtual 183, 3) := by decide +kernel
theorem dX10_book_76 : decode cX10_book 76 = .ok (.istore 4, 2) := by decide +kernel
theorem dX10_book_78 : decode cX10_book 78 = .ok (.iconst 0, 1) := by decide +kernel
theorem dX10_book_79 : decode cX10_book 79 = .ok (.istore 5, 2) := by decide +kernel
theorem dX10_book_81 : decode cX10_book 81 = .ok (.iload 5, 2) := by decide +kernel
theorem dX10_book_83 : decode cX10_book 83 = .ok (.iload_n 2, 1) := by decide +kernel
theorem dX10_book_84 : decode cX10_book 84 = .ok (.if_icmp .ge 36, 3) := by decide +kernel
theorem dX10_book_87 : decode cX10_book 87 = .ok (.aload_n 0, 1) := by decide +kernel
theorem dX10_book_88 : decode cX10_book 88 = .ok (.getfield 120, 3) := by decide +kernel
theorem dX10_book_91 : decode cX10_book 91 = .ok (.ifCond .ne 23, 3) := by decide +kernel
theorem dX10_book_94 : decode cX10_book 94 = .ok (.aload_n 0, 1) := by decide +kernel
theorem dX10_book_95 : decode cX10_book 95 = .ok (.getfield 49, 3) := by decide +kernel
theorem dX10_book_98 : decode cX10_book 98 = .ok (.iload 5, 2) := by decide +kernel
theorem dX10_book_100 : decode cX10_book 100 = .ok (.aaload, 1) := by decide +kernel
theorem dX10_book_101 : decode cX10_book 101 = .ok (.iconst 0, 1) := by decide +kernel
theorem dX10_book_102 : decode cX10_book 102 = .ok (.iaload, 1) := by decide +kernel
theorem dX10_book_103 : decode cX10_book 103 = .ok (.iload 4, 2) := by decide +kernel
theorem dX10_book_105 : decode cX10_book 105 = .ok (.if_icmp .ne 9, 3) := by decide +kernel
theorem dX10_book_108 : decode cX10_book 108 = .ok (.aload_n 0, 1) := by decide +kernel
theorem dX10_book_109 : decode cX10_book 109 = .ok (.iconst 2, 1) := by decide +kernel
theorem dX10_book_110 : decode cX10_book 110 = .ok (.iload_n 3, 1) := by decide +kernel
theorem dX10_book_111 : decode cX10_book 111 = .ok (.invokevirtual 133, 3) := by decide +kernel
theorem dX10_book_114 : decode cX10_book 114 = .ok (.iinc 5 1, 3) := by decide +kernel
theorem dX10_book_117 : decode cX10_book 117 = .ok (.goto (-36), 3) := by decide +kernel
theorem dX10_book_120 : decode cX10_book 120 = .ok (.aload_n 0, 1) := by decide +kernel
theorem dX10_book_121 : decode cX10_book 121 = .ok (.getfield 120, 3) := by decide +kernel
theorem dX10_book_124 : decode cX10_book 124 = .ok (.ifCond .ne 15, 3) := by decide +kernel
theorem dX10_book_127 : decode cX10_book 127 = .ok (.iload_n 2, 1) := by decide +kernel
theorem dX10_book_128 : decode cX10_book 128 = .ok (.bipush 8, 2) := by decide +kernel
theorem dX10_book_130 : decode cX10_book 130 = .ok (.if_icmp .ne 9, 3) := by decide +kernel
theorem dX10_book_133 : decode cX10_book 133 = .ok (.aload_n 0, 1) := by decide +kernel
theorem dX10_book_134 : decode cX10_book 134 = .ok (.iconst 3, 1) := by decide +kernel
theorem dX10_book_135 : decode cX10_book 135 = .ok (.iload_n 3, 1) := by decide +kernel
theorem dX10_book_136 : decode cX10_book 136 = .ok (.invokevirtual 133, 3) := by decide +kernel
theorem dX10_book_139 : decode cX10_book 139 = .ok (.aload_n 0, 1) := by decide +kernel
theorem dX10_book_140 : decode cX10_book 140 = .ok (.iconst 0, 1) := by decide +kernel
theorem dX10_book_141 : decode cX10_book 141 = .ok (.sipush 999, 3) := by decide +kernel
theorem dX10_book_144 : decode cX10_book 144 = .ok (.invokevirtual 183, 3) := by decide +kernel
theorem dX10_book_147 : decode cX10_book 147 = .ok (.istore 5, 2) := by decide +kernel
theorem dX10_book_149 : decode cX10_book 149 = .ok (.aload_n 0, 1) := by decide +kernel
theorem dX10_book_150 : decode cX10_book 150 = .ok (.bipush 59, 2) := by decide +kernel
theorem dX10_book_152 : decode cX10_book 152 = .ok (.invokevirtual 189, 3) := by decide +kernel
theorem dX10_book_155 : decode cX10_book 155 = .ok (.aload_n 0, 1) := by decide +kernel
theorem dX10_book_156 : decode cX10_book 156 = .ok (.getfield 120, 3) := by decide +kernel
theorem dX10_book_159 : decode cX10_book 159 = .ok (.ifCond .ne 26, 3) := by decide +kernel
theorem dX10_book_162 : decode cX10_book 162 = .ok (.aload_n 0, 1) := by decide +kernel
theorem dX10_book_163 : decode cX10_book 163 = .ok (.getfield 49, 3) := by decide +kernel
theorem dX10_book_166 : decode cX10_book 166 = .ok (.iload_n 2, 1) := by decide +kernel
theorem dX10_book_167 : decode cX10_book 167 = .ok (.aaload, 1) := by decide +kernel
theorem dX10_book_168 : decode cX10_book 168 = .ok (.iconst 0, 1) := by decide +kernel
theorem dX10_book_169 : decode cX10_book 169 = .ok (.iload 4, 2) := by decide +kernel
theorem dX10_book_171 : decode cX10_book 171 = .ok (.iastore, 1) := by decide +kernel
theorem dX10_book_172 : decode cX10_book 172 = .ok (.aload_n 0, 1) := by decide +kernel
theorem dX10_book_173 : decode cX10_book 173 = .ok (.getfield 49, 3) := by decide +kernel
theorem dX10_book_176 : decode cX10_book 176 = .ok (.iload_n 2, 1) := by decide +kernel
theorem dX10_book_177 : decode cX10_book 177 = .ok (.aaload, 1) := by decide +kernel
theorem dX10_book_178 : decode cX10_book 178 = .ok (.iconst 1, 1) := by decide +kernel
theorem dX10_book_179 : decode cX10_book 179 = .ok (.iload 5, 2) := by decide +kernel
theorem dX10_book_181 : decode cX10_book 181 = .ok (.iastore, 1) := by decide +kernel
theorem dX10_book_182 : decode cX10_book 182 = .ok (.iinc 2 1, 3) := by decide +kernel
theorem dX10_book_185 : decode cX10_book 185 = .ok (.aload_n 0, 1) := by decide +kernel
theorem dX10_book_186 : decode cX10_book 186 = .ok (.invokevirtual 126, 3) := by decide +kernel
theorem dX10_book_189 : decode cX10_book 189 = .ok (.goto (-143), 3) := by decide +kernel
theorem dX10_book_192 : decode cX10_book 192 = .ok (.aload_n 0, 1) := by decide +kernel
theorem dX10_book_193 : decode cX10_book 193 = .ok (.getfield 120, 3) := by decide +kernel
theorem dX10_book_196 : decode cX10_book 196 = .ok (.ifCond .eq 8, 3) := by decide +kernel
theorem dX10_book_199 : decode cX10_book 199 = .ok (.aload_n 0, 1) := by decide +kernel
theorem dX10_book_200 : decode cX10_book 200 = .ok (.invokevirtual 203, 3) := by decide +kernel
theorem dX10_book_203 : decode cX10_book 203 = .ok (.ireturn, 1) := by decide +kernel
theorem dX10_book_204 : decode cX10_book 204 = .ok (.aload_n 0, 1) := by decide +kernel
theorem dX10_book_205 : decode cX10_book 205 = .ok (.iconst (-1), 1) := by decide +kernel
theorem dX10_book_206 : decode cX10_book 206 = .ok (.putfield 9, 3) := by decide +kernel
theorem dX10_book_209 : decode cX10_book 209 = .ok (.aload_n 0, 1) := by decide +kernel
theorem dX10_book_210 : decode cX10_book 210 = .ok (.iload_n 2, 1) := by decide +kernel
theorem dX10_book_211 : decode cX10_book 211 = .ok (.putfield 217, 3) := by decide +kernel
theorem dX10_book_214 : decode cX10_book 214 = .ok (.aload_n 0, 1) := by decide +kernel
theorem dX10_book_215 : decode cX10_book 215 = .ok (.getfield 49, 3) := by decide +kernel
theorem dX10_book_218 : decode cX10_book 218 = .ok (.aload_n 0, 1) := by decide +kernel
theorem dX10_book_219 : decode cX10_book 219 = .ok (.getfield 46, 3) := by decide +kernel
theorem dX10_book_222 : decode cX10_book 222 = .ok (.iload_n 2, 1) := by decide +kernel
theorem dX10_book_223 : decode cX10_book 223 = .ok (.invokestatic 206, 3) := by decide +kernel
theorem dX10_book_226 : decode cX10_book 226 = .ok (.iload_n 2, 1) := by decide +kernel
theorem dX10_book_227 : decode cX10_book 227 = .ok (.ireturn, 1) := by decide +kernel
abbrev mt_X10_book : AxM := (RX10, cX10_book, 6, (some .int), false, [])
theorem L1_X10_book_192 {g : AxG} {l : Launch} {r9 : Int32} {S9 : AxS} (N : Nat)  (v0 : Nat) (v2 : Int32) (S : AxS) (h : F_X10_book_192 N  v0 v2 S = some ((r9, S9))) : AW g l (axRm (3) 0 0) mt_X10_book (axMQ g 0 0 (.inl (some (.int r9)), S9)) 0 0 S 192 [(0, .ref v0), (2, .int v2)] [] := by
  unfold F_X10_book_192 at h
  refine aw_aload_n 0 dX10_book_192 rfl rfl ?_
  refine aw_getI axc10 5 rfl rfl wd_1290 dX10_book_193 h (fun x1 h => ?_)
  refine aw_if_eq 204 dX10_book_196 (by decide) h (fun h => ?_) (fun h => ?_)
  · refine aw_aload_n 0 dX10_book_204 rfl rfl ?_
    refine aw_iconst (-1) dX10_book_205 rfl ?_
    refine aw_putI axc10 3 rfl rfl wd_1288 rfl rfl rfl dX10_book_206 h (fun T2 h => ?_)
    refine aw_aload_n 0 dX10_book_209 rfl rfl ?_
    refine aw_iload_n 1 dX10_book_210 rfl rfl ?_
    refine aw_putI axc10 31 rfl rfl wd_1316 rfl rfl rfl dX10_book_211 h (fun T3 h => ?_)
    refine aw_aload_n 0 dX10_book_214 rfl rfl ?_
    refine aw_getR axc10 22 rfl rfl wd_1307 dX10_book_215 h (fun a4 h => ?_)
    refine aw_aload_n 0 dX10_book_218 rfl rfl ?_
    refine aw_getR axc10 21 rfl rfl wd_1306 dX10_book_219 h (fun a5 h => ?_)
    refine aw_iload_n 1 dX10_book_222 rfl rfl ?_
    refine aw_doneV (rest := []) h (fun S9 hF => aw_runS (As := [.ref a4, .ref a5, .int v2]) (rest := []) (L1_X10_lays N hF) wd_1280 wd_1278 wd_1279 wd_97 pd_X10_lays.2 rfl (ax_rm (by omega) rfl) ax_hf0 (Nat.le_of_ble_eq_true rfl) rfl dX10_book_223) (fun T6 h => ?_)
    refine aw_iload_n 1 dX10_book_226 rfl rfl ?_
    exact aw_iret dX10_book_227 rfl (Nat.le_refl _) (Nat.le_refl _) h
  · refine aw_aload_n 0 dX10_book_199 rfl rfl ?_
    obtain ⟨hL8, h⟩ := ax_is_spec h
    refine aw_doneI (rest := []) h (fun r9 S9 hF => aw_runV (As := []) (rest := []) (L1_X10_ends N hF) axc10 hL8 wd_1523 wd_1520 wd_1522 wd_51 wd_97 pd_X10_ends rfl (ax_rm (by omega) rfl) ax_hf0 (Nat.le_of_ble_eq_true rfl) rfl dX10_book_200) (fun x10 T9 h => ?_)
    exact aw_iret dX10_book_203 rfl (Nat.le_refl _) (Nat.le_refl _) h
theorem L1_X10_book_185 {g : AxG} {l : Launch} {r9 : Int32} {S9 : AxS} (N : Nat) (K46 : Nat → Int32 → AxS → Option (Int32 × AxS)) (hK46 : ∀ (v0 : Nat) (v2 : Int32) (S : AxS), K46 v0 v2 S = some ((r9, S9)) → AW g l (axRm (3) 0 0) mt_X10_book (axMQ g 0 0 (.inl (some (.int r9)), S9)) 0 0 S 46 [(0, .ref v0), (2, .int v2)] []) (v0 : Nat) (v2 : Int32) (S : AxS) (h : F_X10_book_185 N K46 v0 v2 S = some ((r9, S9))) : AW g l (axRm (3) 0 0) mt_X10_book (axMQ g 0 0 (.inl (some (.int r9)), S9)) 0 0 S 185 [(0, .ref v0), (2, .int v2)] [] := by
  unfold F_X10_book_185 at h
  refine aw_aload_n 0 dX10_book_185 rfl rfl ?_
  obtain ⟨hL1, h⟩ := ax_is_spec h
  refine aw_doneV (rest := []) h (fun S9 hF => aw_runV (As := []) (rest := []) (L1_X10_blanks N hF) axc10 hL1 wd_1460 wd_1457 wd_1459 wd_40 wd_97 pd_X10_blanks rfl (ax_rm (by omega) rfl) ax_hf0 (Nat.le_of_ble_eq_true rfl) rfl dX10_book_186) (fun T2 h => ?_)
  refine aw_goto 46 dX10_book_189 (by decide) ?_
  refine aw_env [(0, .ref v0), (2, .int v2)] [0, 1] rfl ?_
  exact hK46 v0 v2 T2 h
theorem L1_X10_book_139 {g : AxG} {l : Launch} {r9 : Int32} {S9 : AxS} (N : Nat) (K46 : Nat → Int32 → AxS → Option (Int32 × AxS)) (hK46 : ∀ (v0 : Nat) (v2 : Int32) (S : AxS), K46 v0 v2 S = some ((r9, S9)) → AW g l (axRm (3) 0 0) mt_X10_book (axMQ g 0 0 (.inl (some (.int r9)), S9)) 0 0 S 46 [(0, .ref v0), (2, .int v2)] []) (v0 : Nat) (v2 : Int32) (v4 : Int32) (S : AxS) (h : F_X10_book_139 N K46 v0 v2 v4 S = some ((r9, S9))) : AW g l (axRm (3) 0 0) mt_X10_book (axMQ g 0 0 (.inl (some (.int r9)), S9)) 0 0 S 139 [(0, .ref v0), (2, .int v2), (4, .int v4)] [] := by
  unfold F_X10_book_139 at h
  refine aw_aload_n 0 dX10_book_139 rfl rfl ?_
  refine aw_iconst 0 dX10_book_140 rfl ?_
  refine aw_sipush 999 dX10_book_141 (by decide) ?_
  obtain ⟨hL1, h⟩ := ax_is_spec h
  refine aw_doneI (rest := []) h (fun r9 S9 hF => aw_runV (As := [.int 0, .int 999]) (rest := []) (L1_X10_number N hF) axc10 hL1 wd_1508 wd_1505 wd_1507 wd_49 wd_97 pd_X10_number rfl (ax_rm (by omega) rfl) ax_hf0 (Nat.le_of_ble_eq_true rfl) rfl dX10_book_144) (fun x3 T2 h => ?_)
  refine aw_istore [(5, .int x3), (0, .ref v0), (2, .int v2), (4, .int v4)] dX10_book_147 rfl rfl ?_
  refine aw_aload_n 1 dX10_book_149 rfl rfl ?_
  refine aw_bipush 59 dX10_book_150 (by decide) ?_
  obtain ⟨hL4, h⟩ := ax_is_spec h
  refine aw_doneV (rest := []) h (fun S9 hF => aw_runV (As := [.int 59]) (rest := []) (L1_X10_sign N hF) axc10 hL4 wd_1519 wd_1516 wd_1518 wd_50 wd_97 pd_X10_sign rfl (ax_rm (by omega) rfl) ax_hf0 (Nat.le_of_ble_eq_true rfl) rfl dX10_book_152) (fun T5 h => ?_)
  refine aw_aload_n 1 dX10_book_155 rfl rfl ?_
  refine aw_getI axc10 5 rfl rfl wd_1290 dX10_book_156 h (fun x7 h => ?_)
  refine aw_if_ne 185 dX10_book_159 (by decide) h (fun h => ?_) (fun h => ?_)
  · refine aw_env [(0, .ref v0), (2, .int v2)] [1, 2] rfl ?_
    exact L1_X10_book_185 N K46 hK46 v0 v2 T5 h
  · refine aw_aload_n 1 dX10_book_162 rfl rfl ?_
    refine aw_getR axc10 22 rfl rfl wd_1307 dX10_book_163 h (fun a8 h => ?_)
    refine aw_iload_n 2 dX10_book_166 rfl rfl ?_
    refine aw_aald dX10_book_167 h (fun a9 h => ?_)
    refine aw_iconst 0 dX10_book_168 rfl ?_
    refine aw_iload 3 dX10_book_169 rfl ?_
    refine aw_iast dX10_book_171 h (fun T10 h => ?_)
    refine aw_aload_n 1 dX10_book_172 rfl rfl ?_
    refine aw_getR axc10 22 rfl rfl wd_1307 dX10_book_173 h (fun a11 h => ?_)
    refine aw_iload_n 2 dX10_book_176 rfl rfl ?_
    refine aw_aald dX10_book_177 h (fun a12 h => ?_)
    refine aw_iconst 1 dX10_book_178 rfl ?_
    refine aw_iload 0 dX10_book_179 rfl ?_
    refine aw_iast dX10_book_181 h (fun T13 h => ?_)
    refine aw_iinc 2 [(2, .int (v2 + 1)), (5, .int x3), (0, .ref v0), (4, .int v4)] (v2 + 1) dX10_book_182 rfl rfl rfl rfl ?_
    refine aw_env [(0, .ref v0), (2, .int (v2 + 1))] [2, 0] rfl ?_
    exact L1_X10_book_185 N K46 hK46 v0 (v2 + 1) T13 h
theorem L1_X10_book_114 {g : AxG} {l : Launch} {r9 : Int32} {S9 : AxS} (N : Nat) (K81 : Nat → Int32 → Int32 → Int32 → Int32 → AxS → Option (Int32 × AxS)) (hK81 : ∀ (v0 : Nat) (v2 : Int32) (v3 : Int32) (v4 : Int32) (v5 : Int32) (S : AxS), K81 v0 v2 v3 v4 v5 S = some ((r9, S9)) → AW g l (axRm (3) 0 0) mt_X10_book (axMQ g 0 0 (.inl (some (.int r9)), S9)) 0 0 S 81 [(0, .ref v0), (2, .int v2), (3, .int v3), (4, .int v4), (5, .int v5)] []) (v0 : Nat) (v2 : Int32) (v3 : Int32) (v4 : Int32) (v5 : Int32) (S : AxS) (h : F_X10_book_114 N K81 v0 v2 v3 v4 v5 S = some ((r9, S9))) : AW g l (axRm (3) 0 0) mt_X10_book (axMQ g 0 0 (.inl (some (.int r9)), S9)) 0 0 S 114 [(0, .ref v0), (2, .int v2), (3, .int v3), (4, .int v4), (5, .int v5)] [] := by
  unfold F_X10_book_114 at h
  refine aw_iinc 4 [(5, .int (v5 + 1)), (0, .ref v0), (2, .int v2), (3, .int v3), (4, .int v4)] (v5 + 1) dX10_book_114 rfl rfl rfl rfl ?_
  refine aw_goto 81 dX10_book_117 (by decide) ?_
  refine aw_env [(0, .ref v0), (2, .int v2), (3, .int v3), (4, .int v4), (5, .int (v5 + 1))] [1, 2, 3, 4, 0] rfl ?_
  exact hK81 v0 v2 v3 v4 (v5 + 1) S h
theorem L1_X10_book_81b {g : AxG} {l : Launch} {r9 : Int32} {S9 : AxS} (N : Nat) (K46 : Nat → Int32 → AxS → Option (Int32 × AxS)) (hK46 : ∀ (v0 : Nat) (v2 : Int32) (S : AxS), K46 v0 v2 S = some ((r9, S9)) → AW g l (axRm (3) 0 0) mt_X10_book (axMQ g 0 0 (.inl (some (.int r9)), S9)) 0 0 S 46 [(0, .ref v0), (2, .int v2)] []) (K81 : Nat → Int32 → Int32 → Int32 → Int32 → AxS → Option (Int32 × AxS)) (hK81 : ∀ (v0 : Nat) (v2 : Int32) (v3 : Int32) (v4 : Int32) (v5 : Int32) (S : AxS), K81 v0 v2 v3 v4 v5 S = some ((r9, S9)) → AW g l (axRm (3) 0 0) mt_X10_book (axMQ g 0 0 (.inl (some (.int r9)), S9)) 0 0 S 81 [(0, .ref v0), (2, .int v2), (3, .int v3), (4, .int v4), (5, .int v5)] []) (v0 : Nat) (v2 : Int32) (v3 : Int32) (v4 : Int32) (v5 : Int32) (S : AxS) (h : F_X10_book_81b N K46 K81 v0 v2 v3 v4 v5 S = some ((r9, S9))) : AW g l (axRm (3) 0 0) mt_X10_book (axMQ g 0 0 (.inl (some (.int r9)), S9)) 0 0 S 81 [(0, .ref v0), (2, .int v2), (3, .int v3), (4, .int v4), (5, .int v5)] [] := by
  unfold F_X10_book_81b at h
  refine aw_iload 4 dX10_book_81 rfl ?_
  refine aw_iload_n 1 dX10_book_83 rfl rfl ?_
  refine aw_icmp_ge 120 dX10_book_84 (by decide) h (fun h => ?_) (fun h => ?_)
  · refine aw_aload_n 0 dX10_book_120 rfl rfl ?_
    refine aw_getI axc10 5 rfl rfl wd_1290 dX10_book_121 h (fun x1 h => ?_)
    refine aw_if_ne 139 dX10_book_124 (by decide) h (fun h => ?_) (fun h => ?_)
    · refine aw_env [(0, .ref v0), (2, .int v2), (4, .int v4)] [0, 1, 3] rfl ?_
      exact L1_X10_book_139 N K46 hK46 v0 v2 v4 S h
    · refine aw_iload_n 1 dX10_book_127 rfl rfl ?_
      refine aw_bipush 8 dX10_book_128 (by decide) ?_
      refine aw_icmp_ne 139 dX10_book_130 (by decide) h (fun h => ?_) (fun h => ?_)
      · refine aw_env [(0, .ref v0), (2, .int v2), (4, .int v4)] [0, 1, 3] rfl ?_
        exact L1_X10_book_139 N K46 hK46 v0 v2 v4 S h
      · refine aw_aload_n 0 dX10_book_133 rfl rfl ?_
        refine aw_iconst 3 dX10_book_134 rfl ?_
        refine aw_iload_n 2 dX10_book_135 rfl rfl ?_
        obtain ⟨hL2, h⟩ := ax_is_spec h
        refine aw_doneV (rest := []) h (fun S9 hF => aw_runV (As := [.int 3, .int v3]) (rest := []) (L1_X10_wrong N hF) axc10 hL2 wd_1493 wd_1490 wd_1492 wd_46 wd_97 pd_X10_wrong rfl (ax_rm (by omega) rfl) ax_hf0 (Nat.le_of_ble_eq_true rfl) rfl dX10_book_136) (fun T3 h => ?_)
        refine aw_env [(0, .ref v0), (2, .int v2), (4, .int v4)] [0, 1, 3] rfl ?_
        exact L1_X10_book_139 N K46 hK46 v0 v2 v4 T3 h
  · refine aw_aload_n 0 dX10_book_87 rfl rfl ?_
    refine aw_getI axc10 5 rfl rfl wd_1290 dX10_book_88 h (fun x5 h => ?_)
    refine aw_if_ne 114 dX10_book_91 (by decide) h (fun h => ?_) (fun h => ?_)
    · refine aw_env [(0, .ref v0), (2, .int v2), (3, .int v3), (4, .int v4), (5, .int v5)] [0, 1, 2, 3, 4] rfl ?_
      exact L1_X10_book_114 N K81 hK81 v0 v2 v3 v4 v5 S h
    · refine aw_aload_n 0 dX10_book_94 rfl rfl ?_
      refine aw_getR axc10 22 rfl rfl wd_1307 dX10_book_95 h (fun a6 h => ?_)
      refine aw_iload 4 dX10_book_98 rfl ?_
      refine aw_aald dX10_book_100 h (fun a7 h => ?_)
      refine aw_iconst 0 dX10_book_101 rfl ?_
      refine aw_iald dX10_book_102 h (fun x8 h => ?_)
      refine aw_iload 3 dX10_book_103 rfl ?_
      refine aw_icmp_ne 114 dX10_book_105 (by decide) h (fun h => ?_) (fun h => ?_)
      · refine aw_env [(0, .ref v0), (2, .int v2), (3, .int v3), (4, .int v4), (5, .int v5)] [0, 1, 2, 3, 4] rfl ?_
        exact L1_X10_book_114 N K81 hK81 v0 v2 v3 v4 v5 S h
      · refine aw_aload_n 0 dX10_book_108 rfl rfl ?_
        refine aw_iconst 2 dX10_book_109 rfl ?_
        refine aw_iload_n 2 dX10_book_110 rfl rfl ?_
        obtain ⟨hL9, h⟩ := ax_is_spec h
        refine aw_doneV (rest := []) h (fun S9 hF => aw_runV (As := [.int 2, .int v3]) (rest := []) (L1_X10_wrong N hF) axc10 hL9 wd_1493 wd_1490 wd_1492 wd_46 wd_97 pd_X10_wrong rfl (ax_rm (by omega) rfl) ax_hf0 (Nat.le_of_ble_eq_true rfl) rfl dX10_book_111) (fun T10 h => ?_)
        refine aw_env [(0, .ref v0), (2, .int v2), (3, .int v3), (4, .int v4), (5, .int v5)] [0, 1, 2, 3, 4] rfl ?_
        exact L1_X10_book_114 N K81 hK81 v0 v2 v3 v4 v5 T10 h
theorem L1_X10_book_81 {g : AxG} {l : Launch} {r9 : Int32} {S9 : AxS} (N : Nat) (K46 : Nat → Int32 → AxS → Option (Int32 × AxS)) (hK46 : ∀ (v0 : Nat) (v2 : Int32) (S : AxS), K46 v0 v2 S = some ((r9, S9)) → AW g l (axRm (3) 0 0) mt_X10_book (axMQ g 0 0 (.inl (some (.int r9)), S9)) 0 0 S 46 [(0, .ref v0), (2, .int v2)] []) : ∀ (n : Nat) (v0 : Nat) (v2 : Int32) (v3 : Int32) (v4 : Int32) (v5 : Int32) (S : AxS), F_X10_book_81 N K46 n v0 v2 v3 v4 v5 S = some ((r9, S9)) → AW g l (axRm (3) 0 0) mt_X10_book (axMQ g 0 0 (.inl (some (.int r9)), S9)) 0 0 S 81 [(0, .ref v0), (2, .int v2), (3, .int v3), (4, .int v4), (5, .int v5)] [] := by
  intro n
  induction n with
  | zero => intro v0 v2 v3 v4 v5 S h; cases h
  | succ n ih => intro v0 v2 v3 v4 v5 S h; exact L1_X10_book_81b N K46 hK46 (F_X10_book_81 N K46 n) ih v0 v2 v3 v4 v5 S h
theorem L1_X10_book_46b {g : AxG} {l : Launch} {r9 : Int32} {S9 : AxS} (N : Nat) (K46 : Nat → Int32 → AxS → Option (Int32 × AxS)) (hK46 : ∀ (v0 : Nat) (v2 : Int32) (S : AxS), K46 v0 v2 S = some ((r9, S9)) → AW g l (axRm (3) 0 0) mt_X10_book (axMQ g 0 0 (.inl (some (.int r9)), S9)) 0 0 S 46 [(0, .ref v0), (2, .int v2)] []) (v0 : Nat) (v2 : Int32) (S : AxS) (h : F_X10_book_46b N K46 v0 v2 S = some ((r9, S9))) : AW g l (axRm (3) 0 0) mt_X10_book (axMQ g 0 0 (.inl (some (.int r9)), S9)) 0 0 S 46 [(0, .ref v0), (2, .int v2)] [] := by
  unfold F_X10_book_46b at h
  refine aw_aload_n 0 dX10_book_46 rfl rfl ?_
  refine aw_getI axc10 5 rfl rfl wd_1290 dX10_book_47 h (fun x1 h => ?_)
  refine aw_if_ne 192 dX10_book_50 (by decide) h (fun h => ?_) (fun h => ?_)
  · refine aw_env [(0, .ref v0), (2, .int v2)] [0, 1] rfl ?_
    exact L1_X10_book_192 N  v0 v2 S h
  · refine aw_aload_n 0 dX10_book_53 rfl rfl ?_
    refine aw_getI axc10 4 rfl rfl wd_1289 dX10_book_54 h (fun x2 h => ?_)
    refine aw_aload_n 0 dX10_book_57 rfl rfl ?_
    refine aw_getI axc10 2 rfl rfl wd_1287 dX10_book_58 h (fun x3 h => ?_)
    refine aw_icmp_ge 192 dX10_book_61 (by decide) h (fun h => ?_) (fun h => ?_)
    · refine aw_env [(0, .ref v0), (2, .int v2)] [0, 1] rfl ?_
      exact L1_X10_book_192 N  v0 v2 S h
    · refine aw_aload_n 0 dX10_book_64 rfl rfl ?_
      refine aw_getI axc10 4 rfl rfl wd_1289 dX10_book_65 h (fun x4 h => ?_)
      refine aw_istore_n 3 [(3, .int x4), (0, .ref v0), (2, .int v2)] dX10_book_68 rfl rfl rfl ?_
      refine aw_aload_n 1 dX10_book_69 rfl rfl ?_
      refine aw_iconst 0 dX10_book_70 rfl ?_
      refine aw_bipush 59 dX10_book_71 (by decide) ?_
      obtain ⟨hL5, h⟩ := ax_is_spec h
      refine aw_doneI (rest := []) h (fun r9 S9 hF => aw_runV (As := [.int 0, .int 59]) (rest := []) (L1_X10_number N hF) axc10 hL5 wd_1508 wd_1505 wd_1507 wd_49 wd_97 pd_X10_number rfl (ax_rm (by omega) rfl) ax_hf0 (Nat.le_of_ble_eq_true rfl) rfl dX10_book_73) (fun x7 T6 h => ?_)
      refine aw_istore [(4, .int x7), (3, .int x4), (0, .ref v0), (2, .int v2)] dX10_book_76 rfl rfl ?_
      refine aw_iconst 0 dX10_book_78 rfl ?_
      refine aw_istore [(5, .int 0), (4, .int x7), (3, .int x4), (0, .ref v0), (2, .int v2)] dX10_book_79 rfl rfl ?_
      refine aw_env [(0, .ref v0), (2, .int v2), (3, .int x4), (4, .int x7), (5, .int 0)] [3, 4, 2, 1, 0] rfl ?_
      exact L1_X10_book_81 N K46 hK46 N v0 v2 x4 x7 0 T6 h
theorem L1_X10_book_46 {g : AxG} {l : Launch} {r9 : Int32} {S9 : AxS} (N : Nat)  : ∀ (n : Nat) (v0 : Nat) (v2 : Int32) (S : AxS), F_X10_book_46 N  n v0 v2 S = some ((r9, S9)) → AW g l (axRm (3) 0 0) mt_X10_book (axMQ g 0 0 (.inl (some (.int r9)), S9)) 0 0 S 46 [(0, .ref v0), (2, .int v2)] [] := by
  intro n
  induction n with
  | zero => intro v0 v2 S h; cases h
  | succ n ih => intro v0 v2 S h; exact L1_X10_book_46b N (F_X10_book_46 N  n) ih v0 v2 S h
theorem L1_X10_book_29 {g : AxG} {l : Launch} {r9 : Int32} {S9 : AxS} (N : Nat)  (v0 : Nat) (v1 : Int32) (w0 : Int32) (w1 : Nat) (S : AxS) (h : F_X10_book_29 N  v0 v1 w0 w1 S = some ((r9, S9))) : AW g l (axRm (3) 0 0) mt_X10_book (axMQ g 0 0 (.inl (some (.int r9)), S9)) 0 0 S 29 [(0, .ref v0), (1, .int v1)] [.int w0, .ref w1] := by
  unfold F_X10_book_29 at h
  refine aw_iconst 1 dX10_book_29 rfl ?_
  refine aw_iconst 1 dX10_book_30 rfl ?_
  obtain ⟨hL1, h⟩ := ax_is_spec h
  refine aw_doneI (rest := []) h (fun r9 S9 hF => aw_runV (As := [.int w0, .int 1, .int 1]) (rest := []) (L1_X10_bad N hF) axc10 hL1 wd_1452 wd_1449 wd_1451 wd_38 wd_97 pd_X10_bad rfl (ax_rm (by omega) rfl) ax_hf0 (Nat.le_of_ble_eq_true rfl) rfl dX10_book_31) (fun x3 T2 h => ?_)
  refine aw_if_eq 39 dX10_book_34 (by decide) h (fun h => ?_) (fun h => ?_)
  · refine aw_aload_n 0 dX10_book_39 rfl rfl ?_
    refine aw_iload_n 1 dX10_book_40 rfl rfl ?_
    obtain ⟨hL4, h⟩ := ax_is_spec h
    refine aw_doneV (rest := []) h (fun S9 hF => aw_runV (As := [.int v1]) (rest := []) (L1_X10_starts N hF) axc10 hL4 wd_1456 wd_1453 wd_1455 wd_39 wd_97 pd_X10_starts rfl (ax_rm (by omega) rfl) ax_hf0 (Nat.le_of_ble_eq_true rfl) rfl dX10_book_41) (fun T5 h => ?_)
    refine aw_iconst 0 dX10_book_44 rfl ?_
    refine aw_istore_n 2 [(2, .int 0), (0, .ref v0), (1, .int v1)] dX10_book_45 rfl rfl rfl ?_
    refine aw_env [(0, .ref v0), (2, .int 0)] [1, 0] rfl ?_
    exact L1_X10_book_46 N  N v0 0 T5 h
  · refine aw_iconst 0 dX10_book_37 rfl ?_
    exact aw_iret dX10_book_38 rfl (Nat.le_refl _) (Nat.le_refl _) h
theorem L1_X10_book_24 {g : AxG} {l : Launch} {r9 : Int32} {S9 : AxS} (N : Nat)  (v0 : Nat) (v1 : Int32) (w0 : Nat) (S : AxS) (h : F_X10_book_24 N  v0 v1 w0 S = some ((r9, S9))) : AW g l (axRm (3) 0 0) mt_X10_book (axMQ g 0 0 (.inl (some (.int r9)), S9)) 0 0 S 24 [(0, .ref v0), (1, .int v1)] [.ref w0] := by
  unfold F_X10_book_24 at h
  refine aw_iconst 1 dX10_book_24 rfl ?_
  refine aw_goto 29 dX10_book_25 (by decide) ?_
  refine aw_env [(0, .ref v0), (1, .int v1)] [0, 1] rfl ?_
  exact L1_X10_book_29 N  v0 v1 1 w0 S h
theorem L1_X10_book {g : AxG} {l : Launch} (N : Nat) {v0 : Nat} {v1 : Int32} {S : AxS} {r9 : Int32} {S9 : AxS} (h : F_X10_book N v0 v1 S = some ((r9, S9))) : AxMet g l yX10_book cX10_book 6 (some .int) (3) 0 0 [.ref v0, .int v1] S ((.inl (some (.int r9)), S9)) := by
  refine ax_met (own := RX10) (ini := false) (by decide +kernel) rfl (fun h => nomatch h) rfl ?_
  show AW g l (axRm (3) 0 0) mt_X10_book (axMQ g 0 0 (.inl (some (.int r9)), S9)) 0 0 S 0 [(0, .ref v0), (1, .int v1)] []
  unfold F_X10_book at h
  refine aw_aload_n 0 dX10_book_0 rfl rfl ?_
  refine aw_iconst 0 dX10_book_1 rfl ?_
  refine aw_putI axc10 0 rfl rfl wd_1285 rfl rfl rfl dX10_book_2 h (fun T1 h => ?_)
  refine aw_aload_n 0 dX10_book_5 rfl rfl ?_
  refine aw_iload_n 1 dX10_book_6 rfl rfl ?_
  refine aw_iconst 0 dX10_book_7 rfl ?_
  refine aw_aload_n 0 dX10_book_8 rfl rfl ?_
  refine aw_getI axc10 1 rfl rfl wd_1286 dX10_book_9 h (fun x2 h => ?_)
  refine aw_doneI (rest := [.ref v0]) h (fun r9 S9 hF => aw_runS (As := [.int v1, .int 0, .int x2]) (rest := [.ref v0]) (L1_X10_in N hF) wd_1448 wd_1446 wd_1447 wd_97 pd_X10_in.2 rfl (ax_rm (by omega) rfl) ax_hf0 (Nat.le_of_ble_eq_true rfl) rfl dX10_book_12) (fun x4 T3 h => ?_)
  refine aw_if_eq 24 dX10_book_15 (by decide) h (fun h => ?_) (fun h => ?_)
  · refine aw_env [(0, .ref v0), (1, .int v1)] [0, 1] rfl ?_
    exact L1_X10_book_24 N  v0 v1 v0 T3 h
  · refine aw_iload_n 1 dX10_book_18 rfl rfl ?_
    refine aw_bipush 100 dX10_book_19 (by decide) ?_
    refine aw_icmp_le 28 dX10_book_21 (by decide) h (fun h => ?_) (fun h => ?_)
    · refine aw_iconst 0 dX10_book_28 rfl ?_
      refine aw_env [(0, .ref v0), (1, .int v1)] [0, 1] rfl ?_
      exact L1_X10_book_29 N  v0 v1 0 v0 T3 h
    · refine aw_env [(0, .ref v0), (1, .int v1)] [0, 1] rfl ?_
      exact L1_X10_book_24 N  v0 v1 v0 T3 h

theorem dX10_fault_0 : decode cX10_fault 0 = .ok (.aload_n 0, 1) := by decide +kernel
theorem dX10_fault_1 : decode cX10_fault 1 = .ok (.iconst 0, 1) := by decide +kernel
theorem dX10_fault_2 : decode cX10_fault 2 = .ok (.putfield 104, 3) := by decide +kernel
theorem dX10_fault_5 : decode cX10_fault 5 = .ok (.aload_n 0, 1) := by decide +kernel
theorem dX10_fault_6 : decode cX10_fault 6 = .ok (.getfield 9, 3) := by decide +kernel
theorem dX10_fault_9 : decode cX10_fault 9 = .ok (.ireturn, 1) := by decide +kernel
abbrev mt_X10_fault : AxM := (RX10, cX10_fault, 1, (some .int), false, [])
theorem L1_X10_fault {g : AxG} {l : Launch} (N : Nat) {v0 : Nat} {S : AxS} {r9 : Int32} {S9 : AxS} (h : F_X10_fault N v0 S = some ((r9, S9))) : AxMet g l yX10_fault cX10_fault 1 (some .int) (0) 0 0 [.ref v0] S ((.inl (some (.int r9)), S9)) := by
  refine ax_met (own := RX10) (ini := false) (by decide +kernel) rfl (fun h => nomatch h) rfl ?_
  show AW g l (axRm (0) 0 0) mt_X10_fault (axMQ g 0 0 (.inl (some (.int r9)), S9)) 0 0 S 0 [(0, .ref v0)] []
  unfold F_X10_fault at h
  refine aw_aload_n 0 dX10_fault_0 rfl rfl ?_
  refine aw_iconst 0 dX10_fault_1 rfl ?_
  refine aw_putI axc10 0 rfl rfl wd_1285 rfl rfl rfl dX10_fault_2 h (fun T1 h => ?_)
  refine aw_aload_n 0 dX10_fault_5 rfl rfl ?_
  refine aw_getI axc10 3 rfl rfl wd_1288 dX10_fault_6 h (fun x2 h => ?_)
  exact aw_iret dX10_fault_9 rfl (Nat.le_refl _) (Nat.le_refl _) h

theorem dX10_asksOf_0 : decode cX10_asksOf 0 = .ok (.iconst 0, 1) := by decide +kernel
theorem dX10_asksOf_1 : decode cX10_asksOf 1 = .ok (.aload_n 0, 1) := by decide +kernel
theorem dX10_asksOf_2 : decode cX10_asksOf 2 = .ok (.iconst 0, 1) := by decide +kernel
theorem dX10_asksOf_3 : decode cX10_asksOf 3 = .ok (.iaload, 1) := by decide +kernel
theorem dX10_asksOf_4 : decode cX10_asksOf 4 = .ok (.aload_n 0, 1) := by decide +kernel
theorem dX10_asksOf_5 : decode cX10_asksOf 5 = .ok (.bipush 6, 2) := by decide +kernel
theorem dX10_asksOf_7 : decode cX10_asksOf 7 = .ok (.iaload, 1) := by decide +kernel
theorem dX10_asksOf_8 : decode cX10_asksOf 8 = .ok (.isub, 1) := by decide +kernel
theorem dX10_asksOf_9 : decode cX10_asksOf 9 = .ok (.invokestatic 257, 3) := by decide +kernel
theorem dX10_asksOf_12 : decode cX10_asksOf 12 = .ok (.ireturn, 1) := by decide +kernel
abbrev mt_X10_asksOf : AxM := (RX10, cX10_asksOf, 1, (some .int), false, [])
theorem L1_X10_asksOf {g : AxG} {l : Launch} (N : Nat) {v0 : Nat} {S : AxS} {r9 : Int32} {S9 : AxS} (h : F_X10_asksOf N v0 S = some ((r9, S9))) : AxMet g l yX10_asksOf cX10_asksOf 1 (some .int) (1) 0 0 [.ref v0] S ((.inl (some (.int r9)), S9)) := by
  refine ax_met (own := RX10) (ini := false) (by decide +kernel) rfl (fun h => nomatch h) rfl ?_
  show AW g l (axRm (1) 0 0) mt_X10_asksOf (axMQ g 0 0 (.inl (some (.int r9)), S9)) 0 0 S 0 [(0, .ref v0)] []
  unfold F_X10_asksOf at h
  refine aw_iconst 0 dX10_asksOf_0 rfl ?_
  refine aw_aload_n 0 dX10_asksOf_1 rfl rfl ?_
  refine aw_iconst 0 dX10_asksOf_2 rfl ?_
  refine aw_iald dX10_asksOf_3 h (fun x1 h => ?_)
  refine aw_aload_n 0 dX10_asksOf_4 rfl rfl ?_
  refine aw_bipush 6 dX10_asksOf_5 (by decide) ?_
  refine aw_iald dX10_asksOf_7 h (fun x2 h => ?_)
  refine aw_isub dX10_asksOf_8 ?_
  refine aw_doneI (rest := []) h (fun r9 S9 hF => aw_runS (As := [.int 0, .int (x1 - x2)]) (rest := []) (L1_X10_more N hF) wd_1614 wd_1612 wd_1613 wd_97 pd_X10_more.2 rfl (ax_rm (by omega) rfl) ax_hf0 (Nat.le_of_ble_eq_true rfl) rfl dX10_asksOf_9) (fun x4 T3 h => ?_)
  exact aw_iret dX10_asksOf_12 rfl (Nat.le_refl _) (Nat.le_refl _) h

theorem dX10_strokesOf_0 : decode cX10_strokesOf 0 = .ok (.aload_n 0, 1) := by decide +kernel
theorem dX10_strokesOf_1 : decode cX10_strokesOf 1 = .ok (.getfield 55, 3) := by decide +kernel
theorem dX10_strokesOf_4 : decode cX10_strokesOf 4 = .ok (.iconst 0, 1) := by decide +kernel
theorem dX10_strokesOf_5 : decode cX10_strokesOf 5 = .ok (.aload_n 1, 1) := by decide +kernel
theorem dX10_strokesOf_6 : decode cX10_strokesOf 6 = .ok (.invokestatic 273, 3) := by decide +kernel
theorem dX10_strokesOf_9 : decode cX10_strokesOf 9 = .ok (.iastore, 1) := by decide +kernel
theorem dX10_strokesOf_10 : decode cX10_strokesOf 10 = .ok (.aload_n 0, 1) := by decide +kernel
theorem dX10_strokesOf_11 : decode cX10_strokesOf 11 = .ok (.getfield 55, 3) := by decide +kernel
theorem dX10_strokesOf_14 : decode cX10_strokesOf 14 = .ok (.iconst 1, 1) := by decide +kernel
theorem dX10_strokesOf_15 : decode cX10_strokesOf 15 = .ok (.aload_n 1, 1) := by decide +kernel
theorem dX10_strokesOf_16 : decode cX10_strokesOf 16 = .ok (.iconst 4, 1) := by decide +kernel
theorem dX10_strokesOf_17 : decode cX10_strokesOf 17 = .ok (.iaload, 1) := by decide +kernel
theorem dX10_strokesOf_18 : decode cX10_strokesOf 18 = .ok (.iastore, 1) := by decide +kernel
theorem dX10_strokesOf_19 : decode cX10_strokesOf 19 = .ok (.aload_n 0, 1) := by decide +kernel
theorem dX10_strokesOf_20 : decode cX10_strokesOf 20 = .ok (.getfield 55, 3) := by decide +kernel
theorem dX10_strokesOf_23 : decode cX10_strokesOf 23 = .ok (.iconst 2, 1) := by decide +kernel
theorem dX10_strokesOf_24 : decode cX10_strokesOf 24 = .ok (.aload_n 1, 1) := by decide +kernel
theorem dX10_strokesOf_25 : decode cX10_strokesOf 25 = .ok (.iconst 2, 1) := by decide +kernel
theorem dX10_strokesOf_26 : decode cX10_strokesOf 26 = .ok (.iaload, 1) := by decide +kernel
theorem dX10_strokesOf_27 : decode cX10_strokesOf 27 = .ok (.iastore, 1) := by decide +kernel
theorem dX10_strokesOf_28 : decode cX10_strokesOf 28 = .ok (.aload_n 0, 1) := by decide +kernel
theorem dX10_strokesOf_29 : decode cX10_strokesOf 29 = .ok (.getfield 55, 3) := by decide +kernel
theorem dX10_strokesOf_32 : decode cX10_strokesOf 32 = .ok (.iconst 3, 1) := by decide +kernel
theorem dX10_strokesOf_33 : decode cX10_strokesOf 33 = .ok (.aload_n 1, 1) := by decide +kernel
theorem dX10_strokesOf_34 : decode cX10_strokesOf 34 = .ok (.iconst 3, 1) := by decide +kernel
theorem dX10_strokesOf_35 : decode cX10_strokesOf 35 = .ok (.iaload, 1) := by decide +kernel
theorem dX10_strokesOf_36 : decode cX10_strokesOf 36 = .ok (.iastore, 1) := by decide +kernel
theorem dX10_strokesOf_37 : decode cX10_strokesOf 37 = .ok (.aload_n 0, 1) := by decide +kernel
theorem dX10_strokesOf_38 : decode cX10_strokesOf 38 = .ok (.getfield 55, 3) := by decide +kernel
theorem dX10_strokesOf_41 : decode cX10_strokesOf 41 = .ok (.iconst 4, 1) := by decide +kernel
theorem dX10_strokesOf_42 : decode cX10_strokesOf 42 = .ok (.aload_n 1, 1) := by decide +kernel
theorem dX10_strokesOf_43 : decode cX10_strokesOf 43 = .ok (.iconst 5, 1) := by decide +kernel
theorem dX10_strokesOf_44 : decode cX10_strokesOf 44 = .ok (.iaload, 1) := by decide +kernel
theorem dX10_strokesOf_45 : decode cX10_strokesOf 45 = .ok (.iastore, 1) := by decide +kernel
theorem dX10_strokesOf_46 : decode cX10_strokesOf 46 = .ok (.aload_n 0, 1) := by decide +kernel
theorem dX10_strokesOf_47 : decode cX10_strokesOf 47 = .ok (.getfield 55, 3) := by decide +kernel
theorem dX10_strokesOf_50 : decode cX10_strokesOf 50 = .ok (.iconst 5, 1) := by decide +kernel
theorem dX10_strokesOf_51 : decode cX10_strokesOf 51 = .ok (.aload_n 1, 1) := by decide +kernel
theorem dX10_strokesOf_52 : decode cX10_strokesOf 52 = .ok (.bipush 12, 2) := by decide +kernel
theorem dX10_strokesOf_54 : decode cX10_strokesOf 54 = .ok (.iaload, 1) := by decide +kernel
theorem dX10_strokesOf_55 : decode cX10_strokesOf 55 = .ok (.iastore, 1) := by decide +kernel
theorem dX10_strokesOf_56 : decode cX10_strokesOf 56 = .ok (.aload_n 0, 1) := by decide +kernel
theorem dX10_strokesOf_57 : decode cX10_strokesOf 57 = .ok (.getfield 55, 3) := by decide +kernel
theorem dX10_strokesOf_60 : decode cX10_strokesOf 60 = .ok (.bipush 6, 2) := by decide +kernel
theorem dX10_strokesOf_62 : decode cX10_strokesOf 62 = .ok (.aload_n 1, 1) := by decide +kernel
theorem dX10_strokesOf_63 : decode cX10_strokesOf 63 = .ok (.iconst 1, 1) := by decide +kernel
theorem dX10_strokesOf_64 : decode cX10_strokesOf 64 = .ok (.iaload, 1) := by decide +kernel
theorem dX10_strokesOf_65 : decode cX10_strokesOf 65 = .ok (.iastore, 1) := by decide +kernel
theorem dX10_strokesOf_66 : decode cX10_strokesOf 66 = .ok (.sipush 999, 3) := by decide +kernel
theorem dX10_strokesOf_69 : decode cX10_strokesOf 69 = .ok (.aload_n 0, 1) := by decide +kernel
theorem dX10_strokesOf_70 : decode cX10_strokesOf 70 = .ok (.invokevirtual 277, 3) := by decide +kernel
theorem dX10_strokesOf_73 : decode cX10_strokesOf 73 = .ok (.aload_n 1, 1) := by decide +kernel
theorem dX10_strokesOf_74 : decode cX10_strokesOf 74 = .ok (.bipush 8, 2) := by decide +kernel
theorem dX10_strokesOf_76 : decode cX10_strokesOf 76 = .ok (.iaload, 1) := by decide +kernel
theorem dX10_strokesOf_77 : decode cX10_strokesOf 77 = .ok (.iadd, 1) := by decide +kernel
theorem dX10_strokesOf_78 : decode cX10_strokesOf 78 = .ok (.invokestatic 172, 3) := by decide +kernel
theorem dX10_strokesOf_81 : decode cX10_strokesOf 81 = .ok (.ireturn, 1) := by decide +kernel
abbrev mt_X10_strokesOf : AxM := (RX10, cX10_strokesOf, 2, (some .int), false, [])
theorem L1_X10_strokesOf {g : AxG} {l : Launch} (N : Nat) {v0 : Nat} {v1 : Nat} {S : AxS} {r9 : Int32} {S9 : AxS} (h : F_X10_strokesOf N v0 v1 S = some ((r9, S9))) : AxMet g l yX10_strokesOf cX10_strokesOf 2 (some .int) (3) 0 0 [.ref v0, .ref v1] S ((.inl (some (.int r9)), S9)) := by
  refine ax_met (own := RX10) (ini := false) (by decide +kernel) rfl (fun h => nomatch h) rfl ?_
  show AW g l (axRm (3) 0 0) mt_X10_strokesOf (axMQ g 0 0 (.inl (some (.int r9)), S9)) 0 0 S 0 [(0, .ref v0), (1, .ref v1)] []
  unfold F_X10_strokesOf at h
  refine aw_aload_n 0 dX10_strokesOf_0 rfl rfl ?_
  refine aw_getR axc10 24 rfl rfl wd_1309 dX10_strokesOf_1 h (fun a1 h => ?_)
  refine aw_iconst 0 dX10_strokesOf_4 rfl ?_
  refine aw_aload_n 1 dX10_strokesOf_5 rfl rfl ?_
  refine aw_doneI (rest := [.int 0, .ref a1]) h (fun r9 S9 hF => aw_runS (As := [.ref v1]) (rest := [.int 0, .ref a1]) (L1_X10_asksOf N hF) wd_1611 wd_1609 wd_1610 wd_97 pd_X10_asksOf.2 rfl (ax_rm (by omega) rfl) ax_hf0 (Nat.le_of_ble_eq_true rfl) rfl dX10_strokesOf_6) (fun x3 T2 h => ?_)
  refine aw_iast dX10_strokesOf_9 h (fun T4 h => ?_)
  refine aw_aload_n 0 dX10_strokesOf_10 rfl rfl ?_
  refine aw_getR axc10 24 rfl rfl wd_1309 dX10_strokesOf_11 h (fun a5 h => ?_)
  refine aw_iconst 1 dX10_strokesOf_14 rfl ?_
  refine aw_aload_n 1 dX10_strokesOf_15 rfl rfl ?_
  refine aw_iconst 4 dX10_strokesOf_16 rfl ?_
  refine aw_iald dX10_strokesOf_17 h (fun x6 h => ?_)
  refine aw_iast dX10_strokesOf_18 h (fun T7 h => ?_)
  refine aw_aload_n 0 dX10_strokesOf_19 rfl rfl ?_
  refine aw_getR axc10 24 rfl rfl wd_1309 dX10_strokesOf_20 h (fun a8 h => ?_)
  refine aw_iconst 2 dX10_strokesOf_23 rfl ?_
  refine aw_aload_n 1 dX10_strokesOf_24 rfl rfl ?_
  refine aw_iconst 2 dX10_strokesOf_25 rfl ?_
  refine aw_iald dX10_strokesOf_26 h (fun x9 h => ?_)
  refine aw_iast dX10_strokesOf_27 h (fun T10 h => ?_)
  refine aw_aload_n 0 dX10_strokesOf_28 rfl rfl ?_
  refine aw_getR axc10 24 rfl rfl wd_1309 dX10_strokesOf_29 h (fun a11 h => ?_)
  refine aw_iconst 3 dX10_strokesOf_32 rfl ?_
  refine aw_aload_n 1 dX10_strokesOf_33 rfl rfl ?_
  refine aw_iconst 3 dX10_strokesOf_34 rfl ?_
  refine aw_iald dX10_strokesOf_35 h (fun x12 h => ?_)
  refine aw_iast dX10_strokesOf_36 h (fun T13 h => ?_)
  refine aw_aload_n 0 dX10_strokesOf_37 rfl rfl ?_
  refine aw_getR axc10 24 rfl rfl wd_1309 dX10_strokesOf_38 h (fun a14 h => ?_)
  refine aw_iconst 4 dX10_strokesOf_41 rfl ?_
  refine aw_aload_n 1 dX10_strokesOf_42 rfl rfl ?_
  refine aw_iconst 5 dX10_strokesOf_43 rfl ?_
  refine aw_iald dX10_strokesOf_44 h (fun x15 h => ?_)
  refine aw_iast dX10_strokesOf_45 h (fun T16 h => ?_)
  refine aw_aload_n 0 dX10_strokesOf_46 rfl rfl ?_
  refine aw_getR axc10 24 rfl rfl wd_1309 dX10_strokesOf_47 h (fun a17 h => ?_)
  refine aw_iconst 5 dX10_strokesOf_50 rfl ?_
  refine aw_aload_n 1 dX10_strokesOf_51 rfl rfl ?_
  refine aw_bipush 12 dX10_strokesOf_52 (by decide) ?_
  refine aw_iald dX10_strokesOf_54 h (fun x18 h => ?_)
  refine aw_iast dX10_strokesOf_55 h (fun T19 h => ?_)
  refine aw_aload_n 0 dX10_strokesOf_56 rfl rfl ?_
  refine aw_getR axc10 24 rfl rfl wd_1309 dX10_strokesOf_57 h (fun a20 h => ?_)
  refine aw_bipush 6 dX10_strokesOf_60 (by decide) ?_
  refine aw_aload_n 1 dX10_strokesOf_62 rfl rfl ?_
  refine aw_iconst 1 dX10_strokesOf_63 rfl ?_
  refine aw_iald dX10_strokesOf_64 h (fun x21 h => ?_)
  refine aw_iast dX10_strokesOf_65 h (fun T22 h => ?_)
  refine aw_sipush 999 dX10_strokesOf_66 (by decide) ?_
  refine aw_aload_n 0 dX10_strokesOf_69 rfl rfl ?_
  obtain ⟨hL23, h⟩ := ax_is_spec h
  refine aw_doneI (rest := [.int 999]) h (fun r9 S9 hF => aw_runV (As := []) (rest := [.int 999]) (L1_X10_byLaw N hF) axc10 hL23 wd_1618 wd_1615 wd_1617 wd_67 wd_97 pd_X10_byLaw rfl (ax_rm (by omega) rfl) ax_hf0 (Nat.le_of_ble_eq_true rfl) rfl dX10_strokesOf_70) (fun x25 T24 h => ?_)
  refine aw_aload_n 1 dX10_strokesOf_73 rfl rfl ?_
  refine aw_bipush 8 dX10_strokesOf_74 (by decide) ?_
  refine aw_iald dX10_strokesOf_76 h (fun x26 h => ?_)
  refine aw_iadd dX10_strokesOf_77 ?_
  refine aw_doneI (rest := []) h (fun r9 S9 hF => aw_runS (As := [.int 999, .int (x25 + x26)]) (rest := []) (L1_X10_less N hF) wd_1500 wd_1498 wd_1499 wd_97 pd_X10_less.2 rfl (ax_rm (by omega) rfl) ax_hf0 (Nat.le_of_ble_eq_true rfl) rfl dX10_strokesOf_78) (fun x28 T27 h => ?_)
  exact aw_iret dX10_strokesOf_81 rfl (Nat.le_refl _) (Nat.le_refl _) h

theorem dX10_noiseOf_0 : decode cX10_noiseOf 0 = .ok (.iload_n 2, 1) := by decide +kernel
theorem dX10_noiseOf_1 : decode cX10_noiseOf 1 = .ok (.iconst 1, 1) := by decide +kernel
theorem dX10_noiseOf_2 : decode cX10_noiseOf 2 = .ok (.aload_n 0, 1) := by decide +kernel
theorem dX10_noiseOf_3 : decode cX10_noiseOf 3 = .ok (.getfield 37, 3) := by decide +kernel
theorem dX10_noiseOf_6 : decode cX10_noiseOf 6 = .ok (.iconst 1, 1) := by decide +kernel
theorem dX10_noiseOf_7 : decode cX10_noiseOf 7 = .ok (.aaload, 1) := by decide +kernel
theorem dX10_noiseOf_8 : decode cX10_noiseOf 8 = .ok (.iload_n 1, 1) := by decide +kernel
theorem dX10_noiseOf_9 : decode cX10_noiseOf 9 = .ok (.iaload, 1) := by decide +kernel
theorem dX10_noiseOf_10 : decode cX10_noiseOf 10 = .ok (.iadd, 1) := by decide +kernel
theorem dX10_noiseOf_11 : decode cX10_noiseOf 11 = .ok (.idiv, 1) := by decide +kernel
theorem dX10_noiseOf_12 : decode cX10_noiseOf 12 = .ok (.iconst 1, 1) := by decide +kernel
theorem dX10_noiseOf_13 : decode cX10_noiseOf 13 = .ok (.iload_n 3, 1) := by decide +kernel
theorem dX10_noiseOf_14 : decode cX10_noiseOf 14 = .ok (.iadd, 1) := by decide +kernel
theorem dX10_noiseOf_15 : decode cX10_noiseOf 15 = .ok (.idiv, 1) := by decide +kernel
theorem dX10_noiseOf_16 : decode cX10_noiseOf 16 = .ok (.ireturn, 1) := by decide +kernel
abbrev mt_X10_noiseOf : AxM := (RX10, cX10_noiseOf, 4, (some .int), false, [])
theorem L1_X10_noiseOf {g : AxG} {l : Launch} (N : Nat) {v0 : Nat} {v1 : Int32} {v2 : Int32} {v3 : Int32} {S : AxS} {r9 : Int32} {S9 : AxS} (h : F_X10_noiseOf N v0 v1 v2 v3 S = some ((r9, S9))) : AxMet g l yX10_noiseOf cX10_noiseOf 4 (some .int) (0) 0 0 [.ref v0, .int v1, .int v2, .int v3] S ((.inl (some (.int r9)), S9)) := by
  refine ax_met (own := RX10) (ini := false) (by decide +kernel) rfl (fun h => nomatch h) rfl ?_
  show AW g l (axRm (0) 0 0) mt_X10_noiseOf (axMQ g 0 0 (.inl (some (.int r9)), S9)) 0 0 S 0 [(0, .ref v0), (1, .int v1), (2, .int v2), (3, .int v3)] []
  unfold F_X10_noiseOf at h
  refine aw_iload_n 2 dX10_noiseOf_0 rfl rfl ?_
  refine aw_iconst 1 dX10_noiseOf_1 rfl ?_
  refine aw_aload_n 0 dX10_noiseOf_2 rfl rfl ?_
  refine aw_getR axc10 16 rfl rfl wd_1301 dX10_noiseOf_3 h (fun a1 h => ?_)
  refine aw_iconst 1 dX10_noiseOf_6 rfl ?_
  refine aw_aald dX10_noiseOf_7 h (fun a2 h => ?_)
  refine aw_iload_n 1 dX10_noiseOf_8 rfl rfl ?_
  refine aw_iald dX10_noiseOf_9 h (fun x3 h => ?_)
  refine aw_iadd dX10_noiseOf_10 ?_
  refine aw_idiv dX10_noiseOf_11 h (fun h => ?_)
  refine aw_iconst 1 dX10_noiseOf_12 rfl ?_
  refine aw_iload_n 3 dX10_noiseOf_13 rfl rfl ?_
  refine aw_iadd dX10_noiseOf_14 ?_
  refine aw_idiv dX10_noiseOf_15 h (fun h => ?_)
  exact aw_iret dX10_noiseOf_16 rfl (Nat.le_refl _) (Nat.le_refl _) h

theorem dX10_isWaking_0 : decode cX10_isWaking 0 = .ok (.aload_n 0, 1) := by decide +kernel
theorem dX10_isWaking_1 : decode cX10_isWaking 1 = .ok (.aload_n 1, 1) := by decide +kernel
theorem dX10_isWaking_2 : decode cX10_isWaking 2 = .ok (.bipush 13, 2) := by decide +kernel
theorem dX10_isWaking_4 : decode cX10_isWaking 4 = .ok (.iload_n 2, 1) := by decide +kernel
theorem dX10_isWaking_5 : decode cX10_isWaking 5 = .ok (.iadd, 1) := by decide +kernel
theorem dX10_isWaking_6 : decode cX10_isWaking 6 = .ok (.iaload, 1) := by decide +kernel
theorem dX10_isWaking_7 : decode cX10_isWaking 7 = .ok (.iload_n 3, 1) := by decide +kernel
theorem dX10_isWaking_8 : decode cX10_isWaking 8 = .ok (.aload_n 1, 1) := by decide +kernel
theorem dX10_isWaking_9 : decode cX10_isWaking 9 = .ok (.iconst 5, 1) := by decide +kernel
theorem dX10_isWaking_10 : decode cX10_isWaking 10 = .ok (.iaload, 1) := by decide +kernel
theorem dX10_isWaking_11 : decode cX10_isWaking 11 = .ok (.invokevirtual 280, 3) := by decide +kernel
theorem dX10_isWaking_14 : decode cX10_isWaking 14 = .ok (.aload_n 0, 1) := by decide +kernel
theorem dX10_isWaking_15 : decode cX10_isWaking 15 = .ok (.getfield 37, 3) := by decide +kernel
theorem dX10_isWaking_18 : decode cX10_isWaking 18 = .ok (.iconst 2, 1) := by decide +kernel
theorem dX10_isWaking_19 : decode cX10_isWaking 19 = .ok (.aaload, 1) := by decide +kernel
theorem dX10_isWaking_20 : decode cX10_isWaking 20 = .ok (.iload_n 2, 1) := by decide +kernel
theorem dX10_isWaking_21 : decode cX10_isWaking 21 = .ok (.iaload, 1) := by decide +kernel
theorem dX10_isWaking_22 : decode cX10_isWaking 22 = .ok (.if_icmp .le 7, 3) := by decide +kernel
theorem dX10_isWaking_25 : decode cX10_isWaking 25 = .ok (.iconst 1, 1) := by decide +kernel
theorem dX10_isWaking_26 : decode cX10_isWaking 26 = .ok (.goto 4, 3) := by decide +kernel
theorem dX10_isWaking_29 : decode cX10_isWaking 29 = .ok (.iconst 0, 1) := by decide +kernel
theorem dX10_isWaking_30 : decode cX10_isWaking 30 = .ok (.ireturn, 1) := by decide +kernel
abbrev mt_X10_isWaking : AxM := (RX10, cX10_isWaking, 4, (some .boolean), false, [])
theorem L1_X10_isWaking {g : AxG} {l : Launch} (N : Nat) {v0 : Nat} {v1 : Nat} {v2 : Int32} {v3 : Int32} {S : AxS} {r9 : Int32} {S9 : AxS} (h : F_X10_isWaking N v0 v1 v2 v3 S = some ((r9, S9))) : AxMet g l yX10_isWaking cX10_isWaking 4 (some .boolean) (1) 0 0 [.ref v0, .ref v1, .int v2, .int v3] S ((.inl (some (.int r9)), S9)) := by
  refine ax_met (own := RX10) (ini := false) (by decide +kernel) rfl (fun h => nomatch h) rfl ?_
  show AW g l (axRm (1) 0 0) mt_X10_isWaking (axMQ g 0 0 (.inl (some (.int r9)), S9)) 0 0 S 0 [(0, .ref v0), (1, .ref v1), (2, .int v2), (3, .int v3)] []
  unfold F_X10_isWaking at h
  refine aw_aload_n 0 dX10_isWaking_0 rfl rfl ?_
  refine aw_aload_n 1 dX10_isWaking_1 rfl rfl ?_
  refine aw_bipush 13 dX10_isWaking_2 (by decide) ?_
  refine aw_iload_n 2 dX10_isWaking_4 rfl rfl ?_
  refine aw_iadd dX10_isWaking_5 ?_
  refine aw_iald dX10_isWaking_6 h (fun x1 h => ?_)
  refine aw_iload_n 3 dX10_isWaking_7 rfl rfl ?_
  refine aw_aload_n 1 dX10_isWaking_8 rfl rfl ?_
  refine aw_iconst 5 dX10_isWaking_9 rfl ?_
  refine aw_iald dX10_isWaking_10 h (fun x2 h => ?_)
  obtain ⟨hL3, h⟩ := ax_is_spec h
  refine aw_doneI (rest := []) h (fun r9 S9 hF => aw_runV (As := [.int x1, .int v3, .int x2]) (rest := []) (L1_X10_noiseOf N hF) axc10 hL3 wd_1629 wd_1626 wd_1628 wd_69 wd_97 pd_X10_noiseOf rfl (ax_rm (by omega) rfl) ax_hf0 (Nat.le_of_ble_eq_true rfl) rfl dX10_isWaking_11) (fun x5 T4 h => ?_)
  refine aw_aload_n 0 dX10_isWaking_14 rfl rfl ?_
  refine aw_getR axc10 16 rfl rfl wd_1301 dX10_isWaking_15 h (fun a6 h => ?_)
  refine aw_iconst 2 dX10_isWaking_18 rfl ?_
  refine aw_aald dX10_isWaking_19 h (fun a7 h => ?_)
  refine aw_iload_n 2 dX10_isWaking_20 rfl rfl ?_
  refine aw_iald dX10_isWaking_21 h (fun x8 h => ?_)
  refine aw_icmp_le 29 dX10_isWaking_22 (by decide) h (fun h => ?_) (fun h => ?_)
  · refine aw_iconst 0 dX10_isWaking_29 rfl ?_
    exact aw_zret dX10_isWaking_30 rfl (Nat.le_refl _) (Nat.le_refl _) h
  · refine aw_iconst 1 dX10_isWaking_25 rfl ?_
    refine aw_goto 30 dX10_isWaking_26 (by decide) ?_
    exact aw_zret dX10_isWaking_30 rfl (Nat.le_refl _) (Nat.le_refl _) h

theorem dX10_earns_0 : decode cX10_earns 0 = .ok (.aload_n 0, 1) := by decide +kernel
theorem dX10_earns_1 : decode cX10_earns 1 = .ok (.iconst 0, 1) := by decide +kernel
theorem dX10_earns_2 : decode cX10_earns 2 = .ok (.ldc_w 293, 3) := by decide +kernel
theorem dX10_earns_5 : decode cX10_earns 5 = .ok (.aload_n 0, 1) := by decide +kernel
theorem dX10_earns_6 : decode cX10_earns 6 = .ok (.iconst 0, 1) := by decide +kernel
theorem dX10_earns_7 : decode cX10_earns 7 = .ok (.iaload, 1) := by decide +kernel
theorem dX10_earns_8 : decode cX10_earns 8 = .ok (.aload_n 0, 1) := by decide +kernel
theorem dX10_earns_9 : decode cX10_earns 9 = .ok (.iconst 0, 1) := by decide +kernel
theorem dX10_earns_10 : decode cX10_earns 10 = .ok (.iaload, 1) := by decide +kernel
theorem dX10_earns_11 : decode cX10_earns 11 = .ok (.iload_n 1, 1) := by decide +kernel
theorem dX10_earns_12 : decode cX10_earns 12 = .ok (.imul, 1) := by decide +kernel
theorem dX10_earns_13 : decode cX10_earns 13 = .ok (.bipush 100, 2) := by decide +kernel
theorem dX10_earns_15 : decode cX10_earns 15 = .ok (.idiv, 1) := by decide +kernel
theorem dX10_earns_16 : decode cX10_earns 16 = .ok (.iadd, 1) := by decide +kernel
theorem dX10_earns_17 : decode cX10_earns 17 = .ok (.invokestatic 172, 3) := by decide +kernel
theorem dX10_earns_20 : decode cX10_earns 20 = .ok (.iastore, 1) := by decide +kernel
theorem dX10_earns_21 : decode cX10_earns 21 = .ok (.return_, 1) := by decide +kernel
abbrev mt_X10_earns : AxM := (RX10, cX10_earns, 2, none, false, [])
theorem L1_X10_earns {g : AxG} {l : Launch} (N : Nat) {v0 : Nat} {v1 : Int32} {S : AxS} {S9 : AxS} (h : F_X10_earns N v0 v1 S = some S9) : AxMet g l yX10_earns cX10_earns 2 none (1) 0 0 [.ref v0, .int v1] S ((.inl none, S9)) := by
  refine ax_met (own := RX10) (ini := false) (by decide +kernel) rfl (fun h => nomatch h) rfl ?_
  show AW g l (axRm (1) 0 0) mt_X10_earns (axMQ g 0 0 (.inl none, S9)) 0 0 S 0 [(0, .ref v0), (1, .int v1)] []
  unfold F_X10_earns at h
  refine aw_aload_n 0 dX10_earns_0 rfl rfl ?_
  refine aw_iconst 0 dX10_earns_1 rfl ?_
  refine aw_ldcwI wd_1633 dX10_earns_2 ?_
  refine aw_aload_n 0 dX10_earns_5 rfl rfl ?_
  refine aw_iconst 0 dX10_earns_6 rfl ?_
  refine aw_iald dX10_earns_7 h (fun x1 h => ?_)
  refine aw_aload_n 0 dX10_earns_8 rfl rfl ?_
  refine aw_iconst 0 dX10_earns_9 rfl ?_
  refine aw_iald dX10_earns_10 h (fun x2 h => ?_)
  refine aw_iload_n 1 dX10_earns_11 rfl rfl ?_
  refine aw_imul dX10_earns_12 ?_
  refine aw_bipush 100 dX10_earns_13 (by decide) ?_
  refine aw_idiv dX10_earns_15 h (fun h => ?_)
  refine aw_iadd dX10_earns_16 ?_
  refine aw_doneI (rest := [.int 0, .ref v0]) h (fun r9 S9 hF => aw_runS (As := [.int 99999, .int (x1 + ((x2 * v1) / 100))]) (rest := [.int 0, .ref v0]) (L1_X10_less N hF) wd_1500 wd_1498 wd_1499 wd_97 pd_X10_less.2 rfl (ax_rm (by omega) rfl) ax_hf0 (Nat.le_of_ble_eq_true rfl) rfl dX10_earns_17) (fun x4 T3 h => ?_)
  refine aw_iast dX10_earns_20 h (fun T5 h => ?_)
  exact aw_vret dX10_earns_21 rfl (Nat.le_refl _) (Nat.le_refl _) h

theorem dX10_nightEnds_0 : decode cX10_nightEnds 0 = .ok (.aload_n 0, 1) := by decide +kernel
theorem dX10_nightEnds_1 : decode cX10_nightEnds 1 = .ok (.aload_n 1, 1) := by decide +kernel
theorem dX10_nightEnds_2 : decode cX10_nightEnds 2 = .ok (.invokevirtual 283, 3) := by decide +kernel
theorem dX10_nightEnds_5 : decode cX10_nightEnds 5 = .ok (.istore_n 2, 1) := by decide +kernel
theorem dX10_nightEnds_6 : decode cX10_nightEnds 6 = .ok (.iconst 0, 1) := by decide +kernel
theorem dX10_nightEnds_7 : decode cX10_nightEnds 7 = .ok (.istore_n 3, 1) := by decide +kernel
theorem dX10_nightEnds_8 : decode cX10_nightEnds 8 = .ok (.iload_n 3, 1) := by decide +kernel
theorem dX10_nightEnds_9 : decode cX10_nightEnds 9 = .ok (.aload_n 0, 1) := by decide +kernel
theorem dX10_nightEnds_10 : decode cX10_nightEnds 10 = .ok (.getfield 23, 3) := by decide +kernel
theorem dX10_nightEnds_13 : decode cX10_nightEnds 13 = .ok (.iconst 2, 1) := by decide +kernel
theorem dX10_nightEnds_14 : decode cX10_nightEnds 14 = .ok (.iaload, 1) := by decide +kernel
theorem dX10_nightEnds_15 : decode cX10_nightEnds 15 = .ok (.if_icmp .ge 40, 3) := by decide +kernel
theorem dX10_nightEnds_18 : decode cX10_nightEnds 18 = .ok (.aload_n 0, 1) := by decide +kernel
theorem dX10_nightEnds_19 : decode cX10_nightEnds 19 = .ok (.aload_n 1, 1) := by decide +kernel
theorem dX10_nightEnds_20 : decode cX10_nightEnds 20 = .ok (.iload_n 3, 1) := by decide +kernel
theorem dX10_nightEnds_21 : decode cX10_nightEnds 21 = .ok (.iload_n 2, 1) := by decide +kernel
theorem dX10_nightEnds_22 : decode cX10_nightEnds 22 = .ok (.invokevirtual 286, 3) := by decide +kernel
theorem dX10_nightEnds_25 : decode cX10_nightEnds 25 = .ok (.ifCond .ne 6, 3) := by decide +kernel
theorem dX10_nightEnds_28 : decode cX10_nightEnds 28 = .ok (.goto 21, 3) := by decide +kernel
theorem dX10_nightEnds_31 : decode cX10_nightEnds 31 = .ok (.aload_n 1, 1) := by decide +kernel
theorem dX10_nightEnds_32 : decode cX10_nightEnds 32 = .ok (.bipush 21, 2) := by decide +kernel
theorem dX10_nightEnds_34 : decode cX10_nightEnds 34 = .ok (.iload_n 3, 1) := by decide +kernel
theorem dX10_nightEnds_35 : decode cX10_nightEnds 35 = .ok (.iadd, 1) := by decide +kernel
theorem dX10_nightEnds_36 : decode cX10_nightEnds 36 = .ok (.dup2, 1) := by decide +kernel
theorem dX10_nightEnds_37 : decode cX10_nightEnds 37 = .ok (.iaload, 1) := by decide +kernel
theorem dX10_nightEnds_38 : decode cX10_nightEnds 38 = .ok (.iconst 1, 1) := by decide +kernel
theorem dX10_nightEnds_39 : decode cX10_nightEnds 39 = .ok (.iadd, 1) := by decide +kernel
theorem dX10_nightEnds_40 : decode cX10_nightEnds 40 = .ok (.iastore, 1) := by decide +kernel
theorem dX10_nightEnds_41 : decode cX10_nightEnds 41 = .ok (.aload_n 1, 1) := by decide +kernel
theorem dX10_nightEnds_42 : decode cX10_nightEnds 42 = .ok (.bipush 10, 2) := by decide +kernel
theorem dX10_nightEnds_44 : decode cX10_nightEnds 44 = .ok (.dup2, 1) := by decide +kernel
theorem dX10_nightEnds_45 : decode cX10_nightEnds 45 = .ok (.iaload, 1) := by decide +kernel
theorem dX10_nightEnds_46 : decode cX10_nightEnds 46 = .ok (.iconst 1, 1) := by decide +kernel
theorem dX10_nightEnds_47 : decode cX10_nightEnds 47 = .ok (.iadd, 1) := by decide +kernel
theorem dX10_nightEnds_48 : decode cX10_nightEnds 48 = .ok (.iastore, 1) := by decide +kernel
theorem dX10_nightEnds_49 : decode cX10_nightEnds 49 = .ok (.iinc 3 1, 3) := by decide +kernel
theorem dX10_nightEnds_52 : decode cX10_nightEnds 52 = .ok (.goto (-44), 3) := by decide +kernel
theorem dX10_nightEnds_55 : decode cX10_nightEnds 55 = .ok (.aload_n 1, 1) := by decide +kernel
theorem dX10_nightEnds_56 : decode cX10_nightEnds 56 = .ok (.bipush 9, 2) := by decide +kernel
theorem dX10_nightEnds_58 : decode cX10_nightEnds 58 = .ok (.dup2, 1) := by decide +kernel
theorem dX10_nightEnds_59 : decode cX10_nightEnds 59 = .ok (.iaload, 1) := by decide +kernel
theorem dX10_nightEnds_60 : decode cX10_nightEnds 60 = .ok (.iload_n 2, 1) := by decide +kernel
theorem dX10_nightEnds_61 : decode cX10_nightEnds 61 = .ok (.iadd, 1) := by decide +kernel
theorem dX10_nightEnds_62 : decode cX10_nightEnds 62 = .ok (.iastore, 1) := by decide +kernel
theorem dX10_nightEnds_63 : decode cX10_nightEnds 63 = .ok (.aload_n 1, 1) := by decide +kernel
theorem dX10_nightEnds_64 : decode cX10_nightEnds 64 = .ok (.iconst 3, 1) := by decide +kernel
theorem dX10_nightEnds_65 : decode cX10_nightEnds 65 = .ok (.iload_n 2, 1) := by decide +kernel
theorem dX10_nightEnds_66 : decode cX10_nightEnds 66 = .ok (.ifCond .ne 11, 3) := by decide +kernel
theorem dX10_nightEnds_69 : decode cX10_nightEnds 69 = .ok (.aload_n 1, 1) := by decide +kernel
theorem dX10_nightEnds_70 : decode cX10_nightEnds 70 = .ok (.iconst 3, 1) := by decide +kernel
theorem dX10_nightEnds_71 : decode cX10_nightEnds 71 = .ok (.iaload, 1) := by decide +kernel
theorem dX10_nightEnds_72 : decode cX10_nightEnds 72 = .ok (.iconst 1, 1) := by decide +kernel
theorem dX10_nightEnds_73 : decode cX10_nightEnds 73 = .ok (.iadd, 1) := by decide +kernel
theorem dX10_nightEnds_74 : decode cX10_nightEnds 74 = .ok (.goto 4, 3) := by decide +kernel
theorem dX10_nightEnds_77 : decode cX10_nightEnds 77 = .ok (.iconst 0, 1) := by decide +kernel
theorem dX10_nightEnds_78 : decode cX10_nightEnds 78 = .ok (.iastore, 1) := by decide +kernel
theorem dX10_nightEnds_79 : decode cX10_nightEnds 79 = .ok (.aload_n 1, 1) := by decide +kernel
theorem dX10_nightEnds_80 : decode cX10_nightEnds 80 = .ok (.iconst 5, 1) := by decide +kernel
theorem dX10_nightEnds_81 : decode cX10_nightEnds 81 = .ok (.iconst 0, 1) := by decide +kernel
theorem dX10_nightEnds_82 : decode cX10_nightEnds 82 = .ok (.iastore, 1) := by decide +kernel
theorem dX10_nightEnds_83 : decode cX10_nightEnds 83 = .ok (.aload_n 1, 1) := by decide +kernel
theorem dX10_nightEnds_84 : decode cX10_nightEnds 84 = .ok (.bipush 11, 2) := by decide +kernel
theorem dX10_nightEnds_86 : decode cX10_nightEnds 86 = .ok (.iconst 0, 1) := by decide +kernel
theorem dX10_nightEnds_87 : decode cX10_nightEnds 87 = .ok (.iastore, 1) := by decide +kernel
theorem dX10_nightEnds_88 : decode cX10_nightEnds 88 = .ok (.aload_n 1, 1) := by decide +kernel
theorem dX10_nightEnds_89 : decode cX10_nightEnds 89 = .ok (.iconst 4, 1) := by decide +kernel
theorem dX10_nightEnds_90 : decode cX10_nightEnds 90 = .ok (.iconst 0, 1) := by decide +kernel
theorem dX10_nightEnds_91 : decode cX10_nightEnds 91 = .ok (.iastore, 1) := by decide +kernel
theorem dX10_nightEnds_92 : decode cX10_nightEnds 92 = .ok (.aload_n 1, 1) := by decide +kernel
theorem dX10_nightEnds_93 : decode cX10_nightEnds 93 = .ok (.bipush 8, 2) := by decide +kernel
theorem dX10_nightEnds_95 : decode cX10_nightEnds 95 = .ok (.aload_n 1, 1) := by decide +kernel
theorem dX10_nightEnds_96 : decode cX10_nightEnds 96 = .ok (.bipush 7, 2) := by decide +kernel
theorem dX10_nightEnds_98 : decode cX10_nightEnds 98 = .ok (.iaload, 1) := by decide +kernel
theorem dX10_nightEnds_99 : decode cX10_nightEnds 99 = .ok (.iconst 1, 1) := by decide +kernel
theorem dX10_nightEnds_100 : decode cX10_nightEnds 100 = .ok (.if_icmp .ne 10, 3) := by decide +kernel
theorem dX10_nightEnds_103 : decode cX10_nightEnds 103 = .ok (.aload_n 1, 1) := by decide +kernel
theorem dX10_nightEnds_104 : decode cX10_nightEnds 104 = .ok (.bipush 6, 2) := by decide +kernel
theorem dX10_nightEnds_106 : decode cX10_nightEnds 106 = .ok (.iaload, 1) := by decide +kernel
theorem dX10_nightEnds_107 : decode cX10_nightEnds 107 = .ok (.goto 4, 3) := by decide +kernel
theorem dX10_nightEnds_110 : decode cX10_nightEnds 110 = .ok (.iconst 0, 1) := by decide +kernel
theorem dX10_nightEnds_111 : decode cX10_nightEnds 111 = .ok (.iastore, 1) := by decide +kernel
theorem dX10_nightEnds_112 : decode cX10_nightEnds 112 = .ok (.aload_n 1, 1) := by decide +kernel
theorem dX10_nightEnds_113 : decode cX10_nightEnds 113 = .ok (.bipush 7, 2) := by decide +kernel
theorem dX10_nightEnds_115 : decode cX10_nightEnds 115 = .ok (.iconst 0, 1) := by decide +kernel
theorem dX10_nightEnds_116 : decode cX10_nightEnds 116 = .ok (.aload_n 1, 1) := by decide +kernel
theorem dX10_nightEnds_117 : decode cX10_nightEnds 117 = .ok (.bipush 7, 2) := by decide +kernel
theorem dX10_nightEnds_119 : decode cX10_nightEnds 119 = .ok (.iaload, 1) := by decide +kernel
theorem dX10_nightEnds_120 : decode cX10_nightEnds 120 = .ok (.iconst 1, 1) := by decide +kernel
theorem dX10_nightEnds_121 : decode cX10_nightEnds 121 = .ok (.isub, 1) := by decide +kernel
theorem dX10_nightEnds_122 : decode cX10_nightEnds 122 = .ok (.invokestatic 257, 3) := by decide +kernel
theorem dX10_nightEnds_125 : decode cX10_nightEnds 125 = .ok (.iastore, 1) := by decide +kernel
theorem dX10_nightEnds_126 : decode cX10_nightEnds 126 = .ok (.aload_n 1, 1) := by decide +kernel
theorem dX10_nightEnds_127 : decode cX10_nightEnds 127 = .ok (.bipush 6, 2) := by decide +kernel
theorem dX10_nightEnds_129 : decode cX10_nightEnds 129 = .ok (.aload_n 1, 1) := by decide +kernel
theorem dX10_nightEnds_130 : decode cX10_nightEnds 130 = .ok (.bipush 7, 2) := by decide +kernel
theorem dX10_nightEnds_132 : decode cX10_nightEnds 132 = .ok (.iaload, 1) := by decide +kernel
theorem dX10_nightEnds_133 : decode cX10_nightEnds 133 = .ok (.ifCond .ne 7, 3) := by decide +kernel
theorem dX10_nightEnds_136 : decode cX10_nightEnds 136 = .ok (.iconst 0, 1) := by decide +kernel
theorem dX10_nightEnds_137 : decode cX10_nightEnds 137 = .ok (.goto 7, 3) := by decide +kernel
theorem dX10_nightEnds_140 : decode cX10_nightEnds 140 = .ok (.aload_n 1, 1) := by decide +kernel
theorem dX10_nightEnds_141 : decode cX10_nightEnds 141 = .ok (.bipush 6, 2) := by decide +kernel
theorem dX10_nightEnds_143 : decode cX10_nightEnds 143 = .ok (.iaload, 1) := by decide +kernel
theorem dX10_nightEnds_144 : decode cX10_nightEnds 144 = .ok (.iastore, 1) := by decide +kernel
theorem dX10_nightEnds_145 : decode cX10_nightEnds 145 = .ok (.aload_n 1, 1) := by decide +kernel
theorem dX10_nightEnds_146 : decode cX10_nightEnds 146 = .ok (.iconst 1, 1) := by decide +kernel
theorem dX10_nightEnds_147 : decode cX10_nightEnds 147 = .ok (.sipush 9999, 3) := by decide +kernel
theorem dX10_nightEnds_150 : decode cX10_nightEnds 150 = .ok (.aload_n 1, 1) := by decide +kernel
theorem dX10_nightEnds_151 : decode cX10_nightEnds 151 = .ok (.iconst 1, 1) := by decide +kernel
theorem dX10_nightEnds_152 : decode cX10_nightEnds 152 = .ok (.iaload, 1) := by decide +kernel
theorem dX10_nightEnds_153 : decode cX10_nightEnds 153 = .ok (.aload_n 0, 1) := by decide +kernel
theorem dX10_nightEnds_154 : decode cX10_nightEnds 154 = .ok (.getfield 29, 3) := by decide +kernel
theorem dX10_nightEnds_157 : decode cX10_nightEnds 157 = .ok (.aload_n 1, 1) := by decide +kernel
theorem dX10_nightEnds_158 : decode cX10_nightEnds 158 = .ok (.iconst 2, 1) := by decide +kernel
theorem dX10_nightEnds_159 : decode cX10_nightEnds 159 = .ok (.iaload, 1) := by decide +kernel
theorem dX10_nightEnds_160 : decode cX10_nightEnds 160 = .ok (.bipush 12, 2) := by decide +kernel
theorem dX10_nightEnds_162 : decode cX10_nightEnds 162 = .ok (.irem, 1) := by decide +kernel
theorem dX10_nightEnds_163 : decode cX10_nightEnds 163 = .ok (.iaload, 1) := by decide +kernel
theorem dX10_nightEnds_164 : decode cX10_nightEnds 164 = .ok (.iadd, 1) := by decide +kernel
theorem dX10_nightEnds_165 : decode cX10_nightEnds 165 = .ok (.invokestatic 172, 3) := by decide +kernel
theorem dX10_nightEnds_168 : decode cX10_nightEnds 168 = .ok (.iastore, 1) := by decide +kernel
theorem dX10_nightEnds_169 : decode cX10_nightEnds 169 = .ok (.aload_n 1, 1) := by decide +kernel
theorem dX10_nightEnds_170 : decode cX10_nightEnds 170 = .ok (.iconst 2, 1) := by decide +kernel
theorem dX10_nightEnds_171 : decode cX10_nightEnds 171 = .ok (.iaload, 1) := by decide +kernel
theorem dX10_nightEnds_172 : decode cX10_nightEnds 172 = .ok (.bipush 12, 2) := by decide +kernel
theorem dX10_nightEnds_174 : decode cX10_nightEnds 174 = .ok (.irem, 1) := by decide +kernel
theorem dX10_nightEnds_175 : decode cX10_nightEnds 175 = .ok (.bipush 11, 2) := by decide +kernel
theorem dX10_nightEnds_177 : decode cX10_nightEnds 177 = .ok (.if_icmp .ne 13, 3) := by decide +kernel
theorem dX10_nightEnds_180 : decode cX10_nightEnds 180 = .ok (.aload_n 1, 1) := by decide +kernel
theorem dX10_nightEnds_181 : decode cX10_nightEnds 181 = .ok (.aload_n 0, 1) := by decide +kernel
theorem dX10_nightEnds_182 : decode cX10_nightEnds 182 = .ok (.getfield 23, 3) := by decide +kernel
theorem dX10_nightEnds_185 : decode cX10_nightEnds 185 = .ok (.iconst 5, 1) := by decide +kernel
theorem dX10_nightEnds_186 : decode cX10_nightEnds 186 = .ok (.iaload, 1) := by decide +kernel
theorem dX10_nightEnds_187 : decode cX10_nightEnds 187 = .ok (.invokestatic 290, 3) := by decide +kernel
theorem dX10_nightEnds_190 : decode cX10_nightEnds 190 = .ok (.aload_n 1, 1) := by decide +kernel
theorem dX10_nightEnds_191 : decode cX10_nightEnds 191 = .ok (.iconst 2, 1) := by decide +kernel
theorem dX10_nightEnds_192 : decode cX10_nightEnds 192 = .ok (.dup2, 1) := by decide +kernel
theorem dX10_nightEnds_193 : decode cX10_nightEnds 193 = .ok (.iaload, 1) := by decide +kernel
theorem dX10_nightEnds_194 : decode cX10_nightEnds 194 = .ok (.iconst 1, 1) := by decide +kernel
theorem dX10_nightEnds_195 : decode cX10_nightEnds 195 = .ok (.iadd, 1) := by decide +kernel
theorem dX10_nightEnds_196 : decode cX10_nightEnds 196 = .ok (.iastore, 1) := by decide +kernel
theorem dX10_nightEnds_197 : decode cX10_nightEnds 197 = .ok (.return_, 1) := by decide +kernel
abbrev mt_X10_nightEnds : AxM := (RX10, cX10_nightEnds, 4, none, false, [])
theorem L1_X10_nightEnds_190 {g : AxG} {l : Launch} {S9 : AxS} (N : Nat)  (v1 : Nat) (S : AxS) (h : F_X10_nightEnds_190 N  v1 S = some S9) : AW g l (axRm (4) 0 0) mt_X10_nightEnds (axMQ g 0 0 (.inl none, S9)) 0 0 S 190 [(1, .ref v1)] [] := by
  unfold F_X10_nightEnds_190 at h
  refine aw_aload_n 0 dX10_nightEnds_190 rfl rfl ?_
  refine aw_iconst 2 dX10_nightEnds_191 rfl ?_
  refine aw_dup2 rfl rfl dX10_nightEnds_192 ?_
  refine aw_iald dX10_nightEnds_193 h (fun x1 h => ?_)
  refine aw_iconst 1 dX10_nightEnds_194 rfl ?_
  refine aw_iadd dX10_nightEnds_195 ?_
  refine aw_iast dX10_nightEnds_196 h (fun T2 h => ?_)
  exact aw_vret dX10_nightEnds_197 rfl (Nat.le_refl _) (Nat.le_refl _) h
theorem L1_X10_nightEnds_144 {g : AxG} {l : Launch} {S9 : AxS} (N : Nat)  (v0 : Nat) (v1 : Nat) (w0 : Int32) (w1 : Int32) (w2 : Nat) (S : AxS) (h : F_X10_nightEnds_144 N  v0 v1 w0 w1 w2 S = some S9) : AW g l (axRm (4) 0 0) mt_X10_nightEnds (axMQ g 0 0 (.inl none, S9)) 0 0 S 144 [(0, .ref v0), (1, .ref v1)] [.int w0, .int w1, .ref w2] := by
  unfold F_X10_nightEnds_144 at h
  refine aw_iast dX10_nightEnds_144 h (fun T1 h => ?_)
  refine aw_aload_n 1 dX10_nightEnds_145 rfl rfl ?_
  refine aw_iconst 1 dX10_nightEnds_146 rfl ?_
  refine aw_sipush 9999 dX10_nightEnds_147 (by decide) ?_
  refine aw_aload_n 1 dX10_nightEnds_150 rfl rfl ?_
  refine aw_iconst 1 dX10_nightEnds_151 rfl ?_
  refine aw_iald dX10_nightEnds_152 h (fun x2 h => ?_)
  refine aw_aload_n 0 dX10_nightEnds_153 rfl rfl ?_
  refine aw_getR axc10 14 rfl rfl wd_1299 dX10_nightEnds_154 h (fun a3 h => ?_)
  refine aw_aload_n 1 dX10_nightEnds_157 rfl rfl ?_
  refine aw_iconst 2 dX10_nightEnds_158 rfl ?_
  refine aw_iald dX10_nightEnds_159 h (fun x4 h => ?_)
  refine aw_bipush 12 dX10_nightEnds_160 (by decide) ?_
  refine aw_irem dX10_nightEnds_162 h (fun h => ?_)
  refine aw_iald dX10_nightEnds_163 h (fun x5 h => ?_)
  refine aw_iadd dX10_nightEnds_164 ?_
  refine aw_doneI (rest := [.int 1, .ref v1]) h (fun r9 S9 hF => aw_runS (As := [.int 9999, .int (x2 + x5)]) (rest := [.int 1, .ref v1]) (L1_X10_less N hF) wd_1500 wd_1498 wd_1499 wd_97 pd_X10_less.2 rfl (ax_rm (by omega) rfl) ax_hf0 (Nat.le_of_ble_eq_true rfl) rfl dX10_nightEnds_165) (fun x7 T6 h => ?_)
  refine aw_iast dX10_nightEnds_168 h (fun T8 h => ?_)
  refine aw_aload_n 1 dX10_nightEnds_169 rfl rfl ?_
  refine aw_iconst 2 dX10_nightEnds_170 rfl ?_
  refine aw_iald dX10_nightEnds_171 h (fun x9 h => ?_)
  refine aw_bipush 12 dX10_nightEnds_172 (by decide) ?_
  refine aw_irem dX10_nightEnds_174 h (fun h => ?_)
  refine aw_bipush 11 dX10_nightEnds_175 (by decide) ?_
  refine aw_icmp_ne 190 dX10_nightEnds_177 (by decide) h (fun h => ?_) (fun h => ?_)
  · refine aw_env [(1, .ref v1)] [1] rfl ?_
    exact L1_X10_nightEnds_190 N  v1 T8 h
  · refine aw_aload_n 1 dX10_nightEnds_180 rfl rfl ?_
    refine aw_aload_n 0 dX10_nightEnds_181 rfl rfl ?_
    refine aw_getR axc10 12 rfl rfl wd_1297 dX10_nightEnds_182 h (fun a10 h => ?_)
    refine aw_iconst 5 dX10_nightEnds_185 rfl ?_
    refine aw_iald dX10_nightEnds_186 h (fun x11 h => ?_)
    refine aw_doneV (rest := []) h (fun S9 hF => aw_runS (As := [.ref v1, .int x11]) (rest := []) (L1_X10_earns N hF) wd_1632 wd_1630 wd_1631 wd_97 pd_X10_earns.2 rfl (ax_rm (by omega) rfl) ax_hf0 (Nat.le_of_ble_eq_true rfl) rfl dX10_nightEnds_187) (fun T12 h => ?_)
    refine aw_env [(1, .ref v1)] [1] rfl ?_
    exact L1_X10_nightEnds_190 N  v1 T12 h
theorem L1_X10_nightEnds_111 {g : AxG} {l : Launch} {S9 : AxS} (N : Nat)  (v0 : Nat) (v1 : Nat) (w0 : Int32) (w1 : Int32) (w2 : Nat) (S : AxS) (h : F_X10_nightEnds_111 N  v0 v1 w0 w1 w2 S = some S9) : AW g l (axRm (4) 0 0) mt_X10_nightEnds (axMQ g 0 0 (.inl none, S9)) 0 0 S 111 [(0, .ref v0), (1, .ref v1)] [.int w0, .int w1, .ref w2] := by
  unfold F_X10_nightEnds_111 at h
  refine aw_iast dX10_nightEnds_111 h (fun T1 h => ?_)
  refine aw_aload_n 1 dX10_nightEnds_112 rfl rfl ?_
  refine aw_bipush 7 dX10_nightEnds_113 (by decide) ?_
  refine aw_iconst 0 dX10_nightEnds_115 rfl ?_
  refine aw_aload_n 1 dX10_nightEnds_116 rfl rfl ?_
  refine aw_bipush 7 dX10_nightEnds_117 (by decide) ?_
  refine aw_iald dX10_nightEnds_119 h (fun x2 h => ?_)
  refine aw_iconst 1 dX10_nightEnds_120 rfl ?_
  refine aw_isub dX10_nightEnds_121 ?_
  refine aw_doneI (rest := [.int 7, .ref v1]) h (fun r9 S9 hF => aw_runS (As := [.int 0, .int (x2 - 1)]) (rest := [.int 7, .ref v1]) (L1_X10_more N hF) wd_1614 wd_1612 wd_1613 wd_97 pd_X10_more.2 rfl (ax_rm (by omega) rfl) ax_hf0 (Nat.le_of_ble_eq_true rfl) rfl dX10_nightEnds_122) (fun x4 T3 h => ?_)
  refine aw_iast dX10_nightEnds_125 h (fun T5 h => ?_)
  refine aw_aload_n 1 dX10_nightEnds_126 rfl rfl ?_
  refine aw_bipush 6 dX10_nightEnds_127 (by decide) ?_
  refine aw_aload_n 1 dX10_nightEnds_129 rfl rfl ?_
  refine aw_bipush 7 dX10_nightEnds_130 (by decide) ?_
  refine aw_iald dX10_nightEnds_132 h (fun x6 h => ?_)
  refine aw_if_ne 140 dX10_nightEnds_133 (by decide) h (fun h => ?_) (fun h => ?_)
  · refine aw_aload_n 1 dX10_nightEnds_140 rfl rfl ?_
    refine aw_bipush 6 dX10_nightEnds_141 (by decide) ?_
    refine aw_iald dX10_nightEnds_143 h (fun x7 h => ?_)
    refine aw_env [(0, .ref v0), (1, .ref v1)] [0, 1] rfl ?_
    exact L1_X10_nightEnds_144 N  v0 v1 x7 6 v1 T5 h
  · refine aw_iconst 0 dX10_nightEnds_136 rfl ?_
    refine aw_goto 144 dX10_nightEnds_137 (by decide) ?_
    refine aw_env [(0, .ref v0), (1, .ref v1)] [0, 1] rfl ?_
    exact L1_X10_nightEnds_144 N  v0 v1 0 6 v1 T5 h
theorem L1_X10_nightEnds_78 {g : AxG} {l : Launch} {S9 : AxS} (N : Nat)  (v0 : Nat) (v1 : Nat) (w0 : Int32) (w1 : Int32) (w2 : Nat) (S : AxS) (h : F_X10_nightEnds_78 N  v0 v1 w0 w1 w2 S = some S9) : AW g l (axRm (4) 0 0) mt_X10_nightEnds (axMQ g 0 0 (.inl none, S9)) 0 0 S 78 [(0, .ref v0), (1, .ref v1)] [.int w0, .int w1, .ref w2] := by
  unfold F_X10_nightEnds_78 at h
  refine aw_iast dX10_nightEnds_78 h (fun T1 h => ?_)
  refine aw_aload_n 1 dX10_nightEnds_79 rfl rfl ?_
  refine aw_iconst 5 dX10_nightEnds_80 rfl ?_
  refine aw_iconst 0 dX10_nightEnds_81 rfl ?_
  refine aw_iast dX10_nightEnds_82 h (fun T2 h => ?_)
  refine aw_aload_n 1 dX10_nightEnds_83 rfl rfl ?_
  refine aw_bipush 11 dX10_nightEnds_84 (by decide) ?_
  refine aw_iconst 0 dX10_nightEnds_86 rfl ?_
  refine aw_iast dX10_nightEnds_87 h (fun T3 h => ?_)
  refine aw_aload_n 1 dX10_nightEnds_88 rfl rfl ?_
  refine aw_iconst 4 dX10_nightEnds_89 rfl ?_
  refine aw_iconst 0 dX10_nightEnds_90 rfl ?_
  refine aw_iast dX10_nightEnds_91 h (fun T4 h => ?_)
  refine aw_aload_n 1 dX10_nightEnds_92 rfl rfl ?_
  refine aw_bipush 8 dX10_nightEnds_93 (by decide) ?_
  refine aw_aload_n 1 dX10_nightEnds_95 rfl rfl ?_
  refine aw_bipush 7 dX10_nightEnds_96 (by decide) ?_
  refine aw_iald dX10_nightEnds_98 h (fun x5 h => ?_)
  refine aw_iconst 1 dX10_nightEnds_99 rfl ?_
  refine aw_icmp_ne 110 dX10_nightEnds_100 (by decide) h (fun h => ?_) (fun h => ?_)
  · refine aw_iconst 0 dX10_nightEnds_110 rfl ?_
    refine aw_env [(0, .ref v0), (1, .ref v1)] [0, 1] rfl ?_
    exact L1_X10_nightEnds_111 N  v0 v1 0 8 v1 T4 h
  · refine aw_aload_n 1 dX10_nightEnds_103 rfl rfl ?_
    refine aw_bipush 6 dX10_nightEnds_104 (by decide) ?_
    refine aw_iald dX10_nightEnds_106 h (fun x6 h => ?_)
    refine aw_goto 111 dX10_nightEnds_107 (by decide) ?_
    refine aw_env [(0, .ref v0), (1, .ref v1)] [0, 1] rfl ?_
    exact L1_X10_nightEnds_111 N  v0 v1 x6 8 v1 T4 h
theorem L1_X10_nightEnds_49 {g : AxG} {l : Launch} {S9 : AxS} (N : Nat) (K8 : Nat → Nat → Int32 → Int32 → AxS → Option (AxS)) (hK8 : ∀ (v0 : Nat) (v1 : Nat) (v2 : Int32) (v3 : Int32) (S : AxS), K8 v0 v1 v2 v3 S = some S9 → AW g l (axRm (4) 0 0) mt_X10_nightEnds (axMQ g 0 0 (.inl none, S9)) 0 0 S 8 [(0, .ref v0), (1, .ref v1), (2, .int v2), (3, .int v3)] []) (v0 : Nat) (v1 : Nat) (v2 : Int32) (v3 : Int32) (S : AxS) (h : F_X10_nightEnds_49 N K8 v0 v1 v2 v3 S = some S9) : AW g l (axRm (4) 0 0) mt_X10_nightEnds (axMQ g 0 0 (.inl none, S9)) 0 0 S 49 [(0, .ref v0), (1, .ref v1), (2, .int v2), (3, .int v3)] [] := by
  unfold F_X10_nightEnds_49 at h
  refine aw_iinc 3 [(3, .int (v3 + 1)), (0, .ref v0), (1, .ref v1), (2, .int v2)] (v3 + 1) dX10_nightEnds_49 rfl rfl rfl rfl ?_
  refine aw_goto 8 dX10_nightEnds_52 (by decide) ?_
  refine aw_env [(0, .ref v0), (1, .ref v1), (2, .int v2), (3, .int (v3 + 1))] [1, 2, 3, 0] rfl ?_
  exact hK8 v0 v1 v2 (v3 + 1) S h
theorem L1_X10_nightEnds_8b {g : AxG} {l : Launch} {S9 : AxS} (N : Nat) (K8 : Nat → Nat → Int32 → Int32 → AxS → Option (AxS)) (hK8 : ∀ (v0 : Nat) (v1 : Nat) (v2 : Int32) (v3 : Int32) (S : AxS), K8 v0 v1 v2 v3 S = some S9 → AW g l (axRm (4) 0 0) mt_X10_nightEnds (axMQ g 0 0 (.inl none, S9)) 0 0 S 8 [(0, .ref v0), (1, .ref v1), (2, .int v2), (3, .int v3)] []) (v0 : Nat) (v1 : Nat) (v2 : Int32) (v3 : Int32) (S : AxS) (h : F_X10_nightEnds_8b N K8 v0 v1 v2 v3 S = some S9) : AW g l (axRm (4) 0 0) mt_X10_nightEnds (axMQ g 0 0 (.inl none, S9)) 0 0 S 8 [(0, .ref v0), (1, .ref v1), (2, .int v2), (3, .int v3)] [] := by
  unfold F_X10_nightEnds_8b at h
  refine aw_iload_n 3 dX10_nightEnds_8 rfl rfl ?_
  refine aw_aload_n 0 dX10_nightEnds_9 rfl rfl ?_
  refine aw_getR axc10 12 rfl rfl wd_1297 dX10_nightEnds_10 h (fun a1 h => ?_)
  refine aw_iconst 2 dX10_nightEnds_13 rfl ?_
  refine aw_iald dX10_nightEnds_14 h (fun x2 h => ?_)
  refine aw_icmp_ge 55 dX10_nightEnds_15 (by decide) h (fun h => ?_) (fun h => ?_)
  · refine aw_aload_n 1 dX10_nightEnds_55 rfl rfl ?_
    refine aw_bipush 9 dX10_nightEnds_56 (by decide) ?_
    refine aw_dup2 rfl rfl dX10_nightEnds_58 ?_
    refine aw_iald dX10_nightEnds_59 h (fun x3 h => ?_)
    refine aw_iload_n 2 dX10_nightEnds_60 rfl rfl ?_
    refine aw_iadd dX10_nightEnds_61 ?_
    refine aw_iast dX10_nightEnds_62 h (fun T4 h => ?_)
    refine aw_aload_n 1 dX10_nightEnds_63 rfl rfl ?_
    refine aw_iconst 3 dX10_nightEnds_64 rfl ?_
    refine aw_iload_n 2 dX10_nightEnds_65 rfl rfl ?_
    refine aw_if_ne 77 dX10_nightEnds_66 (by decide) h (fun h => ?_) (fun h => ?_)
    · refine aw_iconst 0 dX10_nightEnds_77 rfl ?_
      refine aw_env [(0, .ref v0), (1, .ref v1)] [0, 1] rfl ?_
      exact L1_X10_nightEnds_78 N  v0 v1 0 3 v1 T4 h
    · refine aw_aload_n 1 dX10_nightEnds_69 rfl rfl ?_
      refine aw_iconst 3 dX10_nightEnds_70 rfl ?_
      refine aw_iald dX10_nightEnds_71 h (fun x5 h => ?_)
      refine aw_iconst 1 dX10_nightEnds_72 rfl ?_
      refine aw_iadd dX10_nightEnds_73 ?_
      refine aw_goto 78 dX10_nightEnds_74 (by decide) ?_
      refine aw_env [(0, .ref v0), (1, .ref v1)] [0, 1] rfl ?_
      exact L1_X10_nightEnds_78 N  v0 v1 (x5 + 1) 3 v1 T4 h
  · refine aw_aload_n 0 dX10_nightEnds_18 rfl rfl ?_
    refine aw_aload_n 1 dX10_nightEnds_19 rfl rfl ?_
    refine aw_iload_n 3 dX10_nightEnds_20 rfl rfl ?_
    refine aw_iload_n 2 dX10_nightEnds_21 rfl rfl ?_
    obtain ⟨hL6, h⟩ := ax_is_spec h
    refine aw_doneI (rest := []) h (fun r9 S9 hF => aw_runV (As := [.ref v1, .int v3, .int v2]) (rest := []) (L1_X10_isWaking N hF) axc10 hL6 wd_1625 wd_1622 wd_1624 wd_68 wd_97 pd_X10_isWaking rfl (ax_rm (by omega) rfl) ax_hf0 (Nat.le_of_ble_eq_true rfl) rfl dX10_nightEnds_22) (fun x8 T7 h => ?_)
    refine aw_if_ne 31 dX10_nightEnds_25 (by decide) h (fun h => ?_) (fun h => ?_)
    · refine aw_aload_n 1 dX10_nightEnds_31 rfl rfl ?_
      refine aw_bipush 21 dX10_nightEnds_32 (by decide) ?_
      refine aw_iload_n 3 dX10_nightEnds_34 rfl rfl ?_
      refine aw_iadd dX10_nightEnds_35 ?_
      refine aw_dup2 rfl rfl dX10_nightEnds_36 ?_
      refine aw_iald dX10_nightEnds_37 h (fun x9 h => ?_)
      refine aw_iconst 1 dX10_nightEnds_38 rfl ?_
      refine aw_iadd dX10_nightEnds_39 ?_
      refine aw_iast dX10_nightEnds_40 h (fun T10 h => ?_)
      refine aw_aload_n 1 dX10_nightEnds_41 rfl rfl ?_
      refine aw_bipush 10 dX10_nightEnds_42 (by decide) ?_
      refine aw_dup2 rfl rfl dX10_nightEnds_44 ?_
      refine aw_iald dX10_nightEnds_45 h (fun x11 h => ?_)
      refine aw_iconst 1 dX10_nightEnds_46 rfl ?_
      refine aw_iadd dX10_nightEnds_47 ?_
      refine aw_iast dX10_nightEnds_48 h (fun T12 h => ?_)
      refine aw_env [(0, .ref v0), (1, .ref v1), (2, .int v2), (3, .int v3)] [0, 1, 2, 3] rfl ?_
      exact L1_X10_nightEnds_49 N K8 hK8 v0 v1 v2 v3 T12 h
    · refine aw_goto 49 dX10_nightEnds_28 (by decide) ?_
      refine aw_env [(0, .ref v0), (1, .ref v1), (2, .int v2), (3, .int v3)] [0, 1, 2, 3] rfl ?_
      exact L1_X10_nightEnds_49 N K8 hK8 v0 v1 v2 v3 T7 h
theorem L1_X10_nightEnds_8 {g : AxG} {l : Launch} {S9 : AxS} (N : Nat)  : ∀ (n : Nat) (v0 : Nat) (v1 : Nat) (v2 : Int32) (v3 : Int32) (S : AxS), F_X10_nightEnds_8 N  n v0 v1 v2 v3 S = some S9 → AW g l (axRm (4) 0 0) mt_X10_nightEnds (axMQ g 0 0 (.inl none, S9)) 0 0 S 8 [(0, .ref v0), (1, .ref v1), (2, .int v2), (3, .int v3)] [] := by
  intro n
  induction n with
  | zero => intro v0 v1 v2 v3 S h; cases h
  | succ n ih => intro v0 v1 v2 v3 S h; exact L1_X10_nightEnds_8b N (F_X10_nightEnds_8 N  n) ih v0 v1 v2 v3 S h
theorem L1_X10_nightEnds {g : AxG} {l : Launch} (N : Nat) {v0 : Nat} {v1 : Nat} {S : AxS} {S9 : AxS} (h : F_X10_nightEnds N v0 v1 S = some S9) : AxMet g l yX10_nightEnds cX10_nightEnds 4 none (4) 0 0 [.ref v0, .ref v1] S ((.inl none, S9)) := by
  refine ax_met (own := RX10) (ini := false) (by decide +kernel) rfl (fun h => nomatch h) rfl ?_
  show AW g l (axRm (4) 0 0) mt_X10_nightEnds (axMQ g 0 0 (.inl none, S9)) 0 0 S 0 [(0, .ref v0), (1, .ref v1)] []
  unfold F_X10_nightEnds at h
  refine aw_aload_n 0 dX10_nightEnds_0 rfl rfl ?_
  refine aw_aload_n 1 dX10_nightEnds_1 rfl rfl ?_
  obtain ⟨hL1, h⟩ := ax_is_spec h
  refine aw_doneI (rest := []) h (fun r9 S9 hF => aw_runV (As := [.ref v1]) (rest := []) (L1_X10_strokesOf N hF) axc10 hL1 wd_1608 wd_1605 wd_1607 wd_66 wd_97 pd_X10_strokesOf rfl (ax_rm (by omega) rfl) ax_hf0 (Nat.le_of_ble_eq_true rfl) rfl dX10_nightEnds_2) (fun x3 T2 h => ?_)
  refine aw_istore_n 2 [(2, .int x3), (0, .ref v0), (1, .ref v1)] dX10_nightEnds_5 rfl rfl rfl ?_
  refine aw_iconst 0 dX10_nightEnds_6 rfl ?_
  refine aw_istore_n 3 [(3, .int 0), (2, .int x3), (0, .ref v0), (1, .ref v1)] dX10_nightEnds_7 rfl rfl rfl ?_
  refine aw_env [(0, .ref v0), (1, .ref v1), (2, .int x3), (3, .int 0)] [2, 3, 1, 0] rfl ?_
  exact L1_X10_nightEnds_8 N  N v0 v1 x3 0 T2 h

theorem dX10_pays_0 : decode cX10_pays 0 = .ok (.aload_n 0, 1) := by decide +kernel
theorem dX10_pays_1 : decode cX10_pays 1 = .ok (.iconst 1, 1) := by decide +kernel
theorem dX10_pays_2 : decode cX10_pays 2 = .ok (.iaload, 1) := by decide +kernel
theorem dX10_pays_3 : decode cX10_pays 3 = .ok (.iload_n 1, 1) := by decide +kernel
theorem dX10_pays_4 : decode cX10_pays 4 = .ok (.if_icmp .lt 10, 3) := by decide +kernel
theorem dX10_pays_7 : decode cX10_pays 7 = .ok (.aload_n 0, 1) := by decide +kernel
theorem dX10_pays_8 : decode cX10_pays 8 = .ok (.iconst 0, 1) := by decide +kernel
theorem dX10_pays_9 : decode cX10_pays 9 = .ok (.iaload, 1) := by decide +kernel
theorem dX10_pays_10 : decode cX10_pays 10 = .ok (.iload_n 1, 1) := by decide +kernel
theorem dX10_pays_11 : decode cX10_pays 11 = .ok (.if_icmp .ge 5, 3) := by decide +kernel
theorem dX10_pays_14 : decode cX10_pays 14 = .ok (.iconst 0, 1) := by decide +kernel
theorem dX10_pays_15 : decode cX10_pays 15 = .ok (.ireturn, 1) := by decide +kernel
theorem dX10_pays_16 : decode cX10_pays 16 = .ok (.aload_n 0, 1) := by decide +kernel
theorem dX10_pays_17 : decode cX10_pays 17 = .ok (.iconst 1, 1) := by decide +kernel
theorem dX10_pays_18 : decode cX10_pays 18 = .ok (.dup2, 1) := by decide +kernel
theorem dX10_pays_19 : decode cX10_pays 19 = .ok (.iaload, 1) := by decide +kernel
theorem dX10_pays_20 : decode cX10_pays 20 = .ok (.iload_n 1, 1) := by decide +kernel
theorem dX10_pays_21 : decode cX10_pays 21 = .ok (.isub, 1) := by decide +kernel
theorem dX10_pays_22 : decode cX10_pays 22 = .ok (.iastore, 1) := by decide +kernel
theorem dX10_pays_23 : decode cX10_pays 23 = .ok (.aload_n 0, 1) := by decide +kernel
theorem dX10_pays_24 : decode cX10_pays 24 = .ok (.iconst 0, 1) := by decide +kernel
theorem dX10_pays_25 : decode cX10_pays 25 = .ok (.dup2, 1) := by decide +kernel
theorem dX10_pays_26 : decode cX10_pays 26 = .ok (.iaload, 1) := by decide +kernel
theorem dX10_pays_27 : decode cX10_pays 27 = .ok (.iload_n 1, 1) := by decide +kernel
theorem dX10_pays_28 : decode cX10_pays 28 = .ok (.isub, 1) := by decide +kernel
theorem dX10_pays_29 : decode cX10_pays 29 = .ok (.iastore, 1) := by decide +kernel
theorem dX10_pays_30 : decode cX10_pays 30 = .ok (.aload_n 0, 1) := by decide +kernel
theorem dX10_pays_31 : decode cX10_pays 31 = .ok (.iconst 4, 1) := by decide +kernel
theorem dX10_pays_32 : decode cX10_pays 32 = .ok (.dup2, 1) := by decide +kernel
theorem dX10_pays_33 : decode cX10_pays 33 = .ok (.iaload, 1) := by decide +kernel
theorem dX10_pays_34 : decode cX10_pays 34 = .ok (.iload_n 1, 1) := by decide +kernel
theorem dX10_pays_35 : decode cX10_pays 35 = .ok (.iadd, 1) := by decide +kernel
theorem dX10_pays_36 : decode cX10_pays 36 = .ok (.iastore, 1) := by decide +kernel
theorem dX10_pays_37 : decode cX10_pays 37 = .ok (.iconst 1, 1) := by decide +kernel
theorem dX10_pays_38 : decode cX10_pays 38 = .ok (.ireturn, 1) := by decide +kernel
abbrev mt_X10_pays : AxM := (RX10, cX10_pays, 2, (some .boolean), false, [])
theorem L1_X10_pays {g : AxG} {l : Launch} (N : Nat) {v0 : Nat} {v1 : Int32} {S : AxS} {r9 : Int32} {S9 : AxS} (h : F_X10_pays N v0 v1 S = some ((r9, S9))) : AxMet g l yX10_pays cX10_pays 2 (some .boolean) (0) 0 0 [.ref v0, .int v1] S ((.inl (some (.int r9)), S9)) := by
  refine ax_met (own := RX10) (ini := false) (by decide +kernel) rfl (fun h => nomatch h) rfl ?_
  show AW g l (axRm (0) 0 0) mt_X10_pays (axMQ g 0 0 (.inl (some (.int r9)), S9)) 0 0 S 0 [(0, .ref v0), (1, .int v1)] []
  unfold F_X10_pays at h
  refine aw_aload_n 0 dX10_pays_0 rfl rfl ?_
  refine aw_iconst 1 dX10_pays_1 rfl ?_
  refine aw_iald dX10_pays_2 h (fun x1 h => ?_)
  refine aw_iload_n 1 dX10_pays_3 rfl rfl ?_
  refine aw_icmp_lt 14 dX10_pays_4 (by decide) h (fun h => ?_) (fun h => ?_)
  · refine aw_iconst 0 dX10_pays_14 rfl ?_
    exact aw_zret dX10_pays_15 rfl (Nat.le_refl _) (Nat.le_refl _) h
  · refine aw_aload_n 0 dX10_pays_7 rfl rfl ?_
    refine aw_iconst 0 dX10_pays_8 rfl ?_
    refine aw_iald dX10_pays_9 h (fun x2 h => ?_)
    refine aw_iload_n 1 dX10_pays_10 rfl rfl ?_
    refine aw_icmp_ge 16 dX10_pays_11 (by decide) h (fun h => ?_) (fun h => ?_)
    · refine aw_aload_n 0 dX10_pays_16 rfl rfl ?_
      refine aw_iconst 1 dX10_pays_17 rfl ?_
      refine aw_dup2 rfl rfl dX10_pays_18 ?_
      refine aw_iald dX10_pays_19 h (fun x3 h => ?_)
      refine aw_iload_n 1 dX10_pays_20 rfl rfl ?_
      refine aw_isub dX10_pays_21 ?_
      refine aw_iast dX10_pays_22 h (fun T4 h => ?_)
      refine aw_aload_n 0 dX10_pays_23 rfl rfl ?_
      refine aw_iconst 0 dX10_pays_24 rfl ?_
      refine aw_dup2 rfl rfl dX10_pays_25 ?_
      refine aw_iald dX10_pays_26 h (fun x5 h => ?_)
      refine aw_iload_n 1 dX10_pays_27 rfl rfl ?_
      refine aw_isub dX10_pays_28 ?_
      refine aw_iast dX10_pays_29 h (fun T6 h => ?_)
      refine aw_aload_n 0 dX10_pays_30 rfl rfl ?_
      refine aw_iconst 4 dX10_pays_31 rfl ?_
      refine aw_dup2 rfl rfl dX10_pays_32 ?_
      refine aw_iald dX10_pays_33 h (fun x7 h => ?_)
      refine aw_iload_n 1 dX10_pays_34 rfl rfl ?_
      refine aw_iadd dX10_pays_35 ?_
      refine aw_iast dX10_pays_36 h (fun T8 h => ?_)
      refine aw_iconst 1 dX10_pays_37 rfl ?_
      exact aw_zret dX10_pays_38 rfl (Nat.le_refl _) (Nat.le_refl _) h
    · refine aw_iconst 0 dX10_pays_14 rfl ?_
      exact aw_zret dX10_pays_15 rfl (Nat.le_refl _) (Nat.le_refl _) h

theorem dX10_gives_0 : decode cX10_gives 0 = .ok (.aload_n 1, 1) := by decide +kernel
theorem dX10_gives_1 : decode cX10_gives 1 = .ok (.bipush 11, 2) := by decide +kernel
theorem dX10_gives_3 : decode cX10_gives 3 = .ok (.iaload, 1) := by decide +kernel
theorem dX10_gives_4 : decode cX10_gives 4 = .ok (.iload_n 2, 1) := by decide +kernel
theorem dX10_gives_5 : decode cX10_gives 5 = .ok (.invokestatic 294, 3) := by decide +kernel
theorem dX10_gives_8 : decode cX10_gives 8 = .ok (.ifCond .eq 5, 3) := by decide +kernel
theorem dX10_gives_11 : decode cX10_gives 11 = .ok (.iconst 0, 1) := by decide +kernel
theorem dX10_gives_12 : decode cX10_gives 12 = .ok (.ireturn, 1) := by decide +kernel
theorem dX10_gives_13 : decode cX10_gives 13 = .ok (.aload_n 1, 1) := by decide +kernel
theorem dX10_gives_14 : decode cX10_gives 14 = .ok (.bipush 11, 2) := by decide +kernel
theorem dX10_gives_16 : decode cX10_gives 16 = .ok (.dup2, 1) := by decide +kernel
theorem dX10_gives_17 : decode cX10_gives 17 = .ok (.iaload, 1) := by decide +kernel
theorem dX10_gives_18 : decode cX10_gives 18 = .ok (.iconst 1, 1) := by decide +kernel
theorem dX10_gives_19 : decode cX10_gives 19 = .ok (.iload_n 2, 1) := by decide +kernel
theorem dX10_gives_20 : decode cX10_gives 20 = .ok (.ishl, 1) := by decide +kernel
theorem dX10_gives_21 : decode cX10_gives 21 = .ok (.ior, 1) := by decide +kernel
theorem dX10_gives_22 : decode cX10_gives 22 = .ok (.iastore, 1) := by decide +kernel
theorem dX10_gives_23 : decode cX10_gives 23 = .ok (.aload_n 1, 1) := by decide +kernel
theorem dX10_gives_24 : decode cX10_gives 24 = .ok (.iconst 1, 1) := by decide +kernel
theorem dX10_gives_25 : decode cX10_gives 25 = .ok (.sipush 9999, 3) := by decide +kernel
theorem dX10_gives_28 : decode cX10_gives 28 = .ok (.aload_n 1, 1) := by decide +kernel
theorem dX10_gives_29 : decode cX10_gives 29 = .ok (.iconst 1, 1) := by decide +kernel
theorem dX10_gives_30 : decode cX10_gives 30 = .ok (.iaload, 1) := by decide +kernel
theorem dX10_gives_31 : decode cX10_gives 31 = .ok (.aload_n 0, 1) := by decide +kernel
theorem dX10_gives_32 : decode cX10_gives 32 = .ok (.getfield 37, 3) := by decide +kernel
theorem dX10_gives_35 : decode cX10_gives 35 = .ok (.iconst 0, 1) := by decide +kernel
theorem dX10_gives_36 : decode cX10_gives 36 = .ok (.aaload, 1) := by decide +kernel
theorem dX10_gives_37 : decode cX10_gives 37 = .ok (.iload_n 2, 1) := by decide +kernel
theorem dX10_gives_38 : decode cX10_gives 38 = .ok (.iaload, 1) := by decide +kernel
theorem dX10_gives_39 : decode cX10_gives 39 = .ok (.iadd, 1) := by decide +kernel
theorem dX10_gives_40 : decode cX10_gives 40 = .ok (.invokestatic 172, 3) := by decide +kernel
theorem dX10_gives_43 : decode cX10_gives 43 = .ok (.iastore, 1) := by decide +kernel
theorem dX10_gives_44 : decode cX10_gives 44 = .ok (.iconst 1, 1) := by decide +kernel
theorem dX10_gives_45 : decode cX10_gives 45 = .ok (.ireturn, 1) := by decide +kernel
abbrev mt_X10_gives : AxM := (RX10, cX10_gives, 3, (some .boolean), false, [])
theorem L1_X10_gives {g : AxG} {l : Launch} (N : Nat) {v0 : Nat} {v1 : Nat} {v2 : Int32} {S : AxS} {r9 : Int32} {S9 : AxS} (h : F_X10_gives N v0 v1 v2 S = some ((r9, S9))) : AxMet g l yX10_gives cX10_gives 3 (some .boolean) (1) 0 0 [.ref v0, .ref v1, .int v2] S ((.inl (some (.int r9)), S9)) := by
  refine ax_met (own := RX10) (ini := false) (by decide +kernel) rfl (fun h => nomatch h) rfl ?_
  show AW g l (axRm (1) 0 0) mt_X10_gives (axMQ g 0 0 (.inl (some (.int r9)), S9)) 0 0 S 0 [(0, .ref v0), (1, .ref v1), (2, .int v2)] []
  unfold F_X10_gives at h
  refine aw_aload_n 1 dX10_gives_0 rfl rfl ?_
  refine aw_bipush 11 dX10_gives_1 (by decide) ?_
  refine aw_iald dX10_gives_3 h (fun x1 h => ?_)
  refine aw_iload_n 2 dX10_gives_4 rfl rfl ?_
  refine aw_doneI (rest := []) h (fun r9 S9 hF => aw_runS (As := [.int x1, .int v2]) (rest := []) (L1_X10_has N hF) wd_1600 wd_1598 wd_1599 wd_97 pd_X10_has.2 rfl (ax_rm (by omega) rfl) ax_hf0 (Nat.le_of_ble_eq_true rfl) rfl dX10_gives_5) (fun x3 T2 h => ?_)
  refine aw_if_eq 13 dX10_gives_8 (by decide) h (fun h => ?_) (fun h => ?_)
  · refine aw_aload_n 1 dX10_gives_13 rfl rfl ?_
    refine aw_bipush 11 dX10_gives_14 (by decide) ?_
    refine aw_dup2 rfl rfl dX10_gives_16 ?_
    refine aw_iald dX10_gives_17 h (fun x4 h => ?_)
    refine aw_iconst 1 dX10_gives_18 rfl ?_
    refine aw_iload_n 2 dX10_gives_19 rfl rfl ?_
    refine aw_ishl dX10_gives_20 ?_
    refine aw_ior dX10_gives_21 ?_
    refine aw_iast dX10_gives_22 h (fun T5 h => ?_)
    refine aw_aload_n 1 dX10_gives_23 rfl rfl ?_
    refine aw_iconst 1 dX10_gives_24 rfl ?_
    refine aw_sipush 9999 dX10_gives_25 (by decide) ?_
    refine aw_aload_n 1 dX10_gives_28 rfl rfl ?_
    refine aw_iconst 1 dX10_gives_29 rfl ?_
    refine aw_iald dX10_gives_30 h (fun x6 h => ?_)
    refine aw_aload_n 0 dX10_gives_31 rfl rfl ?_
    refine aw_getR axc10 16 rfl rfl wd_1301 dX10_gives_32 h (fun a7 h => ?_)
    refine aw_iconst 0 dX10_gives_35 rfl ?_
    refine aw_aald dX10_gives_36 h (fun a8 h => ?_)
    refine aw_iload_n 2 dX10_gives_37 rfl rfl ?_
    refine aw_iald dX10_gives_38 h (fun x9 h => ?_)
    refine aw_iadd dX10_gives_39 ?_
    refine aw_doneI (rest := [.int 1, .ref v1]) h (fun r9 S9 hF => aw_runS (As := [.int 9999, .int (x6 + x9)]) (rest := [.int 1, .ref v1]) (L1_X10_less N hF) wd_1500 wd_1498 wd_1499 wd_97 pd_X10_less.2 rfl (ax_rm (by omega) rfl) ax_hf0 (Nat.le_of_ble_eq_true rfl) rfl dX10_gives_40) (fun x11 T10 h => ?_)
    refine aw_iast dX10_gives_43 h (fun T12 h => ?_)
    refine aw_iconst 1 dX10_gives_44 rfl ?_
    exact aw_zret dX10_gives_45 rfl (Nat.le_refl _) (Nat.le_refl _) h
  · refine aw_iconst 0 dX10_gives_11 rfl ?_
    exact aw_zret dX10_gives_12 rfl (Nat.le_refl _) (Nat.le_refl _) h
