theorem dX9_runSteps_0 : decode cX9_runSteps 0 = .ok (.iload_n 3, 1) := by decide +kernel
theorem dX9_runSteps_1 : decode cX9_runSteps 1 = .ok (.bipush 6, 2) := by decide +kernel
theorem dX9_runSteps_3 : decode cX9_runSteps 3 = .ok (.if_icmp .le 4, 3) := by decide +kernel
theorem dX9_runSteps_6 : decode cX9_runSteps 6 = .ok (.return_, 1) := by decide +kernel
theorem dX9_runSteps_7 : decode cX9_runSteps 7 = .ok (.iload_n 1, 1) := by decide +kernel
theorem dX9_runSteps_8 : decode cX9_runSteps 8 = .ok (.istore 4, 2) := by decide +kernel
theorem dX9_runSteps_10 : decode cX9_runSteps 10 = .ok (.iload 4, 2) := by decide +kernel
theorem dX9_runSteps_12 : decode cX9_runSteps 12 = .ok (.iload_n 2, 1) := by decide +kernel
theorem dX9_runSteps_13 : decode cX9_runSteps 13 = .ok (.if_icmp .ge 195, 3) := by decide +kernel
theorem dX9_runSteps_16 : decode cX9_runSteps 16 = .ok (.aload_n 0, 1) := by decide +kernel
theorem dX9_runSteps_17 : decode cX9_runSteps 17 = .ok (.getfield 49, 3) := by decide +kernel
theorem dX9_runSteps_20 : decode cX9_runSteps 20 = .ok (.getfield 153, 3) := by decide +kernel
theorem dX9_runSteps_23 : decode cX9_runSteps 23 = .ok (.sipush 200, 3) := by decide +kernel
theorem dX9_runSteps_26 : decode cX9_runSteps 26 = .ok (.if_icmp .ge 182, 3) := by decide +kernel
theorem dX9_runSteps_29 : decode cX9_runSteps 29 = .ok (.aload_n 0, 1) := by decide +kernel
theorem dX9_runSteps_30 : decode cX9_runSteps 30 = .ok (.getfield 49, 3) := by decide +kernel
theorem dX9_runSteps_33 : decode cX9_runSteps 33 = .ok (.dup, 1) := by decide +kernel
theorem dX9_runSteps_34 : decode cX9_runSteps 34 = .ok (.getfield 153, 3) := by decide +kernel
theorem dX9_runSteps_37 : decode cX9_runSteps 37 = .ok (.iconst 1, 1) := by decide +kernel
theorem dX9_runSteps_38 : decode cX9_runSteps 38 = .ok (.iadd, 1) := by decide +kernel
theorem dX9_runSteps_39 : decode cX9_runSteps 39 = .ok (.putfield 153, 3) := by decide +kernel
theorem dX9_runSteps_42 : decode cX9_runSteps 42 = .ok (.aload_n 0, 1) := by decide +kernel
theorem dX9_runSteps_43 : decode cX9_runSteps 43 = .ok (.getfield 49, 3) := by decide +kernel
theorem dX9_runSteps_46 : decode cX9_runSteps 46 = .ok (.getfield 391, 3) := by decide +kernel
theorem dX9_runSteps_49 : decode cX9_runSteps 49 = .ok (.iload 4, 2) := by decide +kernel
theorem dX9_runSteps_51 : decode cX9_runSteps 51 = .ok (.invokestatic 223, 3) := by decide +kernel
theorem dX9_runSteps_54 : decode cX9_runSteps 54 = .ok (.bipush 7, 2) := by decide +kernel
theorem dX9_runSteps_56 : decode cX9_runSteps 56 = .ok (.if_icmp .ne 69, 3) := by decide +kernel
theorem dX9_runSteps_59 : decode cX9_runSteps 59 = .ok (.aload_n 0, 1) := by decide +kernel
theorem dX9_runSteps_60 : decode cX9_runSteps 60 = .ok (.getfield 49, 3) := by decide +kernel
theorem dX9_runSteps_63 : decode cX9_runSteps 63 = .ok (.getfield 394, 3) := by decide +kernel
theorem dX9_runSteps_66 : decode cX9_runSteps 66 = .ok (.iload 4, 2) := by decide +kernel
theorem dX9_runSteps_68 : decode cX9_runSteps 68 = .ok (.invokestatic 223, 3) := by decide +kernel
theorem dX9_runSteps_71 : decode cX9_runSteps 71 = .ok (.istore 5, 2) := by decide +kernel
theorem dX9_runSteps_73 : decode cX9_runSteps 73 = .ok (.iconst 0, 1) := by decide +kernel
theorem dX9_runSteps_74 : decode cX9_runSteps 74 = .ok (.istore 6, 2) := by decide +kernel
theorem dX9_runSteps_76 : decode cX9_runSteps 76 = .ok (.iload 6, 2) := by decide +kernel
theorem dX9_runSteps_78 : decode cX9_runSteps 78 = .ok (.iload 5, 2) := by decide +kernel
theorem dX9_runSteps_80 : decode cX9_runSteps 80 = .ok (.if_icmp .ge 42, 3) := by decide +kernel
theorem dX9_runSteps_83 : decode cX9_runSteps 83 = .ok (.aload_n 0, 1) := by decide +kernel
theorem dX9_runSteps_84 : decode cX9_runSteps 84 = .ok (.getfield 49, 3) := by decide +kernel
theorem dX9_runSteps_87 : decode cX9_runSteps 87 = .ok (.getfield 153, 3) := by decide +kernel
theorem dX9_runSteps_90 : decode cX9_runSteps 90 = .ok (.sipush 200, 3) := by decide +kernel
theorem dX9_runSteps_93 : decode cX9_runSteps 93 = .ok (.if_icmp .ge 29, 3) := by decide +kernel
theorem dX9_runSteps_96 : decode cX9_runSteps 96 = .ok (.aload_n 0, 1) := by decide +kernel
theorem dX9_runSteps_97 : decode cX9_runSteps 97 = .ok (.iload 4, 2) := by decide +kernel
theorem dX9_runSteps_99 : decode cX9_runSteps 99 = .ok (.iconst 1, 1) := by decide +kernel
theorem dX9_runSteps_100 : decode cX9_runSteps 100 = .ok (.iadd, 1) := by decide +kernel
theorem dX9_runSteps_101 : decode cX9_runSteps 101 = .ok (.aload_n 0, 1) := by decide +kernel
theorem dX9_runSteps_102 : decode cX9_runSteps 102 = .ok (.getfield 49, 3) := by decide +kernel
theorem dX9_runSteps_105 : decode cX9_runSteps 105 = .ok (.iload 4, 2) := by decide +kernel
theorem dX9_runSteps_107 : decode cX9_runSteps 107 = .ok (.invokevirtual 397, 3) := by decide +kernel
theorem dX9_runSteps_110 : decode cX9_runSteps 110 = .ok (.iload_n 3, 1) := by decide +kernel
theorem dX9_runSteps_111 : decode cX9_runSteps 111 = .ok (.iconst 1, 1) := by decide +kernel
theorem dX9_runSteps_112 : decode cX9_runSteps 112 = .ok (.iadd, 1) := by decide +kernel
theorem dX9_runSteps_113 : decode cX9_runSteps 113 = .ok (.invokevirtual 162, 3) := by decide +kernel
theorem dX9_runSteps_116 : decode cX9_runSteps 116 = .ok (.iinc 6 1, 3) := by decide +kernel
theorem dX9_runSteps_119 : decode cX9_runSteps 119 = .ok (.goto (-43), 3) := by decide +kernel
theorem dX9_runSteps_122 : decode cX9_runSteps 122 = .ok (.goto 72, 3) := by decide +kernel
theorem dX9_runSteps_125 : decode cX9_runSteps 125 = .ok (.aload_n 0, 1) := by decide +kernel
theorem dX9_runSteps_126 : decode cX9_runSteps 126 = .ok (.aload_n 0, 1) := by decide +kernel
theorem dX9_runSteps_127 : decode cX9_runSteps 127 = .ok (.getfield 49, 3) := by decide +kernel
theorem dX9_runSteps_130 : decode cX9_runSteps 130 = .ok (.getfield 391, 3) := by decide +kernel
theorem dX9_runSteps_133 : decode cX9_runSteps 133 = .ok (.iload 4, 2) := by decide +kernel
theorem dX9_runSteps_135 : decode cX9_runSteps 135 = .ok (.invokestatic 223, 3) := by decide +kernel
theorem dX9_runSteps_138 : decode cX9_runSteps 138 = .ok (.aload_n 0, 1) := by decide +kernel
theorem dX9_runSteps_139 : decode cX9_runSteps 139 = .ok (.getfield 49, 3) := by decide +kernel
theorem dX9_runSteps_142 : decode cX9_runSteps 142 = .ok (.getfield 394, 3) := by decide +kernel
theorem dX9_runSteps_145 : decode cX9_runSteps 145 = .ok (.iload 4, 2) := by decide +kernel
theorem dX9_runSteps_147 : decode cX9_runSteps 147 = .ok (.invokestatic 223, 3) := by decide +kernel
theorem dX9_runSteps_150 : decode cX9_runSteps 150 = .ok (.aload_n 0, 1) := by decide +kernel
theorem dX9_runSteps_151 : decode cX9_runSteps 151 = .ok (.getfield 49, 3) := by decide +kernel
theorem dX9_runSteps_154 : decode cX9_runSteps 154 = .ok (.getfield 400, 3) := by decide +kernel
theorem dX9_runSteps_157 : decode cX9_runSteps 157 = .ok (.iload 4, 2) := by decide +kernel
theorem dX9_runSteps_159 : decode cX9_runSteps 159 = .ok (.invokestatic 223, 3) := by decide +kernel
theorem dX9_runSteps_162 : decode cX9_runSteps 162 = .ok (.invokevirtual 403, 3) := by decide +kernel
theorem dX9_runSteps_165 : decode cX9_runSteps 165 = .ok (.ifCond .eq 19, 3) := by decide +kernel
theorem dX9_runSteps_168 : decode cX9_runSteps 168 = .ok (.aload_n 0, 1) := by decide +kernel
theorem dX9_runSteps_169 : decode cX9_runSteps 169 = .ok (.getfield 49, 3) := by decide +kernel
theorem dX9_runSteps_172 : decode cX9_runSteps 172 = .ok (.dup, 1) := by decide +kernel
theorem dX9_runSteps_173 : decode cX9_runSteps 173 = .ok (.getfield 156, 3) := by decide +kernel
theorem dX9_runSteps_176 : decode cX9_runSteps 176 = .ok (.iconst 1, 1) := by decide +kernel
theorem dX9_runSteps_177 : decode cX9_runSteps 177 = .ok (.iadd, 1) := by decide +kernel
theorem dX9_runSteps_178 : decode cX9_runSteps 178 = .ok (.putfield 156, 3) := by decide +kernel
theorem dX9_runSteps_181 : decode cX9_runSteps 181 = .ok (.goto 13, 3) := by decide +kernel
theorem dX9_runSteps_184 : decode cX9_runSteps 184 = .ok (.aload_n 0, 1) := by decide +kernel
theorem dX9_runSteps_185 : decode cX9_runSteps 185 = .ok (.dup, 1) := by decide +kernel
theorem dX9_runSteps_186 : decode cX9_runSteps 186 = .ok (.getfield 118, 3) := by decide +kernel
theorem dX9_runSteps_189 : decode cX9_runSteps 189 = .ok (.iconst 1, 1) := by decide +kernel
theorem dX9_runSteps_190 : decode cX9_runSteps 190 = .ok (.iadd, 1) := by decide +kernel
theorem dX9_runSteps_191 : decode cX9_runSteps 191 = .ok (.putfield 118, 3) := by decide +kernel
theorem dX9_runSteps_194 : decode cX9_runSteps 194 = .ok (.aload_n 0, 1) := by decide +kernel
theorem dX9_runSteps_195 : decode cX9_runSteps 195 = .ok (.getfield 49, 3) := by decide +kernel
theorem dX9_runSteps_198 : decode cX9_runSteps 198 = .ok (.iload 4, 2) := by decide +kernel
theorem dX9_runSteps_200 : decode cX9_runSteps 200 = .ok (.invokevirtual 397, 3) := by decide +kernel
theorem dX9_runSteps_203 : decode cX9_runSteps 203 = .ok (.istore 4, 2) := by decide +kernel
theorem dX9_runSteps_205 : decode cX9_runSteps 205 = .ok (.goto (-195), 3) := by decide +kernel
theorem dX9_runSteps_208 : decode cX9_runSteps 208 = .ok (.return_, 1) := by decide +kernel
abbrev mt_X9_runSteps : AxM := (RX9, cX9_runSteps, 7, none, false, [])
theorem L1_X9_runSteps_194 {g : AxG} {l : Launch} {S9 : AxS} (N : Nat) (kr : Nat → Int32 → Int32 → Int32 → AxS → Option (AxS)) (d : Nat) (hkr : ∀ (a0 : Nat) (a1 : Int32) (a2 : Int32) (a3 : Int32) (S : AxS) {S9 : AxS}, kr a0 a1 a2 a3 S = some S9 → AxMet g l yX9_runSteps cX9_runSteps 7 none d 0 0 [.ref a0, .int a1, .int a2, .int a3] S ((.inl none, S9))) (K10 : Nat → Int32 → Int32 → Int32 → AxS → Option (AxS)) (hK10 : ∀ (v0 : Nat) (v2 : Int32) (v3 : Int32) (v4 : Int32) (S : AxS), K10 v0 v2 v3 v4 S = some S9 → AW g l (axRm (d + 6) 0 0) mt_X9_runSteps (axMQ g 0 0 (.inl none, S9)) 0 0 S 10 [(0, .ref v0), (2, .int v2), (3, .int v3), (4, .int v4)] []) (v0 : Nat) (v2 : Int32) (v3 : Int32) (v4 : Int32) (S : AxS) (h : F_X9_runSteps_194 N kr K10 v0 v2 v3 v4 S = some S9) : AW g l (axRm (d + 6) 0 0) mt_X9_runSteps (axMQ g 0 0 (.inl none, S9)) 0 0 S 194 [(0, .ref v0), (2, .int v2), (3, .int v3), (4, .int v4)] [] := by
  unfold F_X9_runSteps_194 at h
  refine aw_aload_n 0 dX9_runSteps_194 rfl rfl ?_
  refine aw_getR axc9 7 rfl rfl wd_460 dX9_runSteps_195 h (fun a1 h => ?_)
  refine aw_iload 3 dX9_runSteps_198 rfl ?_
  obtain ⟨hL2, h⟩ := ax_is_spec h
  refine aw_doneI (rest := []) h (fun r9 S9 hF => aw_runV (As := [.int v4]) (rest := []) (L1_X6_behind N hF) axc6 hL2 wd_878 wd_875 wd_876 wd_877 wd_92 pd_X6_behind rfl (ax_rm (by omega) rfl) ax_hf0 (Nat.le_of_ble_eq_true rfl) rfl dX9_runSteps_200) (fun x4 T3 h => ?_)
  refine aw_istore [(4, .int x4), (0, .ref v0), (2, .int v2), (3, .int v3)] dX9_runSteps_203 rfl rfl ?_
  refine aw_goto 10 dX9_runSteps_205 (by decide) ?_
  refine aw_env [(0, .ref v0), (2, .int v2), (3, .int v3), (4, .int x4)] [1, 2, 3, 0] rfl ?_
  exact hK10 v0 v2 v3 x4 T3 h
theorem L1_X9_runSteps_122 {g : AxG} {l : Launch} {S9 : AxS} (N : Nat) (kr : Nat → Int32 → Int32 → Int32 → AxS → Option (AxS)) (d : Nat) (hkr : ∀ (a0 : Nat) (a1 : Int32) (a2 : Int32) (a3 : Int32) (S : AxS) {S9 : AxS}, kr a0 a1 a2 a3 S = some S9 → AxMet g l yX9_runSteps cX9_runSteps 7 none d 0 0 [.ref a0, .int a1, .int a2, .int a3] S ((.inl none, S9))) (K10 : Nat → Int32 → Int32 → Int32 → AxS → Option (AxS)) (hK10 : ∀ (v0 : Nat) (v2 : Int32) (v3 : Int32) (v4 : Int32) (S : AxS), K10 v0 v2 v3 v4 S = some S9 → AW g l (axRm (d + 6) 0 0) mt_X9_runSteps (axMQ g 0 0 (.inl none, S9)) 0 0 S 10 [(0, .ref v0), (2, .int v2), (3, .int v3), (4, .int v4)] []) (v0 : Nat) (v2 : Int32) (v3 : Int32) (v4 : Int32) (S : AxS) (h : F_X9_runSteps_122 N kr K10 v0 v2 v3 v4 S = some S9) : AW g l (axRm (d + 6) 0 0) mt_X9_runSteps (axMQ g 0 0 (.inl none, S9)) 0 0 S 122 [(0, .ref v0), (2, .int v2), (3, .int v3), (4, .int v4)] [] := by
  unfold F_X9_runSteps_122 at h
  refine aw_goto 194 dX9_runSteps_122 (by decide) ?_
  refine aw_env [(0, .ref v0), (2, .int v2), (3, .int v3), (4, .int v4)] [0, 1, 2, 3] rfl ?_
  exact L1_X9_runSteps_194 N kr d hkr K10 hK10 v0 v2 v3 v4 S h
theorem L1_X9_runSteps_76b {g : AxG} {l : Launch} {S9 : AxS} (N : Nat) (kr : Nat → Int32 → Int32 → Int32 → AxS → Option (AxS)) (d : Nat) (hkr : ∀ (a0 : Nat) (a1 : Int32) (a2 : Int32) (a3 : Int32) (S : AxS) {S9 : AxS}, kr a0 a1 a2 a3 S = some S9 → AxMet g l yX9_runSteps cX9_runSteps 7 none d 0 0 [.ref a0, .int a1, .int a2, .int a3] S ((.inl none, S9))) (K10 : Nat → Int32 → Int32 → Int32 → AxS → Option (AxS)) (hK10 : ∀ (v0 : Nat) (v2 : Int32) (v3 : Int32) (v4 : Int32) (S : AxS), K10 v0 v2 v3 v4 S = some S9 → AW g l (axRm (d + 6) 0 0) mt_X9_runSteps (axMQ g 0 0 (.inl none, S9)) 0 0 S 10 [(0, .ref v0), (2, .int v2), (3, .int v3), (4, .int v4)] []) (K76 : Nat → Int32 → Int32 → Int32 → Int32 → Int32 → AxS → Option (AxS)) (hK76 : ∀ (v0 : Nat) (v2 : Int32) (v3 : Int32) (v4 : Int32) (v5 : Int32) (v6 : Int32) (S : AxS), K76 v0 v2 v3 v4 v5 v6 S = some S9 → AW g l (axRm (d + 6) 0 0) mt_X9_runSteps (axMQ g 0 0 (.inl none, S9)) 0 0 S 76 [(0, .ref v0), (2, .int v2), (3, .int v3), (4, .int v4), (5, .int v5), (6, .int v6)] []) (v0 : Nat) (v2 : Int32) (v3 : Int32) (v4 : Int32) (v5 : Int32) (v6 : Int32) (S : AxS) (h : F_X9_runSteps_76b N kr K10 K76 v0 v2 v3 v4 v5 v6 S = some S9) : AW g l (axRm (d + 6) 0 0) mt_X9_runSteps (axMQ g 0 0 (.inl none, S9)) 0 0 S 76 [(0, .ref v0), (2, .int v2), (3, .int v3), (4, .int v4), (5, .int v5), (6, .int v6)] [] := by
  unfold F_X9_runSteps_76b at h
  refine aw_iload 5 dX9_runSteps_76 rfl ?_
  refine aw_iload 4 dX9_runSteps_78 rfl ?_
  refine aw_icmp_ge 122 dX9_runSteps_80 (by decide) h (fun h => ?_) (fun h => ?_)
  · refine aw_env [(0, .ref v0), (2, .int v2), (3, .int v3), (4, .int v4)] [0, 1, 2, 3] rfl ?_
    exact L1_X9_runSteps_122 N kr d hkr K10 hK10 v0 v2 v3 v4 S h
  · refine aw_aload_n 0 dX9_runSteps_83 rfl rfl ?_
    refine aw_getR axc9 7 rfl rfl wd_460 dX9_runSteps_84 h (fun a1 h => ?_)
    refine aw_getI axc6 4 rfl rfl wd_271 dX9_runSteps_87 h (fun x2 h => ?_)
    refine aw_sipush 200 dX9_runSteps_90 (by decide) ?_
    refine aw_icmp_ge 122 dX9_runSteps_93 (by decide) h (fun h => ?_) (fun h => ?_)
    · refine aw_env [(0, .ref v0), (2, .int v2), (3, .int v3), (4, .int v4)] [0, 1, 2, 3] rfl ?_
      exact L1_X9_runSteps_122 N kr d hkr K10 hK10 v0 v2 v3 v4 S h
    · refine aw_aload_n 0 dX9_runSteps_96 rfl rfl ?_
      refine aw_iload 3 dX9_runSteps_97 rfl ?_
      refine aw_iconst 1 dX9_runSteps_99 rfl ?_
      refine aw_iadd dX9_runSteps_100 ?_
      refine aw_aload_n 0 dX9_runSteps_101 rfl rfl ?_
      refine aw_getR axc9 7 rfl rfl wd_460 dX9_runSteps_102 h (fun a3 h => ?_)
      refine aw_iload 3 dX9_runSteps_105 rfl ?_
      obtain ⟨hL4, h⟩ := ax_is_spec h
      refine aw_doneI (rest := [.int (v4 + 1), .ref v0]) h (fun r9 S9 hF => aw_runV (As := [.int v4]) (rest := [.int (v4 + 1), .ref v0]) (L1_X6_behind N hF) axc6 hL4 wd_878 wd_875 wd_876 wd_877 wd_92 pd_X6_behind rfl (ax_rm (by omega) rfl) ax_hf0 (Nat.le_of_ble_eq_true rfl) rfl dX9_runSteps_107) (fun x6 T5 h => ?_)
      refine aw_iload_n 2 dX9_runSteps_110 rfl rfl ?_
      refine aw_iconst 1 dX9_runSteps_111 rfl ?_
      refine aw_iadd dX9_runSteps_112 ?_
      obtain ⟨hL7, h⟩ := ax_is_spec h
      refine aw_doneV (rest := []) h (fun S9 hF => aw_runV (As := [.int (v4 + 1), .int x6, .int (v3 + 1)]) (rest := []) (hkr v0 (v4 + 1) x6 (v3 + 1) T5 hF) axc9 hL7 wd_873 wd_870 wd_872 wd_14 wd_87 pd_X9_runSteps rfl (ax_rm (by omega) rfl) ax_hf0 (Nat.le_of_ble_eq_true rfl) rfl dX9_runSteps_113) (fun T8 h => ?_)
      refine aw_iinc 5 [(6, .int (v6 + 1)), (0, .ref v0), (2, .int v2), (3, .int v3), (4, .int v4), (5, .int v5)] (v6 + 1) dX9_runSteps_116 rfl rfl rfl rfl ?_
      refine aw_goto 76 dX9_runSteps_119 (by decide) ?_
      refine aw_env [(0, .ref v0), (2, .int v2), (3, .int v3), (4, .int v4), (5, .int v5), (6, .int (v6 + 1))] [1, 2, 3, 4, 5, 0] rfl ?_
      exact hK76 v0 v2 v3 v4 v5 (v6 + 1) T8 h
theorem L1_X9_runSteps_76 {g : AxG} {l : Launch} {S9 : AxS} (N : Nat) (kr : Nat → Int32 → Int32 → Int32 → AxS → Option (AxS)) (d : Nat) (hkr : ∀ (a0 : Nat) (a1 : Int32) (a2 : Int32) (a3 : Int32) (S : AxS) {S9 : AxS}, kr a0 a1 a2 a3 S = some S9 → AxMet g l yX9_runSteps cX9_runSteps 7 none d 0 0 [.ref a0, .int a1, .int a2, .int a3] S ((.inl none, S9))) (K10 : Nat → Int32 → Int32 → Int32 → AxS → Option (AxS)) (hK10 : ∀ (v0 : Nat) (v2 : Int32) (v3 : Int32) (v4 : Int32) (S : AxS), K10 v0 v2 v3 v4 S = some S9 → AW g l (axRm (d + 6) 0 0) mt_X9_runSteps (axMQ g 0 0 (.inl none, S9)) 0 0 S 10 [(0, .ref v0), (2, .int v2), (3, .int v3), (4, .int v4)] []) : ∀ (n : Nat) (v0 : Nat) (v2 : Int32) (v3 : Int32) (v4 : Int32) (v5 : Int32) (v6 : Int32) (S : AxS), F_X9_runSteps_76 N kr K10 n v0 v2 v3 v4 v5 v6 S = some S9 → AW g l (axRm (d + 6) 0 0) mt_X9_runSteps (axMQ g 0 0 (.inl none, S9)) 0 0 S 76 [(0, .ref v0), (2, .int v2), (3, .int v3), (4, .int v4), (5, .int v5), (6, .int v6)] [] := by
  intro n
  induction n with
  | zero => intro v0 v2 v3 v4 v5 v6 S h; cases h
  | succ n ih => intro v0 v2 v3 v4 v5 v6 S h; exact L1_X9_runSteps_76b N kr d hkr K10 hK10 (F_X9_runSteps_76 N kr K10 n) ih v0 v2 v3 v4 v5 v6 S h
theorem L1_X9_runSteps_10b {g : AxG} {l : Launch} {S9 : AxS} (N : Nat) (kr : Nat → Int32 → Int32 → Int32 → AxS → Option (AxS)) (d : Nat) (hkr : ∀ (a0 : Nat) (a1 : Int32) (a2 : Int32) (a3 : Int32) (S : AxS) {S9 : AxS}, kr a0 a1 a2 a3 S = some S9 → AxMet g l yX9_runSteps cX9_runSteps 7 none d 0 0 [.ref a0, .int a1, .int a2, .int a3] S ((.inl none, S9))) (K10 : Nat → Int32 → Int32 → Int32 → AxS → Option (AxS)) (hK10 : ∀ (v0 : Nat) (v2 : Int32) (v3 : Int32) (v4 : Int32) (S : AxS), K10 v0 v2 v3 v4 S = some S9 → AW g l (axRm (d + 6) 0 0) mt_X9_runSteps (axMQ g 0 0 (.inl none, S9)) 0 0 S 10 [(0, .ref v0), (2, .int v2), (3, .int v3), (4, .int v4)] []) (v0 : Nat) (v2 : Int32) (v3 : Int32) (v4 : Int32) (S : AxS) (h : F_X9_runSteps_10b N kr K10 v0 v2 v3 v4 S = some S9) : AW g l (axRm (d + 6) 0 0) mt_X9_runSteps (axMQ g 0 0 (.inl none, S9)) 0 0 S 10 [(0, .ref v0), (2, .int v2), (3, .int v3), (4, .int v4)] [] := by
  unfold F_X9_runSteps_10b at h
  refine aw_iload 3 dX9_runSteps_10 rfl ?_
  refine aw_iload_n 1 dX9_runSteps_12 rfl rfl ?_
  refine aw_icmp_ge 208 dX9_runSteps_13 (by decide) h (fun h => ?_) (fun h => ?_)
  · exact aw_vret dX9_runSteps_208 rfl (Nat.le_refl _) (Nat.le_refl _) h
  · refine aw_aload_n 0 dX9_runSteps_16 rfl rfl ?_
    refine aw_getR axc9 7 rfl rfl wd_460 dX9_runSteps_17 h (fun a1 h => ?_)
    refine aw_getI axc6 4 rfl rfl wd_271 dX9_runSteps_20 h (fun x2 h => ?_)
    refine aw_sipush 200 dX9_runSteps_23 (by decide) ?_
    refine aw_icmp_ge 208 dX9_runSteps_26 (by decide) h (fun h => ?_) (fun h => ?_)
    · exact aw_vret dX9_runSteps_208 rfl (Nat.le_refl _) (Nat.le_refl _) h
    · refine aw_aload_n 0 dX9_runSteps_29 rfl rfl ?_
      refine aw_getR axc9 7 rfl rfl wd_460 dX9_runSteps_30 h (fun a3 h => ?_)
      refine aw_dup rfl dX9_runSteps_33 ?_
      refine aw_getI axc6 4 rfl rfl wd_271 dX9_runSteps_34 h (fun x4 h => ?_)
      refine aw_iconst 1 dX9_runSteps_37 rfl ?_
      refine aw_iadd dX9_runSteps_38 ?_
      refine aw_putI axc6 4 rfl rfl wd_271 rfl rfl rfl dX9_runSteps_39 h (fun T5 h => ?_)
      refine aw_aload_n 0 dX9_runSteps_42 rfl rfl ?_
      refine aw_getR axc9 7 rfl rfl wd_460 dX9_runSteps_43 h (fun a6 h => ?_)
      refine aw_getR axc6 0 rfl rfl wd_264 dX9_runSteps_46 h (fun a7 h => ?_)
      refine aw_iload 3 dX9_runSteps_49 rfl ?_
      refine aw_doneI (rest := []) h (fun r9 S9 hF => aw_runS (As := [.ref a7, .int v4]) (rest := []) (L1_X9_at N hF) wd_541 wd_874 wd_540 wd_87 pd_X9_at.2 rfl (ax_rm (by omega) rfl) ax_hf0 (Nat.le_of_ble_eq_true rfl) rfl dX9_runSteps_51) (fun x9 T8 h => ?_)
      refine aw_bipush 7 dX9_runSteps_54 (by decide) ?_
      refine aw_icmp_ne 125 dX9_runSteps_56 (by decide) h (fun h => ?_) (fun h => ?_)
      · refine aw_aload_n 0 dX9_runSteps_125 rfl rfl ?_
        refine aw_aload_n 0 dX9_runSteps_126 rfl rfl ?_
        refine aw_getR axc9 7 rfl rfl wd_460 dX9_runSteps_127 h (fun a10 h => ?_)
        refine aw_getR axc6 0 rfl rfl wd_264 dX9_runSteps_130 h (fun a11 h => ?_)
        refine aw_iload 3 dX9_runSteps_133 rfl ?_
        refine aw_doneI (rest := [.ref v0]) h (fun r9 S9 hF => aw_runS (As := [.ref a11, .int v4]) (rest := [.ref v0]) (L1_X9_at N hF) wd_541 wd_874 wd_540 wd_87 pd_X9_at.2 rfl (ax_rm (by omega) rfl) ax_hf0 (Nat.le_of_ble_eq_true rfl) rfl dX9_runSteps_135) (fun x13 T12 h => ?_)
        refine aw_aload_n 0 dX9_runSteps_138 rfl rfl ?_
        refine aw_getR axc9 7 rfl rfl wd_460 dX9_runSteps_139 h (fun a14 h => ?_)
        refine aw_getR axc6 1 rfl rfl wd_266 dX9_runSteps_142 h (fun a15 h => ?_)
        refine aw_iload 3 dX9_runSteps_145 rfl ?_
        refine aw_doneI (rest := [.int x13, .ref v0]) h (fun r9 S9 hF => aw_runS (As := [.ref a15, .int v4]) (rest := [.int x13, .ref v0]) (L1_X9_at N hF) wd_541 wd_874 wd_540 wd_87 pd_X9_at.2 rfl (ax_rm (by omega) rfl) ax_hf0 (Nat.le_of_ble_eq_true rfl) rfl dX9_runSteps_147) (fun x17 T16 h => ?_)
        refine aw_aload_n 0 dX9_runSteps_150 rfl rfl ?_
        refine aw_getR axc9 7 rfl rfl wd_460 dX9_runSteps_151 h (fun a18 h => ?_)
        refine aw_getR axc6 2 rfl rfl wd_268 dX9_runSteps_154 h (fun a19 h => ?_)
        refine aw_iload 3 dX9_runSteps_157 rfl ?_
        refine aw_doneI (rest := [.int x17, .int x13, .ref v0]) h (fun r9 S9 hF => aw_runS (As := [.ref a19, .int v4]) (rest := [.int x17, .int x13, .ref v0]) (L1_X9_at N hF) wd_541 wd_874 wd_540 wd_87 pd_X9_at.2 rfl (ax_rm (by omega) rfl) ax_hf0 (Nat.le_of_ble_eq_true rfl) rfl dX9_runSteps_159) (fun x21 T20 h => ?_)
        obtain ⟨hL22, h⟩ := ax_is_spec h
        refine aw_doneI (rest := []) h (fun r9 S9 hF => aw_runV (As := [.int x13, .int x17, .int x21]) (rest := []) (L1_X9_doStep N hF) axc9 hL22 wd_883 wd_880 wd_882 wd_15 wd_87 pd_X9_doStep rfl (ax_rm (by omega) rfl) ax_hf0 (Nat.le_of_ble_eq_true rfl) rfl dX9_runSteps_162) (fun x24 T23 h => ?_)
        refine aw_if_eq 184 dX9_runSteps_165 (by decide) h (fun h => ?_) (fun h => ?_)
        · refine aw_aload_n 0 dX9_runSteps_184 rfl rfl ?_
          refine aw_dup rfl dX9_runSteps_185 ?_
          refine aw_getI axc9 13 rfl rfl wd_466 dX9_runSteps_186 h (fun x25 h => ?_)
          refine aw_iconst 1 dX9_runSteps_189 rfl ?_
          refine aw_iadd dX9_runSteps_190 ?_
          refine aw_putI axc9 13 rfl rfl wd_466 rfl rfl rfl dX9_runSteps_191 h (fun T26 h => ?_)
          refine aw_env [(0, .ref v0), (2, .int v2), (3, .int v3), (4, .int v4)] [0, 1, 2, 3] rfl ?_
          exact L1_X9_runSteps_194 N kr d hkr K10 hK10 v0 v2 v3 v4 T26 h
        · refine aw_aload_n 0 dX9_runSteps_168 rfl rfl ?_
          refine aw_getR axc9 7 rfl rfl wd_460 dX9_runSteps_169 h (fun a27 h => ?_)
          refine aw_dup rfl dX9_runSteps_172 ?_
          refine aw_getI axc6 5 rfl rfl wd_272 dX9_runSteps_173 h (fun x28 h => ?_)
          refine aw_iconst 1 dX9_runSteps_176 rfl ?_
          refine aw_iadd dX9_runSteps_177 ?_
          refine aw_putI axc6 5 rfl rfl wd_272 rfl rfl rfl dX9_runSteps_178 h (fun T29 h => ?_)
          refine aw_goto 194 dX9_runSteps_181 (by decide) ?_
          refine aw_env [(0, .ref v0), (2, .int v2), (3, .int v3), (4, .int v4)] [0, 1, 2, 3] rfl ?_
          exact L1_X9_runSteps_194 N kr d hkr K10 hK10 v0 v2 v3 v4 T29 h
      · refine aw_aload_n 0 dX9_runSteps_59 rfl rfl ?_
        refine aw_getR axc9 7 rfl rfl wd_460 dX9_runSteps_60 h (fun a30 h => ?_)
        refine aw_getR axc6 1 rfl rfl wd_266 dX9_runSteps_63 h (fun a31 h => ?_)
        refine aw_iload 3 dX9_runSteps_66 rfl ?_
        refine aw_doneI (rest := []) h (fun r9 S9 hF => aw_runS (As := [.ref a31, .int v4]) (rest := []) (L1_X9_at N hF) wd_541 wd_874 wd_540 wd_87 pd_X9_at.2 rfl (ax_rm (by omega) rfl) ax_hf0 (Nat.le_of_ble_eq_true rfl) rfl dX9_runSteps_68) (fun x33 T32 h => ?_)
        refine aw_istore [(5, .int x33), (0, .ref v0), (2, .int v2), (3, .int v3), (4, .int v4)] dX9_runSteps_71 rfl rfl ?_
        refine aw_iconst 0 dX9_runSteps_73 rfl ?_
        refine aw_istore [(6, .int 0), (5, .int x33), (0, .ref v0), (2, .int v2), (3, .int v3), (4, .int v4)] dX9_runSteps_74 rfl rfl ?_
        refine aw_env [(0, .ref v0), (2, .int v2), (3, .int v3), (4, .int v4), (5, .int x33), (6, .int 0)] [2, 3, 4, 5, 1, 0] rfl ?_
        exact L1_X9_runSteps_76 N kr d hkr K10 hK10 N v0 v2 v3 v4 x33 0 T32 h
theorem L1_X9_runSteps_10 {g : AxG} {l : Launch} {S9 : AxS} (N : Nat) (kr : Nat → Int32 → Int32 → Int32 → AxS → Option (AxS)) (d : Nat) (hkr : ∀ (a0 : Nat) (a1 : Int32) (a2 : Int32) (a3 : Int32) (S : AxS) {S9 : AxS}, kr a0 a1 a2 a3 S = some S9 → AxMet g l yX9_runSteps cX9_runSteps 7 none d 0 0 [.ref a0, .int a1, .int a2, .int a3] S ((.inl none, S9)))  : ∀ (n : Nat) (v0 : Nat) (v2 : Int32) (v3 : Int32) (v4 : Int32) (S : AxS), F_X9_runSteps_10 N kr  n v0 v2 v3 v4 S = some S9 → AW g l (axRm (d + 6) 0 0) mt_X9_runSteps (axMQ g 0 0 (.inl none, S9)) 0 0 S 10 [(0, .ref v0), (2, .int v2), (3, .int v3), (4, .int v4)] [] := by
  intro n
  induction n with
  | zero => intro v0 v2 v3 v4 S h; cases h
  | succ n ih => intro v0 v2 v3 v4 S h; exact L1_X9_runSteps_10b N kr d hkr (F_X9_runSteps_10 N kr  n) ih v0 v2 v3 v4 S h
theorem L1_X9_runSteps {g : AxG} {l : Launch} (N : Nat) (kr : Nat → Int32 → Int32 → Int32 → AxS → Option (AxS)) (d : Nat) (hkr : ∀ (a0 : Nat) (a1 : Int32) (a2 : Int32) (a3 : Int32) (S : AxS) {S9 : AxS}, kr a0 a1 a2 a3 S = some S9 → AxMet g l yX9_runSteps cX9_runSteps 7 none d 0 0 [.ref a0, .int a1, .int a2, .int a3] S ((.inl none, S9))) {v0 : Nat} {v1 : Int32} {v2 : Int32} {v3 : Int32} {S : AxS} {S9 : AxS} (h : F_X9_runSteps N kr v0 v1 v2 v3 S = some S9) : AxMet g l yX9_runSteps cX9_runSteps 7 none (d + 6) 0 0 [.ref v0, .int v1, .int v2, .int v3] S ((.inl none, S9)) := by
  refine ax_met (own := RX9) (ini := false) (by decide +kernel) rfl (fun h => nomatch h) rfl ?_
  show AW g l (axRm (d + 6) 0 0) mt_X9_runSteps (axMQ g 0 0 (.inl none, S9)) 0 0 S 0 [(0, .ref v0), (1, .int v1), (2, .int v2), (3, .int v3)] []
  unfold F_X9_runSteps at h
  refine aw_iload_n 3 dX9_runSteps_0 rfl rfl ?_
  refine aw_bipush 6 dX9_runSteps_1 (by decide) ?_
  refine aw_icmp_le 7 dX9_runSteps_3 (by decide) h (fun h => ?_) (fun h => ?_)
  · refine aw_iload_n 1 dX9_runSteps_7 rfl rfl ?_
    refine aw_istore [(4, .int v1), (0, .ref v0), (1, .int v1), (2, .int v2), (3, .int v3)] dX9_runSteps_8 rfl rfl ?_
    refine aw_env [(0, .ref v0), (2, .int v2), (3, .int v3), (4, .int v1)] [1, 3, 4, 0] rfl ?_
    exact L1_X9_runSteps_10 N kr d hkr  N v0 v2 v3 v1 S h
  · exact aw_vret dX9_runSteps_6 rfl (Nat.le_refl _) (Nat.le_refl _) h
theorem L1GG_X9_runSteps {g : AxG} {l : Launch} (N : Nat) : ∀ (n : Nat) (v0 : Nat) (v1 : Int32) (v2 : Int32) (v3 : Int32) (S : AxS) {S9 : AxS}, GG_X9_runSteps N n v0 v1 v2 v3 S = some S9 → AxMet g l yX9_runSteps cX9_runSteps 7 none (6 * n) 0 0 [.ref v0, .int v1, .int v2, .int v3] S ((.inl none, S9)) := by
  intro n
  induction n with
  | zero => intro v0 v1 v2 v3 S S9 h; cases h
  | succ n ih =>
    intro v0 v1 v2 v3 S S9 h
    have h9 := L1_X9_runSteps (g := g) (l := l) N (GG_X9_runSteps N n) (6 * n) (fun a0 a1 a2 a3 S S9 h => ih a0 a1 a2 a3 S h) h
    exact h9
theorem L1G_X9_runSteps {g : AxG} {l : Launch} (N : Nat) {v0 : Nat} {v1 : Int32} {v2 : Int32} {v3 : Int32} {S : AxS} {S9 : AxS} (h : G_X9_runSteps N v0 v1 v2 v3 S = some S9) : AxMet g l yX9_runSteps cX9_runSteps 7 none (60) 0 0 [.ref v0, .int v1, .int v2, .int v3] S ((.inl none, S9)) := L1GG_X9_runSteps N 10 v0 v1 v2 v3 S h


theorem dX9_work_0 : decode cX9_work 0 = .ok (.aload_n 0, 1) := by decide +kernel
theorem dX9_work_1 : decode cX9_work 1 = .ok (.iload_n 1, 1) := by decide +kernel
theorem dX9_work_2 : decode cX9_work 2 = .ok (.ifCond .lt 25, 3) := by decide +kernel
theorem dX9_work_5 : decode cX9_work 5 = .ok (.iload_n 1, 1) := by decide +kernel
theorem dX9_work_6 : decode cX9_work 6 = .ok (.sipush 150, 3) := by decide +kernel
theorem dX9_work_9 : decode cX9_work 9 = .ok (.if_icmp .gt 18, 3) := by decide +kernel
theorem dX9_work_12 : decode cX9_work 12 = .ok (.iload_n 1, 1) := by decide +kernel
theorem dX9_work_13 : decode cX9_work 13 = .ok (.aload_n 0, 1) := by decide +kernel
theorem dX9_work_14 : decode cX9_work 14 = .ok (.getfield 10, 3) := by decide +kernel
theorem dX9_work_17 : decode cX9_work 17 = .ok (.getfield 121, 3) := by decide +kernel
theorem dX9_work_20 : decode cX9_work 20 = .ok (.if_icmp .gt 7, 3) := by decide +kernel
theorem dX9_work_23 : decode cX9_work 23 = .ok (.iconst 1, 1) := by decide +kernel
theorem dX9_work_24 : decode cX9_work 24 = .ok (.goto 4, 3) := by decide +kernel
theorem dX9_work_27 : decode cX9_work 27 = .ok (.iconst 0, 1) := by decide +kernel
theorem dX9_work_28 : decode cX9_work 28 = .ok (.invokevirtual 128, 3) := by decide +kernel
theorem dX9_work_31 : decode cX9_work 31 = .ok (.aload_n 0, 1) := by decide +kernel
theorem dX9_work_32 : decode cX9_work 32 = .ok (.getfield 66, 3) := by decide +kernel
theorem dX9_work_35 : decode cX9_work 35 = .ok (.getfield 111, 3) := by decide +kernel
theorem dX9_work_38 : decode cX9_work 38 = .ok (.bipush 16, 2) := by decide +kernel
theorem dX9_work_40 : decode cX9_work 40 = .ok (.if_icmp .lt 14, 3) := by decide +kernel
theorem dX9_work_43 : decode cX9_work 43 = .ok (.aload_n 0, 1) := by decide +kernel
theorem dX9_work_44 : decode cX9_work 44 = .ok (.getfield 10, 3) := by decide +kernel
theorem dX9_work_47 : decode cX9_work 47 = .ok (.iconst 0, 1) := by decide +kernel
theorem dX9_work_48 : decode cX9_work 48 = .ok (.invokevirtual 132, 3) := by decide +kernel
theorem dX9_work_51 : decode cX9_work 51 = .ok (.bipush (-20), 2) := by decide +kernel
theorem dX9_work_53 : decode cX9_work 53 = .ok (.ireturn, 1) := by decide +kernel
theorem dX9_work_54 : decode cX9_work 54 = .ok (.aload_n 0, 1) := by decide +kernel
theorem dX9_work_55 : decode cX9_work 55 = .ok (.getfield 10, 3) := by decide +kernel
theorem dX9_work_58 : decode cX9_work 58 = .ok (.iload_n 1, 1) := by decide +kernel
theorem dX9_work_59 : decode cX9_work 59 = .ok (.invokevirtual 132, 3) := by decide +kernel
theorem dX9_work_62 : decode cX9_work 62 = .ok (.aload_n 0, 1) := by decide +kernel
theorem dX9_work_63 : decode cX9_work 63 = .ok (.getfield 49, 3) := by decide +kernel
theorem dX9_work_66 : decode cX9_work 66 = .ok (.aload_n 0, 1) := by decide +kernel
theorem dX9_work_67 : decode cX9_work 67 = .ok (.getfield 10, 3) := by decide +kernel
theorem dX9_work_70 : decode cX9_work 70 = .ok (.aload_n 0, 1) := by decide +kernel
theorem dX9_work_71 : decode cX9_work 71 = .ok (.getfield 19, 3) := by decide +kernel
theorem dX9_work_74 : decode cX9_work 74 = .ok (.invokevirtual 146, 3) := by decide +kernel
theorem dX9_work_77 : decode cX9_work 77 = .ok (.ifCond .ne 14, 3) := by decide +kernel
theorem dX9_work_80 : decode cX9_work 80 = .ok (.aload_n 0, 1) := by decide +kernel
theorem dX9_work_81 : decode cX9_work 81 = .ok (.getfield 10, 3) := by decide +kernel
theorem dX9_work_84 : decode cX9_work 84 = .ok (.getfield 139, 3) := by decide +kernel
theorem dX9_work_87 : decode cX9_work 87 = .ok (.bipush 10, 2) := by decide +kernel
theorem dX9_work_89 : decode cX9_work 89 = .ok (.isub, 1) := by decide +kernel
theorem dX9_work_90 : decode cX9_work 90 = .ok (.ireturn, 1) := by decide +kernel
theorem dX9_work_91 : decode cX9_work 91 = .ok (.aload_n 0, 1) := by decide +kernel
theorem dX9_work_92 : decode cX9_work 92 = .ok (.getfield 66, 3) := by decide +kernel
theorem dX9_work_95 : decode cX9_work 95 = .ok (.aload_n 0, 1) := by decide +kernel
theorem dX9_work_96 : decode cX9_work 96 = .ok (.getfield 56, 3) := by decide +kernel
theorem dX9_work_99 : decode cX9_work 99 = .ok (.invokevirtual 149, 3) := by decide +kernel
theorem dX9_work_102 : decode cX9_work 102 = .ok (.aload_n 0, 1) := by decide +kernel
theorem dX9_work_103 : decode cX9_work 103 = .ok (.getfield 49, 3) := by decide +kernel
theorem dX9_work_106 : decode cX9_work 106 = .ok (.iconst 0, 1) := by decide +kernel
theorem dX9_work_107 : decode cX9_work 107 = .ok (.putfield 153, 3) := by decide +kernel
theorem dX9_work_110 : decode cX9_work 110 = .ok (.aload_n 0, 1) := by decide +kernel
theorem dX9_work_111 : decode cX9_work 111 = .ok (.getfield 49, 3) := by decide +kernel
theorem dX9_work_114 : decode cX9_work 114 = .ok (.iconst 0, 1) := by decide +kernel
theorem dX9_work_115 : decode cX9_work 115 = .ok (.putfield 156, 3) := by decide +kernel
theorem dX9_work_118 : decode cX9_work 118 = .ok (.aload_n 0, 1) := by decide +kernel
theorem dX9_work_119 : decode cX9_work 119 = .ok (.iconst 0, 1) := by decide +kernel
theorem dX9_work_120 : decode cX9_work 120 = .ok (.putfield 118, 3) := by decide +kernel
theorem dX9_work_123 : decode cX9_work 123 = .ok (.aload_n 0, 1) := by decide +kernel
theorem dX9_work_124 : decode cX9_work 124 = .ok (.iconst 0, 1) := by decide +kernel
theorem dX9_work_125 : decode cX9_work 125 = .ok (.aload_n 0, 1) := by decide +kernel
theorem dX9_work_126 : decode cX9_work 126 = .ok (.getfield 49, 3) := by decide +kernel
theorem dX9_work_129 : decode cX9_work 129 = .ok (.getfield 159, 3) := by decide +kernel
theorem dX9_work_132 : decode cX9_work 132 = .ok (.iconst 0, 1) := by decide +kernel
theorem dX9_work_133 : decode cX9_work 133 = .ok (.invokevirtual 162, 3) := by decide +kernel
theorem dX9_work_136 : decode cX9_work 136 = .ok (.aload_n 0, 1) := by decide +kernel
theorem dX9_work_137 : decode cX9_work 137 = .ok (.getfield 49, 3) := by decide +kernel
theorem dX9_work_140 : decode cX9_work 140 = .ok (.getfield 156, 3) := by decide +kernel
theorem dX9_work_143 : decode cX9_work 143 = .ok (.ireturn, 1) := by decide +kernel
abbrev mt_X9_work : AxM := (RX9, cX9_work, 2, (some .int), false, [])
theorem L1_X9_work_28 {g : AxG} {l : Launch} (hl0 : l.stackTraces = false) {res : AxT Int32} (N : Nat)  (v0 : Nat) (v1 : Int32) (w0 : Int32) (w1 : Nat) (S : AxS) (h : F_X9_work_28 N  v0 v1 w0 w1 S = some res) : AW g l (axRm (65) (axCs (axOI res)) (6 * axCs (axOI res))) mt_X9_work (axMQ g (axCs (axOI res)) (6 * axCs (axOI res)) (axOI res)) 0 0 S 28 [(0, .ref v0), (1, .int v1)] [.int w0, .ref w1] := by
  unfold F_X9_work_28 at h
  obtain ⟨hL1, h⟩ := ax_is_spec h
  refine aw_thV (ob := axOI) (rest := []) (fun _ _ => rfl) rfl h (fun u9 hF hu => aw_runV (As := [.int w0]) (rest := []) (L1_X9_needArgument hl0 N hF) axc9 hL1 wd_604 wd_601 wd_603 wd_3 wd_87 pd_X9_needArgument rfl (ax_rm (by omega) rfl) (ax_hfV (fun _ _ => rfl) hu) (Nat.le_of_ble_eq_true rfl) rfl dX9_work_28) (fun T2 h => ?_)
  refine aw_aload_n 0 dX9_work_31 rfl rfl ?_
  refine aw_getR axc9 10 rfl rfl wd_463 dX9_work_32 h (fun a4 h => ?_)
  refine aw_getI axc8 1 rfl rfl wd_360 dX9_work_35 h (fun x5 h => ?_)
  refine aw_bipush 16 dX9_work_38 (by decide) ?_
  refine aw_icmp_lt 54 dX9_work_40 (by decide) h (fun h => ?_) (fun h => ?_)
  · refine aw_aload_n 0 dX9_work_54 rfl rfl ?_
    refine aw_getR axc9 0 rfl rfl wd_453 dX9_work_55 h (fun a6 h => ?_)
    refine aw_iload_n 1 dX9_work_58 rfl rfl ?_
    obtain ⟨hL7, h⟩ := ax_is_spec h
    refine aw_doneV (rest := []) h (fun S9 hF => aw_runV (As := [.int v1]) (rest := []) (L1_X7_open N hF) axc7 hL7 wd_675 wd_672 wd_673 wd_674 wd_88 pd_X7_open rfl (ax_rm (by omega) rfl) ax_hf0 (Nat.le_of_ble_eq_true rfl) rfl dX9_work_59) (fun T8 h => ?_)
    refine aw_aload_n 0 dX9_work_62 rfl rfl ?_
    refine aw_getR axc9 7 rfl rfl wd_460 dX9_work_63 h (fun a10 h => ?_)
    refine aw_aload_n 0 dX9_work_66 rfl rfl ?_
    refine aw_getR axc9 0 rfl rfl wd_453 dX9_work_67 h (fun a11 h => ?_)
    refine aw_aload_n 0 dX9_work_70 rfl rfl ?_
    refine aw_getR axc9 1 rfl rfl wd_454 dX9_work_71 h (fun a12 h => ?_)
    obtain ⟨hL13, h⟩ := ax_is_spec h
    refine aw_doneI (rest := []) h (fun r9 S9 hF => aw_runV (As := [.ref a11, .ref a12]) (rest := []) (L1_X6_readFrom N hF) axc6 hL13 wd_836 wd_833 wd_834 wd_835 wd_92 pd_X6_readFrom rfl (ax_rm (by omega) rfl) ax_hf0 (Nat.le_of_ble_eq_true rfl) rfl dX9_work_74) (fun x15 T14 h => ?_)
    refine aw_if_ne 91 dX9_work_77 (by decide) h (fun h => ?_) (fun h => ?_)
    · refine aw_aload_n 0 dX9_work_91 rfl rfl ?_
      refine aw_getR axc9 10 rfl rfl wd_463 dX9_work_92 h (fun a16 h => ?_)
      refine aw_aload_n 0 dX9_work_95 rfl rfl ?_
      refine aw_getR axc9 8 rfl rfl wd_461 dX9_work_96 h (fun a17 h => ?_)
      obtain ⟨hL18, h⟩ := ax_is_spec h
      refine aw_doneV (rest := []) h (fun S9 hF => aw_runV (As := [.ref a17]) (rest := []) (L1_X8_push N hF) axc8 hL18 wd_869 wd_866 wd_867 wd_868 wd_94 pd_X8_push rfl (ax_rm (by omega) rfl) ax_hf0 (Nat.le_of_ble_eq_true rfl) rfl dX9_work_99) (fun T19 h => ?_)
      refine aw_aload_n 0 dX9_work_102 rfl rfl ?_
      refine aw_getR axc9 7 rfl rfl wd_460 dX9_work_103 h (fun a21 h => ?_)
      refine aw_iconst 0 dX9_work_106 rfl ?_
      refine aw_putI axc6 4 rfl rfl wd_271 rfl rfl rfl dX9_work_107 h (fun T22 h => ?_)
      refine aw_aload_n 0 dX9_work_110 rfl rfl ?_
      refine aw_getR axc9 7 rfl rfl wd_460 dX9_work_111 h (fun a23 h => ?_)
      refine aw_iconst 0 dX9_work_114 rfl ?_
      refine aw_putI axc6 5 rfl rfl wd_272 rfl rfl rfl dX9_work_115 h (fun T24 h => ?_)
      refine aw_aload_n 0 dX9_work_118 rfl rfl ?_
      refine aw_iconst 0 dX9_work_119 rfl ?_
      refine aw_putI axc9 13 rfl rfl wd_466 rfl rfl rfl dX9_work_120 h (fun T25 h => ?_)
      refine aw_aload_n 0 dX9_work_123 rfl rfl ?_
      refine aw_iconst 0 dX9_work_124 rfl ?_
      refine aw_aload_n 0 dX9_work_125 rfl rfl ?_
      refine aw_getR axc9 7 rfl rfl wd_460 dX9_work_126 h (fun a26 h => ?_)
      refine aw_getI axc6 3 rfl rfl wd_270 dX9_work_129 h (fun x27 h => ?_)
      refine aw_iconst 0 dX9_work_132 rfl ?_
      obtain ⟨hL28, h⟩ := ax_is_spec h
      refine aw_doneV (rest := []) h (fun S9 hF => aw_runV (As := [.int 0, .int x27, .int 0]) (rest := []) (L1G_X9_runSteps N hF) axc9 hL28 wd_873 wd_870 wd_872 wd_14 wd_87 pd_X9_runSteps rfl (ax_rm (by omega) rfl) ax_hf0 (Nat.le_of_ble_eq_true rfl) rfl dX9_work_133) (fun T29 h => ?_)
      refine aw_aload_n 0 dX9_work_136 rfl rfl ?_
      refine aw_getR axc9 7 rfl rfl wd_460 dX9_work_137 h (fun a31 h => ?_)
      refine aw_getI axc6 5 rfl rfl wd_272 dX9_work_140 h (fun x32 h => ?_)
      exact aw_iretT dX9_work_143 rfl h
    · refine aw_aload_n 0 dX9_work_80 rfl rfl ?_
      refine aw_getR axc9 0 rfl rfl wd_453 dX9_work_81 h (fun a33 h => ?_)
      refine aw_getI axc7 4 rfl rfl wd_133 dX9_work_84 h (fun x34 h => ?_)
      refine aw_bipush 10 dX9_work_87 (by decide) ?_
      refine aw_isub dX9_work_89 ?_
      exact aw_iretT dX9_work_90 rfl h
  · refine aw_aload_n 0 dX9_work_43 rfl rfl ?_
    refine aw_getR axc9 0 rfl rfl wd_453 dX9_work_44 h (fun a35 h => ?_)
    refine aw_iconst 0 dX9_work_47 rfl ?_
    obtain ⟨hL36, h⟩ := ax_is_spec h
    refine aw_doneV (rest := []) h (fun S9 hF => aw_runV (As := [.int 0]) (rest := []) (L1_X7_open N hF) axc7 hL36 wd_675 wd_672 wd_673 wd_674 wd_88 pd_X7_open rfl (ax_rm (by omega) rfl) ax_hf0 (Nat.le_of_ble_eq_true rfl) rfl dX9_work_48) (fun T37 h => ?_)
    refine aw_bipush (-20) dX9_work_51 (by decide) ?_
    exact aw_iretT dX9_work_53 rfl h
theorem L1_X9_work_27 {g : AxG} {l : Launch} (hl0 : l.stackTraces = false) {res : AxT Int32} (N : Nat)  (v0 : Nat) (v1 : Int32) (w0 : Nat) (S : AxS) (h : F_X9_work_27 N  v0 v1 w0 S = some res) : AW g l (axRm (65) (axCs (axOI res)) (6 * axCs (axOI res))) mt_X9_work (axMQ g (axCs (axOI res)) (6 * axCs (axOI res)) (axOI res)) 0 0 S 27 [(0, .ref v0), (1, .int v1)] [.ref w0] := by
  unfold F_X9_work_27 at h
  refine aw_iconst 0 dX9_work_27 rfl ?_
  refine aw_env [(0, .ref v0), (1, .int v1)] [0, 1] rfl ?_
  exact L1_X9_work_28 hl0 N  v0 v1 0 w0 S h
theorem L1_X9_work {g : AxG} {l : Launch} (hl0 : l.stackTraces = false) (N : Nat) {v0 : Nat} {v1 : Int32} {S : AxS} {res : AxT Int32} (h : F_X9_work N v0 v1 S = some res) : AxMet g l yX9_work cX9_work 2 (some .int) (65) (axCs (axOI res)) (6 * axCs (axOI res)) [.ref v0, .int v1] S (axOI res) := by
  refine ax_met (own := RX9) (ini := false) (by decide +kernel) rfl (fun h => nomatch h) rfl ?_
  show AW g l (axRm (65) (axCs (axOI res)) (6 * axCs (axOI res))) mt_X9_work (axMQ g (axCs (axOI res)) (6 * axCs (axOI res)) (axOI res)) 0 0 S 0 [(0, .ref v0), (1, .int v1)] []
  unfold F_X9_work at h
  refine aw_aload_n 0 dX9_work_0 rfl rfl ?_
  refine aw_iload_n 1 dX9_work_1 rfl rfl ?_
  refine aw_if_lt 27 dX9_work_2 (by decide) h (fun h => ?_) (fun h => ?_)
  · refine aw_env [(0, .ref v0), (1, .int v1)] [0, 1] rfl ?_
    exact L1_X9_work_27 hl0 N  v0 v1 v0 S h
  · refine aw_iload_n 1 dX9_work_5 rfl rfl ?_
    refine aw_sipush 150 dX9_work_6 (by decide) ?_
    refine aw_icmp_gt 27 dX9_work_9 (by decide) h (fun h => ?_) (fun h => ?_)
    · refine aw_env [(0, .ref v0), (1, .int v1)] [0, 1] rfl ?_
      exact L1_X9_work_27 hl0 N  v0 v1 v0 S h
    · refine aw_iload_n 1 dX9_work_12 rfl rfl ?_
      refine aw_aload_n 0 dX9_work_13 rfl rfl ?_
      refine aw_getR axc9 0 rfl rfl wd_453 dX9_work_14 h (fun a1 h => ?_)
      refine aw_getI axc7 1 rfl rfl wd_125 dX9_work_17 h (fun x2 h => ?_)
      refine aw_icmp_gt 27 dX9_work_20 (by decide) h (fun h => ?_) (fun h => ?_)
      · refine aw_env [(0, .ref v0), (1, .int v1)] [0, 1] rfl ?_
        exact L1_X9_work_27 hl0 N  v0 v1 v0 S h
      · refine aw_iconst 1 dX9_work_23 rfl ?_
        refine aw_goto 28 dX9_work_24 (by decide) ?_
        refine aw_env [(0, .ref v0), (1, .int v1)] [0, 1] rfl ?_
        exact L1_X9_work_28 hl0 N  v0 v1 1 v0 S h

theorem dX9_book_0 : decode cX9_book 0 = .ok (.aload_n 0, 1) := by decide +kernel
theorem dX9_book_1 : decode cX9_book 1 = .ok (.iload_n 1, 1) := by decide +kernel
theorem dX9_book_2 : decode cX9_book 2 = .ok (.ifCond .lt 24, 3) := by decide +kernel
theorem dX9_book_5 : decode cX9_book 5 = .ok (.iload_n 1, 1) := by decide +kernel
theorem dX9_book_6 : decode cX9_book 6 = .ok (.bipush 100, 2) := by decide +kernel
theorem dX9_book_8 : decode cX9_book 8 = .ok (.if_icmp .gt 18, 3) := by decide +kernel
theorem dX9_book_11 : decode cX9_book 11 = .ok (.iload_n 1, 1) := by decide +kernel
theorem dX9_book_12 : decode cX9_book 12 = .ok (.aload_n 0, 1) := by decide +kernel
theorem dX9_book_13 : decode cX9_book 13 = .ok (.getfield 10, 3) := by decide +kernel
theorem dX9_book_16 : decode cX9_book 16 = .ok (.getfield 121, 3) := by decide +kernel
theorem dX9_book_19 : decode cX9_book 19 = .ok (.if_icmp .gt 7, 3) := by decide +kernel
theorem dX9_book_22 : decode cX9_book 22 = .ok (.iconst 1, 1) := by decide +kernel
theorem dX9_book_23 : decode cX9_book 23 = .ok (.goto 4, 3) := by decide +kernel
theorem dX9_book_26 : decode cX9_book 26 = .ok (.iconst 0, 1) := by decide +kernel
theorem dX9_book_27 : decode cX9_book 27 = .ok (.invokevirtual 128, 3) := by decide +kernel
theorem dX9_book_30 : decode cX9_book 30 = .ok (.aload_n 0, 1) := by decide +kernel
theorem dX9_book_31 : decode cX9_book 31 = .ok (.getfield 10, 3) := by decide +kernel
theorem dX9_book_34 : decode cX9_book 34 = .ok (.iload_n 1, 1) := by decide +kernel
theorem dX9_book_35 : decode cX9_book 35 = .ok (.invokevirtual 132, 3) := by decide +kernel
theorem dX9_book_38 : decode cX9_book 38 = .ok (.aload_n 0, 1) := by decide +kernel
theorem dX9_book_39 : decode cX9_book 39 = .ok (.getfield 43, 3) := by decide +kernel
theorem dX9_book_42 : decode cX9_book 42 = .ok (.aload_n 0, 1) := by decide +kernel
theorem dX9_book_43 : decode cX9_book 43 = .ok (.getfield 10, 3) := by decide +kernel
theorem dX9_book_46 : decode cX9_book 46 = .ok (.invokevirtual 166, 3) := by decide +kernel
theorem dX9_book_49 : decode cX9_book 49 = .ok (.ifCond .ne 14, 3) := by decide +kernel
theorem dX9_book_52 : decode cX9_book 52 = .ok (.aload_n 0, 1) := by decide +kernel
theorem dX9_book_53 : decode cX9_book 53 = .ok (.getfield 10, 3) := by decide +kernel
theorem dX9_book_56 : decode cX9_book 56 = .ok (.getfield 139, 3) := by decide +kernel
theorem dX9_book_59 : decode cX9_book 59 = .ok (.bipush 10, 2) := by decide +kernel
theorem dX9_book_61 : decode cX9_book 61 = .ok (.isub, 1) := by decide +kernel
theorem dX9_book_62 : decode cX9_book 62 = .ok (.ireturn, 1) := by decide +kernel
theorem dX9_book_63 : decode cX9_book 63 = .ok (.aload_n 0, 1) := by decide +kernel
theorem dX9_book_64 : decode cX9_book 64 = .ok (.getfield 43, 3) := by decide +kernel
theorem dX9_book_67 : decode cX9_book 67 = .ok (.astore_n 2, 1) := by decide +kernel
theorem dX9_book_68 : decode cX9_book 68 = .ok (.aload_n 0, 1) := by decide +kernel
theorem dX9_book_69 : decode cX9_book 69 = .ok (.aload_n 0, 1) := by decide +kernel
theorem dX9_book_70 : decode cX9_book 70 = .ok (.getfield 39, 3) := by decide +kernel
theorem dX9_book_73 : decode cX9_book 73 = .ok (.putfield 43, 3) := by decide +kernel
theorem dX9_book_76 : decode cX9_book 76 = .ok (.aload_n 0, 1) := by decide +kernel
theorem dX9_book_77 : decode cX9_book 77 = .ok (.aload_n 2, 1) := by decide +kernel
theorem dX9_book_78 : decode cX9_book 78 = .ok (.putfield 39, 3) := by decide +kernel
theorem dX9_book_81 : decode cX9_book 81 = .ok (.aload_n 0, 1) := by decide +kernel
theorem dX9_book_82 : decode cX9_book 82 = .ok (.getfield 79, 3) := by decide +kernel
theorem dX9_book_85 : decode cX9_book 85 = .ok (.iconst 0, 1) := by decide +kernel
theorem dX9_book_86 : decode cX9_book 86 = .ok (.putfield 103, 3) := by decide +kernel
theorem dX9_book_89 : decode cX9_book 89 = .ok (.aload_n 0, 1) := by decide +kernel
theorem dX9_book_90 : decode cX9_book 90 = .ok (.getfield 39, 3) := by decide +kernel
theorem dX9_book_93 : decode cX9_book 93 = .ok (.getfield 167, 3) := by decide +kernel
theorem dX9_book_96 : decode cX9_book 96 = .ok (.ireturn, 1) := by decide +kernel
abbrev mt_X9_book : AxM := (RX9, cX9_book, 3, (some .int), false, [])
theorem L1_X9_book_27 {g : AxG} {l : Launch} (hl0 : l.stackTraces = false) {res : AxT Int32} (N : Nat)  (v0 : Nat) (v1 : Int32) (w0 : Int32) (w1 : Nat) (S : AxS) (h : F_X9_book_27 N  v0 v1 w0 w1 S = some res) : AW g l (axRm (9) (axCs (axOI res)) (6 * axCs (axOI res))) mt_X9_book (axMQ g (axCs (axOI res)) (6 * axCs (axOI res)) (axOI res)) 0 0 S 27 [(0, .ref v0), (1, .int v1)] [.int w0, .ref w1] := by
  unfold F_X9_book_27 at h
  obtain ⟨hL1, h⟩ := ax_is_spec h
  refine aw_thV (ob := axOI) (rest := []) (fun _ _ => rfl) rfl h (fun u9 hF hu => aw_runV (As := [.int w0]) (rest := []) (L1_X9_needArgument hl0 N hF) axc9 hL1 wd_604 wd_601 wd_603 wd_3 wd_87 pd_X9_needArgument rfl (ax_rm (by omega) rfl) (ax_hfV (fun _ _ => rfl) hu) (Nat.le_of_ble_eq_true rfl) rfl dX9_book_27) (fun T2 h => ?_)
  refine aw_aload_n 0 dX9_book_30 rfl rfl ?_
  refine aw_getR axc9 0 rfl rfl wd_453 dX9_book_31 h (fun a4 h => ?_)
  refine aw_iload_n 1 dX9_book_34 rfl rfl ?_
  obtain ⟨hL5, h⟩ := ax_is_spec h
  refine aw_doneV (rest := []) h (fun S9 hF => aw_runV (As := [.int v1]) (rest := []) (L1_X7_open N hF) axc7 hL5 wd_675 wd_672 wd_673 wd_674 wd_88 pd_X7_open rfl (ax_rm (by omega) rfl) ax_hf0 (Nat.le_of_ble_eq_true rfl) rfl dX9_book_35) (fun T6 h => ?_)
  refine aw_aload_n 0 dX9_book_38 rfl rfl ?_
  refine aw_getR axc9 6 rfl rfl wd_459 dX9_book_39 h (fun a8 h => ?_)
  refine aw_aload_n 0 dX9_book_42 rfl rfl ?_
  refine aw_getR axc9 0 rfl rfl wd_453 dX9_book_43 h (fun a9 h => ?_)
  obtain ⟨hL10, h⟩ := ax_is_spec h
  refine aw_doneI (rest := []) h (fun r9 S9 hF => aw_runV (As := [.ref a9]) (rest := []) (L1_X0_readFrom N hF) axc0 hL10 wd_938 wd_935 wd_936 wd_937 wd_91 pd_X0_readFrom rfl (ax_rm (by omega) rfl) ax_hf0 (Nat.le_of_ble_eq_true rfl) rfl dX9_book_46) (fun x12 T11 h => ?_)
  refine aw_if_ne 63 dX9_book_49 (by decide) h (fun h => ?_) (fun h => ?_)
  · refine aw_aload_n 0 dX9_book_63 rfl rfl ?_
    refine aw_getR axc9 6 rfl rfl wd_459 dX9_book_64 h (fun a13 h => ?_)
    refine aw_astore_n 2 [(2, .ref a13), (0, .ref v0), (1, .int v1)] dX9_book_67 rfl rfl rfl ?_
    refine aw_aload_n 1 dX9_book_68 rfl rfl ?_
    refine aw_aload_n 1 dX9_book_69 rfl rfl ?_
    refine aw_getR axc9 5 rfl rfl wd_458 dX9_book_70 h (fun a14 h => ?_)
    refine aw_putR axc9 6 rfl rfl wd_459 (Or.inl rfl) rfl rfl dX9_book_73 h (fun T15 h => ?_)
    refine aw_aload_n 1 dX9_book_76 rfl rfl ?_
    refine aw_aload_n 0 dX9_book_77 rfl rfl ?_
    refine aw_putR axc9 5 rfl rfl wd_458 (Or.inl rfl) rfl rfl dX9_book_78 h (fun T16 h => ?_)
    refine aw_aload_n 1 dX9_book_81 rfl rfl ?_
    refine aw_getR axc9 16 rfl rfl wd_469 dX9_book_82 h (fun a17 h => ?_)
    refine aw_iconst 0 dX9_book_85 rfl ?_
    refine aw_putI axc2 0 rfl rfl wd_376 rfl rfl rfl dX9_book_86 h (fun T18 h => ?_)
    refine aw_aload_n 1 dX9_book_89 rfl rfl ?_
    refine aw_getR axc9 5 rfl rfl wd_458 dX9_book_90 h (fun a19 h => ?_)
    refine aw_getI axc0 1 rfl rfl wd_251 dX9_book_93 h (fun x20 h => ?_)
    exact aw_iretT dX9_book_96 rfl h
  · refine aw_aload_n 0 dX9_book_52 rfl rfl ?_
    refine aw_getR axc9 0 rfl rfl wd_453 dX9_book_53 h (fun a21 h => ?_)
    refine aw_getI axc7 4 rfl rfl wd_133 dX9_book_56 h (fun x22 h => ?_)
    refine aw_bipush 10 dX9_book_59 (by decide) ?_
    refine aw_isub dX9_book_61 ?_
    exact aw_iretT dX9_book_62 rfl h
theorem L1_X9_book_26 {g : AxG} {l : Launch} (hl0 : l.stackTraces = false) {res : AxT Int32} (N : Nat)  (v0 : Nat) (v1 : Int32) (w0 : Nat) (S : AxS) (h : F_X9_book_26 N  v0 v1 w0 S = some res) : AW g l (axRm (9) (axCs (axOI res)) (6 * axCs (axOI res))) mt_X9_book (axMQ g (axCs (axOI res)) (6 * axCs (axOI res)) (axOI res)) 0 0 S 26 [(0, .ref v0), (1, .int v1)] [.ref w0] := by
  unfold F_X9_book_26 at h
  refine aw_iconst 0 dX9_book_26 rfl ?_
  refine aw_env [(0, .ref v0), (1, .int v1)] [0, 1] rfl ?_
  exact L1_X9_book_27 hl0 N  v0 v1 0 w0 S h
theorem L1_X9_book {g : AxG} {l : Launch} (hl0 : l.stackTraces = false) (N : Nat) {v0 : Nat} {v1 : Int32} {S : AxS} {res : AxT Int32} (h : F_X9_book N v0 v1 S = some res) : AxMet g l yX9_book cX9_book 3 (some .int) (9) (axCs (axOI res)) (6 * axCs (axOI res)) [.ref v0, .int v1] S (axOI res) := by
  refine ax_met (own := RX9) (ini := false) (by decide +kernel) rfl (fun h => nomatch h) rfl ?_
  show AW g l (axRm (9) (axCs (axOI res)) (6 * axCs (axOI res))) mt_X9_book (axMQ g (axCs (axOI res)) (6 * axCs (axOI res)) (axOI res)) 0 0 S 0 [(0, .ref v0), (1, .int v1)] []
  unfold F_X9_book at h
  refine aw_aload_n 0 dX9_book_0 rfl rfl ?_
  refine aw_iload_n 1 dX9_book_1 rfl rfl ?_
  refine aw_if_lt 26 dX9_book_2 (by decide) h (fun h => ?_) (fun h => ?_)
  · refine aw_env [(0, .ref v0), (1, .int v1)] [0, 1] rfl ?_
    exact L1_X9_book_26 hl0 N  v0 v1 v0 S h
  · refine aw_iload_n 1 dX9_book_5 rfl rfl ?_
    refine aw_bipush 100 dX9_book_6 (by decide) ?_
    refine aw_icmp_gt 26 dX9_book_8 (by decide) h (fun h => ?_) (fun h => ?_)
    · refine aw_env [(0, .ref v0), (1, .int v1)] [0, 1] rfl ?_
      exact L1_X9_book_26 hl0 N  v0 v1 v0 S h
    · refine aw_iload_n 1 dX9_book_11 rfl rfl ?_
      refine aw_aload_n 0 dX9_book_12 rfl rfl ?_
      refine aw_getR axc9 0 rfl rfl wd_453 dX9_book_13 h (fun a1 h => ?_)
      refine aw_getI axc7 1 rfl rfl wd_125 dX9_book_16 h (fun x2 h => ?_)
      refine aw_icmp_gt 26 dX9_book_19 (by decide) h (fun h => ?_) (fun h => ?_)
      · refine aw_env [(0, .ref v0), (1, .int v1)] [0, 1] rfl ?_
        exact L1_X9_book_26 hl0 N  v0 v1 v0 S h
      · refine aw_iconst 1 dX9_book_22 rfl ?_
        refine aw_goto 27 dX9_book_23 (by decide) ?_
        refine aw_env [(0, .ref v0), (1, .int v1)] [0, 1] rfl ?_
        exact L1_X9_book_27 hl0 N  v0 v1 1 v0 S h

theorem dX9_fault_0 : decode cX9_fault 0 = .ok (.aload_n 0, 1) := by decide +kernel
theorem dX9_fault_1 : decode cX9_fault 1 = .ok (.getfield 10, 3) := by decide +kernel
theorem dX9_fault_4 : decode cX9_fault 4 = .ok (.getfield 168, 3) := by decide +kernel
theorem dX9_fault_7 : decode cX9_fault 7 = .ok (.ireturn, 1) := by decide +kernel
abbrev mt_X9_fault : AxM := (RX9, cX9_fault, 1, (some .int), false, [])
theorem L1_X9_fault {g : AxG} {l : Launch} (N : Nat) {v0 : Nat} {S : AxS} {r9 : Int32} {S9 : AxS} (h : F_X9_fault N v0 S = some ((r9, S9))) : AxMet g l yX9_fault cX9_fault 1 (some .int) (0) 0 0 [.ref v0] S ((.inl (some (.int r9)), S9)) := by
  refine ax_met (own := RX9) (ini := false) (by decide +kernel) rfl (fun h => nomatch h) rfl ?_
  show AW g l (axRm (0) 0 0) mt_X9_fault (axMQ g 0 0 (.inl (some (.int r9)), S9)) 0 0 S 0 [(0, .ref v0)] []
  unfold F_X9_fault at h
  refine aw_aload_n 0 dX9_fault_0 rfl rfl ?_
  refine aw_getR axc9 0 rfl rfl wd_453 dX9_fault_1 h (fun a1 h => ?_)
  refine aw_getI axc7 5 rfl rfl wd_136 dX9_fault_4 h (fun x2 h => ?_)
  exact aw_iret dX9_fault_7 rfl (Nat.le_refl _) (Nat.le_refl _) h

theorem dX9_undo_0 : decode cX9_undo 0 = .ok (.aload_n 0, 1) := by decide +kernel
theorem dX9_undo_1 : decode cX9_undo 1 = .ok (.getfield 66, 3) := by decide +kernel
theorem dX9_undo_4 : decode cX9_undo 4 = .ok (.getfield 111, 3) := by decide +kernel
theorem dX9_undo_7 : decode cX9_undo 7 = .ok (.ifCond .gt 5, 3) := by decide +kernel
theorem dX9_undo_10 : decode cX9_undo 10 = .ok (.iconst (-1), 1) := by decide +kernel
theorem dX9_undo_11 : decode cX9_undo 11 = .ok (.ireturn, 1) := by decide +kernel
theorem dX9_undo_12 : decode cX9_undo 12 = .ok (.aload_n 0, 1) := by decide +kernel
theorem dX9_undo_13 : decode cX9_undo 13 = .ok (.getfield 66, 3) := by decide +kernel
theorem dX9_undo_16 : decode cX9_undo 16 = .ok (.aload_n 0, 1) := by decide +kernel
theorem dX9_undo_17 : decode cX9_undo 17 = .ok (.getfield 56, 3) := by decide +kernel
theorem dX9_undo_20 : decode cX9_undo 20 = .ok (.invokevirtual 171, 3) := by decide +kernel
theorem dX9_undo_23 : decode cX9_undo 23 = .ok (.aload_n 0, 1) := by decide +kernel
theorem dX9_undo_24 : decode cX9_undo 24 = .ok (.iconst 0, 1) := by decide +kernel
theorem dX9_undo_25 : decode cX9_undo 25 = .ok (.putfield 118, 3) := by decide +kernel
theorem dX9_undo_28 : decode cX9_undo 28 = .ok (.aload_n 0, 1) := by decide +kernel
theorem dX9_undo_29 : decode cX9_undo 29 = .ok (.getfield 66, 3) := by decide +kernel
theorem dX9_undo_32 : decode cX9_undo 32 = .ok (.getfield 111, 3) := by decide +kernel
theorem dX9_undo_35 : decode cX9_undo 35 = .ok (.ireturn, 1) := by decide +kernel
abbrev mt_X9_undo : AxM := (RX9, cX9_undo, 1, (some .int), false, [])
theorem L1_X9_undo {g : AxG} {l : Launch} (N : Nat) {v0 : Nat} {S : AxS} {r9 : Int32} {S9 : AxS} (h : F_X9_undo N v0 S = some ((r9, S9))) : AxMet g l yX9_undo cX9_undo 1 (some .int) (3) 0 0 [.ref v0] S ((.inl (some (.int r9)), S9)) := by
  refine ax_met (own := RX9) (ini := false) (by decide +kernel) rfl (fun h => nomatch h) rfl ?_
  show AW g l (axRm (3) 0 0) mt_X9_undo (axMQ g 0 0 (.inl (some (.int r9)), S9)) 0 0 S 0 [(0, .ref v0)] []
  unfold F_X9_undo at h
  refine aw_aload_n 0 dX9_undo_0 rfl rfl ?_
  refine aw_getR axc9 10 rfl rfl wd_463 dX9_undo_1 h (fun a1 h => ?_)
  refine aw_getI axc8 1 rfl rfl wd_360 dX9_undo_4 h (fun x2 h => ?_)
  refine aw_if_gt 12 dX9_undo_7 (by decide) h (fun h => ?_) (fun h => ?_)
  · refine aw_aload_n 0 dX9_undo_12 rfl rfl ?_
    refine aw_getR axc9 10 rfl rfl wd_463 dX9_undo_13 h (fun a3 h => ?_)
    refine aw_aload_n 0 dX9_undo_16 rfl rfl ?_
    refine aw_getR axc9 8 rfl rfl wd_461 dX9_undo_17 h (fun a4 h => ?_)
    obtain ⟨hL5, h⟩ := ax_is_spec h
    refine aw_doneV (rest := []) h (fun S9 hF => aw_runV (As := [.ref a4]) (rest := []) (L1_X8_pop N hF) axc8 hL5 wd_534 wd_531 wd_532 wd_533 wd_94 pd_X8_pop rfl (ax_rm (by omega) rfl) ax_hf0 (Nat.le_of_ble_eq_true rfl) rfl dX9_undo_20) (fun T6 h => ?_)
    refine aw_aload_n 0 dX9_undo_23 rfl rfl ?_
    refine aw_iconst 0 dX9_undo_24 rfl ?_
    refine aw_putI axc9 13 rfl rfl wd_466 rfl rfl rfl dX9_undo_25 h (fun T8 h => ?_)
    refine aw_aload_n 0 dX9_undo_28 rfl rfl ?_
    refine aw_getR axc9 10 rfl rfl wd_463 dX9_undo_29 h (fun a9 h => ?_)
    refine aw_getI axc8 1 rfl rfl wd_360 dX9_undo_32 h (fun x10 h => ?_)
    exact aw_iret dX9_undo_35 rfl (Nat.le_refl _) (Nat.le_refl _) h
  · refine aw_iconst (-1) dX9_undo_10 rfl ?_
    exact aw_iret dX9_undo_11 rfl (Nat.le_refl _) (Nat.le_refl _) h

theorem dX9_told_0 : decode cX9_told 0 = .ok (.aload_n 0, 1) := by decide +kernel
theorem dX9_told_1 : decode cX9_told 1 = .ok (.iload_n 1, 1) := by decide +kernel
theorem dX9_told_2 : decode cX9_told 2 = .ok (.ifCond .lt 13, 3) := by decide +kernel
theorem dX9_told_5 : decode cX9_told 5 = .ok (.iload_n 1, 1) := by decide +kernel
theorem dX9_told_6 : decode cX9_told 6 = .ok (.bipush 12, 2) := by decide +kernel
theorem dX9_told_8 : decode cX9_told 8 = .ok (.if_icmp .gt 7, 3) := by decide +kernel
theorem dX9_told_11 : decode cX9_told 11 = .ok (.iconst 1, 1) := by decide +kernel
theorem dX9_told_12 : decode cX9_told 12 = .ok (.goto 4, 3) := by decide +kernel
theorem dX9_told_15 : decode cX9_told 15 = .ok (.iconst 0, 1) := by decide +kernel
theorem dX9_told_16 : decode cX9_told 16 = .ok (.invokevirtual 128, 3) := by decide +kernel
theorem dX9_told_19 : decode cX9_told 19 = .ok (.iload_n 1, 1) := by decide +kernel
theorem dX9_told_20 : decode cX9_told 20 = .ok (.tableswitch 157 0 11 #[64, 72, 80, 88, 96, 104, 112, 120, 128, 136, 144, 152], 64) := by decide +kernel
theorem dX9_told_84 : decode cX9_told 84 = .ok (.aload_n 0, 1) := by decide +kernel
theorem dX9_told_85 : decode cX9_told 85 = .ok (.getfield 56, 3) := by decide +kernel
theorem dX9_told_88 : decode cX9_told 88 = .ok (.getfield 174, 3) := by decide +kernel
theorem dX9_told_91 : decode cX9_told 91 = .ok (.ireturn, 1) := by decide +kernel
theorem dX9_told_92 : decode cX9_told 92 = .ok (.aload_n 0, 1) := by decide +kernel
theorem dX9_told_93 : decode cX9_told 93 = .ok (.getfield 56, 3) := by decide +kernel
theorem dX9_told_96 : decode cX9_told 96 = .ok (.getfield 177, 3) := by decide +kernel
theorem dX9_told_99 : decode cX9_told 99 = .ok (.ireturn, 1) := by decide +kernel
theorem dX9_told_100 : decode cX9_told 100 = .ok (.aload_n 0, 1) := by decide +kernel
theorem dX9_told_101 : decode cX9_told 101 = .ok (.getfield 56, 3) := by decide +kernel
theorem dX9_told_104 : decode cX9_told 104 = .ok (.getfield 180, 3) := by decide +kernel
theorem dX9_told_107 : decode cX9_told 107 = .ok (.ireturn, 1) := by decide +kernel
theorem dX9_told_108 : decode cX9_told 108 = .ok (.aload_n 0, 1) := by decide +kernel
theorem dX9_told_109 : decode cX9_told 109 = .ok (.getfield 56, 3) := by decide +kernel
theorem dX9_told_112 : decode cX9_told 112 = .ok (.getfield 183, 3) := by decide +kernel
theorem dX9_told_115 : decode cX9_told 115 = .ok (.ireturn, 1) := by decide +kernel
theorem dX9_told_116 : decode cX9_told 116 = .ok (.aload_n 0, 1) := by decide +kernel
theorem dX9_told_117 : decode cX9_told 117 = .ok (.getfield 56, 3) := by decide +kernel
theorem dX9_told_120 : decode cX9_told 120 = .ok (.getfield 186, 3) := by decide +kernel
theorem dX9_told_123 : decode cX9_told 123 = .ok (.ireturn, 1) := by decide +kernel
theorem dX9_told_124 : decode cX9_told 124 = .ok (.aload_n 0, 1) := by decide +kernel
theorem dX9_told_125 : decode cX9_told 125 = .ok (.getfield 56, 3) := by decide +kernel
theorem dX9_told_128 : decode cX9_told 128 = .ok (.getfield 189, 3) := by decide +kernel
theorem dX9_told_131 : decode cX9_told 131 = .ok (.ireturn, 1) := by decide +kernel
theorem dX9_told_132 : decode cX9_told 132 = .ok (.aload_n 0, 1) := by decide +kernel
theorem dX9_told_133 : decode cX9_told 133 = .ok (.getfield 56, 3) := by decide +kernel
theorem dX9_told_136 : decode cX9_told 136 = .ok (.getfield 192, 3) := by decide +kernel
theorem dX9_told_139 : decode cX9_told 139 = .ok (.ireturn, 1) := by decide +kernel
theorem dX9_told_140 : decode cX9_told 140 = .ok (.aload_n 0, 1) := by decide +kernel
theorem dX9_told_141 : decode cX9_told 141 = .ok (.getfield 56, 3) := by decide +kernel
theorem dX9_told_144 : decode cX9_told 144 = .ok (.getfield 195, 3) := by decide +kernel
theorem dX9_told_147 : decode cX9_told 147 = .ok (.ireturn, 1) := by decide +kernel
theorem dX9_told_148 : decode cX9_told 148 = .ok (.aload_n 0, 1) := by decide +kernel
theorem dX9_told_149 : decode cX9_told 149 = .ok (.getfield 56, 3) := by decide +kernel
theorem dX9_told_152 : decode cX9_told 152 = .ok (.getfield 198, 3) := by decide +kernel
theorem dX9_told_155 : decode cX9_told 155 = .ok (.ireturn, 1) := by decide +kernel
theorem dX9_told_156 : decode cX9_told 156 = .ok (.aload_n 0, 1) := by decide +kernel
theorem dX9_told_157 : decode cX9_told 157 = .ok (.getfield 56, 3) := by decide +kernel
theorem dX9_told_160 : decode cX9_told 160 = .ok (.getfield 201, 3) := by decide +kernel
theorem dX9_told_163 : decode cX9_told 163 = .ok (.ireturn, 1) := by decide +kernel
theorem dX9_told_164 : decode cX9_told 164 = .ok (.aload_n 0, 1) := by decide +kernel
theorem dX9_told_165 : decode cX9_told 165 = .ok (.getfield 39, 3) := by decide +kernel
theorem dX9_told_168 : decode cX9_told 168 = .ok (.getfield 167, 3) := by decide +kernel
theorem dX9_told_171 : decode cX9_told 171 = .ok (.ireturn, 1) := by decide +kernel
theorem dX9_told_172 : decode cX9_told 172 = .ok (.aload_n 0, 1) := by decide +kernel
theorem dX9_told_173 : decode cX9_told 173 = .ok (.getfield 118, 3) := by decide +kernel
theorem dX9_told_176 : decode cX9_told 176 = .ok (.ireturn, 1) := by decide +kernel
theorem dX9_told_177 : decode cX9_told 177 = .ok (.aload_n 0, 1) := by decide +kernel
theorem dX9_told_178 : decode cX9_told 178 = .ok (.getfield 56, 3) := by decide +kernel
theorem dX9_told_181 : decode cX9_told 181 = .ok (.getfield 204, 3) := by decide +kernel
theorem dX9_told_184 : decode cX9_told 184 = .ok (.ireturn, 1) := by decide +kernel
abbrev mt_X9_told : AxM := (RX9, cX9_told, 2, (some .int), false, [])
theorem L1_X9_told_16 {g : AxG} {l : Launch} (hl0 : l.stackTraces = false) {res : AxT Int32} (N : Nat)  (v0 : Nat) (v1 : Int32) (w0 : Int32) (w1 : Nat) (S : AxS) (h : F_X9_told_16 N  v0 v1 w0 w1 S = some res) : AW g l (axRm (9) (axCs (axOI res)) (6 * axCs (axOI res))) mt_X9_told (axMQ g (axCs (axOI res)) (6 * axCs (axOI res)) (axOI res)) 0 0 S 16 [(0, .ref v0), (1, .int v1)] [.int w0, .ref w1] := by
  unfold F_X9_told_16 at h
  obtain ⟨hL1, h⟩ := ax_is_spec h
  refine aw_thV (ob := axOI) (rest := []) (fun _ _ => rfl) rfl h (fun u9 hF hu => aw_runV (As := [.int w0]) (rest := []) (L1_X9_needArgument hl0 N hF) axc9 hL1 wd_604 wd_601 wd_603 wd_3 wd_87 pd_X9_needArgument rfl (ax_rm (by omega) rfl) (ax_hfV (fun _ _ => rfl) hu) (Nat.le_of_ble_eq_true rfl) rfl dX9_told_16) (fun T2 h => ?_)
  refine aw_iload_n 1 dX9_told_19 rfl rfl ?_
  refine aw_case 0 h (fun h => ?_) (fun c6 h => ?_)
  · refine aw_tswIn 84 (off := 64) dX9_told_20 (by decide) (by decide) (by decide) (by decide) ?_
    refine aw_aload_n 0 dX9_told_84 rfl rfl ?_
    refine aw_getR axc9 8 rfl rfl wd_461 dX9_told_85 h (fun a4 h => ?_)
    refine aw_getI axc5 0 rfl rfl wd_293 dX9_told_88 h (fun x5 h => ?_)
    exact aw_iretT dX9_told_91 rfl h
  refine aw_case 1 h (fun h => ?_) (fun c9 h => ?_)
  · refine aw_tswIn 92 (off := 72) dX9_told_20 (by decide) (by decide) (by decide) (by decide) ?_
    refine aw_aload_n 0 dX9_told_92 rfl rfl ?_
    refine aw_getR axc9 8 rfl rfl wd_461 dX9_told_93 h (fun a7 h => ?_)
    refine aw_getI axc5 1 rfl rfl wd_295 dX9_told_96 h (fun x8 h => ?_)
    exact aw_iretT dX9_told_99 rfl h
  refine aw_case 2 h (fun h => ?_) (fun c12 h => ?_)
  · refine aw_tswIn 100 (off := 80) dX9_told_20 (by decide) (by decide) (by decide) (by decide) ?_
    refine aw_aload_n 0 dX9_told_100 rfl rfl ?_
    refine aw_getR axc9 8 rfl rfl wd_461 dX9_told_101 h (fun a10 h => ?_)
    refine aw_getI axc5 2 rfl rfl wd_297 dX9_told_104 h (fun x11 h => ?_)
    exact aw_iretT dX9_told_107 rfl h
  refine aw_case 3 h (fun h => ?_) (fun c15 h => ?_)
  · refine aw_tswIn 108 (off := 88) dX9_told_20 (by decide) (by decide) (by decide) (by decide) ?_
    refine aw_aload_n 0 dX9_told_108 rfl rfl ?_
    refine aw_getR axc9 8 rfl rfl wd_461 dX9_told_109 h (fun a13 h => ?_)
    refine aw_getI axc5 3 rfl rfl wd_299 dX9_told_112 h (fun x14 h => ?_)
    exact aw_iretT dX9_told_115 rfl h
  refine aw_case 4 h (fun h => ?_) (fun c18 h => ?_)
  · refine aw_tswIn 116 (off := 96) dX9_told_20 (by decide) (by decide) (by decide) (by decide) ?_
    refine aw_aload_n 0 dX9_told_116 rfl rfl ?_
    refine aw_getR axc9 8 rfl rfl wd_461 dX9_told_117 h (fun a16 h => ?_)
    refine aw_getI axc5 4 rfl rfl wd_301 dX9_told_120 h (fun x17 h => ?_)
    exact aw_iretT dX9_told_123 rfl h
  refine aw_case 5 h (fun h => ?_) (fun c21 h => ?_)
  · refine aw_tswIn 124 (off := 104) dX9_told_20 (by decide) (by decide) (by decide) (by decide) ?_
    refine aw_aload_n 0 dX9_told_124 rfl rfl ?_
    refine aw_getR axc9 8 rfl rfl wd_461 dX9_told_125 h (fun a19 h => ?_)
    refine aw_getI axc5 5 rfl rfl wd_303 dX9_told_128 h (fun x20 h => ?_)
    exact aw_iretT dX9_told_131 rfl h
  refine aw_case 6 h (fun h => ?_) (fun c24 h => ?_)
  · refine aw_tswIn 132 (off := 112) dX9_told_20 (by decide) (by decide) (by decide) (by decide) ?_
    refine aw_aload_n 0 dX9_told_132 rfl rfl ?_
    refine aw_getR axc9 8 rfl rfl wd_461 dX9_told_133 h (fun a22 h => ?_)
    refine aw_getI axc5 6 rfl rfl wd_305 dX9_told_136 h (fun x23 h => ?_)
    exact aw_iretT dX9_told_139 rfl h
  refine aw_case 7 h (fun h => ?_) (fun c27 h => ?_)
  · refine aw_tswIn 140 (off := 120) dX9_told_20 (by decide) (by decide) (by decide) (by decide) ?_
    refine aw_aload_n 0 dX9_told_140 rfl rfl ?_
    refine aw_getR axc9 8 rfl rfl wd_461 dX9_told_141 h (fun a25 h => ?_)
    refine aw_getI axc5 7 rfl rfl wd_307 dX9_told_144 h (fun x26 h => ?_)
    exact aw_iretT dX9_told_147 rfl h
  refine aw_case 8 h (fun h => ?_) (fun c30 h => ?_)
  · refine aw_tswIn 148 (off := 128) dX9_told_20 (by decide) (by decide) (by decide) (by decide) ?_
    refine aw_aload_n 0 dX9_told_148 rfl rfl ?_
    refine aw_getR axc9 8 rfl rfl wd_461 dX9_told_149 h (fun a28 h => ?_)
    refine aw_getI axc5 10 rfl rfl wd_313 dX9_told_152 h (fun x29 h => ?_)
    exact aw_iretT dX9_told_155 rfl h
  refine aw_case 9 h (fun h => ?_) (fun c33 h => ?_)
  · refine aw_tswIn 156 (off := 136) dX9_told_20 (by decide) (by decide) (by decide) (by decide) ?_
    refine aw_aload_n 0 dX9_told_156 rfl rfl ?_
    refine aw_getR axc9 8 rfl rfl wd_461 dX9_told_157 h (fun a31 h => ?_)
    refine aw_getI axc5 11 rfl rfl wd_315 dX9_told_160 h (fun x32 h => ?_)
    exact aw_iretT dX9_told_163 rfl h
  refine aw_case 10 h (fun h => ?_) (fun c36 h => ?_)
  · refine aw_tswIn 164 (off := 144) dX9_told_20 (by decide) (by decide) (by decide) (by decide) ?_
    refine aw_aload_n 0 dX9_told_164 rfl rfl ?_
    refine aw_getR axc9 5 rfl rfl wd_458 dX9_told_165 h (fun a34 h => ?_)
    refine aw_getI axc0 1 rfl rfl wd_251 dX9_told_168 h (fun x35 h => ?_)
    exact aw_iretT dX9_told_171 rfl h
  refine aw_case 11 h (fun h => ?_) (fun c38 h => ?_)
  · refine aw_tswIn 172 (off := 152) dX9_told_20 (by decide) (by decide) (by decide) (by decide) ?_
    refine aw_aload_n 0 dX9_told_172 rfl rfl ?_
    refine aw_getI axc9 13 rfl rfl wd_466 dX9_told_173 h (fun x37 h => ?_)
    exact aw_iretT dX9_told_176 rfl h
  refine aw_tswOut 177 dX9_told_20 (by have q0 := ax_i32ne c6 (v := 0) (i := 0) (by decide); have q1 := ax_i32ne c9 (v := 1) (i := 1) (by decide); have q2 := ax_i32ne c12 (v := 2) (i := 2) (by decide); have q3 := ax_i32ne c15 (v := 3) (i := 3) (by decide); have q4 := ax_i32ne c18 (v := 4) (i := 4) (by decide); have q5 := ax_i32ne c21 (v := 5) (i := 5) (by decide); have q6 := ax_i32ne c24 (v := 6) (i := 6) (by decide); have q7 := ax_i32ne c27 (v := 7) (i := 7) (by decide); have q8 := ax_i32ne c30 (v := 8) (i := 8) (by decide); have q9 := ax_i32ne c33 (v := 9) (i := 9) (by decide); have q10 := ax_i32ne c36 (v := 10) (i := 10) (by decide); have q11 := ax_i32ne c38 (v := 11) (i := 11) (by decide); omega) (by decide) ?_
  refine aw_aload_n 0 dX9_told_177 rfl rfl ?_
  refine aw_getR axc9 8 rfl rfl wd_461 dX9_told_178 h (fun a39 h => ?_)
  refine aw_getI axc5 8 rfl rfl wd_309 dX9_told_181 h (fun x40 h => ?_)
  exact aw_iretT dX9_told_184 rfl h
theorem L1_X9_told_15 {g : AxG} {l : Launch} (hl0 : l.stackTraces = false) {res : AxT Int32} (N : Nat)  (v0 : Nat) (v1 : Int32) (w0 : Nat) (S : AxS) (h : F_X9_told_15 N  v0 v1 w0 S = some res) : AW g l (axRm (9) (axCs (axOI res)) (6 * axCs (axOI res))) mt_X9_told (axMQ g (axCs (axOI res)) (6 * axCs (axOI res)) (axOI res)) 0 0 S 15 [(0, .ref v0), (1, .int v1)] [.ref w0] := by
  unfold F_X9_told_15 at h
  refine aw_iconst 0 dX9_told_15 rfl ?_
  refine aw_env [(0, .ref v0), (1, .int v1)] [0, 1] rfl ?_
  exact L1_X9_told_16 hl0 N  v0 v1 0 w0 S h
theorem L1_X9_told {g : AxG} {l : Launch} (hl0 : l.stackTraces = false) (N : Nat) {v0 : Nat} {v1 : Int32} {S : AxS} {res : AxT Int32} (h : F_X9_told N v0 v1 S = some res) : AxMet g l yX9_told cX9_told 2 (some .int) (9) (axCs (axOI res)) (6 * axCs (axOI res)) [.ref v0, .int v1] S (axOI res) := by
  refine ax_met (own := RX9) (ini := false) (by decide +kernel) rfl (fun h => nomatch h) rfl ?_
  show AW g l (axRm (9) (axCs (axOI res)) (6 * axCs (axOI res))) mt_X9_told (axMQ g (axCs (axOI res)) (6 * axCs (axOI res)) (axOI res)) 0 0 S 0 [(0, .ref v0), (1, .int v1)] []
  unfold F_X9_told at h
  refine aw_aload_n 0 dX9_told_0 rfl rfl ?_
  refine aw_iload_n 1 dX9_told_1 rfl rfl ?_
  refine aw_if_lt 15 dX9_told_2 (by decide) h (fun h => ?_) (fun h => ?_)
  · refine aw_env [(0, .ref v0), (1, .int v1)] [0, 1] rfl ?_
    exact L1_X9_told_15 hl0 N  v0 v1 v0 S h
  · refine aw_iload_n 1 dX9_told_5 rfl rfl ?_
    refine aw_bipush 12 dX9_told_6 (by decide) ?_
    refine aw_icmp_gt 15 dX9_told_8 (by decide) h (fun h => ?_) (fun h => ?_)
    · refine aw_env [(0, .ref v0), (1, .int v1)] [0, 1] rfl ?_
      exact L1_X9_told_15 hl0 N  v0 v1 v0 S h
    · refine aw_iconst 1 dX9_told_11 rfl ?_
      refine aw_goto 16 dX9_told_12 (by decide) ?_
      refine aw_env [(0, .ref v0), (1, .int v1)] [0, 1] rfl ?_
      exact L1_X9_told_16 hl0 N  v0 v1 1 v0 S h

theorem dX9_many_0 : decode cX9_many 0 = .ok (.aload_n 0, 1) := by decide +kernel
theorem dX9_many_1 : decode cX9_many 1 = .ok (.iload_n 1, 1) := by decide +kernel
theorem dX9_many_2 : decode cX9_many 2 = .ok (.ifCond .lt 12, 3) := by decide +kernel
theorem dX9_many_5 : decode cX9_many 5 = .ok (.iload_n 1, 1) := by decide +kernel
theorem dX9_many_6 : decode cX9_many 6 = .ok (.iconst 3, 1) := by decide +kernel
theorem dX9_many_7 : decode cX9_many 7 = .ok (.if_icmp .gt 7, 3) := by decide +kernel
theorem dX9_many_10 : decode cX9_many 10 = .ok (.iconst 1, 1) := by decide +kernel
theorem dX9_many_11 : decode cX9_many 11 = .ok (.goto 4, 3) := by decide +kernel
theorem dX9_many_14 : decode cX9_many 14 = .ok (.iconst 0, 1) := by decide +kernel
theorem dX9_many_15 : decode cX9_many 15 = .ok (.invokevirtual 128, 3) := by decide +kernel
theorem dX9_many_18 : decode cX9_many 18 = .ok (.iload_n 1, 1) := by decide +kernel
theorem dX9_many_19 : decode cX9_many 19 = .ok (.tableswitch 49 0 2 #[25, 33, 41], 25) := by decide +kernel
theorem dX9_many_44 : decode cX9_many 44 = .ok (.aload_n 0, 1) := by decide +kernel
theorem dX9_many_45 : decode cX9_many 45 = .ok (.getfield 19, 3) := by decide +kernel
theorem dX9_many_48 : decode cX9_many 48 = .ok (.getfield 207, 3) := by decide +kernel
theorem dX9_many_51 : decode cX9_many 51 = .ok (.ireturn, 1) := by decide +kernel
theorem dX9_many_52 : decode cX9_many 52 = .ok (.aload_n 0, 1) := by decide +kernel
theorem dX9_many_53 : decode cX9_many 53 = .ok (.getfield 19, 3) := by decide +kernel
theorem dX9_many_56 : decode cX9_many 56 = .ok (.getfield 210, 3) := by decide +kernel
theorem dX9_many_59 : decode cX9_many 59 = .ok (.ireturn, 1) := by decide +kernel
theorem dX9_many_60 : decode cX9_many 60 = .ok (.aload_n 0, 1) := by decide +kernel
theorem dX9_many_61 : decode cX9_many 61 = .ok (.getfield 19, 3) := by decide +kernel
theorem dX9_many_64 : decode cX9_many 64 = .ok (.getfield 142, 3) := by decide +kernel
theorem dX9_many_67 : decode cX9_many 67 = .ok (.ireturn, 1) := by decide +kernel
theorem dX9_many_68 : decode cX9_many 68 = .ok (.aload_n 0, 1) := by decide +kernel
theorem dX9_many_69 : decode cX9_many 69 = .ok (.getfield 19, 3) := by decide +kernel
theorem dX9_many_72 : decode cX9_many 72 = .ok (.getfield 213, 3) := by decide +kernel
theorem dX9_many_75 : decode cX9_many 75 = .ok (.ireturn, 1) := by decide +kernel
abbrev mt_X9_many : AxM := (RX9, cX9_many, 2, (some .int), false, [])
theorem L1_X9_many_15 {g : AxG} {l : Launch} (hl0 : l.stackTraces = false) {res : AxT Int32} (N : Nat)  (v0 : Nat) (v1 : Int32) (w0 : Int32) (w1 : Nat) (S : AxS) (h : F_X9_many_15 N  v0 v1 w0 w1 S = some res) : AW g l (axRm (9) (axCs (axOI res)) (6 * axCs (axOI res))) mt_X9_many (axMQ g (axCs (axOI res)) (6 * axCs (axOI res)) (axOI res)) 0 0 S 15 [(0, .ref v0), (1, .int v1)] [.int w0, .ref w1] := by
  unfold F_X9_many_15 at h
  obtain ⟨hL1, h⟩ := ax_is_spec h
  refine aw_thV (ob := axOI) (rest := []) (fun _ _ => rfl) rfl h (fun u9 hF hu => aw_runV (As := [.int w0]) (rest := []) (L1_X9_needArgument hl0 N hF) axc9 hL1 wd_604 wd_601 wd_603 wd_3 wd_87 pd_X9_needArgument rfl (ax_rm (by omega) rfl) (ax_hfV (fun _ _ => rfl) hu) (Nat.le_of_ble_eq_true rfl) rfl dX9_many_15) (fun T2 h => ?_)
  refine aw_iload_n 1 dX9_many_18 rfl rfl ?_
  refine aw_case 0 h (fun h => ?_) (fun c6 h => ?_)
  · refine aw_tswIn 44 (off := 25) dX9_many_19 (by decide) (by decide) (by decide) (by decide) ?_
    refine aw_aload_n 0 dX9_many_44 rfl rfl ?_
    refine aw_getR axc9 1 rfl rfl wd_454 dX9_many_45 h (fun a4 h => ?_)
    refine aw_getI axc1 3 rfl rfl wd_179 dX9_many_48 h (fun x5 h => ?_)
    exact aw_iretT dX9_many_51 rfl h
  refine aw_case 1 h (fun h => ?_) (fun c9 h => ?_)
  · refine aw_tswIn 52 (off := 33) dX9_many_19 (by decide) (by decide) (by decide) (by decide) ?_
    refine aw_aload_n 0 dX9_many_52 rfl rfl ?_
    refine aw_getR axc9 1 rfl rfl wd_454 dX9_many_53 h (fun a7 h => ?_)
    refine aw_getI axc1 4 rfl rfl wd_181 dX9_many_56 h (fun x8 h => ?_)
    exact aw_iretT dX9_many_59 rfl h
  refine aw_case 2 h (fun h => ?_) (fun c12 h => ?_)
  · refine aw_tswIn 60 (off := 41) dX9_many_19 (by decide) (by decide) (by decide) (by decide) ?_
    refine aw_aload_n 0 dX9_many_60 rfl rfl ?_
    refine aw_getR axc9 1 rfl rfl wd_454 dX9_many_61 h (fun a10 h => ?_)
    refine aw_getI axc1 5 rfl rfl wd_183 dX9_many_64 h (fun x11 h => ?_)
    exact aw_iretT dX9_many_67 rfl h
  refine aw_tswOut 68 dX9_many_19 (by have q0 := ax_i32ne c6 (v := 0) (i := 0) (by decide); have q1 := ax_i32ne c9 (v := 1) (i := 1) (by decide); have q2 := ax_i32ne c12 (v := 2) (i := 2) (by decide); omega) (by decide) ?_
  refine aw_aload_n 0 dX9_many_68 rfl rfl ?_
  refine aw_getR axc9 1 rfl rfl wd_454 dX9_many_69 h (fun a13 h => ?_)
  refine aw_getI axc1 6 rfl rfl wd_186 dX9_many_72 h (fun x14 h => ?_)
  exact aw_iretT dX9_many_75 rfl h
theorem L1_X9_many_14 {g : AxG} {l : Launch} (hl0 : l.stackTraces = false) {res : AxT Int32} (N : Nat)  (v0 : Nat) (v1 : Int32) (w0 : Nat) (S : AxS) (h : F_X9_many_14 N  v0 v1 w0 S = some res) : AW g l (axRm (9) (axCs (axOI res)) (6 * axCs (axOI res))) mt_X9_many (axMQ g (axCs (axOI res)) (6 * axCs (axOI res)) (axOI res)) 0 0 S 14 [(0, .ref v0), (1, .int v1)] [.ref w0] := by
  unfold F_X9_many_14 at h
  refine aw_iconst 0 dX9_many_14 rfl ?_
  refine aw_env [(0, .ref v0), (1, .int v1)] [0, 1] rfl ?_
  exact L1_X9_many_15 hl0 N  v0 v1 0 w0 S h
theorem L1_X9_many {g : AxG} {l : Launch} (hl0 : l.stackTraces = false) (N : Nat) {v0 : Nat} {v1 : Int32} {S : AxS} {res : AxT Int32} (h : F_X9_many N v0 v1 S = some res) : AxMet g l yX9_many cX9_many 2 (some .int) (9) (axCs (axOI res)) (6 * axCs (axOI res)) [.ref v0, .int v1] S (axOI res) := by
  refine ax_met (own := RX9) (ini := false) (by decide +kernel) rfl (fun h => nomatch h) rfl ?_
  show AW g l (axRm (9) (axCs (axOI res)) (6 * axCs (axOI res))) mt_X9_many (axMQ g (axCs (axOI res)) (6 * axCs (axOI res)) (axOI res)) 0 0 S 0 [(0, .ref v0), (1, .int v1)] []
  unfold F_X9_many at h
  refine aw_aload_n 0 dX9_many_0 rfl rfl ?_
  refine aw_iload_n 1 dX9_many_1 rfl rfl ?_
  refine aw_if_lt 14 dX9_many_2 (by decide) h (fun h => ?_) (fun h => ?_)
  · refine aw_env [(0, .ref v0), (1, .int v1)] [0, 1] rfl ?_
    exact L1_X9_many_14 hl0 N  v0 v1 v0 S h
  · refine aw_iload_n 1 dX9_many_5 rfl rfl ?_
    refine aw_iconst 3 dX9_many_6 rfl ?_
    refine aw_icmp_gt 14 dX9_many_7 (by decide) h (fun h => ?_) (fun h => ?_)
    · refine aw_env [(0, .ref v0), (1, .int v1)] [0, 1] rfl ?_
      exact L1_X9_many_14 hl0 N  v0 v1 v0 S h
    · refine aw_iconst 1 dX9_many_10 rfl ?_
      refine aw_goto 15 dX9_many_11 (by decide) ?_
      refine aw_env [(0, .ref v0), (1, .int v1)] [0, 1] rfl ?_
      exact L1_X9_many_15 hl0 N  v0 v1 1 v0 S h

theorem dX9_needOne_0 : decode cX9_needOne 0 = .ok (.iload_n 1, 1) := by decide +kernel
theorem dX9_needOne_1 : decode cX9_needOne 1 = .ok (.ifCond .lt 8, 3) := by decide +kernel
theorem dX9_needOne_4 : decode cX9_needOne 4 = .ok (.iload_n 1, 1) := by decide +kernel
theorem dX9_needOne_5 : decode cX9_needOne 5 = .ok (.iload_n 2, 1) := by decide +kernel
theorem dX9_needOne_6 : decode cX9_needOne 6 = .ok (.if_icmp .lt 24, 3) := by decide +kernel
theorem dX9_needOne_9 : decode cX9_needOne 9 = .ok (.aload_n 0, 1) := by decide +kernel
theorem dX9_needOne_10 : decode cX9_needOne 10 = .ok (.dup, 1) := by decide +kernel
theorem dX9_needOne_11 : decode cX9_needOne 11 = .ok (.getfield 362, 3) := by decide +kernel
theorem dX9_needOne_14 : decode cX9_needOne 14 = .ok (.iconst 1, 1) := by decide +kernel
theorem dX9_needOne_15 : decode cX9_needOne 15 = .ok (.iadd, 1) := by decide +kernel
theorem dX9_needOne_16 : decode cX9_needOne 16 = .ok (.putfield 362, 3) := by decide +kernel
theorem dX9_needOne_19 : decode cX9_needOne 19 = .ok (.new 375, 3) := by decide +kernel
theorem dX9_needOne_22 : decode cX9_needOne 22 = .ok (.dup, 1) := by decide +kernel
theorem dX9_needOne_23 : decode cX9_needOne 23 = .ok (.ldc_w 377, 3) := by decide +kernel
theorem dX9_needOne_26 : decode cX9_needOne 26 = .ok (.invokespecial 379, 3) := by decide +kernel
theorem dX9_needOne_29 : decode cX9_needOne 29 = .ok (.athrow, 1) := by decide +kernel
theorem dX9_needOne_30 : decode cX9_needOne 30 = .ok (.return_, 1) := by decide +kernel
abbrev mt_X9_needOne : AxM := (RX9, cX9_needOne, 3, none, false, [])
theorem tk_X9_needOne : Cond.classLink RX9 375 "java/util/NoSuchElementException" ∈ ax_tbl := ax_in (i := 976) (by decide +kernel) rfl
theorem ti_X9_needOne : Cond.initialized "java/util/NoSuchElementException" ∈ ax_tbl := ax_in (i := 107) (by decide +kernel) rfl
theorem tf_X9_needOne : ∀ w ∈ ((nx_ws RX9 379 "java/util/NoSuchElementException" "java/lang/RuntimeException" 13 prog_27_method_4_code ["java/lang/Exception"]).filter vx_no).filter goodWord, w ∈ lw_tbl := by decide +kernel
theorem tg_X9_needOne : ∀ w ∈ ((nx_ws RX9 379 "java/util/NoSuchElementException" "java/lang/RuntimeException" 13 prog_27_method_4_code ["java/lang/Exception"]).filter vx_no).filter goodWord, w ∈ ax_tbl := fun w hw => List.mem_filter.mpr ⟨tf_X9_needOne w hw, (List.mem_filter.mp hw).2⟩
theorem tb_X9_needOne : ∀ w ∈ ((nx_ws RX9 379 "java/util/NoSuchElementException" "java/lang/RuntimeException" 13 prog_27_method_4_code ["java/lang/Exception"]).filter vx_no).filter (fun w => !goodWord w), w ∈ lw_tbl.filter ax_nw := by decide +kernel
theorem to_X9_needOne : ∀ w ∈ Cond.classLink RX9 375 "java/util/NoSuchElementException" :: Cond.initialized "java/util/NoSuchElementException" :: ((nx_ws RX9 379 "java/util/NoSuchElementException" "java/lang/RuntimeException" 13 prog_27_method_4_code ["java/lang/Exception"]).filter vx_no), vx_ot w = true := by decide +kernel
theorem aw_throwX9_needOne {g : AxG} {l : Launch} {S : AxS} {env : List (Nat × Value)} {res : AxT Unit} (hl0 : l.stackTraces = false) (h : some (.inr "java/util/NoSuchElementException", axS0 S) = some res) : AW g l (axRm (8) (axCs (axOV res)) (6 * axCs (axOV res))) mt_X9_needOne (axMQ g (axCs (axOV res)) (6 * axCs (axOV res)) (axOV res)) 0 0 S 19 env [] := aw_throwNX (M := mt_X9_needOne) (Y0 := "java/lang/RuntimeException") (r := ["java/lang/Exception"]) (ix := 13) (rx := prog_27_method_4_code) (j := 25) (tx := "there is no such one") hl0 (by decide +kernel) (by decide +kernel) (by decide +kernel) (by decide +kernel) (by decide +kernel) (by decide +kernel) (by decide +kernel) tk_X9_needOne ti_X9_needOne rfl tg_X9_needOne tb_X9_needOne to_X9_needOne dX9_needOne_19 dX9_needOne_22 dX9_needOne_23 dX9_needOne_26 dX9_needOne_29 rfl (by decide) rfl h
theorem L1_X9_needOne_9 {g : AxG} {l : Launch} (hl0 : l.stackTraces = false) {res : AxT Unit} (N : Nat)  (v0 : Nat) (S : AxS) (h : F_X9_needOne_9 N  v0 S = some res) : AW g l (axRm (8) (axCs (axOV res)) (6 * axCs (axOV res))) mt_X9_needOne (axMQ g (axCs (axOV res)) (6 * axCs (axOV res)) (axOV res)) 0 0 S 9 [(0, .ref v0)] [] := by
  unfold F_X9_needOne_9 at h
  refine aw_aload_n 0 dX9_needOne_9 rfl rfl ?_
  refine aw_dup rfl dX9_needOne_10 ?_
  refine aw_getI axc9 14 rfl rfl wd_467 dX9_needOne_11 h (fun x1 h => ?_)
  refine aw_iconst 1 dX9_needOne_14 rfl ?_
  refine aw_iadd dX9_needOne_15 ?_
  refine aw_putI axc9 14 rfl rfl wd_467 rfl rfl rfl dX9_needOne_16 h (fun T2 h => ?_)
  exact aw_throwX9_needOne hl0 h
theorem L1_X9_needOne {g : AxG} {l : Launch} (hl0 : l.stackTraces = false) (N : Nat) {v0 : Nat} {v1 : Int32} {v2 : Int32} {S : AxS} {res : AxT Unit} (h : F_X9_needOne N v0 v1 v2 S = some res) : AxMet g l yX9_needOne cX9_needOne 3 none (8) (axCs (axOV res)) (6 * axCs (axOV res)) [.ref v0, .int v1, .int v2] S (axOV res) := by
  refine ax_met (own := RX9) (ini := false) (by decide +kernel) rfl (fun h => nomatch h) rfl ?_
  show AW g l (axRm (8) (axCs (axOV res)) (6 * axCs (axOV res))) mt_X9_needOne (axMQ g (axCs (axOV res)) (6 * axCs (axOV res)) (axOV res)) 0 0 S 0 [(0, .ref v0), (1, .int v1), (2, .int v2)] []
  unfold F_X9_needOne at h
  refine aw_iload_n 1 dX9_needOne_0 rfl rfl ?_
  refine aw_if_lt 9 dX9_needOne_1 (by decide) h (fun h => ?_) (fun h => ?_)
  · refine aw_env [(0, .ref v0)] [0] rfl ?_
    exact L1_X9_needOne_9 hl0 N  v0 S h
  · refine aw_iload_n 1 dX9_needOne_4 rfl rfl ?_
    refine aw_iload_n 2 dX9_needOne_5 rfl rfl ?_
    refine aw_icmp_lt 30 dX9_needOne_6 (by decide) h (fun h => ?_) (fun h => ?_)
    · exact aw_vretT dX9_needOne_30 rfl h
    · refine aw_env [(0, .ref v0)] [0] rfl ?_
      exact L1_X9_needOne_9 hl0 N  v0 S h

theorem dX9_monk_0 : decode cX9_monk 0 = .ok (.aload_n 0, 1) := by decide +kernel
theorem dX9_monk_1 : decode cX9_monk 1 = .ok (.iload_n 1, 1) := by decide +kernel
theorem dX9_monk_2 : decode cX9_monk 2 = .ok (.aload_n 0, 1) := by decide +kernel
theorem dX9_monk_3 : decode cX9_monk 3 = .ok (.getfield 19, 3) := by decide +kernel
theorem dX9_monk_6 : decode cX9_monk 6 = .ok (.getfield 142, 3) := by decide +kernel
theorem dX9_monk_9 : decode cX9_monk 9 = .ok (.invokevirtual 216, 3) := by decide +kernel
theorem dX9_monk_12 : decode cX9_monk 12 = .ok (.aload_n 0, 1) := by decide +kernel
theorem dX9_monk_13 : decode cX9_monk 13 = .ok (.iload_n 2, 1) := by decide +kernel
theorem dX9_monk_14 : decode cX9_monk 14 = .ok (.ifCond .lt 12, 3) := by decide +kernel
theorem dX9_monk_17 : decode cX9_monk 17 = .ok (.iload_n 2, 1) := by decide +kernel
theorem dX9_monk_18 : decode cX9_monk 18 = .ok (.iconst 3, 1) := by decide +kernel
theorem dX9_monk_19 : decode cX9_monk 19 = .ok (.if_icmp .gt 7, 3) := by decide +kernel
theorem dX9_monk_22 : decode cX9_monk 22 = .ok (.iconst 1, 1) := by decide +kernel
theorem dX9_monk_23 : decode cX9_monk 23 = .ok (.goto 4, 3) := by decide +kernel
theorem dX9_monk_26 : decode cX9_monk 26 = .ok (.iconst 0, 1) := by decide +kernel
theorem dX9_monk_27 : decode cX9_monk 27 = .ok (.invokevirtual 128, 3) := by decide +kernel
theorem dX9_monk_30 : decode cX9_monk 30 = .ok (.iload_n 2, 1) := by decide +kernel
theorem dX9_monk_31 : decode cX9_monk 31 = .ok (.tableswitch 76 0 2 #[25, 37, 49], 25) := by decide +kernel
theorem dX9_monk_56 : decode cX9_monk 56 = .ok (.aload_n 0, 1) := by decide +kernel
theorem dX9_monk_57 : decode cX9_monk 57 = .ok (.getfield 19, 3) := by decide +kernel
theorem dX9_monk_60 : decode cX9_monk 60 = .ok (.getfield 220, 3) := by decide +kernel
theorem dX9_monk_63 : decode cX9_monk 63 = .ok (.iload_n 1, 1) := by decide +kernel
theorem dX9_monk_64 : decode cX9_monk 64 = .ok (.invokestatic 223, 3) := by decide +kernel
theorem dX9_monk_67 : decode cX9_monk 67 = .ok (.ireturn, 1) := by decide +kernel
theorem dX9_monk_68 : decode cX9_monk 68 = .ok (.aload_n 0, 1) := by decide +kernel
theorem dX9_monk_69 : decode cX9_monk 69 = .ok (.getfield 56, 3) := by decide +kernel
theorem dX9_monk_72 : decode cX9_monk 72 = .ok (.getfield 227, 3) := by decide +kernel
theorem dX9_monk_75 : decode cX9_monk 75 = .ok (.iload_n 1, 1) := by decide +kernel
theorem dX9_monk_76 : decode cX9_monk 76 = .ok (.invokestatic 223, 3) := by decide +kernel
theorem dX9_monk_79 : decode cX9_monk 79 = .ok (.ireturn, 1) := by decide +kernel
theorem dX9_monk_80 : decode cX9_monk 80 = .ok (.aload_n 0, 1) := by decide +kernel
theorem dX9_monk_81 : decode cX9_monk 81 = .ok (.aload_n 0, 1) := by decide +kernel
theorem dX9_monk_82 : decode cX9_monk 82 = .ok (.getfield 56, 3) := by decide +kernel
theorem dX9_monk_85 : decode cX9_monk 85 = .ok (.iload_n 1, 1) := by decide +kernel
theorem dX9_monk_86 : decode cX9_monk 86 = .ok (.aload_n 0, 1) := by decide +kernel
theorem dX9_monk_87 : decode cX9_monk 87 = .ok (.aload_n 0, 1) := by decide +kernel
theorem dX9_monk_88 : decode cX9_monk 88 = .ok (.getfield 56, 3) := by decide +kernel
theorem dX9_monk_91 : decode cX9_monk 91 = .ok (.iconst 0, 1) := by decide +kernel
theorem dX9_monk_92 : decode cX9_monk 92 = .ok (.invokevirtual 230, 3) := by decide +kernel
theorem dX9_monk_95 : decode cX9_monk 95 = .ok (.invokevirtual 234, 3) := by decide +kernel
theorem dX9_monk_98 : decode cX9_monk 98 = .ok (.ifCond .eq 7, 3) := by decide +kernel
theorem dX9_monk_101 : decode cX9_monk 101 = .ok (.iconst 1, 1) := by decide +kernel
theorem dX9_monk_102 : decode cX9_monk 102 = .ok (.goto 4, 3) := by decide +kernel
theorem dX9_monk_105 : decode cX9_monk 105 = .ok (.iconst 0, 1) := by decide +kernel
theorem dX9_monk_106 : decode cX9_monk 106 = .ok (.ireturn, 1) := by decide +kernel
theorem dX9_monk_107 : decode cX9_monk 107 = .ok (.aload_n 0, 1) := by decide +kernel
theorem dX9_monk_108 : decode cX9_monk 108 = .ok (.getfield 56, 3) := by decide +kernel
theorem dX9_monk_111 : decode cX9_monk 111 = .ok (.getfield 238, 3) := by decide +kernel
theorem dX9_monk_114 : decode cX9_monk 114 = .ok (.iload_n 1, 1) := by decide +kernel
theorem dX9_monk_115 : decode cX9_monk 115 = .ok (.invokestatic 223, 3) := by decide +kernel
theorem dX9_monk_118 : decode cX9_monk 118 = .ok (.ireturn, 1) := by decide +kernel
abbrev mt_X9_monk : AxM := (RX9, cX9_monk, 3, (some .int), false, [])
theorem L1_X9_monk_27 {g : AxG} {l : Launch} (hl0 : l.stackTraces = false) {res : AxT Int32} (N : Nat)  (v0 : Nat) (v1 : Int32) (v2 : Int32) (w0 : Int32) (w1 : Nat) (S : AxS) (h : F_X9_monk_27 N  v0 v1 v2 w0 w1 S = some res) : AW g l (axRm (9) (axCs (axOI res)) (6 * axCs (axOI res))) mt_X9_monk (axMQ g (axCs (axOI res)) (6 * axCs (axOI res)) (axOI res)) 0 0 S 27 [(0, .ref v0), (1, .int v1), (2, .int v2)] [.int w0, .ref w1] := by
  unfold F_X9_monk_27 at h
  obtain ⟨hL1, h⟩ := ax_is_spec h
  refine aw_thV (ob := axOI) (rest := []) (fun _ _ => rfl) rfl h (fun u9 hF hu => aw_runV (As := [.int w0]) (rest := []) (L1_X9_needArgument hl0 N hF) axc9 hL1 wd_604 wd_601 wd_603 wd_3 wd_87 pd_X9_needArgument rfl (ax_rm (by omega) rfl) (ax_hfV (fun _ _ => rfl) hu) (Nat.le_of_ble_eq_true rfl) rfl dX9_monk_27) (fun T2 h => ?_)
  refine aw_iload_n 2 dX9_monk_30 rfl rfl ?_
  refine aw_case 0 h (fun h => ?_) (fun c8 h => ?_)
  · refine aw_tswIn 56 (off := 25) dX9_monk_31 (by decide) (by decide) (by decide) (by decide) ?_
    refine aw_aload_n 0 dX9_monk_56 rfl rfl ?_
    refine aw_getR axc9 1 rfl rfl wd_454 dX9_monk_57 h (fun a4 h => ?_)
    refine aw_getR axc1 10 rfl rfl wd_194 dX9_monk_60 h (fun a5 h => ?_)
    refine aw_iload_n 1 dX9_monk_63 rfl rfl ?_
    refine aw_doneI (rest := []) h (fun r9 S9 hF => aw_runS (As := [.ref a5, .int v1]) (rest := []) (L1_X9_at N hF) wd_541 wd_874 wd_540 wd_87 pd_X9_at.2 rfl (ax_rm (by omega) rfl) ax_hf0 (Nat.le_of_ble_eq_true rfl) rfl dX9_monk_64) (fun x7 T6 h => ?_)
    exact aw_iretT dX9_monk_67 rfl h
  refine aw_case 1 h (fun h => ?_) (fun c13 h => ?_)
  · refine aw_tswIn 68 (off := 37) dX9_monk_31 (by decide) (by decide) (by decide) (by decide) ?_
    refine aw_aload_n 0 dX9_monk_68 rfl rfl ?_
    refine aw_getR axc9 8 rfl rfl wd_461 dX9_monk_69 h (fun a9 h => ?_)
    refine aw_getR axc5 12 rfl rfl wd_317 dX9_monk_72 h (fun a10 h => ?_)
    refine aw_iload_n 1 dX9_monk_75 rfl rfl ?_
    refine aw_doneI (rest := []) h (fun r9 S9 hF => aw_runS (As := [.ref a10, .int v1]) (rest := []) (L1_X9_at N hF) wd_541 wd_874 wd_540 wd_87 pd_X9_at.2 rfl (ax_rm (by omega) rfl) ax_hf0 (Nat.le_of_ble_eq_true rfl) rfl dX9_monk_76) (fun x12 T11 h => ?_)
    exact aw_iretT dX9_monk_79 rfl h
  refine aw_case 2 h (fun h => ?_) (fun c22 h => ?_)
  · refine aw_tswIn 80 (off := 49) dX9_monk_31 (by decide) (by decide) (by decide) (by decide) ?_
    refine aw_aload_n 0 dX9_monk_80 rfl rfl ?_
    refine aw_aload_n 0 dX9_monk_81 rfl rfl ?_
    refine aw_getR axc9 8 rfl rfl wd_461 dX9_monk_82 h (fun a14 h => ?_)
    refine aw_iload_n 1 dX9_monk_85 rfl rfl ?_
    refine aw_aload_n 0 dX9_monk_86 rfl rfl ?_
    refine aw_aload_n 0 dX9_monk_87 rfl rfl ?_
    refine aw_getR axc9 8 rfl rfl wd_461 dX9_monk_88 h (fun a15 h => ?_)
    refine aw_iconst 0 dX9_monk_91 rfl ?_
    obtain ⟨hL16, h⟩ := ax_is_spec h
    refine aw_doneI (rest := [.int v1, .ref a14, .ref v0]) h (fun r9 S9 hF => aw_runV (As := [.ref a15, .int 0]) (rest := [.int v1, .ref a14, .ref v0]) (L1_X9_strokesOf N hF) axc9 hL16 wd_549 wd_546 wd_548 wd_2 wd_87 pd_X9_strokesOf rfl (ax_rm (by omega) rfl) ax_hf0 (Nat.le_of_ble_eq_true rfl) rfl dX9_monk_92) (fun x18 T17 h => ?_)
    obtain ⟨hL19, h⟩ := ax_is_spec h
    refine aw_doneI (rest := []) h (fun r9 S9 hF => aw_runV (As := [.ref a14, .int v1, .int x18]) (rest := []) (L1_X9_wakes N hF) axc9 hL19 wd_912 wd_909 wd_911 wd_17 wd_87 pd_X9_wakes rfl (ax_rm (by omega) rfl) ax_hf0 (Nat.le_of_ble_eq_true rfl) rfl dX9_monk_95) (fun x21 T20 h => ?_)
    refine aw_if_eq 105 dX9_monk_98 (by decide) h (fun h => ?_) (fun h => ?_)
    · refine aw_iconst 0 dX9_monk_105 rfl ?_
      exact aw_iretT dX9_monk_106 rfl h
    · refine aw_iconst 1 dX9_monk_101 rfl ?_
      refine aw_goto 106 dX9_monk_102 (by decide) ?_
      exact aw_iretT dX9_monk_106 rfl h
  refine aw_tswOut 107 dX9_monk_31 (by have q0 := ax_i32ne c8 (v := 0) (i := 0) (by decide); have q1 := ax_i32ne c13 (v := 1) (i := 1) (by decide); have q2 := ax_i32ne c22 (v := 2) (i := 2) (by decide); omega) (by decide) ?_
  refine aw_aload_n 0 dX9_monk_107 rfl rfl ?_
  refine aw_getR axc9 8 rfl rfl wd_461 dX9_monk_108 h (fun a23 h => ?_)
  refine aw_getR axc5 13 rfl rfl wd_319 dX9_monk_111 h (fun a24 h => ?_)
  refine aw_iload_n 1 dX9_monk_114 rfl rfl ?_
  refine aw_doneI (rest := []) h (fun r9 S9 hF => aw_runS (As := [.ref a24, .int v1]) (rest := []) (L1_X9_at N hF) wd_541 wd_874 wd_540 wd_87 pd_X9_at.2 rfl (ax_rm (by omega) rfl) ax_hf0 (Nat.le_of_ble_eq_true rfl) rfl dX9_monk_115) (fun x26 T25 h => ?_)
  exact aw_iretT dX9_monk_118 rfl h
theorem L1_X9_monk_26 {g : AxG} {l : Launch} (hl0 : l.stackTraces = false) {res : AxT Int32} (N : Nat)  (v0 : Nat) (v1 : Int32) (v2 : Int32) (w0 : Nat) (S : AxS) (h : F_X9_monk_26 N  v0 v1 v2 w0 S = some res) : AW g l (axRm (9) (axCs (axOI res)) (6 * axCs (axOI res))) mt_X9_monk (axMQ g (axCs (axOI res)) (6 * axCs (axOI res)) (axOI res)) 0 0 S 26 [(0, .ref v0), (1, .int v1), (2, .int v2)] [.ref w0] := by
  unfold F_X9_monk_26 at h
  refine aw_iconst 0 dX9_monk_26 rfl ?_
  refine aw_env [(0, .ref v0), (1, .int v1), (2, .int v2)] [0, 1, 2] rfl ?_
  exact L1_X9_monk_27 hl0 N  v0 v1 v2 0 w0 S h
theorem L1_X9_monk {g : AxG} {l : Launch} (hl0 : l.stackTraces = false) (N : Nat) {v0 : Nat} {v1 : Int32} {v2 : Int32} {S : AxS} {res : AxT Int32} (h : F_X9_monk N v0 v1 v2 S = some res) : AxMet g l yX9_monk cX9_monk 3 (some .int) (9) (axCs (axOI res)) (6 * axCs (axOI res)) [.ref v0, .int v1, .int v2] S (axOI res) := by
  refine ax_met (own := RX9) (ini := false) (by decide +kernel) rfl (fun h => nomatch h) rfl ?_
  show AW g l (axRm (9) (axCs (axOI res)) (6 * axCs (axOI res))) mt_X9_monk (axMQ g (axCs (axOI res)) (6 * axCs (axOI res)) (axOI res)) 0 0 S 0 [(0, .ref v0), (1, .int v1), (2, .int v2)] []
  unfold F_X9_monk at h
  refine aw_aload_n 0 dX9_monk_0 rfl rfl ?_
  refine aw_iload_n 1 dX9_monk_1 rfl rfl ?_
  refine aw_aload_n 0 dX9_monk_2 rfl rfl ?_
  refine aw_getR axc9 1 rfl rfl wd_454 dX9_monk_3 h (fun a1 h => ?_)
  refine aw_getI axc1 5 rfl rfl wd_183 dX9_monk_6 h (fun x2 h => ?_)
  obtain ⟨hL3, h⟩ := ax_is_spec h
  refine aw_thV (ob := axOI) (rest := []) (fun _ _ => rfl) rfl h (fun u9 hF hu => aw_runV (As := [.int v1, .int x2]) (rest := []) (L1_X9_needOne hl0 N hF) axc9 hL3 wd_975 wd_972 wd_974 wd_20 wd_87 pd_X9_needOne rfl (ax_rm (by omega) rfl) (ax_hfV (fun _ _ => rfl) hu) (Nat.le_of_ble_eq_true rfl) rfl dX9_monk_9) (fun T4 h => ?_)
  refine aw_aload_n 0 dX9_monk_12 rfl rfl ?_
  refine aw_iload_n 2 dX9_monk_13 rfl rfl ?_
  refine aw_if_lt 26 dX9_monk_14 (by decide) h (fun h => ?_) (fun h => ?_)
  · refine aw_env [(0, .ref v0), (1, .int v1), (2, .int v2)] [0, 1, 2] rfl ?_
    exact L1_X9_monk_26 hl0 N  v0 v1 v2 v0 T4 h
  · refine aw_iload_n 2 dX9_monk_17 rfl rfl ?_
    refine aw_iconst 3 dX9_monk_18 rfl ?_
    refine aw_icmp_gt 26 dX9_monk_19 (by decide) h (fun h => ?_) (fun h => ?_)
    · refine aw_env [(0, .ref v0), (1, .int v1), (2, .int v2)] [0, 1, 2] rfl ?_
      exact L1_X9_monk_26 hl0 N  v0 v1 v2 v0 T4 h
    · refine aw_iconst 1 dX9_monk_22 rfl ?_
      refine aw_goto 27 dX9_monk_23 (by decide) ?_
      refine aw_env [(0, .ref v0), (1, .int v1), (2, .int v2)] [0, 1, 2] rfl ?_
      exact L1_X9_monk_27 hl0 N  v0 v1 v2 1 v0 T4 h

theorem dX9_village_0 : decode cX9_village 0 = .ok (.aload_n 0, 1) := by decide +kernel
theorem dX9_village_1 : decode cX9_village 1 = .ok (.iload_n 1, 1) := by decide +kernel
theorem dX9_village_2 : decode cX9_village 2 = .ok (.aload_n 0, 1) := by decide +kernel
theorem dX9_village_3 : decode cX9_village 3 = .ok (.getfield 19, 3) := by decide +kernel
theorem dX9_village_6 : decode cX9_village 6 = .ok (.getfield 207, 3) := by decide +kernel
theorem dX9_village_9 : decode cX9_village 9 = .ok (.invokevirtual 216, 3) := by decide +kernel
theorem dX9_village_12 : decode cX9_village 12 = .ok (.aload_n 0, 1) := by decide +kernel
theorem dX9_village_13 : decode cX9_village 13 = .ok (.iload_n 2, 1) := by decide +kernel
theorem dX9_village_14 : decode cX9_village 14 = .ok (.ifCond .lt 12, 3) := by decide +kernel
theorem dX9_village_17 : decode cX9_village 17 = .ok (.iload_n 2, 1) := by decide +kernel
theorem dX9_village_18 : decode cX9_village 18 = .ok (.iconst 1, 1) := by decide +kernel
theorem dX9_village_19 : decode cX9_village 19 = .ok (.if_icmp .gt 7, 3) := by decide +kernel
theorem dX9_village_22 : decode cX9_village 22 = .ok (.iconst 1, 1) := by decide +kernel
theorem dX9_village_23 : decode cX9_village 23 = .ok (.goto 4, 3) := by decide +kernel
theorem dX9_village_26 : decode cX9_village 26 = .ok (.iconst 0, 1) := by decide +kernel
theorem dX9_village_27 : decode cX9_village 27 = .ok (.invokevirtual 128, 3) := by decide +kernel
theorem dX9_village_30 : decode cX9_village 30 = .ok (.iload_n 2, 1) := by decide +kernel
theorem dX9_village_31 : decode cX9_village 31 = .ok (.ifCond .ne 17, 3) := by decide +kernel
theorem dX9_village_34 : decode cX9_village 34 = .ok (.aload_n 0, 1) := by decide +kernel
theorem dX9_village_35 : decode cX9_village 35 = .ok (.getfield 19, 3) := by decide +kernel
theorem dX9_village_38 : decode cX9_village 38 = .ok (.getfield 241, 3) := by decide +kernel
theorem dX9_village_41 : decode cX9_village 41 = .ok (.iload_n 1, 1) := by decide +kernel
theorem dX9_village_42 : decode cX9_village 42 = .ok (.invokestatic 223, 3) := by decide +kernel
theorem dX9_village_45 : decode cX9_village 45 = .ok (.goto 14, 3) := by decide +kernel
theorem dX9_village_48 : decode cX9_village 48 = .ok (.aload_n 0, 1) := by decide +kernel
theorem dX9_village_49 : decode cX9_village 49 = .ok (.getfield 56, 3) := by decide +kernel
theorem dX9_village_52 : decode cX9_village 52 = .ok (.getfield 244, 3) := by decide +kernel
theorem dX9_village_55 : decode cX9_village 55 = .ok (.iload_n 1, 1) := by decide +kernel
theorem dX9_village_56 : decode cX9_village 56 = .ok (.ishr, 1) := by decide +kernel
theorem dX9_village_57 : decode cX9_village 57 = .ok (.iconst 1, 1) := by decide +kernel
theorem dX9_village_58 : decode cX9_village 58 = .ok (.iand, 1) := by decide +kernel
theorem dX9_village_59 : decode cX9_village 59 = .ok (.ireturn, 1) := by decide +kernel
abbrev mt_X9_village : AxM := (RX9, cX9_village, 3, (some .int), false, [])
theorem L1_X9_village_27 {g : AxG} {l : Launch} (hl0 : l.stackTraces = false) {res : AxT Int32} (N : Nat)  (v0 : Nat) (v1 : Int32) (v2 : Int32) (w0 : Int32) (w1 : Nat) (S : AxS) (h : F_X9_village_27 N  v0 v1 v2 w0 w1 S = some res) : AW g l (axRm (9) (axCs (axOI res)) (6 * axCs (axOI res))) mt_X9_village (axMQ g (axCs (axOI res)) (6 * axCs (axOI res)) (axOI res)) 0 0 S 27 [(0, .ref v0), (1, .int v1), (2, .int v2)] [.int w0, .ref w1] := by
  unfold F_X9_village_27 at h
  obtain ⟨hL1, h⟩ := ax_is_spec h
  refine aw_thV (ob := axOI) (rest := []) (fun _ _ => rfl) rfl h (fun u9 hF hu => aw_runV (As := [.int w0]) (rest := []) (L1_X9_needArgument hl0 N hF) axc9 hL1 wd_604 wd_601 wd_603 wd_3 wd_87 pd_X9_needArgument rfl (ax_rm (by omega) rfl) (ax_hfV (fun _ _ => rfl) hu) (Nat.le_of_ble_eq_true rfl) rfl dX9_village_27) (fun T2 h => ?_)
  refine aw_iload_n 2 dX9_village_30 rfl rfl ?_
  refine aw_if_ne 48 dX9_village_31 (by decide) h (fun h => ?_) (fun h => ?_)
  · refine aw_aload_n 0 dX9_village_48 rfl rfl ?_
    refine aw_getR axc9 8 rfl rfl wd_461 dX9_village_49 h (fun a4 h => ?_)
    refine aw_getI axc5 9 rfl rfl wd_311 dX9_village_52 h (fun x5 h => ?_)
    refine aw_iload_n 1 dX9_village_55 rfl rfl ?_
    refine aw_ishr dX9_village_56 ?_
    refine aw_iconst 1 dX9_village_57 rfl ?_
    refine aw_iand dX9_village_58 ?_
    exact aw_iretT dX9_village_59 rfl h
  · refine aw_aload_n 0 dX9_village_34 rfl rfl ?_
    refine aw_getR axc9 1 rfl rfl wd_454 dX9_village_35 h (fun a6 h => ?_)
    refine aw_getR axc1 8 rfl rfl wd_190 dX9_village_38 h (fun a7 h => ?_)
    refine aw_iload_n 1 dX9_village_41 rfl rfl ?_
    refine aw_doneI (rest := []) h (fun r9 S9 hF => aw_runS (As := [.ref a7, .int v1]) (rest := []) (L1_X9_at N hF) wd_541 wd_874 wd_540 wd_87 pd_X9_at.2 rfl (ax_rm (by omega) rfl) ax_hf0 (Nat.le_of_ble_eq_true rfl) rfl dX9_village_42) (fun x9 T8 h => ?_)
    refine aw_goto 59 dX9_village_45 (by decide) ?_
    exact aw_iretT dX9_village_59 rfl h
theorem L1_X9_village_26 {g : AxG} {l : Launch} (hl0 : l.stackTraces = false) {res : AxT Int32} (N : Nat)  (v0 : Nat) (v1 : Int32) (v2 : Int32) (w0 : Nat) (S : AxS) (h : F_X9_village_26 N  v0 v1 v2 w0 S = some res) : AW g l (axRm (9) (axCs (axOI res)) (6 * axCs (axOI res))) mt_X9_village (axMQ g (axCs (axOI res)) (6 * axCs (axOI res)) (axOI res)) 0 0 S 26 [(0, .ref v0), (1, .int v1), (2, .int v2)] [.ref w0] := by
  unfold F_X9_village_26 at h
  refine aw_iconst 0 dX9_village_26 rfl ?_
  refine aw_env [(0, .ref v0), (1, .int v1), (2, .int v2)] [0, 1, 2] rfl ?_
  exact L1_X9_village_27 hl0 N  v0 v1 v2 0 w0 S h
theorem L1_X9_village {g : AxG} {l : Launch} (hl0 : l.stackTraces = false) (N : Nat) {v0 : Nat} {v1 : Int32} {v2 : Int32} {S : AxS} {res : AxT Int32} (h : F_X9_village N v0 v1 v2 S = some res) : AxMet g l yX9_village cX9_village 3 (some .int) (9) (axCs (axOI res)) (6 * axCs (axOI res)) [.ref v0, .int v1, .int v2] S (axOI res) := by
  refine ax_met (own := RX9) (ini := false) (by decide +kernel) rfl (fun h => nomatch h) rfl ?_
  show AW g l (axRm (9) (axCs (axOI res)) (6 * axCs (axOI res))) mt_X9_village (axMQ g (axCs (axOI res)) (6 * axCs (axOI res)) (axOI res)) 0 0 S 0 [(0, .ref v0), (1, .int v1), (2, .int v2)] []
  unfold F_X9_village at h
  refine aw_aload_n 0 dX9_village_0 rfl rfl ?_
  refine aw_iload_n 1 dX9_village_1 rfl rfl ?_
  refine aw_aload_n 0 dX9_village_2 rfl rfl ?_
  refine aw_getR axc9 1 rfl rfl wd_454 dX9_village_3 h (fun a1 h => ?_)
  refine aw_getI axc1 3 rfl rfl wd_179 dX9_village_6 h (fun x2 h => ?_)
  obtain ⟨hL3, h⟩ := ax_is_spec h
  refine aw_thV (ob := axOI) (rest := []) (fun _ _ => rfl) rfl h (fun u9 hF hu => aw_runV (As := [.int v1, .int x2]) (rest := []) (L1_X9_needOne hl0 N hF) axc9 hL3 wd_975 wd_972 wd_974 wd_20 wd_87 pd_X9_needOne rfl (ax_rm (by omega) rfl) (ax_hfV (fun _ _ => rfl) hu) (Nat.le_of_ble_eq_true rfl) rfl dX9_village_9) (fun T4 h => ?_)
  refine aw_aload_n 0 dX9_village_12 rfl rfl ?_
  refine aw_iload_n 2 dX9_village_13 rfl rfl ?_
  refine aw_if_lt 26 dX9_village_14 (by decide) h (fun h => ?_) (fun h => ?_)
  · refine aw_env [(0, .ref v0), (1, .int v1), (2, .int v2)] [0, 1, 2] rfl ?_
    exact L1_X9_village_26 hl0 N  v0 v1 v2 v0 T4 h
  · refine aw_iload_n 2 dX9_village_17 rfl rfl ?_
    refine aw_iconst 1 dX9_village_18 rfl ?_
    refine aw_icmp_gt 26 dX9_village_19 (by decide) h (fun h => ?_) (fun h => ?_)
    · refine aw_env [(0, .ref v0), (1, .int v1), (2, .int v2)] [0, 1, 2] rfl ?_
      exact L1_X9_village_26 hl0 N  v0 v1 v2 v0 T4 h
    · refine aw_iconst 1 dX9_village_22 rfl ?_
      refine aw_goto 27 dX9_village_23 (by decide) ?_
      refine aw_env [(0, .ref v0), (1, .int v1), (2, .int v2)] [0, 1, 2] rfl ?_
      exact L1_X9_village_27 hl0 N  v0 v1 v2 1 v0 T4 h

theorem dX9_cell_0 : decode cX9_cell 0 = .ok (.aload_n 0, 1) := by decide +kernel
theorem dX9_cell_1 : decode cX9_cell 1 = .ok (.iload_n 1, 1) := by decide +kernel
theorem dX9_cell_2 : decode cX9_cell 2 = .ok (.aload_n 0, 1) := by decide +kernel
theorem dX9_cell_3 : decode cX9_cell 3 = .ok (.getfield 19, 3) := by decide +kernel
theorem dX9_cell_6 : decode cX9_cell 6 = .ok (.getfield 210, 3) := by decide +kernel
theorem dX9_cell_9 : decode cX9_cell 9 = .ok (.invokevirtual 216, 3) := by decide +kernel
theorem dX9_cell_12 : decode cX9_cell 12 = .ok (.aload_n 0, 1) := by decide +kernel
theorem dX9_cell_13 : decode cX9_cell 13 = .ok (.getfield 19, 3) := by decide +kernel
theorem dX9_cell_16 : decode cX9_cell 16 = .ok (.getfield 247, 3) := by decide +kernel
theorem dX9_cell_19 : decode cX9_cell 19 = .ok (.iload_n 1, 1) := by decide +kernel
theorem dX9_cell_20 : decode cX9_cell 20 = .ok (.invokestatic 223, 3) := by decide +kernel
theorem dX9_cell_23 : decode cX9_cell 23 = .ok (.ireturn, 1) := by decide +kernel
abbrev mt_X9_cell : AxM := (RX9, cX9_cell, 2, (some .int), false, [])
theorem L1_X9_cell {g : AxG} {l : Launch} (hl0 : l.stackTraces = false) (N : Nat) {v0 : Nat} {v1 : Int32} {S : AxS} {res : AxT Int32} (h : F_X9_cell N v0 v1 S = some res) : AxMet g l yX9_cell cX9_cell 2 (some .int) (9) (axCs (axOI res)) (6 * axCs (axOI res)) [.ref v0, .int v1] S (axOI res) := by
  refine ax_met (own := RX9) (ini := false) (by decide +kernel) rfl (fun h => nomatch h) rfl ?_
  show AW g l (axRm (9) (axCs (axOI res)) (6 * axCs (axOI res))) mt_X9_cell (axMQ g (axCs (axOI res)) (6 * axCs (axOI res)) (axOI res)) 0 0 S 0 [(0, .ref v0), (1, .int v1)] []
  unfold F_X9_cell at h
  refine aw_aload_n 0 dX9_cell_0 rfl rfl ?_
  refine aw_iload_n 1 dX9_cell_1 rfl rfl ?_
  refine aw_aload_n 0 dX9_cell_2 rfl rfl ?_
  refine aw_getR axc9 1 rfl rfl wd_454 dX9_cell_3 h (fun a1 h => ?_)
  refine aw_getI axc1 4 rfl rfl wd_181 dX9_cell_6 h (fun x2 h => ?_)
  obtain ⟨hL3, h⟩ := ax_is_spec h
  refine aw_thV (ob := axOI) (rest := []) (fun _ _ => rfl) rfl h (fun u9 hF hu => aw_runV (As := [.int v1, .int x2]) (rest := []) (L1_X9_needOne hl0 N hF) axc9 hL3 wd_975 wd_972 wd_974 wd_20 wd_87 pd_X9_needOne rfl (ax_rm (by omega) rfl) (ax_hfV (fun _ _ => rfl) hu) (Nat.le_of_ble_eq_true rfl) rfl dX9_cell_9) (fun T4 h => ?_)
  refine aw_aload_n 0 dX9_cell_12 rfl rfl ?_
  refine aw_getR axc9 1 rfl rfl wd_454 dX9_cell_13 h (fun a6 h => ?_)
  refine aw_getR axc1 9 rfl rfl wd_192 dX9_cell_16 h (fun a7 h => ?_)
  refine aw_iload_n 1 dX9_cell_19 rfl rfl ?_
  refine aw_doneI (rest := []) h (fun r9 S9 hF => aw_runS (As := [.ref a7, .int v1]) (rest := []) (L1_X9_at N hF) wd_541 wd_874 wd_540 wd_87 pd_X9_at.2 rfl (ax_rm (by omega) rfl) ax_hf0 (Nat.le_of_ble_eq_true rfl) rfl dX9_cell_20) (fun x9 T8 h => ?_)
  exact aw_iretT dX9_cell_23 rfl h

theorem dX9_heir_0 : decode cX9_heir 0 = .ok (.aload_n 0, 1) := by decide +kernel
theorem dX9_heir_1 : decode cX9_heir 1 = .ok (.iload_n 1, 1) := by decide +kernel
theorem dX9_heir_2 : decode cX9_heir 2 = .ok (.aload_n 0, 1) := by decide +kernel
theorem dX9_heir_3 : decode cX9_heir 3 = .ok (.getfield 19, 3) := by decide +kernel
theorem dX9_heir_6 : decode cX9_heir 6 = .ok (.getfield 213, 3) := by decide +kernel
theorem dX9_heir_9 : decode cX9_heir 9 = .ok (.invokevirtual 216, 3) := by decide +kernel
theorem dX9_heir_12 : decode cX9_heir 12 = .ok (.aload_n 0, 1) := by decide +kernel
theorem dX9_heir_13 : decode cX9_heir 13 = .ok (.getfield 19, 3) := by decide +kernel
theorem dX9_heir_16 : decode cX9_heir 16 = .ok (.getfield 250, 3) := by decide +kernel
theorem dX9_heir_19 : decode cX9_heir 19 = .ok (.iload_n 1, 1) := by decide +kernel
theorem dX9_heir_20 : decode cX9_heir 20 = .ok (.invokestatic 223, 3) := by decide +kernel
theorem dX9_heir_23 : decode cX9_heir 23 = .ok (.ireturn, 1) := by decide +kernel
abbrev mt_X9_heir : AxM := (RX9, cX9_heir, 2, (some .int), false, [])
theorem L1_X9_heir {g : AxG} {l : Launch} (hl0 : l.stackTraces = false) (N : Nat) {v0 : Nat} {v1 : Int32} {S : AxS} {res : AxT Int32} (h : F_X9_heir N v0 v1 S = some res) : AxMet g l yX9_heir cX9_heir 2 (some .int) (9) (axCs (axOI res)) (6 * axCs (axOI res)) [.ref v0, .int v1] S (axOI res) := by
  refine ax_met (own := RX9) (ini := false) (by decide +kernel) rfl (fun h => nomatch h) rfl ?_
  show AW g l (axRm (9) (axCs (axOI res)) (6 * axCs (axOI res))) mt_X9_heir (axMQ g (axCs (axOI res)) (6 * axCs (axOI res)) (axOI res)) 0 0 S 0 [(0, .ref v0), (1, .int v1)] []
  unfold F_X9_heir at h
  refine aw_aload_n 0 dX9_heir_0 rfl rfl ?_
  refine aw_iload_n 1 dX9_heir_1 rfl rfl ?_
  refine aw_aload_n 0 dX9_heir_2 rfl rfl ?_
  refine aw_getR axc9 1 rfl rfl wd_454 dX9_heir_3 h (fun a1 h => ?_)
  refine aw_getI axc1 6 rfl rfl wd_186 dX9_heir_6 h (fun x2 h => ?_)
  obtain ⟨hL3, h⟩ := ax_is_spec h
  refine aw_thV (ob := axOI) (rest := []) (fun _ _ => rfl) rfl h (fun u9 hF hu => aw_runV (As := [.int v1, .int x2]) (rest := []) (L1_X9_needOne hl0 N hF) axc9 hL3 wd_975 wd_972 wd_974 wd_20 wd_87 pd_X9_needOne rfl (ax_rm (by omega) rfl) (ax_hfV (fun _ _ => rfl) hu) (Nat.le_of_ble_eq_true rfl) rfl dX9_heir_9) (fun T4 h => ?_)
  refine aw_aload_n 0 dX9_heir_12 rfl rfl ?_
  refine aw_getR axc9 1 rfl rfl wd_454 dX9_heir_13 h (fun a6 h => ?_)
  refine aw_getR axc1 11 rfl rfl wd_196 dX9_heir_16 h (fun a7 h => ?_)
  refine aw_iload_n 1 dX9_heir_19 rfl rfl ?_
  refine aw_doneI (rest := []) h (fun r9 S9 hF => aw_runS (As := [.ref a7, .int v1]) (rest := []) (L1_X9_at N hF) wd_541 wd_874 wd_540 wd_87 pd_X9_at.2 rfl (ax_rm (by omega) rfl) ax_hf0 (Nat.le_of_ble_eq_true rfl) rfl dX9_heir_20) (fun x9 T8 h => ?_)
  exact aw_iretT dX9_heir_23 rfl h

theorem dX9_strokes_0 : decode cX9_strokes 0 = .ok (.aload_n 0, 1) := by decide +kernel
theorem dX9_strokes_1 : decode cX9_strokes 1 = .ok (.aload_n 0, 1) := by decide +kernel
theorem dX9_strokes_2 : decode cX9_strokes 2 = .ok (.getfield 56, 3) := by decide +kernel
theorem dX9_strokes_5 : decode cX9_strokes 5 = .ok (.iconst 0, 1) := by decide +kernel
theorem dX9_strokes_6 : decode cX9_strokes 6 = .ok (.invokevirtual 230, 3) := by decide +kernel
theorem dX9_strokes_9 : decode cX9_strokes 9 = .ok (.ireturn, 1) := by decide +kernel
abbrev mt_X9_strokes : AxM := (RX9, cX9_strokes, 1, (some .int), false, [])
theorem L1_X9_strokes {g : AxG} {l : Launch} (N : Nat) {v0 : Nat} {S : AxS} {r9 : Int32} {S9 : AxS} (h : F_X9_strokes N v0 S = some ((r9, S9))) : AxMet g l yX9_strokes cX9_strokes 1 (some .int) (4) 0 0 [.ref v0] S ((.inl (some (.int r9)), S9)) := by
  refine ax_met (own := RX9) (ini := false) (by decide +kernel) rfl (fun h => nomatch h) rfl ?_
  show AW g l (axRm (4) 0 0) mt_X9_strokes (axMQ g 0 0 (.inl (some (.int r9)), S9)) 0 0 S 0 [(0, .ref v0)] []
  unfold F_X9_strokes at h
  refine aw_aload_n 0 dX9_strokes_0 rfl rfl ?_
  refine aw_aload_n 0 dX9_strokes_1 rfl rfl ?_
  refine aw_getR axc9 8 rfl rfl wd_461 dX9_strokes_2 h (fun a1 h => ?_)
  refine aw_iconst 0 dX9_strokes_5 rfl ?_
  obtain ⟨hL2, h⟩ := ax_is_spec h
  refine aw_doneI (rest := []) h (fun r9 S9 hF => aw_runV (As := [.ref a1, .int 0]) (rest := []) (L1_X9_strokesOf N hF) axc9 hL2 wd_549 wd_546 wd_548 wd_2 wd_87 pd_X9_strokesOf rfl (ax_rm (by omega) rfl) ax_hf0 (Nat.le_of_ble_eq_true rfl) rfl dX9_strokes_6) (fun x4 T3 h => ?_)
  exact aw_iret dX9_strokes_9 rfl (Nat.le_refl _) (Nat.le_refl _) h

theorem dX9_would_0 : decode cX9_would 0 = .ok (.aload_n 0, 1) := by decide +kernel
theorem dX9_would_1 : decode cX9_would 1 = .ok (.iload_n 1, 1) := by decide +kernel
theorem dX9_would_2 : decode cX9_would 2 = .ok (.ifCond .lt 24, 3) := by decide +kernel
theorem dX9_would_5 : decode cX9_would 5 = .ok (.iload_n 1, 1) := by decide +kernel
theorem dX9_would_6 : decode cX9_would 6 = .ok (.ldc 253, 2) := by decide +kernel
theorem dX9_would_8 : decode cX9_would 8 = .ok (.if_icmp .gt 18, 3) := by decide +kernel
theorem dX9_would_11 : decode cX9_would 11 = .ok (.iload_n 2, 1) := by decide +kernel
theorem dX9_would_12 : decode cX9_would 12 = .ok (.ifCond .lt 14, 3) := by decide +kernel
theorem dX9_would_15 : decode cX9_would 15 = .ok (.iload_n 2, 1) := by decide +kernel
theorem dX9_would_16 : decode cX9_would 16 = .ok (.sipush 999, 3) := by decide +kernel
theorem dX9_would_19 : decode cX9_would 19 = .ok (.if_icmp .gt 7, 3) := by decide +kernel
theorem dX9_would_22 : decode cX9_would 22 = .ok (.iconst 1, 1) := by decide +kernel
theorem dX9_would_23 : decode cX9_would 23 = .ok (.goto 4, 3) := by decide +kernel
theorem dX9_would_26 : decode cX9_would 26 = .ok (.iconst 0, 1) := by decide +kernel
theorem dX9_would_27 : decode cX9_would 27 = .ok (.invokevirtual 128, 3) := by decide +kernel
theorem dX9_would_30 : decode cX9_would 30 = .ok (.aload_n 0, 1) := by decide +kernel
theorem dX9_would_31 : decode cX9_would 31 = .ok (.iload_n 3, 1) := by decide +kernel
theorem dX9_would_32 : decode cX9_would 32 = .ok (.ifCond .lt 27, 3) := by decide +kernel
theorem dX9_would_35 : decode cX9_would 35 = .ok (.iload_n 3, 1) := by decide +kernel
theorem dX9_would_36 : decode cX9_would 36 = .ok (.sipush 999, 3) := by decide +kernel
theorem dX9_would_39 : decode cX9_would 39 = .ok (.if_icmp .gt 20, 3) := by decide +kernel
theorem dX9_would_42 : decode cX9_would 42 = .ok (.iload 4, 2) := by decide +kernel
theorem dX9_would_44 : decode cX9_would 44 = .ok (.ifCond .lt 15, 3) := by decide +kernel
theorem dX9_would_47 : decode cX9_would 47 = .ok (.iload 4, 2) := by decide +kernel
theorem dX9_would_49 : decode cX9_would 49 = .ok (.sipush 999, 3) := by decide +kernel
theorem dX9_would_52 : decode cX9_would 52 = .ok (.if_icmp .gt 7, 3) := by decide +kernel
theorem dX9_would_55 : decode cX9_would 55 = .ok (.iconst 1, 1) := by decide +kernel
theorem dX9_would_56 : decode cX9_would 56 = .ok (.goto 4, 3) := by decide +kernel
theorem dX9_would_59 : decode cX9_would 59 = .ok (.iconst 0, 1) := by decide +kernel
theorem dX9_would_60 : decode cX9_would 60 = .ok (.invokevirtual 128, 3) := by decide +kernel
theorem dX9_would_63 : decode cX9_would 63 = .ok (.aload_n 0, 1) := by decide +kernel
theorem dX9_would_64 : decode cX9_would 64 = .ok (.iload 5, 2) := by decide +kernel
theorem dX9_would_66 : decode cX9_would 66 = .ok (.ifCond .lt 24, 3) := by decide +kernel
theorem dX9_would_69 : decode cX9_would 69 = .ok (.iload 5, 2) := by decide +kernel
theorem dX9_would_71 : decode cX9_would 71 = .ok (.iconst 1, 1) := by decide +kernel
theorem dX9_would_72 : decode cX9_would 72 = .ok (.if_icmp .gt 18, 3) := by decide +kernel
theorem dX9_would_75 : decode cX9_would 75 = .ok (.iload 6, 2) := by decide +kernel
theorem dX9_would_77 : decode cX9_would 77 = .ok (.ifCond .lt 13, 3) := by decide +kernel
theorem dX9_would_80 : decode cX9_would 80 = .ok (.iload 6, 2) := by decide +kernel
theorem dX9_would_82 : decode cX9_would 82 = .ok (.iconst 1, 1) := by decide +kernel
theorem dX9_would_83 : decode cX9_would 83 = .ok (.if_icmp .gt 7, 3) := by decide +kernel
theorem dX9_would_86 : decode cX9_would 86 = .ok (.iconst 1, 1) := by decide +kernel
theorem dX9_would_87 : decode cX9_would 87 = .ok (.goto 4, 3) := by decide +kernel
theorem dX9_would_90 : decode cX9_would 90 = .ok (.iconst 0, 1) := by decide +kernel
theorem dX9_would_91 : decode cX9_would 91 = .ok (.invokevirtual 128, 3) := by decide +kernel
theorem dX9_would_94 : decode cX9_would 94 = .ok (.aload_n 0, 1) := by decide +kernel
theorem dX9_would_95 : decode cX9_would 95 = .ok (.iload 7, 2) := by decide +kernel
theorem dX9_would_97 : decode cX9_would 97 = .ok (.ifCond .lt 15, 3) := by decide +kernel
theorem dX9_would_100 : decode cX9_would 100 = .ok (.iload 7, 2) := by decide +kernel
theorem dX9_would_102 : decode cX9_would 102 = .ok (.sipush 9999, 3) := by decide +kernel
theorem dX9_would_105 : decode cX9_would 105 = .ok (.if_icmp .gt 7, 3) := by decide +kernel
theorem dX9_would_108 : decode cX9_would 108 = .ok (.iconst 1, 1) := by decide +kernel
theorem dX9_would_109 : decode cX9_would 109 = .ok (.goto 4, 3) := by decide +kernel
theorem dX9_would_112 : decode cX9_would 112 = .ok (.iconst 0, 1) := by decide +kernel
theorem dX9_would_113 : decode cX9_would 113 = .ok (.invokevirtual 128, 3) := by decide +kernel
theorem dX9_would_116 : decode cX9_would 116 = .ok (.aload_n 0, 1) := by decide +kernel
theorem dX9_would_117 : decode cX9_would 117 = .ok (.getfield 29, 3) := by decide +kernel
theorem dX9_would_120 : decode cX9_would 120 = .ok (.iload_n 1, 1) := by decide +kernel
theorem dX9_would_121 : decode cX9_would 121 = .ok (.iload_n 2, 1) := by decide +kernel
theorem dX9_would_122 : decode cX9_would 122 = .ok (.iload_n 3, 1) := by decide +kernel
theorem dX9_would_123 : decode cX9_would 123 = .ok (.iload 4, 2) := by decide +kernel
theorem dX9_would_125 : decode cX9_would 125 = .ok (.iload 5, 2) := by decide +kernel
theorem dX9_would_127 : decode cX9_would 127 = .ok (.iload 6, 2) := by decide +kernel
theorem dX9_would_129 : decode cX9_would 129 = .ok (.iload 7, 2) := by decide +kernel
theorem dX9_would_131 : decode cX9_would 131 = .ok (.invokevirtual 254, 3) := by decide +kernel
theorem dX9_would_134 : decode cX9_would 134 = .ok (.ireturn, 1) := by decide +kernel
abbrev mt_X9_would : AxM := (RX9, cX9_would, 8, (some .int), false, [])
theorem L1_X9_would_113 {g : AxG} {l : Launch} (hl0 : l.stackTraces = false) {res : AxT Int32} (N : Nat)  (v0 : Nat) (v1 : Int32) (v2 : Int32) (v3 : Int32) (v4 : Int32) (v5 : Int32) (v6 : Int32) (v7 : Int32) (w0 : Int32) (w1 : Nat) (S : AxS) (h : F_X9_would_113 N  v0 v1 v2 v3 v4 v5 v6 v7 w0 w1 S = some res) : AW g l (axRm (9) (axCs (axOI res)) (6 * axCs (axOI res))) mt_X9_would (axMQ g (axCs (axOI res)) (6 * axCs (axOI res)) (axOI res)) 0 0 S 113 [(0, .ref v0), (1, .int v1), (2, .int v2), (3, .int v3), (4, .int v4), (5, .int v5), (6, .int v6), (7, .int v7)] [.int w0, .ref w1] := by
  unfold F_X9_would_113 at h
  obtain ⟨hL1, h⟩ := ax_is_spec h
  refine aw_thV (ob := axOI) (rest := []) (fun _ _ => rfl) rfl h (fun u9 hF hu => aw_runV (As := [.int w0]) (rest := []) (L1_X9_needArgument hl0 N hF) axc9 hL1 wd_604 wd_601 wd_603 wd_3 wd_87 pd_X9_needArgument rfl (ax_rm (by omega) rfl) (ax_hfV (fun _ _ => rfl) hu) (Nat.le_of_ble_eq_true rfl) rfl dX9_would_113) (fun T2 h => ?_)
  refine aw_aload_n 0 dX9_would_116 rfl rfl ?_
  refine aw_getR axc9 3 rfl rfl wd_456 dX9_would_117 h (fun a4 h => ?_)
  refine aw_iload_n 1 dX9_would_120 rfl rfl ?_
  refine aw_iload_n 2 dX9_would_121 rfl rfl ?_
  refine aw_iload_n 3 dX9_would_122 rfl rfl ?_
  refine aw_iload 4 dX9_would_123 rfl ?_
  refine aw_iload 5 dX9_would_125 rfl ?_
  refine aw_iload 6 dX9_would_127 rfl ?_
  refine aw_iload 7 dX9_would_129 rfl ?_
  obtain ⟨hL5, h⟩ := ax_is_spec h
  refine aw_doneI (rest := []) h (fun r9 S9 hF => aw_runV (As := [.int v1, .int v2, .int v3, .int v4, .int v5, .int v6, .int v7]) (rest := []) (L1_X4_tolls N hF) axc4 hL5 wd_556 wd_553 wd_554 wd_555 wd_90 pd_X4_tolls rfl (ax_rm (by omega) rfl) ax_hf0 (Nat.le_of_ble_eq_true rfl) rfl dX9_would_131) (fun x7 T6 h => ?_)
  exact aw_iretT dX9_would_134 rfl h
theorem L1_X9_would_112 {g : AxG} {l : Launch} (hl0 : l.stackTraces = false) {res : AxT Int32} (N : Nat)  (v0 : Nat) (v1 : Int32) (v2 : Int32) (v3 : Int32) (v4 : Int32) (v5 : Int32) (v6 : Int32) (v7 : Int32) (w0 : Nat) (S : AxS) (h : F_X9_would_112 N  v0 v1 v2 v3 v4 v5 v6 v7 w0 S = some res) : AW g l (axRm (9) (axCs (axOI res)) (6 * axCs (axOI res))) mt_X9_would (axMQ g (axCs (axOI res)) (6 * axCs (axOI res)) (axOI res)) 0 0 S 112 [(0, .ref v0), (1, .int v1), (2, .int v2), (3, .int v3), (4, .int v4), (5, .int v5), (6, .int v6), (7, .int v7)] [.ref w0] := by
  unfold F_X9_would_112 at h
  refine aw_iconst 0 dX9_would_112 rfl ?_
  refine aw_env [(0, .ref v0), (1, .int v1), (2, .int v2), (3, .int v3), (4, .int v4), (5, .int v5), (6, .int v6), (7, .int v7)] [0, 1, 2, 3, 4, 5, 6, 7] rfl ?_
  exact L1_X9_would_113 hl0 N  v0 v1 v2 v3 v4 v5 v6 v7 0 w0 S h
theorem L1_X9_would_91 {g : AxG} {l : Launch} (hl0 : l.stackTraces = false) {res : AxT Int32} (N : Nat)  (v0 : Nat) (v1 : Int32) (v2 : Int32) (v3 : Int32) (v4 : Int32) (v5 : Int32) (v6 : Int32) (v7 : Int32) (w0 : Int32) (w1 : Nat) (S : AxS) (h : F_X9_would_91 N  v0 v1 v2 v3 v4 v5 v6 v7 w0 w1 S = some res) : AW g l (axRm (9) (axCs (axOI res)) (6 * axCs (axOI res))) mt_X9_would (axMQ g (axCs (axOI res)) (6 * axCs (axOI res)) (axOI res)) 0 0 S 91 [(0, .ref v0), (1, .int v1), (2, .int v2), (3, .int v3), (4, .int v4), (5, .int v5), (6, .int v6), (7, .int v7)] [.int w0, .ref w1] := by
  unfold F_X9_would_91 at h
  obtain ⟨hL1, h⟩ := ax_is_spec h
  refine aw_thV (ob := axOI) (rest := []) (fun _ _ => rfl) rfl h (fun u9 hF hu => aw_runV (As := [.int w0]) (rest := []) (L1_X9_needArgument hl0 N hF) axc9 hL1 wd_604 wd_601 wd_603 wd_3 wd_87 pd_X9_needArgument rfl (ax_rm (by omega) rfl) (ax_hfV (fun _ _ => rfl) hu) (Nat.le_of_ble_eq_true rfl) rfl dX9_would_91) (fun T2 h => ?_)
  refine aw_aload_n 0 dX9_would_94 rfl rfl ?_
  refine aw_iload 7 dX9_would_95 rfl ?_
  refine aw_if_lt 112 dX9_would_97 (by decide) h (fun h => ?_) (fun h => ?_)
  · refine aw_env [(0, .ref v0), (1, .int v1), (2, .int v2), (3, .int v3), (4, .int v4), (5, .int v5), (6, .int v6), (7, .int v7)] [0, 1, 2, 3, 4, 5, 6, 7] rfl ?_
    exact L1_X9_would_112 hl0 N  v0 v1 v2 v3 v4 v5 v6 v7 v0 T2 h
  · refine aw_iload 7 dX9_would_100 rfl ?_
    refine aw_sipush 9999 dX9_would_102 (by decide) ?_
    refine aw_icmp_gt 112 dX9_would_105 (by decide) h (fun h => ?_) (fun h => ?_)
    · refine aw_env [(0, .ref v0), (1, .int v1), (2, .int v2), (3, .int v3), (4, .int v4), (5, .int v5), (6, .int v6), (7, .int v7)] [0, 1, 2, 3, 4, 5, 6, 7] rfl ?_
      exact L1_X9_would_112 hl0 N  v0 v1 v2 v3 v4 v5 v6 v7 v0 T2 h
    · refine aw_iconst 1 dX9_would_108 rfl ?_
      refine aw_goto 113 dX9_would_109 (by decide) ?_
      refine aw_env [(0, .ref v0), (1, .int v1), (2, .int v2), (3, .int v3), (4, .int v4), (5, .int v5), (6, .int v6), (7, .int v7)] [0, 1, 2, 3, 4, 5, 6, 7] rfl ?_
      exact L1_X9_would_113 hl0 N  v0 v1 v2 v3 v4 v5 v6 v7 1 v0 T2 h
theorem L1_X9_would_90 {g : AxG} {l : Launch} (hl0 : l.stackTraces = false) {res : AxT Int32} (N : Nat)  (v0 : Nat) (v1 : Int32) (v2 : Int32) (v3 : Int32) (v4 : Int32) (v5 : Int32) (v6 : Int32) (v7 : Int32) (w0 : Nat) (S : AxS) (h : F_X9_would_90 N  v0 v1 v2 v3 v4 v5 v6 v7 w0 S = some res) : AW g l (axRm (9) (axCs (axOI res)) (6 * axCs (axOI res))) mt_X9_would (axMQ g (axCs (axOI res)) (6 * axCs (axOI res)) (axOI res)) 0 0 S 90 [(0, .ref v0), (1, .int v1), (2, .int v2), (3, .int v3), (4, .int v4), (5, .int v5), (6, .int v6), (7, .int v7)] [.ref w0] := by
  unfold F_X9_would_90 at h
  refine aw_iconst 0 dX9_would_90 rfl ?_
  refine aw_env [(0, .ref v0), (1, .int v1), (2, .int v2), (3, .int v3), (4, .int v4), (5, .int v5), (6, .int v6), (7, .int v7)] [0, 1, 2, 3, 4, 5, 6, 7] rfl ?_
  exact L1_X9_would_91 hl0 N  v0 v1 v2 v3 v4 v5 v6 v7 0 w0 S h
theorem L1_X9_would_60 {g : AxG} {l : Launch} (hl0 : l.stackTraces = false) {res : AxT Int32} (N : Nat)  (v0 : Nat) (v1 : Int32) (v2 : Int32) (v3 : Int32) (v4 : Int32) (v5 : Int32) (v6 : Int32) (v7 : Int32) (w0 : Int32) (w1 : Nat) (S : AxS) (h : F_X9_would_60 N  v0 v1 v2 v3 v4 v5 v6 v7 w0 w1 S = some res) : AW g l (axRm (9) (axCs (axOI res)) (6 * axCs (axOI res))) mt_X9_would (axMQ g (axCs (axOI res)) (6 * axCs (axOI res)) (axOI res)) 0 0 S 60 [(0, .ref v0), (1, .int v1), (2, .int v2), (3, .int v3), (4, .int v4), (5, .int v5), (6, .int v6), (7, .int v7)] [.int w0, .ref w1] := by
  unfold F_X9_would_60 at h
  obtain ⟨hL1, h⟩ := ax_is_spec h
  refine aw_thV (ob := axOI) (rest := []) (fun _ _ => rfl) rfl h (fun u9 hF hu => aw_runV (As := [.int w0]) (rest := []) (L1_X9_needArgument hl0 N hF) axc9 hL1 wd_604 wd_601 wd_603 wd_3 wd_87 pd_X9_needArgument rfl (ax_rm (by omega) rfl) (ax_hfV (fun _ _ => rfl) hu) (Nat.le_of_ble_eq_true rfl) rfl dX9_would_60) (fun T2 h => ?_)
  refine aw_aload_n 0 dX9_would_63 rfl rfl ?_
  refine aw_iload 5 dX9_would_64 rfl ?_
  refine aw_if_lt 90 dX9_would_66 (by decide) h (fun h => ?_) (fun h => ?_)
  · refine aw_env [(0, .ref v0), (1, .int v1), (2, .int v2), (3, .int v3), (4, .int v4), (5, .int v5), (6, .int v6), (7, .int v7)] [0, 1, 2, 3, 4, 5, 6, 7] rfl ?_
    exact L1_X9_would_90 hl0 N  v0 v1 v2 v3 v4 v5 v6 v7 v0 T2 h
  · refine aw_iload 5 dX9_would_69 rfl ?_
    refine aw_iconst 1 dX9_would_71 rfl ?_
    refine aw_icmp_gt 90 dX9_would_72 (by decide) h (fun h => ?_) (fun h => ?_)
    · refine aw_env [(0, .ref v0), (1, .int v1), (2, .int v2), (3, .int v3), (4, .int v4), (5, .int v5), (6, .int v6), (7, .int v7)] [0, 1, 2, 3, 4, 5, 6, 7] rfl ?_
      exact L1_X9_would_90 hl0 N  v0 v1 v2 v3 v4 v5 v6 v7 v0 T2 h
    · refine aw_iload 6 dX9_would_75 rfl ?_
      refine aw_if_lt 90 dX9_would_77 (by decide) h (fun h => ?_) (fun h => ?_)
      · refine aw_env [(0, .ref v0), (1, .int v1), (2, .int v2), (3, .int v3), (4, .int v4), (5, .int v5), (6, .int v6), (7, .int v7)] [0, 1, 2, 3, 4, 5, 6, 7] rfl ?_
        exact L1_X9_would_90 hl0 N  v0 v1 v2 v3 v4 v5 v6 v7 v0 T2 h
      · refine aw_iload 6 dX9_would_80 rfl ?_
        refine aw_iconst 1 dX9_would_82 rfl ?_
        refine aw_icmp_gt 90 dX9_would_83 (by decide) h (fun h => ?_) (fun h => ?_)
        · refine aw_env [(0, .ref v0), (1, .int v1), (2, .int v2), (3, .int v3), (4, .int v4), (5, .int v5), (6, .int v6), (7, .int v7)] [0, 1, 2, 3, 4, 5, 6, 7] rfl ?_
          exact L1_X9_would_90 hl0 N  v0 v1 v2 v3 v4 v5 v6 v7 v0 T2 h
        · refine aw_iconst 1 dX9_would_86 rfl ?_
          refine aw_goto 91 dX9_would_87 (by decide) ?_
          refine aw_env [(0, .ref v0), (1, .int v1), (2, .int v2), (3, .int v3), (4, .int v4), (5, .int v5), (6, .int v6), (7, .int v7)] [0, 1, 2, 3, 4, 5, 6, 7] rfl ?_
          exact L1_X9_would_91 hl0 N  v0 v1 v2 v3 v4 v5 v6 v7 1 v0 T2 h
theorem L1_X9_would_59 {g : AxG} {l : Launch} (hl0 : l.stackTraces = false) {res : AxT Int32} (N : Nat)  (v0 : Nat) (v1 : Int32) (v2 : Int32) (v3 : Int32) (v4 : Int32) (v5 : Int32) (v6 : Int32) (v7 : Int32) (w0 : Nat) (S : AxS) (h : F_X9_would_59 N  v0 v1 v2 v3 v4 v5 v6 v7 w0 S = some res) : AW g l (axRm (9) (axCs (axOI res)) (6 * axCs (axOI res))) mt_X9_would (axMQ g (axCs (axOI res)) (6 * axCs (axOI res)) (axOI res)) 0 0 S 59 [(0, .ref v0), (1, .int v1), (2, .int v2), (3, .int v3), (4, .int v4), (5, .int v5), (6, .int v6), (7, .int v7)] [.ref w0] := by
  unfold F_X9_would_59 at h
  refine aw_iconst 0 dX9_would_59 rfl ?_
  refine aw_env [(0, .ref v0), (1, .int v1), (2, .int v2), (3, .int v3), (4, .int v4), (5, .int v5), (6, .int v6), (7, .int v7)] [0, 1, 2, 3, 4, 5, 6, 7] rfl ?_
  exact L1_X9_would_60 hl0 N  v0 v1 v2 v3 v4 v5 v6 v7 0 w0 S h
theorem L1_X9_would_27 {g : AxG} {l : Launch} (hl0 : l.stackTraces = false) {res : AxT Int32} (N : Nat)  (v0 : Nat) (v1 : Int32) (v2 : Int32) (v3 : Int32) (v4 : Int32) (v5 : Int32) (v6 : Int32) (v7 : Int32) (w0 : Int32) (w1 : Nat) (S : AxS) (h : F_X9_would_27 N  v0 v1 v2 v3 v4 v5 v6 v7 w0 w1 S = some res) : AW g l (axRm (9) (axCs (axOI res)) (6 * axCs (axOI res))) mt_X9_would (axMQ g (axCs (axOI res)) (6 * axCs (axOI res)) (axOI res)) 0 0 S 27 [(0, .ref v0), (1, .int v1), (2, .int v2), (3, .int v3), (4, .int v4), (5, .int v5), (6, .int v6), (7, .int v7)] [.int w0, .ref w1] := by
  unfold F_X9_would_27 at h
  obtain ⟨hL1, h⟩ := ax_is_spec h
  refine aw_thV (ob := axOI) (rest := []) (fun _ _ => rfl) rfl h (fun u9 hF hu => aw_runV (As := [.int w0]) (rest := []) (L1_X9_needArgument hl0 N hF) axc9 hL1 wd_604 wd_601 wd_603 wd_3 wd_87 pd_X9_needArgument rfl (ax_rm (by omega) rfl) (ax_hfV (fun _ _ => rfl) hu) (Nat.le_of_ble_eq_true rfl) rfl dX9_would_27) (fun T2 h => ?_)
  refine aw_aload_n 0 dX9_would_30 rfl rfl ?_
  refine aw_iload_n 3 dX9_would_31 rfl rfl ?_
  refine aw_if_lt 59 dX9_would_32 (by decide) h (fun h => ?_) (fun h => ?_)
  · refine aw_env [(0, .ref v0), (1, .int v1), (2, .int v2), (3, .int v3), (4, .int v4), (5, .int v5), (6, .int v6), (7, .int v7)] [0, 1, 2, 3, 4, 5, 6, 7] rfl ?_
    exact L1_X9_would_59 hl0 N  v0 v1 v2 v3 v4 v5 v6 v7 v0 T2 h
  · refine aw_iload_n 3 dX9_would_35 rfl rfl ?_
    refine aw_sipush 999 dX9_would_36 (by decide) ?_
    refine aw_icmp_gt 59 dX9_would_39 (by decide) h (fun h => ?_) (fun h => ?_)
    · refine aw_env [(0, .ref v0), (1, .int v1), (2, .int v2), (3, .int v3), (4, .int v4), (5, .int v5), (6, .int v6), (7, .int v7)] [0, 1, 2, 3, 4, 5, 6, 7] rfl ?_
      exact L1_X9_would_59 hl0 N  v0 v1 v2 v3 v4 v5 v6 v7 v0 T2 h
    · refine aw_iload 4 dX9_would_42 rfl ?_
      refine aw_if_lt 59 dX9_would_44 (by decide) h (fun h => ?_) (fun h => ?_)
      · refine aw_env [(0, .ref v0), (1, .int v1), (2, .int v2), (3, .int v3), (4, .int v4), (5, .int v5), (6, .int v6), (7, .int v7)] [0, 1, 2, 3, 4, 5, 6, 7] rfl ?_
        exact L1_X9_would_59 hl0 N  v0 v1 v2 v3 v4 v5 v6 v7 v0 T2 h
      · refine aw_iload 4 dX9_would_47 rfl ?_
        refine aw_sipush 999 dX9_would_49 (by decide) ?_
        refine aw_icmp_gt 59 dX9_would_52 (by decide) h (fun h => ?_) (fun h => ?_)
        · refine aw_env [(0, .ref v0), (1, .int v1), (2, .int v2), (3, .int v3), (4, .int v4), (5, .int v5), (6, .int v6), (7, .int v7)] [0, 1, 2, 3, 4, 5, 6, 7] rfl ?_
          exact L1_X9_would_59 hl0 N  v0 v1 v2 v3 v4 v5 v6 v7 v0 T2 h
        · refine aw_iconst 1 dX9_would_55 rfl ?_
          refine aw_goto 60 dX9_would_56 (by decide) ?_
          refine aw_env [(0, .ref v0), (1, .int v1), (2, .int v2), (3, .int v3), (4, .int v4), (5, .int v5), (6, .int v6), (7, .int v7)] [0, 1, 2, 3, 4, 5, 6, 7] rfl ?_
          exact L1_X9_would_60 hl0 N  v0 v1 v2 v3 v4 v5 v6 v7 1 v0 T2 h
theorem L1_X9_would_26 {g : AxG} {l : Launch} (hl0 : l.stackTraces = false) {res : AxT Int32} (N : Nat)  (v0 : Nat) (v1 : Int32) (v2 : Int32) (v3 : Int32) (v4 : Int32) (v5 : Int32) (v6 : Int32) (v7 : Int32) (w0 : Nat) (S : AxS) (h : F_X9_would_26 N  v0 v1 v2 v3 v4 v5 v6 v7 w0 S = some res) : AW g l (axRm (9) (axCs (axOI res)) (6 * axCs (axOI res))) mt_X9_would (axMQ g (axCs (axOI res)) (6 * axCs (axOI res)) (axOI res)) 0 0 S 26 [(0, .ref v0), (1, .int v1), (2, .int v2), (3, .int v3), (4, .int v4), (5, .int v5), (6, .int v6), (7, .int v7)] [.ref w0] := by
  unfold F_X9_would_26 at h
  refine aw_iconst 0 dX9_would_26 rfl ?_
  refine aw_env [(0, .ref v0), (1, .int v1), (2, .int v2), (3, .int v3), (4, .int v4), (5, .int v5), (6, .int v6), (7, .int v7)] [0, 1, 2, 3, 4, 5, 6, 7] rfl ?_
  exact L1_X9_would_27 hl0 N  v0 v1 v2 v3 v4 v5 v6 v7 0 w0 S h
theorem L1_X9_would {g : AxG} {l : Launch} (hl0 : l.stackTraces = false) (N : Nat) {v0 : Nat} {v1 : Int32} {v2 : Int32} {v3 : Int32} {v4 : Int32} {v5 : Int32} {v6 : Int32} {v7 : Int32} {S : AxS} {res : AxT Int32} (h : F_X9_would N v0 v1 v2 v3 v4 v5 v6 v7 S = some res) : AxMet g l yX9_would cX9_would 8 (some .int) (9) (axCs (axOI res)) (6 * axCs (axOI res)) [.ref v0, .int v1, .int v2, .int v3, .int v4, .int v5, .int v6, .int v7] S (axOI res) := by
  refine ax_met (own := RX9) (ini := false) (by decide +kernel) rfl (fun h => nomatch h) rfl ?_
  show AW g l (axRm (9) (axCs (axOI res)) (6 * axCs (axOI res))) mt_X9_would (axMQ g (axCs (axOI res)) (6 * axCs (axOI res)) (axOI res)) 0 0 S 0 [(0, .ref v0), (1, .int v1), (2, .int v2), (3, .int v3), (4, .int v4), (5, .int v5), (6, .int v6), (7, .int v7)] []
  unfold F_X9_would at h
  refine aw_aload_n 0 dX9_would_0 rfl rfl ?_
  refine aw_iload_n 1 dX9_would_1 rfl rfl ?_
  refine aw_if_lt 26 dX9_would_2 (by decide) h (fun h => ?_) (fun h => ?_)
  · refine aw_env [(0, .ref v0), (1, .int v1), (2, .int v2), (3, .int v3), (4, .int v4), (5, .int v5), (6, .int v6), (7, .int v7)] [0, 1, 2, 3, 4, 5, 6, 7] rfl ?_
    exact L1_X9_would_26 hl0 N  v0 v1 v2 v3 v4 v5 v6 v7 v0 S h
  · refine aw_iload_n 1 dX9_would_5 rfl rfl ?_
    refine aw_ldcI wd_1020 dX9_would_6 ?_
    refine aw_icmp_gt 26 dX9_would_8 (by decide) h (fun h => ?_) (fun h => ?_)
    · refine aw_env [(0, .ref v0), (1, .int v1), (2, .int v2), (3, .int v3), (4, .int v4), (5, .int v5), (6, .int v6), (7, .int v7)] [0, 1, 2, 3, 4, 5, 6, 7] rfl ?_
      exact L1_X9_would_26 hl0 N  v0 v1 v2 v3 v4 v5 v6 v7 v0 S h
    · refine aw_iload_n 2 dX9_would_11 rfl rfl ?_
      refine aw_if_lt 26 dX9_would_12 (by decide) h (fun h => ?_) (fun h => ?_)
      · refine aw_env [(0, .ref v0), (1, .int v1), (2, .int v2), (3, .int v3), (4, .int v4), (5, .int v5), (6, .int v6), (7, .int v7)] [0, 1, 2, 3, 4, 5, 6, 7] rfl ?_
        exact L1_X9_would_26 hl0 N  v0 v1 v2 v3 v4 v5 v6 v7 v0 S h
      · refine aw_iload_n 2 dX9_would_15 rfl rfl ?_
        refine aw_sipush 999 dX9_would_16 (by decide) ?_
        refine aw_icmp_gt 26 dX9_would_19 (by decide) h (fun h => ?_) (fun h => ?_)
        · refine aw_env [(0, .ref v0), (1, .int v1), (2, .int v2), (3, .int v3), (4, .int v4), (5, .int v5), (6, .int v6), (7, .int v7)] [0, 1, 2, 3, 4, 5, 6, 7] rfl ?_
          exact L1_X9_would_26 hl0 N  v0 v1 v2 v3 v4 v5 v6 v7 v0 S h
        · refine aw_iconst 1 dX9_would_22 rfl ?_
          refine aw_goto 27 dX9_would_23 (by decide) ?_
          refine aw_env [(0, .ref v0), (1, .int v1), (2, .int v2), (3, .int v3), (4, .int v4), (5, .int v5), (6, .int v6), (7, .int v7)] [0, 1, 2, 3, 4, 5, 6, 7] rfl ?_
          exact L1_X9_would_27 hl0 N  v0 v1 v2 v3 v4 v5 v6 v7 1 v0 S h

theorem dX9_noise_0 : decode cX9_noise 0 = .ok (.aload_n 0, 1) := by decide +kernel
theorem dX9_noise_1 : decode cX9_noise 1 = .ok (.iload_n 1, 1) := by decide +kernel
theorem dX9_noise_2 : decode cX9_noise 2 = .ok (.aload_n 0, 1) := by decide +kernel
theorem dX9_noise_3 : decode cX9_noise 3 = .ok (.getfield 19, 3) := by decide +kernel
theorem dX9_noise_6 : decode cX9_noise 6 = .ok (.getfield 210, 3) := by decide +kernel
theorem dX9_noise_9 : decode cX9_noise 9 = .ok (.invokevirtual 216, 3) := by decide +kernel
theorem dX9_noise_12 : decode cX9_noise 12 = .ok (.aload_n 0, 1) := by decide +kernel
theorem dX9_noise_13 : decode cX9_noise 13 = .ok (.iload_n 2, 1) := by decide +kernel
theorem dX9_noise_14 : decode cX9_noise 14 = .ok (.ifCond .lt 14, 3) := by decide +kernel
theorem dX9_noise_17 : decode cX9_noise 17 = .ok (.iload_n 2, 1) := by decide +kernel
theorem dX9_noise_18 : decode cX9_noise 18 = .ok (.sipush 999, 3) := by decide +kernel
theorem dX9_noise_21 : decode cX9_noise 21 = .ok (.if_icmp .gt 7, 3) := by decide +kernel
theorem dX9_noise_24 : decode cX9_noise 24 = .ok (.iconst 1, 1) := by decide +kernel
theorem dX9_noise_25 : decode cX9_noise 25 = .ok (.goto 4, 3) := by decide +kernel
theorem dX9_noise_28 : decode cX9_noise 28 = .ok (.iconst 0, 1) := by decide +kernel
theorem dX9_noise_29 : decode cX9_noise 29 = .ok (.invokevirtual 128, 3) := by decide +kernel
theorem dX9_noise_32 : decode cX9_noise 32 = .ok (.aload_n 0, 1) := by decide +kernel
theorem dX9_noise_33 : decode cX9_noise 33 = .ok (.getfield 19, 3) := by decide +kernel
theorem dX9_noise_36 : decode cX9_noise 36 = .ok (.iload_n 1, 1) := by decide +kernel
theorem dX9_noise_37 : decode cX9_noise 37 = .ok (.iload_n 2, 1) := by decide +kernel
theorem dX9_noise_38 : decode cX9_noise 38 = .ok (.invokevirtual 258, 3) := by decide +kernel
theorem dX9_noise_41 : decode cX9_noise 41 = .ok (.ireturn, 1) := by decide +kernel
abbrev mt_X9_noise : AxM := (RX9, cX9_noise, 3, (some .int), false, [])
theorem L1_X9_noise_29 {g : AxG} {l : Launch} (hl0 : l.stackTraces = false) {res : AxT Int32} (N : Nat)  (v0 : Nat) (v1 : Int32) (v2 : Int32) (w0 : Int32) (w1 : Nat) (S : AxS) (h : F_X9_noise_29 N  v0 v1 v2 w0 w1 S = some res) : AW g l (axRm (9) (axCs (axOI res)) (6 * axCs (axOI res))) mt_X9_noise (axMQ g (axCs (axOI res)) (6 * axCs (axOI res)) (axOI res)) 0 0 S 29 [(0, .ref v0), (1, .int v1), (2, .int v2)] [.int w0, .ref w1] := by
  unfold F_X9_noise_29 at h
  obtain ⟨hL1, h⟩ := ax_is_spec h
  refine aw_thV (ob := axOI) (rest := []) (fun _ _ => rfl) rfl h (fun u9 hF hu => aw_runV (As := [.int w0]) (rest := []) (L1_X9_needArgument hl0 N hF) axc9 hL1 wd_604 wd_601 wd_603 wd_3 wd_87 pd_X9_needArgument rfl (ax_rm (by omega) rfl) (ax_hfV (fun _ _ => rfl) hu) (Nat.le_of_ble_eq_true rfl) rfl dX9_noise_29) (fun T2 h => ?_)
  refine aw_aload_n 0 dX9_noise_32 rfl rfl ?_
  refine aw_getR axc9 1 rfl rfl wd_454 dX9_noise_33 h (fun a4 h => ?_)
  refine aw_iload_n 1 dX9_noise_36 rfl rfl ?_
  refine aw_iload_n 2 dX9_noise_37 rfl rfl ?_
  obtain ⟨hL5, h⟩ := ax_is_spec h
  refine aw_doneI (rest := []) h (fun r9 S9 hF => aw_runV (As := [.int v1, .int v2]) (rest := []) (L1_X1_loud N hF) axc1 hL5 wd_916 wd_913 wd_914 wd_915 wd_89 pd_X1_loud rfl (ax_rm (by omega) rfl) ax_hf0 (Nat.le_of_ble_eq_true rfl) rfl dX9_noise_38) (fun x7 T6 h => ?_)
  exact aw_iretT dX9_noise_41 rfl h
theorem L1_X9_noise_28 {g : AxG} {l : Launch} (hl0 : l.stackTraces = false) {res : AxT Int32} (N : Nat)  (v0 : Nat) (v1 : Int32) (v2 : Int32) (w0 : Nat) (S : AxS) (h : F_X9_noise_28 N  v0 v1 v2 w0 S = some res) : AW g l (axRm (9) (axCs (axOI res)) (6 * axCs (axOI res))) mt_X9_noise (axMQ g (axCs (axOI res)) (6 * axCs (axOI res)) (axOI res)) 0 0 S 28 [(0, .ref v0), (1, .int v1), (2, .int v2)] [.ref w0] := by
  unfold F_X9_noise_28 at h
  refine aw_iconst 0 dX9_noise_28 rfl ?_
  refine aw_env [(0, .ref v0), (1, .int v1), (2, .int v2)] [0, 1, 2] rfl ?_
  exact L1_X9_noise_29 hl0 N  v0 v1 v2 0 w0 S h
theorem L1_X9_noise {g : AxG} {l : Launch} (hl0 : l.stackTraces = false) (N : Nat) {v0 : Nat} {v1 : Int32} {v2 : Int32} {S : AxS} {res : AxT Int32} (h : F_X9_noise N v0 v1 v2 S = some res) : AxMet g l yX9_noise cX9_noise 3 (some .int) (9) (axCs (axOI res)) (6 * axCs (axOI res)) [.ref v0, .int v1, .int v2] S (axOI res) := by
  refine ax_met (own := RX9) (ini := false) (by decide +kernel) rfl (fun h => nomatch h) rfl ?_
  show AW g l (axRm (9) (axCs (axOI res)) (6 * axCs (axOI res))) mt_X9_noise (axMQ g (axCs (axOI res)) (6 * axCs (axOI res)) (axOI res)) 0 0 S 0 [(0, .ref v0), (1, .int v1), (2, .int v2)] []
  unfold F_X9_noise at h
  refine aw_aload_n 0 dX9_noise_0 rfl rfl ?_
  refine aw_iload_n 1 dX9_noise_1 rfl rfl ?_
  refine aw_aload_n 0 dX9_noise_2 rfl rfl ?_
  refine aw_getR axc9 1 rfl rfl wd_454 dX9_noise_3 h (fun a1 h => ?_)
  refine aw_getI axc1 4 rfl rfl wd_181 dX9_noise_6 h (fun x2 h => ?_)
  obtain ⟨hL3, h⟩ := ax_is_spec h
  refine aw_thV (ob := axOI) (rest := []) (fun _ _ => rfl) rfl h (fun u9 hF hu => aw_runV (As := [.int v1, .int x2]) (rest := []) (L1_X9_needOne hl0 N hF) axc9 hL3 wd_975 wd_972 wd_974 wd_20 wd_87 pd_X9_needOne rfl (ax_rm (by omega) rfl) (ax_hfV (fun _ _ => rfl) hu) (Nat.le_of_ble_eq_true rfl) rfl dX9_noise_9) (fun T4 h => ?_)
  refine aw_aload_n 0 dX9_noise_12 rfl rfl ?_
  refine aw_iload_n 2 dX9_noise_13 rfl rfl ?_
  refine aw_if_lt 28 dX9_noise_14 (by decide) h (fun h => ?_) (fun h => ?_)
  · refine aw_env [(0, .ref v0), (1, .int v1), (2, .int v2)] [0, 1, 2] rfl ?_
    exact L1_X9_noise_28 hl0 N  v0 v1 v2 v0 T4 h
  · refine aw_iload_n 2 dX9_noise_17 rfl rfl ?_
    refine aw_sipush 999 dX9_noise_18 (by decide) ?_
    refine aw_icmp_gt 28 dX9_noise_21 (by decide) h (fun h => ?_) (fun h => ?_)
    · refine aw_env [(0, .ref v0), (1, .int v1), (2, .int v2)] [0, 1, 2] rfl ?_
      exact L1_X9_noise_28 hl0 N  v0 v1 v2 v0 T4 h
    · refine aw_iconst 1 dX9_noise_24 rfl ?_
      refine aw_goto 29 dX9_noise_25 (by decide) ?_
      refine aw_env [(0, .ref v0), (1, .int v1), (2, .int v2)] [0, 1, 2] rfl ?_
      exact L1_X9_noise_29 hl0 N  v0 v1 v2 1 v0 T4 h
