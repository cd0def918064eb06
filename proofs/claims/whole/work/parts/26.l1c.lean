theorem dX9_heirs_0 : decode cX9_heirs 0 = .ok (.aload_n 0, 1) := by decide +kernel
theorem dX9_heirs_1 : decode cX9_heirs 1 = .ok (.iload_n 1, 1) := by decide +kernel
theorem dX9_heirs_2 : decode cX9_heirs 2 = .ok (.ifCond .lt 22, 3) := by decide +kernel
theorem dX9_heirs_5 : decode cX9_heirs 5 = .ok (.iload_n 1, 1) := by decide +kernel
theorem dX9_heirs_6 : decode cX9_heirs 6 = .ok (.bipush 9, 2) := by decide +kernel
theorem dX9_heirs_8 : decode cX9_heirs 8 = .ok (.if_icmp .gt 16, 3) := by decide +kernel
theorem dX9_heirs_11 : decode cX9_heirs 11 = .ok (.iload_n 2, 1) := by decide +kernel
theorem dX9_heirs_12 : decode cX9_heirs 12 = .ok (.ifCond .lt 12, 3) := by decide +kernel
theorem dX9_heirs_15 : decode cX9_heirs 15 = .ok (.iload_n 2, 1) := by decide +kernel
theorem dX9_heirs_16 : decode cX9_heirs 16 = .ok (.iconst 2, 1) := by decide +kernel
theorem dX9_heirs_17 : decode cX9_heirs 17 = .ok (.if_icmp .gt 7, 3) := by decide +kernel
theorem dX9_heirs_20 : decode cX9_heirs 20 = .ok (.iconst 1, 1) := by decide +kernel
theorem dX9_heirs_21 : decode cX9_heirs 21 = .ok (.goto 4, 3) := by decide +kernel
theorem dX9_heirs_24 : decode cX9_heirs 24 = .ok (.iconst 0, 1) := by decide +kernel
theorem dX9_heirs_25 : decode cX9_heirs 25 = .ok (.invokevirtual 128, 3) := by decide +kernel
theorem dX9_heirs_28 : decode cX9_heirs 28 = .ok (.iload_n 1, 1) := by decide +kernel
theorem dX9_heirs_29 : decode cX9_heirs 29 = .ok (.iconst 1, 1) := by decide +kernel
theorem dX9_heirs_30 : decode cX9_heirs 30 = .ok (.iadd, 1) := by decide +kernel
theorem dX9_heirs_31 : decode cX9_heirs 31 = .ok (.aload_n 0, 1) := by decide +kernel
theorem dX9_heirs_32 : decode cX9_heirs 32 = .ok (.getfield 19, 3) := by decide +kernel
theorem dX9_heirs_35 : decode cX9_heirs 35 = .ok (.getfield 213, 3) := by decide +kernel
theorem dX9_heirs_38 : decode cX9_heirs 38 = .ok (.invokestatic 322, 3) := by decide +kernel
theorem dX9_heirs_41 : decode cX9_heirs 41 = .ok (.l2i, 1) := by decide +kernel
theorem dX9_heirs_42 : decode cX9_heirs 42 = .ok (.istore_n 3, 1) := by decide +kernel
theorem dX9_heirs_43 : decode cX9_heirs 43 = .ok (.iconst 0, 1) := by decide +kernel
theorem dX9_heirs_44 : decode cX9_heirs 44 = .ok (.istore 4, 2) := by decide +kernel
theorem dX9_heirs_46 : decode cX9_heirs 46 = .ok (.iconst (-1), 1) := by decide +kernel
theorem dX9_heirs_47 : decode cX9_heirs 47 = .ok (.istore 5, 2) := by decide +kernel
theorem dX9_heirs_49 : decode cX9_heirs 49 = .ok (.iconst 0, 1) := by decide +kernel
theorem dX9_heirs_50 : decode cX9_heirs 50 = .ok (.istore 6, 2) := by decide +kernel
theorem dX9_heirs_52 : decode cX9_heirs 52 = .ok (.iconst 0, 1) := by decide +kernel
theorem dX9_heirs_53 : decode cX9_heirs 53 = .ok (.istore 7, 2) := by decide +kernel
theorem dX9_heirs_55 : decode cX9_heirs 55 = .ok (.iload 7, 2) := by decide +kernel
theorem dX9_heirs_57 : decode cX9_heirs 57 = .ok (.iload_n 3, 1) := by decide +kernel
theorem dX9_heirs_58 : decode cX9_heirs 58 = .ok (.if_icmp .ge 55, 3) := by decide +kernel
theorem dX9_heirs_61 : decode cX9_heirs 61 = .ok (.aload_n 0, 1) := by decide +kernel
theorem dX9_heirs_62 : decode cX9_heirs 62 = .ok (.iload 7, 2) := by decide +kernel
theorem dX9_heirs_64 : decode cX9_heirs 64 = .ok (.iload_n 1, 1) := by decide +kernel
theorem dX9_heirs_65 : decode cX9_heirs 65 = .ok (.iconst 1, 1) := by decide +kernel
theorem dX9_heirs_66 : decode cX9_heirs 66 = .ok (.iadd, 1) := by decide +kernel
theorem dX9_heirs_67 : decode cX9_heirs 67 = .ok (.invokevirtual 333, 3) := by decide +kernel
theorem dX9_heirs_70 : decode cX9_heirs 70 = .ok (.istore 8, 2) := by decide +kernel
theorem dX9_heirs_72 : decode cX9_heirs 72 = .ok (.aload_n 0, 1) := by decide +kernel
theorem dX9_heirs_73 : decode cX9_heirs 73 = .ok (.iload 8, 2) := by decide +kernel
theorem dX9_heirs_75 : decode cX9_heirs 75 = .ok (.iload_n 1, 1) := by decide +kernel
theorem dX9_heirs_76 : decode cX9_heirs 76 = .ok (.invokevirtual 336, 3) := by decide +kernel
theorem dX9_heirs_79 : decode cX9_heirs 79 = .ok (.ifCond .ne 6, 3) := by decide +kernel
theorem dX9_heirs_82 : decode cX9_heirs 82 = .ok (.goto 25, 3) := by decide +kernel
theorem dX9_heirs_85 : decode cX9_heirs 85 = .ok (.iload 4, 2) := by decide +kernel
theorem dX9_heirs_87 : decode cX9_heirs 87 = .ok (.ifCond .ne 17, 3) := by decide +kernel
theorem dX9_heirs_90 : decode cX9_heirs 90 = .ok (.aload_n 0, 1) := by decide +kernel
theorem dX9_heirs_91 : decode cX9_heirs 91 = .ok (.invokevirtual 340, 3) := by decide +kernel
theorem dX9_heirs_94 : decode cX9_heirs 94 = .ok (.istore 5, 2) := by decide +kernel
theorem dX9_heirs_96 : decode cX9_heirs 96 = .ok (.aload_n 0, 1) := by decide +kernel
theorem dX9_heirs_97 : decode cX9_heirs 97 = .ok (.iload 8, 2) := by decide +kernel
theorem dX9_heirs_99 : decode cX9_heirs 99 = .ok (.invokevirtual 344, 3) := by decide +kernel
theorem dX9_heirs_102 : decode cX9_heirs 102 = .ok (.istore 6, 2) := by decide +kernel
theorem dX9_heirs_104 : decode cX9_heirs 104 = .ok (.iinc 4 1, 3) := by decide +kernel
theorem dX9_heirs_107 : decode cX9_heirs 107 = .ok (.iinc 7 1, 3) := by decide +kernel
theorem dX9_heirs_110 : decode cX9_heirs 110 = .ok (.goto (-55), 3) := by decide +kernel
theorem dX9_heirs_113 : decode cX9_heirs 113 = .ok (.iload_n 2, 1) := by decide +kernel
theorem dX9_heirs_114 : decode cX9_heirs 114 = .ok (.lookupswitch 32 #[(0, 26), (1, 29)], 26) := by decide +kernel
theorem dX9_heirs_140 : decode cX9_heirs 140 = .ok (.iload 4, 2) := by decide +kernel
theorem dX9_heirs_142 : decode cX9_heirs 142 = .ok (.ireturn, 1) := by decide +kernel
theorem dX9_heirs_143 : decode cX9_heirs 143 = .ok (.iload 5, 2) := by decide +kernel
theorem dX9_heirs_145 : decode cX9_heirs 145 = .ok (.ireturn, 1) := by decide +kernel
theorem dX9_heirs_146 : decode cX9_heirs 146 = .ok (.iload 6, 2) := by decide +kernel
theorem dX9_heirs_148 : decode cX9_heirs 148 = .ok (.ireturn, 1) := by decide +kernel
abbrev mt_X9_heirs : AxM := (RX9, cX9_heirs, 9, (some .int), false, [])
theorem L1_X9_heirs_107 {g : AxG} {l : Launch} (hl0 : l.stackTraces = false) {res : AxT Int32} (N : Nat) (K55 : Nat → Int32 → Int32 → Int32 → Int32 → Int32 → Int32 → Int32 → AxS → Option (AxT Int32)) (hK55 : ∀ (v0 : Nat) (v1 : Int32) (v2 : Int32) (v3 : Int32) (v4 : Int32) (v5 : Int32) (v6 : Int32) (v7 : Int32) (S : AxS), K55 v0 v1 v2 v3 v4 v5 v6 v7 S = some res → AW g l (axRm (9) (axCs (axOI res)) (6 * axCs (axOI res))) mt_X9_heirs (axMQ g (axCs (axOI res)) (6 * axCs (axOI res)) (axOI res)) 0 0 S 55 [(0, .ref v0), (1, .int v1), (2, .int v2), (3, .int v3), (4, .int v4), (5, .int v5), (6, .int v6), (7, .int v7)] []) (v0 : Nat) (v1 : Int32) (v2 : Int32) (v3 : Int32) (v4 : Int32) (v5 : Int32) (v6 : Int32) (v7 : Int32) (S : AxS) (h : F_X9_heirs_107 N K55 v0 v1 v2 v3 v4 v5 v6 v7 S = some res) : AW g l (axRm (9) (axCs (axOI res)) (6 * axCs (axOI res))) mt_X9_heirs (axMQ g (axCs (axOI res)) (6 * axCs (axOI res)) (axOI res)) 0 0 S 107 [(0, .ref v0), (1, .int v1), (2, .int v2), (3, .int v3), (4, .int v4), (5, .int v5), (6, .int v6), (7, .int v7)] [] := by
  unfold F_X9_heirs_107 at h
  refine aw_iinc 7 [(7, .int (v7 + 1)), (0, .ref v0), (1, .int v1), (2, .int v2), (3, .int v3), (4, .int v4), (5, .int v5), (6, .int v6)] (v7 + 1) dX9_heirs_107 rfl rfl rfl rfl ?_
  refine aw_goto 55 dX9_heirs_110 (by decide) ?_
  refine aw_env [(0, .ref v0), (1, .int v1), (2, .int v2), (3, .int v3), (4, .int v4), (5, .int v5), (6, .int v6), (7, .int (v7 + 1))] [1, 2, 3, 4, 5, 6, 7, 0] rfl ?_
  exact hK55 v0 v1 v2 v3 v4 v5 v6 (v7 + 1) S h
theorem L1_X9_heirs_104 {g : AxG} {l : Launch} (hl0 : l.stackTraces = false) {res : AxT Int32} (N : Nat) (K55 : Nat → Int32 → Int32 → Int32 → Int32 → Int32 → Int32 → Int32 → AxS → Option (AxT Int32)) (hK55 : ∀ (v0 : Nat) (v1 : Int32) (v2 : Int32) (v3 : Int32) (v4 : Int32) (v5 : Int32) (v6 : Int32) (v7 : Int32) (S : AxS), K55 v0 v1 v2 v3 v4 v5 v6 v7 S = some res → AW g l (axRm (9) (axCs (axOI res)) (6 * axCs (axOI res))) mt_X9_heirs (axMQ g (axCs (axOI res)) (6 * axCs (axOI res)) (axOI res)) 0 0 S 55 [(0, .ref v0), (1, .int v1), (2, .int v2), (3, .int v3), (4, .int v4), (5, .int v5), (6, .int v6), (7, .int v7)] []) (v0 : Nat) (v1 : Int32) (v2 : Int32) (v3 : Int32) (v4 : Int32) (v5 : Int32) (v6 : Int32) (v7 : Int32) (S : AxS) (h : F_X9_heirs_104 N K55 v0 v1 v2 v3 v4 v5 v6 v7 S = some res) : AW g l (axRm (9) (axCs (axOI res)) (6 * axCs (axOI res))) mt_X9_heirs (axMQ g (axCs (axOI res)) (6 * axCs (axOI res)) (axOI res)) 0 0 S 104 [(0, .ref v0), (1, .int v1), (2, .int v2), (3, .int v3), (4, .int v4), (5, .int v5), (6, .int v6), (7, .int v7)] [] := by
  unfold F_X9_heirs_104 at h
  refine aw_iinc 4 [(4, .int (v4 + 1)), (0, .ref v0), (1, .int v1), (2, .int v2), (3, .int v3), (5, .int v5), (6, .int v6), (7, .int v7)] (v4 + 1) dX9_heirs_104 rfl rfl rfl rfl ?_
  refine aw_env [(0, .ref v0), (1, .int v1), (2, .int v2), (3, .int v3), (4, .int (v4 + 1)), (5, .int v5), (6, .int v6), (7, .int v7)] [1, 2, 3, 4, 0, 5, 6, 7] rfl ?_
  exact L1_X9_heirs_107 hl0 N K55 hK55 v0 v1 v2 v3 (v4 + 1) v5 v6 v7 S h
theorem L1_X9_heirs_55b {g : AxG} {l : Launch} (hl0 : l.stackTraces = false) {res : AxT Int32} (N : Nat) (K55 : Nat → Int32 → Int32 → Int32 → Int32 → Int32 → Int32 → Int32 → AxS → Option (AxT Int32)) (hK55 : ∀ (v0 : Nat) (v1 : Int32) (v2 : Int32) (v3 : Int32) (v4 : Int32) (v5 : Int32) (v6 : Int32) (v7 : Int32) (S : AxS), K55 v0 v1 v2 v3 v4 v5 v6 v7 S = some res → AW g l (axRm (9) (axCs (axOI res)) (6 * axCs (axOI res))) mt_X9_heirs (axMQ g (axCs (axOI res)) (6 * axCs (axOI res)) (axOI res)) 0 0 S 55 [(0, .ref v0), (1, .int v1), (2, .int v2), (3, .int v3), (4, .int v4), (5, .int v5), (6, .int v6), (7, .int v7)] []) (v0 : Nat) (v1 : Int32) (v2 : Int32) (v3 : Int32) (v4 : Int32) (v5 : Int32) (v6 : Int32) (v7 : Int32) (S : AxS) (h : F_X9_heirs_55b N K55 v0 v1 v2 v3 v4 v5 v6 v7 S = some res) : AW g l (axRm (9) (axCs (axOI res)) (6 * axCs (axOI res))) mt_X9_heirs (axMQ g (axCs (axOI res)) (6 * axCs (axOI res)) (axOI res)) 0 0 S 55 [(0, .ref v0), (1, .int v1), (2, .int v2), (3, .int v3), (4, .int v4), (5, .int v5), (6, .int v6), (7, .int v7)] [] := by
  unfold F_X9_heirs_55b at h
  refine aw_iload 7 dX9_heirs_55 rfl ?_
  refine aw_iload_n 3 dX9_heirs_57 rfl rfl ?_
  refine aw_icmp_ge 113 dX9_heirs_58 (by decide) h (fun h => ?_) (fun h => ?_)
  · refine aw_iload_n 2 dX9_heirs_113 rfl rfl ?_
    refine aw_case 0 h (fun h => ?_) (fun c1 h => ?_)
    · refine aw_lsw 140 (off := 26) dX9_heirs_114 (by decide) (by decide) (by decide) ?_
      refine aw_iload 4 dX9_heirs_140 rfl ?_
      exact aw_iretT dX9_heirs_142 rfl h
    refine aw_case 1 h (fun h => ?_) (fun c2 h => ?_)
    · refine aw_lsw 143 (off := 29) dX9_heirs_114 (by decide) (by decide) (by decide) ?_
      refine aw_iload 5 dX9_heirs_143 rfl ?_
      exact aw_iretT dX9_heirs_145 rfl h
    refine aw_lsw 146 (off := 32) dX9_heirs_114 (by decide) (by show Op.lookupswitch.offset [(0, 26), (1, 29)] 32 _ = _; rw [lv_osw c1 (by decide), lv_osw c2 (by decide)]; rfl) (by decide) ?_
    refine aw_iload 6 dX9_heirs_146 rfl ?_
    exact aw_iretT dX9_heirs_148 rfl h
  · refine aw_aload_n 0 dX9_heirs_61 rfl rfl ?_
    refine aw_iload 7 dX9_heirs_62 rfl ?_
    refine aw_iload_n 1 dX9_heirs_64 rfl rfl ?_
    refine aw_iconst 1 dX9_heirs_65 rfl ?_
    refine aw_iadd dX9_heirs_66 ?_
    obtain ⟨hL3, h⟩ := ax_is_spec h
    refine aw_doneI (rest := []) h (fun r9 S9 hF => aw_runV (As := [.int v7, .int (v1 + 1)]) (rest := []) (L1_X9_setBids N hF) axc9 hL3 wd_1189 wd_1186 wd_1188 wd_28 wd_87 pd_X9_setBids rfl (ax_rm (by omega) rfl) ax_hf0 (Nat.le_of_ble_eq_true rfl) rfl dX9_heirs_67) (fun x5 T4 h => ?_)
    refine aw_istore [(8, .int x5), (0, .ref v0), (1, .int v1), (2, .int v2), (3, .int v3), (4, .int v4), (5, .int v5), (6, .int v6), (7, .int v7)] dX9_heirs_70 rfl rfl ?_
    refine aw_aload_n 1 dX9_heirs_72 rfl rfl ?_
    refine aw_iload 0 dX9_heirs_73 rfl ?_
    refine aw_iload_n 2 dX9_heirs_75 rfl rfl ?_
    obtain ⟨hL6, h⟩ := ax_is_spec h
    refine aw_doneI (rest := []) h (fun r9 S9 hF => aw_runV (As := [.int x5, .int v1]) (rest := []) (L1_X9_restsBy N hF) axc9 hL6 wd_1193 wd_1190 wd_1192 wd_29 wd_87 pd_X9_restsBy rfl (ax_rm (by omega) rfl) ax_hf0 (Nat.le_of_ble_eq_true rfl) rfl dX9_heirs_76) (fun x8 T7 h => ?_)
    refine aw_if_ne 85 dX9_heirs_79 (by decide) h (fun h => ?_) (fun h => ?_)
    · refine aw_iload 5 dX9_heirs_85 rfl ?_
      refine aw_if_ne 104 dX9_heirs_87 (by decide) h (fun h => ?_) (fun h => ?_)
      · refine aw_env [(0, .ref v0), (1, .int v1), (2, .int v2), (3, .int v3), (4, .int v4), (5, .int v5), (6, .int v6), (7, .int v7)] [1, 2, 3, 4, 5, 6, 7, 8] rfl ?_
        exact L1_X9_heirs_104 hl0 N K55 hK55 v0 v1 v2 v3 v4 v5 v6 v7 T7 h
      · refine aw_aload_n 1 dX9_heirs_90 rfl rfl ?_
        obtain ⟨hL9, h⟩ := ax_is_spec h
        refine aw_doneI (rest := []) h (fun r9 S9 hF => aw_runV (As := []) (rest := []) (L1_X9_bidsAsDigits N hF) axc9 hL9 wd_1201 wd_1198 wd_1200 wd_31 wd_87 pd_X9_bidsAsDigits rfl (ax_rm (by omega) rfl) ax_hf0 (Nat.le_of_ble_eq_true rfl) rfl dX9_heirs_91) (fun x11 T10 h => ?_)
        refine aw_istore [(5, .int x11), (8, .int x5), (0, .ref v0), (1, .int v1), (2, .int v2), (3, .int v3), (4, .int v4), (6, .int v6), (7, .int v7)] dX9_heirs_94 rfl rfl ?_
        refine aw_aload_n 2 dX9_heirs_96 rfl rfl ?_
        refine aw_iload 1 dX9_heirs_97 rfl ?_
        obtain ⟨hL12, h⟩ := ax_is_spec h
        refine aw_doneI (rest := []) h (fun r9 S9 hF => aw_runV (As := [.int x5]) (rest := []) (L1_X9_hadTogether N hF) axc9 hL12 wd_1205 wd_1202 wd_1204 wd_32 wd_87 pd_X9_hadTogether rfl (ax_rm (by omega) rfl) ax_hf0 (Nat.le_of_ble_eq_true rfl) rfl dX9_heirs_99) (fun x14 T13 h => ?_)
        refine aw_istore [(6, .int x14), (5, .int x11), (8, .int x5), (0, .ref v0), (1, .int v1), (2, .int v2), (3, .int v3), (4, .int v4), (7, .int v7)] dX9_heirs_102 rfl rfl ?_
        refine aw_env [(0, .ref v0), (1, .int v1), (2, .int v2), (3, .int v3), (4, .int v4), (5, .int x11), (6, .int x14), (7, .int v7)] [3, 4, 5, 6, 7, 1, 0, 8] rfl ?_
        exact L1_X9_heirs_104 hl0 N K55 hK55 v0 v1 v2 v3 v4 x11 x14 v7 T13 h
    · refine aw_goto 107 dX9_heirs_82 (by decide) ?_
      refine aw_env [(0, .ref v0), (1, .int v1), (2, .int v2), (3, .int v3), (4, .int v4), (5, .int v5), (6, .int v6), (7, .int v7)] [1, 2, 3, 4, 5, 6, 7, 8] rfl ?_
      exact L1_X9_heirs_107 hl0 N K55 hK55 v0 v1 v2 v3 v4 v5 v6 v7 T7 h
theorem L1_X9_heirs_55 {g : AxG} {l : Launch} (hl0 : l.stackTraces = false) {res : AxT Int32} (N : Nat)  : ∀ (n : Nat) (v0 : Nat) (v1 : Int32) (v2 : Int32) (v3 : Int32) (v4 : Int32) (v5 : Int32) (v6 : Int32) (v7 : Int32) (S : AxS), F_X9_heirs_55 N  n v0 v1 v2 v3 v4 v5 v6 v7 S = some res → AW g l (axRm (9) (axCs (axOI res)) (6 * axCs (axOI res))) mt_X9_heirs (axMQ g (axCs (axOI res)) (6 * axCs (axOI res)) (axOI res)) 0 0 S 55 [(0, .ref v0), (1, .int v1), (2, .int v2), (3, .int v3), (4, .int v4), (5, .int v5), (6, .int v6), (7, .int v7)] [] := by
  intro n
  induction n with
  | zero => intro v0 v1 v2 v3 v4 v5 v6 v7 S h; cases h
  | succ n ih => intro v0 v1 v2 v3 v4 v5 v6 v7 S h; exact L1_X9_heirs_55b hl0 N (F_X9_heirs_55 N  n) ih v0 v1 v2 v3 v4 v5 v6 v7 S h
theorem L1_X9_heirs_25 {g : AxG} {l : Launch} (hl0 : l.stackTraces = false) {res : AxT Int32} (N : Nat)  (v0 : Nat) (v1 : Int32) (v2 : Int32) (w0 : Int32) (w1 : Nat) (S : AxS) (h : F_X9_heirs_25 N  v0 v1 v2 w0 w1 S = some res) : AW g l (axRm (9) (axCs (axOI res)) (6 * axCs (axOI res))) mt_X9_heirs (axMQ g (axCs (axOI res)) (6 * axCs (axOI res)) (axOI res)) 0 0 S 25 [(0, .ref v0), (1, .int v1), (2, .int v2)] [.int w0, .ref w1] := by
  unfold F_X9_heirs_25 at h
  obtain ⟨hL1, h⟩ := ax_is_spec h
  refine aw_thV (ob := axOI) (rest := []) (fun _ _ => rfl) rfl h (fun u9 hF hu => aw_runV (As := [.int w0]) (rest := []) (L1_X9_needArgument hl0 N hF) axc9 hL1 wd_604 wd_601 wd_603 wd_3 wd_87 pd_X9_needArgument rfl (ax_rm (by omega) rfl) (ax_hfV (fun _ _ => rfl) hu) (Nat.le_of_ble_eq_true rfl) rfl dX9_heirs_25) (fun T2 h => ?_)
  refine aw_iload_n 1 dX9_heirs_28 rfl rfl ?_
  refine aw_iconst 1 dX9_heirs_29 rfl ?_
  refine aw_iadd dX9_heirs_30 ?_
  refine aw_aload_n 0 dX9_heirs_31 rfl rfl ?_
  refine aw_getR axc9 1 rfl rfl wd_454 dX9_heirs_32 h (fun a4 h => ?_)
  refine aw_getI axc1 6 rfl rfl wd_186 dX9_heirs_35 h (fun x5 h => ?_)
  refine aw_doneL (rest := []) h (fun r9 S9 hF => aw_runS (As := [.int (v1 + 1), .int x5]) (rest := []) (L1_X9_power N hF) wd_1125 wd_1123 wd_1124 wd_87 pd_X9_power.2 rfl (ax_rm (by omega) rfl) ax_hf0 (Nat.le_of_ble_eq_true rfl) rfl dX9_heirs_38) (fun x7 T6 h => ?_)
  refine aw_l2i dX9_heirs_41 ?_
  refine aw_istore_n 3 [(3, .int (Int64.toInt32 x7)), (0, .ref v0), (1, .int v1), (2, .int v2)] dX9_heirs_42 rfl rfl rfl ?_
  refine aw_iconst 0 dX9_heirs_43 rfl ?_
  refine aw_istore [(4, .int 0), (3, .int (Int64.toInt32 x7)), (0, .ref v0), (1, .int v1), (2, .int v2)] dX9_heirs_44 rfl rfl ?_
  refine aw_iconst (-1) dX9_heirs_46 rfl ?_
  refine aw_istore [(5, .int ((-1))), (4, .int 0), (3, .int (Int64.toInt32 x7)), (0, .ref v0), (1, .int v1), (2, .int v2)] dX9_heirs_47 rfl rfl ?_
  refine aw_iconst 0 dX9_heirs_49 rfl ?_
  refine aw_istore [(6, .int 0), (5, .int ((-1))), (4, .int 0), (3, .int (Int64.toInt32 x7)), (0, .ref v0), (1, .int v1), (2, .int v2)] dX9_heirs_50 rfl rfl ?_
  refine aw_iconst 0 dX9_heirs_52 rfl ?_
  refine aw_istore [(7, .int 0), (6, .int 0), (5, .int ((-1))), (4, .int 0), (3, .int (Int64.toInt32 x7)), (0, .ref v0), (1, .int v1), (2, .int v2)] dX9_heirs_53 rfl rfl ?_
  refine aw_env [(0, .ref v0), (1, .int v1), (2, .int v2), (3, .int (Int64.toInt32 x7)), (4, .int 0), (5, .int ((-1))), (6, .int 0), (7, .int 0)] [5, 6, 7, 4, 3, 2, 1, 0] rfl ?_
  exact L1_X9_heirs_55 hl0 N  N v0 v1 v2 (Int64.toInt32 x7) 0 ((-1)) 0 0 T6 h
theorem L1_X9_heirs_24 {g : AxG} {l : Launch} (hl0 : l.stackTraces = false) {res : AxT Int32} (N : Nat)  (v0 : Nat) (v1 : Int32) (v2 : Int32) (w0 : Nat) (S : AxS) (h : F_X9_heirs_24 N  v0 v1 v2 w0 S = some res) : AW g l (axRm (9) (axCs (axOI res)) (6 * axCs (axOI res))) mt_X9_heirs (axMQ g (axCs (axOI res)) (6 * axCs (axOI res)) (axOI res)) 0 0 S 24 [(0, .ref v0), (1, .int v1), (2, .int v2)] [.ref w0] := by
  unfold F_X9_heirs_24 at h
  refine aw_iconst 0 dX9_heirs_24 rfl ?_
  refine aw_env [(0, .ref v0), (1, .int v1), (2, .int v2)] [0, 1, 2] rfl ?_
  exact L1_X9_heirs_25 hl0 N  v0 v1 v2 0 w0 S h
theorem L1_X9_heirs {g : AxG} {l : Launch} (hl0 : l.stackTraces = false) (N : Nat) {v0 : Nat} {v1 : Int32} {v2 : Int32} {S : AxS} {res : AxT Int32} (h : F_X9_heirs N v0 v1 v2 S = some res) : AxMet g l yX9_heirs cX9_heirs 9 (some .int) (9) (axCs (axOI res)) (6 * axCs (axOI res)) [.ref v0, .int v1, .int v2] S (axOI res) := by
  refine ax_met (own := RX9) (ini := false) (by decide +kernel) rfl (fun h => nomatch h) rfl ?_
  show AW g l (axRm (9) (axCs (axOI res)) (6 * axCs (axOI res))) mt_X9_heirs (axMQ g (axCs (axOI res)) (6 * axCs (axOI res)) (axOI res)) 0 0 S 0 [(0, .ref v0), (1, .int v1), (2, .int v2)] []
  unfold F_X9_heirs at h
  refine aw_aload_n 0 dX9_heirs_0 rfl rfl ?_
  refine aw_iload_n 1 dX9_heirs_1 rfl rfl ?_
  refine aw_if_lt 24 dX9_heirs_2 (by decide) h (fun h => ?_) (fun h => ?_)
  · refine aw_env [(0, .ref v0), (1, .int v1), (2, .int v2)] [0, 1, 2] rfl ?_
    exact L1_X9_heirs_24 hl0 N  v0 v1 v2 v0 S h
  · refine aw_iload_n 1 dX9_heirs_5 rfl rfl ?_
    refine aw_bipush 9 dX9_heirs_6 (by decide) ?_
    refine aw_icmp_gt 24 dX9_heirs_8 (by decide) h (fun h => ?_) (fun h => ?_)
    · refine aw_env [(0, .ref v0), (1, .int v1), (2, .int v2)] [0, 1, 2] rfl ?_
      exact L1_X9_heirs_24 hl0 N  v0 v1 v2 v0 S h
    · refine aw_iload_n 2 dX9_heirs_11 rfl rfl ?_
      refine aw_if_lt 24 dX9_heirs_12 (by decide) h (fun h => ?_) (fun h => ?_)
      · refine aw_env [(0, .ref v0), (1, .int v1), (2, .int v2)] [0, 1, 2] rfl ?_
        exact L1_X9_heirs_24 hl0 N  v0 v1 v2 v0 S h
      · refine aw_iload_n 2 dX9_heirs_15 rfl rfl ?_
        refine aw_iconst 2 dX9_heirs_16 rfl ?_
        refine aw_icmp_gt 24 dX9_heirs_17 (by decide) h (fun h => ?_) (fun h => ?_)
        · refine aw_env [(0, .ref v0), (1, .int v1), (2, .int v2)] [0, 1, 2] rfl ?_
          exact L1_X9_heirs_24 hl0 N  v0 v1 v2 v0 S h
        · refine aw_iconst 1 dX9_heirs_20 rfl ?_
          refine aw_goto 25 dX9_heirs_21 (by decide) ?_
          refine aw_env [(0, .ref v0), (1, .int v1), (2, .int v2)] [0, 1, 2] rfl ?_
          exact L1_X9_heirs_25 hl0 N  v0 v1 v2 1 v0 S h

theorem dX9_sleepers_0 : decode cX9_sleepers 0 = .ok (.aload_n 0, 1) := by decide +kernel
theorem dX9_sleepers_1 : decode cX9_sleepers 1 = .ok (.iload_n 1, 1) := by decide +kernel
theorem dX9_sleepers_2 : decode cX9_sleepers 2 = .ok (.ifCond .lt 14, 3) := by decide +kernel
theorem dX9_sleepers_5 : decode cX9_sleepers 5 = .ok (.iload_n 1, 1) := by decide +kernel
theorem dX9_sleepers_6 : decode cX9_sleepers 6 = .ok (.sipush 999, 3) := by decide +kernel
theorem dX9_sleepers_9 : decode cX9_sleepers 9 = .ok (.if_icmp .gt 7, 3) := by decide +kernel
theorem dX9_sleepers_12 : decode cX9_sleepers 12 = .ok (.iconst 1, 1) := by decide +kernel
theorem dX9_sleepers_13 : decode cX9_sleepers 13 = .ok (.goto 4, 3) := by decide +kernel
theorem dX9_sleepers_16 : decode cX9_sleepers 16 = .ok (.iconst 0, 1) := by decide +kernel
theorem dX9_sleepers_17 : decode cX9_sleepers 17 = .ok (.invokevirtual 128, 3) := by decide +kernel
theorem dX9_sleepers_20 : decode cX9_sleepers 20 = .ok (.iconst 0, 1) := by decide +kernel
theorem dX9_sleepers_21 : decode cX9_sleepers 21 = .ok (.istore_n 2, 1) := by decide +kernel
theorem dX9_sleepers_22 : decode cX9_sleepers 22 = .ok (.iconst 0, 1) := by decide +kernel
theorem dX9_sleepers_23 : decode cX9_sleepers 23 = .ok (.istore_n 3, 1) := by decide +kernel
theorem dX9_sleepers_24 : decode cX9_sleepers 24 = .ok (.iload_n 3, 1) := by decide +kernel
theorem dX9_sleepers_25 : decode cX9_sleepers 25 = .ok (.aload_n 0, 1) := by decide +kernel
theorem dX9_sleepers_26 : decode cX9_sleepers 26 = .ok (.getfield 19, 3) := by decide +kernel
theorem dX9_sleepers_29 : decode cX9_sleepers 29 = .ok (.getfield 142, 3) := by decide +kernel
theorem dX9_sleepers_32 : decode cX9_sleepers 32 = .ok (.if_icmp .ge 38, 3) := by decide +kernel
theorem dX9_sleepers_35 : decode cX9_sleepers 35 = .ok (.aload_n 0, 1) := by decide +kernel
theorem dX9_sleepers_36 : decode cX9_sleepers 36 = .ok (.getfield 19, 3) := by decide +kernel
theorem dX9_sleepers_39 : decode cX9_sleepers 39 = .ok (.iload_n 3, 1) := by decide +kernel
theorem dX9_sleepers_40 : decode cX9_sleepers 40 = .ok (.aload_n 0, 1) := by decide +kernel
theorem dX9_sleepers_41 : decode cX9_sleepers 41 = .ok (.getfield 56, 3) := by decide +kernel
theorem dX9_sleepers_44 : decode cX9_sleepers 44 = .ok (.getfield 227, 3) := by decide +kernel
theorem dX9_sleepers_47 : decode cX9_sleepers 47 = .ok (.iload_n 3, 1) := by decide +kernel
theorem dX9_sleepers_48 : decode cX9_sleepers 48 = .ok (.invokestatic 223, 3) := by decide +kernel
theorem dX9_sleepers_51 : decode cX9_sleepers 51 = .ok (.iload_n 1, 1) := by decide +kernel
theorem dX9_sleepers_52 : decode cX9_sleepers 52 = .ok (.invokevirtual 348, 3) := by decide +kernel
theorem dX9_sleepers_55 : decode cX9_sleepers 55 = .ok (.ifCond .eq 9, 3) := by decide +kernel
theorem dX9_sleepers_58 : decode cX9_sleepers 58 = .ok (.iload_n 2, 1) := by decide +kernel
theorem dX9_sleepers_59 : decode cX9_sleepers 59 = .ok (.iconst 1, 1) := by decide +kernel
theorem dX9_sleepers_60 : decode cX9_sleepers 60 = .ok (.iload_n 3, 1) := by decide +kernel
theorem dX9_sleepers_61 : decode cX9_sleepers 61 = .ok (.ishl, 1) := by decide +kernel
theorem dX9_sleepers_62 : decode cX9_sleepers 62 = .ok (.ior, 1) := by decide +kernel
theorem dX9_sleepers_63 : decode cX9_sleepers 63 = .ok (.istore_n 2, 1) := by decide +kernel
theorem dX9_sleepers_64 : decode cX9_sleepers 64 = .ok (.iinc 3 1, 3) := by decide +kernel
theorem dX9_sleepers_67 : decode cX9_sleepers 67 = .ok (.goto (-43), 3) := by decide +kernel
theorem dX9_sleepers_70 : decode cX9_sleepers 70 = .ok (.iload_n 2, 1) := by decide +kernel
theorem dX9_sleepers_71 : decode cX9_sleepers 71 = .ok (.ireturn, 1) := by decide +kernel
abbrev mt_X9_sleepers : AxM := (RX9, cX9_sleepers, 4, (some .int), false, [])
theorem L1_X9_sleepers_64 {g : AxG} {l : Launch} (hl0 : l.stackTraces = false) {res : AxT Int32} (N : Nat) (K24 : Nat → Int32 → Int32 → Int32 → AxS → Option (AxT Int32)) (hK24 : ∀ (v0 : Nat) (v1 : Int32) (v2 : Int32) (v3 : Int32) (S : AxS), K24 v0 v1 v2 v3 S = some res → AW g l (axRm (9) (axCs (axOI res)) (6 * axCs (axOI res))) mt_X9_sleepers (axMQ g (axCs (axOI res)) (6 * axCs (axOI res)) (axOI res)) 0 0 S 24 [(0, .ref v0), (1, .int v1), (2, .int v2), (3, .int v3)] []) (v0 : Nat) (v1 : Int32) (v2 : Int32) (v3 : Int32) (S : AxS) (h : F_X9_sleepers_64 N K24 v0 v1 v2 v3 S = some res) : AW g l (axRm (9) (axCs (axOI res)) (6 * axCs (axOI res))) mt_X9_sleepers (axMQ g (axCs (axOI res)) (6 * axCs (axOI res)) (axOI res)) 0 0 S 64 [(0, .ref v0), (1, .int v1), (2, .int v2), (3, .int v3)] [] := by
  unfold F_X9_sleepers_64 at h
  refine aw_iinc 3 [(3, .int (v3 + 1)), (0, .ref v0), (1, .int v1), (2, .int v2)] (v3 + 1) dX9_sleepers_64 rfl rfl rfl rfl ?_
  refine aw_goto 24 dX9_sleepers_67 (by decide) ?_
  refine aw_env [(0, .ref v0), (1, .int v1), (2, .int v2), (3, .int (v3 + 1))] [1, 2, 3, 0] rfl ?_
  exact hK24 v0 v1 v2 (v3 + 1) S h
theorem L1_X9_sleepers_24b {g : AxG} {l : Launch} (hl0 : l.stackTraces = false) {res : AxT Int32} (N : Nat) (K24 : Nat → Int32 → Int32 → Int32 → AxS → Option (AxT Int32)) (hK24 : ∀ (v0 : Nat) (v1 : Int32) (v2 : Int32) (v3 : Int32) (S : AxS), K24 v0 v1 v2 v3 S = some res → AW g l (axRm (9) (axCs (axOI res)) (6 * axCs (axOI res))) mt_X9_sleepers (axMQ g (axCs (axOI res)) (6 * axCs (axOI res)) (axOI res)) 0 0 S 24 [(0, .ref v0), (1, .int v1), (2, .int v2), (3, .int v3)] []) (v0 : Nat) (v1 : Int32) (v2 : Int32) (v3 : Int32) (S : AxS) (h : F_X9_sleepers_24b N K24 v0 v1 v2 v3 S = some res) : AW g l (axRm (9) (axCs (axOI res)) (6 * axCs (axOI res))) mt_X9_sleepers (axMQ g (axCs (axOI res)) (6 * axCs (axOI res)) (axOI res)) 0 0 S 24 [(0, .ref v0), (1, .int v1), (2, .int v2), (3, .int v3)] [] := by
  unfold F_X9_sleepers_24b at h
  refine aw_iload_n 3 dX9_sleepers_24 rfl rfl ?_
  refine aw_aload_n 0 dX9_sleepers_25 rfl rfl ?_
  refine aw_getR axc9 1 rfl rfl wd_454 dX9_sleepers_26 h (fun a1 h => ?_)
  refine aw_getI axc1 5 rfl rfl wd_183 dX9_sleepers_29 h (fun x2 h => ?_)
  refine aw_icmp_ge 70 dX9_sleepers_32 (by decide) h (fun h => ?_) (fun h => ?_)
  · refine aw_iload_n 2 dX9_sleepers_70 rfl rfl ?_
    exact aw_iretT dX9_sleepers_71 rfl h
  · refine aw_aload_n 0 dX9_sleepers_35 rfl rfl ?_
    refine aw_getR axc9 1 rfl rfl wd_454 dX9_sleepers_36 h (fun a3 h => ?_)
    refine aw_iload_n 3 dX9_sleepers_39 rfl rfl ?_
    refine aw_aload_n 0 dX9_sleepers_40 rfl rfl ?_
    refine aw_getR axc9 8 rfl rfl wd_461 dX9_sleepers_41 h (fun a4 h => ?_)
    refine aw_getR axc5 12 rfl rfl wd_317 dX9_sleepers_44 h (fun a5 h => ?_)
    refine aw_iload_n 3 dX9_sleepers_47 rfl rfl ?_
    refine aw_doneI (rest := [.int v3, .ref a3]) h (fun r9 S9 hF => aw_runS (As := [.ref a5, .int v3]) (rest := [.int v3, .ref a3]) (L1_X9_at N hF) wd_541 wd_874 wd_540 wd_87 pd_X9_at.2 rfl (ax_rm (by omega) rfl) ax_hf0 (Nat.le_of_ble_eq_true rfl) rfl dX9_sleepers_48) (fun x7 T6 h => ?_)
    refine aw_iload_n 1 dX9_sleepers_51 rfl rfl ?_
    obtain ⟨hL8, h⟩ := ax_is_spec h
    refine aw_doneI (rest := []) h (fun r9 S9 hF => aw_runV (As := [.int v3, .int x7, .int v1]) (rest := []) (L1_X1_sleeps N hF) axc1 hL8 wd_1159 wd_1156 wd_1157 wd_1158 wd_89 pd_X1_sleeps rfl (ax_rm (by omega) rfl) ax_hf0 (Nat.le_of_ble_eq_true rfl) rfl dX9_sleepers_52) (fun x10 T9 h => ?_)
    refine aw_if_eq 64 dX9_sleepers_55 (by decide) h (fun h => ?_) (fun h => ?_)
    · refine aw_env [(0, .ref v0), (1, .int v1), (2, .int v2), (3, .int v3)] [0, 1, 2, 3] rfl ?_
      exact L1_X9_sleepers_64 hl0 N K24 hK24 v0 v1 v2 v3 T9 h
    · refine aw_iload_n 2 dX9_sleepers_58 rfl rfl ?_
      refine aw_iconst 1 dX9_sleepers_59 rfl ?_
      refine aw_iload_n 3 dX9_sleepers_60 rfl rfl ?_
      refine aw_ishl dX9_sleepers_61 ?_
      refine aw_ior dX9_sleepers_62 ?_
      refine aw_istore_n 2 [(2, .int (v2 ||| (1 <<< (v3 &&& 31)))), (0, .ref v0), (1, .int v1), (3, .int v3)] dX9_sleepers_63 rfl rfl rfl ?_
      refine aw_env [(0, .ref v0), (1, .int v1), (2, .int (v2 ||| (1 <<< (v3 &&& 31)))), (3, .int v3)] [1, 2, 0, 3] rfl ?_
      exact L1_X9_sleepers_64 hl0 N K24 hK24 v0 v1 (v2 ||| (1 <<< (v3 &&& 31))) v3 T9 h
theorem L1_X9_sleepers_24 {g : AxG} {l : Launch} (hl0 : l.stackTraces = false) {res : AxT Int32} (N : Nat)  : ∀ (n : Nat) (v0 : Nat) (v1 : Int32) (v2 : Int32) (v3 : Int32) (S : AxS), F_X9_sleepers_24 N  n v0 v1 v2 v3 S = some res → AW g l (axRm (9) (axCs (axOI res)) (6 * axCs (axOI res))) mt_X9_sleepers (axMQ g (axCs (axOI res)) (6 * axCs (axOI res)) (axOI res)) 0 0 S 24 [(0, .ref v0), (1, .int v1), (2, .int v2), (3, .int v3)] [] := by
  intro n
  induction n with
  | zero => intro v0 v1 v2 v3 S h; cases h
  | succ n ih => intro v0 v1 v2 v3 S h; exact L1_X9_sleepers_24b hl0 N (F_X9_sleepers_24 N  n) ih v0 v1 v2 v3 S h
theorem L1_X9_sleepers_17 {g : AxG} {l : Launch} (hl0 : l.stackTraces = false) {res : AxT Int32} (N : Nat)  (v0 : Nat) (v1 : Int32) (w0 : Int32) (w1 : Nat) (S : AxS) (h : F_X9_sleepers_17 N  v0 v1 w0 w1 S = some res) : AW g l (axRm (9) (axCs (axOI res)) (6 * axCs (axOI res))) mt_X9_sleepers (axMQ g (axCs (axOI res)) (6 * axCs (axOI res)) (axOI res)) 0 0 S 17 [(0, .ref v0), (1, .int v1)] [.int w0, .ref w1] := by
  unfold F_X9_sleepers_17 at h
  obtain ⟨hL1, h⟩ := ax_is_spec h
  refine aw_thV (ob := axOI) (rest := []) (fun _ _ => rfl) rfl h (fun u9 hF hu => aw_runV (As := [.int w0]) (rest := []) (L1_X9_needArgument hl0 N hF) axc9 hL1 wd_604 wd_601 wd_603 wd_3 wd_87 pd_X9_needArgument rfl (ax_rm (by omega) rfl) (ax_hfV (fun _ _ => rfl) hu) (Nat.le_of_ble_eq_true rfl) rfl dX9_sleepers_17) (fun T2 h => ?_)
  refine aw_iconst 0 dX9_sleepers_20 rfl ?_
  refine aw_istore_n 2 [(2, .int 0), (0, .ref v0), (1, .int v1)] dX9_sleepers_21 rfl rfl rfl ?_
  refine aw_iconst 0 dX9_sleepers_22 rfl ?_
  refine aw_istore_n 3 [(3, .int 0), (2, .int 0), (0, .ref v0), (1, .int v1)] dX9_sleepers_23 rfl rfl rfl ?_
  refine aw_env [(0, .ref v0), (1, .int v1), (2, .int 0), (3, .int 0)] [2, 3, 1, 0] rfl ?_
  exact L1_X9_sleepers_24 hl0 N  N v0 v1 0 0 T2 h
theorem L1_X9_sleepers_16 {g : AxG} {l : Launch} (hl0 : l.stackTraces = false) {res : AxT Int32} (N : Nat)  (v0 : Nat) (v1 : Int32) (w0 : Nat) (S : AxS) (h : F_X9_sleepers_16 N  v0 v1 w0 S = some res) : AW g l (axRm (9) (axCs (axOI res)) (6 * axCs (axOI res))) mt_X9_sleepers (axMQ g (axCs (axOI res)) (6 * axCs (axOI res)) (axOI res)) 0 0 S 16 [(0, .ref v0), (1, .int v1)] [.ref w0] := by
  unfold F_X9_sleepers_16 at h
  refine aw_iconst 0 dX9_sleepers_16 rfl ?_
  refine aw_env [(0, .ref v0), (1, .int v1)] [0, 1] rfl ?_
  exact L1_X9_sleepers_17 hl0 N  v0 v1 0 w0 S h
theorem L1_X9_sleepers {g : AxG} {l : Launch} (hl0 : l.stackTraces = false) (N : Nat) {v0 : Nat} {v1 : Int32} {S : AxS} {res : AxT Int32} (h : F_X9_sleepers N v0 v1 S = some res) : AxMet g l yX9_sleepers cX9_sleepers 4 (some .int) (9) (axCs (axOI res)) (6 * axCs (axOI res)) [.ref v0, .int v1] S (axOI res) := by
  refine ax_met (own := RX9) (ini := false) (by decide +kernel) rfl (fun h => nomatch h) rfl ?_
  show AW g l (axRm (9) (axCs (axOI res)) (6 * axCs (axOI res))) mt_X9_sleepers (axMQ g (axCs (axOI res)) (6 * axCs (axOI res)) (axOI res)) 0 0 S 0 [(0, .ref v0), (1, .int v1)] []
  unfold F_X9_sleepers at h
  refine aw_aload_n 0 dX9_sleepers_0 rfl rfl ?_
  refine aw_iload_n 1 dX9_sleepers_1 rfl rfl ?_
  refine aw_if_lt 16 dX9_sleepers_2 (by decide) h (fun h => ?_) (fun h => ?_)
  · refine aw_env [(0, .ref v0), (1, .int v1)] [0, 1] rfl ?_
    exact L1_X9_sleepers_16 hl0 N  v0 v1 v0 S h
  · refine aw_iload_n 1 dX9_sleepers_5 rfl rfl ?_
    refine aw_sipush 999 dX9_sleepers_6 (by decide) ?_
    refine aw_icmp_gt 16 dX9_sleepers_9 (by decide) h (fun h => ?_) (fun h => ?_)
    · refine aw_env [(0, .ref v0), (1, .int v1)] [0, 1] rfl ?_
      exact L1_X9_sleepers_16 hl0 N  v0 v1 v0 S h
    · refine aw_iconst 1 dX9_sleepers_12 rfl ?_
      refine aw_goto 17 dX9_sleepers_13 (by decide) ?_
      refine aw_env [(0, .ref v0), (1, .int v1)] [0, 1] rfl ?_
      exact L1_X9_sleepers_17 hl0 N  v0 v1 1 v0 S h

theorem dX9_bears_0 : decode cX9_bears 0 = .ok (.aload_n 0, 1) := by decide +kernel
theorem dX9_bears_1 : decode cX9_bears 1 = .ok (.iload_n 1, 1) := by decide +kernel
theorem dX9_bears_2 : decode cX9_bears 2 = .ok (.aload_n 0, 1) := by decide +kernel
theorem dX9_bears_3 : decode cX9_bears 3 = .ok (.getfield 19, 3) := by decide +kernel
theorem dX9_bears_6 : decode cX9_bears 6 = .ok (.getfield 142, 3) := by decide +kernel
theorem dX9_bears_9 : decode cX9_bears 9 = .ok (.invokevirtual 216, 3) := by decide +kernel
theorem dX9_bears_12 : decode cX9_bears 12 = .ok (.aload_n 0, 1) := by decide +kernel
theorem dX9_bears_13 : decode cX9_bears 13 = .ok (.iload_n 2, 1) := by decide +kernel
theorem dX9_bears_14 : decode cX9_bears 14 = .ok (.aload_n 0, 1) := by decide +kernel
theorem dX9_bears_15 : decode cX9_bears 15 = .ok (.getfield 19, 3) := by decide +kernel
theorem dX9_bears_18 : decode cX9_bears 18 = .ok (.getfield 210, 3) := by decide +kernel
theorem dX9_bears_21 : decode cX9_bears 21 = .ok (.invokevirtual 216, 3) := by decide +kernel
theorem dX9_bears_24 : decode cX9_bears 24 = .ok (.iconst 0, 1) := by decide +kernel
theorem dX9_bears_25 : decode cX9_bears 25 = .ok (.istore_n 3, 1) := by decide +kernel
theorem dX9_bears_26 : decode cX9_bears 26 = .ok (.iconst 0, 1) := by decide +kernel
theorem dX9_bears_27 : decode cX9_bears 27 = .ok (.istore 4, 2) := by decide +kernel
theorem dX9_bears_29 : decode cX9_bears 29 = .ok (.iload 4, 2) := by decide +kernel
theorem dX9_bears_31 : decode cX9_bears 31 = .ok (.sipush 999, 3) := by decide +kernel
theorem dX9_bears_34 : decode cX9_bears 34 = .ok (.if_icmp .gt 26, 3) := by decide +kernel
theorem dX9_bears_37 : decode cX9_bears 37 = .ok (.aload_n 0, 1) := by decide +kernel
theorem dX9_bears_38 : decode cX9_bears 38 = .ok (.getfield 19, 3) := by decide +kernel
theorem dX9_bears_41 : decode cX9_bears 41 = .ok (.iload_n 1, 1) := by decide +kernel
theorem dX9_bears_42 : decode cX9_bears 42 = .ok (.iload_n 2, 1) := by decide +kernel
theorem dX9_bears_43 : decode cX9_bears 43 = .ok (.iload 4, 2) := by decide +kernel
theorem dX9_bears_45 : decode cX9_bears 45 = .ok (.invokevirtual 348, 3) := by decide +kernel
theorem dX9_bears_48 : decode cX9_bears 48 = .ok (.ifCond .eq 12, 3) := by decide +kernel
theorem dX9_bears_51 : decode cX9_bears 51 = .ok (.iload 4, 2) := by decide +kernel
theorem dX9_bears_53 : decode cX9_bears 53 = .ok (.istore_n 3, 1) := by decide +kernel
theorem dX9_bears_54 : decode cX9_bears 54 = .ok (.iinc 4 1, 3) := by decide +kernel
theorem dX9_bears_57 : decode cX9_bears 57 = .ok (.goto (-28), 3) := by decide +kernel
theorem dX9_bears_60 : decode cX9_bears 60 = .ok (.iload_n 3, 1) := by decide +kernel
theorem dX9_bears_61 : decode cX9_bears 61 = .ok (.ireturn, 1) := by decide +kernel
abbrev mt_X9_bears : AxM := (RX9, cX9_bears, 5, (some .int), false, [])
theorem L1_X9_bears_29b {g : AxG} {l : Launch} (hl0 : l.stackTraces = false) {res : AxT Int32} (N : Nat) (K29 : Nat → Int32 → Int32 → Int32 → Int32 → AxS → Option (AxT Int32)) (hK29 : ∀ (v0 : Nat) (v1 : Int32) (v2 : Int32) (v3 : Int32) (v4 : Int32) (S : AxS), K29 v0 v1 v2 v3 v4 S = some res → AW g l (axRm (9) (axCs (axOI res)) (6 * axCs (axOI res))) mt_X9_bears (axMQ g (axCs (axOI res)) (6 * axCs (axOI res)) (axOI res)) 0 0 S 29 [(0, .ref v0), (1, .int v1), (2, .int v2), (3, .int v3), (4, .int v4)] []) (v0 : Nat) (v1 : Int32) (v2 : Int32) (v3 : Int32) (v4 : Int32) (S : AxS) (h : F_X9_bears_29b N K29 v0 v1 v2 v3 v4 S = some res) : AW g l (axRm (9) (axCs (axOI res)) (6 * axCs (axOI res))) mt_X9_bears (axMQ g (axCs (axOI res)) (6 * axCs (axOI res)) (axOI res)) 0 0 S 29 [(0, .ref v0), (1, .int v1), (2, .int v2), (3, .int v3), (4, .int v4)] [] := by
  unfold F_X9_bears_29b at h
  refine aw_iload 4 dX9_bears_29 rfl ?_
  refine aw_sipush 999 dX9_bears_31 (by decide) ?_
  refine aw_icmp_gt 60 dX9_bears_34 (by decide) h (fun h => ?_) (fun h => ?_)
  · refine aw_iload_n 3 dX9_bears_60 rfl rfl ?_
    exact aw_iretT dX9_bears_61 rfl h
  · refine aw_aload_n 0 dX9_bears_37 rfl rfl ?_
    refine aw_getR axc9 1 rfl rfl wd_454 dX9_bears_38 h (fun a1 h => ?_)
    refine aw_iload_n 1 dX9_bears_41 rfl rfl ?_
    refine aw_iload_n 2 dX9_bears_42 rfl rfl ?_
    refine aw_iload 4 dX9_bears_43 rfl ?_
    obtain ⟨hL2, h⟩ := ax_is_spec h
    refine aw_doneI (rest := []) h (fun r9 S9 hF => aw_runV (As := [.int v1, .int v2, .int v4]) (rest := []) (L1_X1_sleeps N hF) axc1 hL2 wd_1159 wd_1156 wd_1157 wd_1158 wd_89 pd_X1_sleeps rfl (ax_rm (by omega) rfl) ax_hf0 (Nat.le_of_ble_eq_true rfl) rfl dX9_bears_45) (fun x4 T3 h => ?_)
    refine aw_if_eq 60 dX9_bears_48 (by decide) h (fun h => ?_) (fun h => ?_)
    · refine aw_iload_n 3 dX9_bears_60 rfl rfl ?_
      exact aw_iretT dX9_bears_61 rfl h
    · refine aw_iload 4 dX9_bears_51 rfl ?_
      refine aw_istore_n 3 [(3, .int v4), (0, .ref v0), (1, .int v1), (2, .int v2), (4, .int v4)] dX9_bears_53 rfl rfl rfl ?_
      refine aw_iinc 4 [(4, .int (v4 + 1)), (3, .int v4), (0, .ref v0), (1, .int v1), (2, .int v2)] (v4 + 1) dX9_bears_54 rfl rfl rfl rfl ?_
      refine aw_goto 29 dX9_bears_57 (by decide) ?_
      refine aw_env [(0, .ref v0), (1, .int v1), (2, .int v2), (3, .int v4), (4, .int (v4 + 1))] [2, 3, 4, 1, 0] rfl ?_
      exact hK29 v0 v1 v2 v4 (v4 + 1) T3 h
theorem L1_X9_bears_29 {g : AxG} {l : Launch} (hl0 : l.stackTraces = false) {res : AxT Int32} (N : Nat)  : ∀ (n : Nat) (v0 : Nat) (v1 : Int32) (v2 : Int32) (v3 : Int32) (v4 : Int32) (S : AxS), F_X9_bears_29 N  n v0 v1 v2 v3 v4 S = some res → AW g l (axRm (9) (axCs (axOI res)) (6 * axCs (axOI res))) mt_X9_bears (axMQ g (axCs (axOI res)) (6 * axCs (axOI res)) (axOI res)) 0 0 S 29 [(0, .ref v0), (1, .int v1), (2, .int v2), (3, .int v3), (4, .int v4)] [] := by
  intro n
  induction n with
  | zero => intro v0 v1 v2 v3 v4 S h; cases h
  | succ n ih => intro v0 v1 v2 v3 v4 S h; exact L1_X9_bears_29b hl0 N (F_X9_bears_29 N  n) ih v0 v1 v2 v3 v4 S h
theorem L1_X9_bears {g : AxG} {l : Launch} (hl0 : l.stackTraces = false) (N : Nat) {v0 : Nat} {v1 : Int32} {v2 : Int32} {S : AxS} {res : AxT Int32} (h : F_X9_bears N v0 v1 v2 S = some res) : AxMet g l yX9_bears cX9_bears 5 (some .int) (9) (axCs (axOI res)) (6 * axCs (axOI res)) [.ref v0, .int v1, .int v2] S (axOI res) := by
  refine ax_met (own := RX9) (ini := false) (by decide +kernel) rfl (fun h => nomatch h) rfl ?_
  show AW g l (axRm (9) (axCs (axOI res)) (6 * axCs (axOI res))) mt_X9_bears (axMQ g (axCs (axOI res)) (6 * axCs (axOI res)) (axOI res)) 0 0 S 0 [(0, .ref v0), (1, .int v1), (2, .int v2)] []
  unfold F_X9_bears at h
  refine aw_aload_n 0 dX9_bears_0 rfl rfl ?_
  refine aw_iload_n 1 dX9_bears_1 rfl rfl ?_
  refine aw_aload_n 0 dX9_bears_2 rfl rfl ?_
  refine aw_getR axc9 1 rfl rfl wd_454 dX9_bears_3 h (fun a1 h => ?_)
  refine aw_getI axc1 5 rfl rfl wd_183 dX9_bears_6 h (fun x2 h => ?_)
  obtain ⟨hL3, h⟩ := ax_is_spec h
  refine aw_thV (ob := axOI) (rest := []) (fun _ _ => rfl) rfl h (fun u9 hF hu => aw_runV (As := [.int v1, .int x2]) (rest := []) (L1_X9_needOne hl0 N hF) axc9 hL3 wd_975 wd_972 wd_974 wd_20 wd_87 pd_X9_needOne rfl (ax_rm (by omega) rfl) (ax_hfV (fun _ _ => rfl) hu) (Nat.le_of_ble_eq_true rfl) rfl dX9_bears_9) (fun T4 h => ?_)
  refine aw_aload_n 0 dX9_bears_12 rfl rfl ?_
  refine aw_iload_n 2 dX9_bears_13 rfl rfl ?_
  refine aw_aload_n 0 dX9_bears_14 rfl rfl ?_
  refine aw_getR axc9 1 rfl rfl wd_454 dX9_bears_15 h (fun a6 h => ?_)
  refine aw_getI axc1 4 rfl rfl wd_181 dX9_bears_18 h (fun x7 h => ?_)
  obtain ⟨hL8, h⟩ := ax_is_spec h
  refine aw_thV (ob := axOI) (rest := []) (fun _ _ => rfl) rfl h (fun u9 hF hu => aw_runV (As := [.int v2, .int x7]) (rest := []) (L1_X9_needOne hl0 N hF) axc9 hL8 wd_975 wd_972 wd_974 wd_20 wd_87 pd_X9_needOne rfl (ax_rm (by omega) rfl) (ax_hfV (fun _ _ => rfl) hu) (Nat.le_of_ble_eq_true rfl) rfl dX9_bears_21) (fun T9 h => ?_)
  refine aw_iconst 0 dX9_bears_24 rfl ?_
  refine aw_istore_n 3 [(3, .int 0), (0, .ref v0), (1, .int v1), (2, .int v2)] dX9_bears_25 rfl rfl rfl ?_
  refine aw_iconst 0 dX9_bears_26 rfl ?_
  refine aw_istore [(4, .int 0), (3, .int 0), (0, .ref v0), (1, .int v1), (2, .int v2)] dX9_bears_27 rfl rfl ?_
  refine aw_env [(0, .ref v0), (1, .int v1), (2, .int v2), (3, .int 0), (4, .int 0)] [2, 3, 4, 1, 0] rfl ?_
  exact L1_X9_bears_29 hl0 N  N v0 v1 v2 0 0 T9 h

theorem dX9_level_0 : decode cX9_level 0 = .ok (.aload_n 0, 1) := by decide +kernel
theorem dX9_level_1 : decode cX9_level 1 = .ok (.iload_n 1, 1) := by decide +kernel
theorem dX9_level_2 : decode cX9_level 2 = .ok (.ifCond .lt 14, 3) := by decide +kernel
theorem dX9_level_5 : decode cX9_level 5 = .ok (.iload_n 1, 1) := by decide +kernel
theorem dX9_level_6 : decode cX9_level 6 = .ok (.sipush 200, 3) := by decide +kernel
theorem dX9_level_9 : decode cX9_level 9 = .ok (.if_icmp .gt 7, 3) := by decide +kernel
theorem dX9_level_12 : decode cX9_level 12 = .ok (.iconst 1, 1) := by decide +kernel
theorem dX9_level_13 : decode cX9_level 13 = .ok (.goto 4, 3) := by decide +kernel
theorem dX9_level_16 : decode cX9_level 16 = .ok (.iconst 0, 1) := by decide +kernel
theorem dX9_level_17 : decode cX9_level 17 = .ok (.invokevirtual 128, 3) := by decide +kernel
theorem dX9_level_20 : decode cX9_level 20 = .ok (.iconst 0, 1) := by decide +kernel
theorem dX9_level_21 : decode cX9_level 21 = .ok (.istore_n 2, 1) := by decide +kernel
theorem dX9_level_22 : decode cX9_level 22 = .ok (.iload_n 2, 1) := by decide +kernel
theorem dX9_level_23 : decode cX9_level 23 = .ok (.bipush 20, 2) := by decide +kernel
theorem dX9_level_25 : decode cX9_level 25 = .ok (.if_icmp .gt 58, 3) := by decide +kernel
theorem dX9_level_28 : decode cX9_level 28 = .ok (.iconst 0, 1) := by decide +kernel
theorem dX9_level_29 : decode cX9_level 29 = .ok (.istore_n 3, 1) := by decide +kernel
theorem dX9_level_30 : decode cX9_level 30 = .ok (.iconst 0, 1) := by decide +kernel
theorem dX9_level_31 : decode cX9_level 31 = .ok (.istore 4, 2) := by decide +kernel
theorem dX9_level_33 : decode cX9_level 33 = .ok (.iload 4, 2) := by decide +kernel
theorem dX9_level_35 : decode cX9_level 35 = .ok (.aload_n 0, 1) := by decide +kernel
theorem dX9_level_36 : decode cX9_level 36 = .ok (.getfield 19, 3) := by decide +kernel
theorem dX9_level_39 : decode cX9_level 39 = .ok (.getfield 207, 3) := by decide +kernel
theorem dX9_level_42 : decode cX9_level 42 = .ok (.if_icmp .ge 28, 3) := by decide +kernel
theorem dX9_level_45 : decode cX9_level 45 = .ok (.iload_n 3, 1) := by decide +kernel
theorem dX9_level_46 : decode cX9_level 46 = .ok (.iload_n 2, 1) := by decide +kernel
theorem dX9_level_47 : decode cX9_level 47 = .ok (.aload_n 0, 1) := by decide +kernel
theorem dX9_level_48 : decode cX9_level 48 = .ok (.getfield 19, 3) := by decide +kernel
theorem dX9_level_51 : decode cX9_level 51 = .ok (.getfield 241, 3) := by decide +kernel
theorem dX9_level_54 : decode cX9_level 54 = .ok (.iload 4, 2) := by decide +kernel
theorem dX9_level_56 : decode cX9_level 56 = .ok (.invokestatic 223, 3) := by decide +kernel
theorem dX9_level_59 : decode cX9_level 59 = .ok (.invokestatic 290, 3) := by decide +kernel
theorem dX9_level_62 : decode cX9_level 62 = .ok (.iadd, 1) := by decide +kernel
theorem dX9_level_63 : decode cX9_level 63 = .ok (.istore_n 3, 1) := by decide +kernel
theorem dX9_level_64 : decode cX9_level 64 = .ok (.iinc 4 1, 3) := by decide +kernel
theorem dX9_level_67 : decode cX9_level 67 = .ok (.goto (-34), 3) := by decide +kernel
theorem dX9_level_70 : decode cX9_level 70 = .ok (.iload_n 3, 1) := by decide +kernel
theorem dX9_level_71 : decode cX9_level 71 = .ok (.iload_n 1, 1) := by decide +kernel
theorem dX9_level_72 : decode cX9_level 72 = .ok (.if_icmp .lt 5, 3) := by decide +kernel
theorem dX9_level_75 : decode cX9_level 75 = .ok (.iload_n 2, 1) := by decide +kernel
theorem dX9_level_76 : decode cX9_level 76 = .ok (.ireturn, 1) := by decide +kernel
theorem dX9_level_77 : decode cX9_level 77 = .ok (.iinc 2 1, 3) := by decide +kernel
theorem dX9_level_80 : decode cX9_level 80 = .ok (.goto (-58), 3) := by decide +kernel
theorem dX9_level_83 : decode cX9_level 83 = .ok (.iconst (-1), 1) := by decide +kernel
theorem dX9_level_84 : decode cX9_level 84 = .ok (.ireturn, 1) := by decide +kernel
abbrev mt_X9_level : AxM := (RX9, cX9_level, 5, (some .int), false, [])
theorem L1_X9_level_33b {g : AxG} {l : Launch} (hl0 : l.stackTraces = false) {res : AxT Int32} (N : Nat) (K22 : Nat → Int32 → Int32 → AxS → Option (AxT Int32)) (hK22 : ∀ (v0 : Nat) (v1 : Int32) (v2 : Int32) (S : AxS), K22 v0 v1 v2 S = some res → AW g l (axRm (9) (axCs (axOI res)) (6 * axCs (axOI res))) mt_X9_level (axMQ g (axCs (axOI res)) (6 * axCs (axOI res)) (axOI res)) 0 0 S 22 [(0, .ref v0), (1, .int v1), (2, .int v2)] []) (K33 : Nat → Int32 → Int32 → Int32 → Int32 → AxS → Option (AxT Int32)) (hK33 : ∀ (v0 : Nat) (v1 : Int32) (v2 : Int32) (v3 : Int32) (v4 : Int32) (S : AxS), K33 v0 v1 v2 v3 v4 S = some res → AW g l (axRm (9) (axCs (axOI res)) (6 * axCs (axOI res))) mt_X9_level (axMQ g (axCs (axOI res)) (6 * axCs (axOI res)) (axOI res)) 0 0 S 33 [(0, .ref v0), (1, .int v1), (2, .int v2), (3, .int v3), (4, .int v4)] []) (v0 : Nat) (v1 : Int32) (v2 : Int32) (v3 : Int32) (v4 : Int32) (S : AxS) (h : F_X9_level_33b N K22 K33 v0 v1 v2 v3 v4 S = some res) : AW g l (axRm (9) (axCs (axOI res)) (6 * axCs (axOI res))) mt_X9_level (axMQ g (axCs (axOI res)) (6 * axCs (axOI res)) (axOI res)) 0 0 S 33 [(0, .ref v0), (1, .int v1), (2, .int v2), (3, .int v3), (4, .int v4)] [] := by
  unfold F_X9_level_33b at h
  refine aw_iload 4 dX9_level_33 rfl ?_
  refine aw_aload_n 0 dX9_level_35 rfl rfl ?_
  refine aw_getR axc9 1 rfl rfl wd_454 dX9_level_36 h (fun a1 h => ?_)
  refine aw_getI axc1 3 rfl rfl wd_179 dX9_level_39 h (fun x2 h => ?_)
  refine aw_icmp_ge 70 dX9_level_42 (by decide) h (fun h => ?_) (fun h => ?_)
  · refine aw_iload_n 3 dX9_level_70 rfl rfl ?_
    refine aw_iload_n 1 dX9_level_71 rfl rfl ?_
    refine aw_icmp_lt 77 dX9_level_72 (by decide) h (fun h => ?_) (fun h => ?_)
    · refine aw_iinc 2 [(2, .int (v2 + 1)), (0, .ref v0), (1, .int v1), (3, .int v3), (4, .int v4)] (v2 + 1) dX9_level_77 rfl rfl rfl rfl ?_
      refine aw_goto 22 dX9_level_80 (by decide) ?_
      refine aw_env [(0, .ref v0), (1, .int v1), (2, .int (v2 + 1))] [1, 2, 0] rfl ?_
      exact hK22 v0 v1 (v2 + 1) S h
    · refine aw_iload_n 2 dX9_level_75 rfl rfl ?_
      exact aw_iretT dX9_level_76 rfl h
  · refine aw_iload_n 3 dX9_level_45 rfl rfl ?_
    refine aw_iload_n 2 dX9_level_46 rfl rfl ?_
    refine aw_aload_n 0 dX9_level_47 rfl rfl ?_
    refine aw_getR axc9 1 rfl rfl wd_454 dX9_level_48 h (fun a3 h => ?_)
    refine aw_getR axc1 8 rfl rfl wd_190 dX9_level_51 h (fun a4 h => ?_)
    refine aw_iload 4 dX9_level_54 rfl ?_
    refine aw_doneI (rest := [.int v2, .int v3]) h (fun r9 S9 hF => aw_runS (As := [.ref a4, .int v4]) (rest := [.int v2, .int v3]) (L1_X9_at N hF) wd_541 wd_874 wd_540 wd_87 pd_X9_at.2 rfl (ax_rm (by omega) rfl) ax_hf0 (Nat.le_of_ble_eq_true rfl) rfl dX9_level_56) (fun x6 T5 h => ?_)
    refine aw_doneI (rest := [.int v3]) h (fun r9 S9 hF => aw_runS (As := [.int v2, .int x6]) (rest := [.int v3]) (L1_J9_min_7cf53 N hF) wd_563 wd_565 wd_562 wd_106 pd_J9_min_7cf53.2 rfl (ax_rm (by omega) rfl) ax_hf0 (Nat.le_of_ble_eq_true rfl) rfl dX9_level_59) (fun x8 T7 h => ?_)
    refine aw_iadd dX9_level_62 ?_
    refine aw_istore_n 3 [(3, .int (v3 + x8)), (0, .ref v0), (1, .int v1), (2, .int v2), (4, .int v4)] dX9_level_63 rfl rfl rfl ?_
    refine aw_iinc 4 [(4, .int (v4 + 1)), (3, .int (v3 + x8)), (0, .ref v0), (1, .int v1), (2, .int v2)] (v4 + 1) dX9_level_64 rfl rfl rfl rfl ?_
    refine aw_goto 33 dX9_level_67 (by decide) ?_
    refine aw_env [(0, .ref v0), (1, .int v1), (2, .int v2), (3, .int (v3 + x8)), (4, .int (v4 + 1))] [2, 3, 4, 1, 0] rfl ?_
    exact hK33 v0 v1 v2 (v3 + x8) (v4 + 1) T7 h
theorem L1_X9_level_33 {g : AxG} {l : Launch} (hl0 : l.stackTraces = false) {res : AxT Int32} (N : Nat) (K22 : Nat → Int32 → Int32 → AxS → Option (AxT Int32)) (hK22 : ∀ (v0 : Nat) (v1 : Int32) (v2 : Int32) (S : AxS), K22 v0 v1 v2 S = some res → AW g l (axRm (9) (axCs (axOI res)) (6 * axCs (axOI res))) mt_X9_level (axMQ g (axCs (axOI res)) (6 * axCs (axOI res)) (axOI res)) 0 0 S 22 [(0, .ref v0), (1, .int v1), (2, .int v2)] []) : ∀ (n : Nat) (v0 : Nat) (v1 : Int32) (v2 : Int32) (v3 : Int32) (v4 : Int32) (S : AxS), F_X9_level_33 N K22 n v0 v1 v2 v3 v4 S = some res → AW g l (axRm (9) (axCs (axOI res)) (6 * axCs (axOI res))) mt_X9_level (axMQ g (axCs (axOI res)) (6 * axCs (axOI res)) (axOI res)) 0 0 S 33 [(0, .ref v0), (1, .int v1), (2, .int v2), (3, .int v3), (4, .int v4)] [] := by
  intro n
  induction n with
  | zero => intro v0 v1 v2 v3 v4 S h; cases h
  | succ n ih => intro v0 v1 v2 v3 v4 S h; exact L1_X9_level_33b hl0 N K22 hK22 (F_X9_level_33 N K22 n) ih v0 v1 v2 v3 v4 S h
theorem L1_X9_level_22b {g : AxG} {l : Launch} (hl0 : l.stackTraces = false) {res : AxT Int32} (N : Nat) (K22 : Nat → Int32 → Int32 → AxS → Option (AxT Int32)) (hK22 : ∀ (v0 : Nat) (v1 : Int32) (v2 : Int32) (S : AxS), K22 v0 v1 v2 S = some res → AW g l (axRm (9) (axCs (axOI res)) (6 * axCs (axOI res))) mt_X9_level (axMQ g (axCs (axOI res)) (6 * axCs (axOI res)) (axOI res)) 0 0 S 22 [(0, .ref v0), (1, .int v1), (2, .int v2)] []) (v0 : Nat) (v1 : Int32) (v2 : Int32) (S : AxS) (h : F_X9_level_22b N K22 v0 v1 v2 S = some res) : AW g l (axRm (9) (axCs (axOI res)) (6 * axCs (axOI res))) mt_X9_level (axMQ g (axCs (axOI res)) (6 * axCs (axOI res)) (axOI res)) 0 0 S 22 [(0, .ref v0), (1, .int v1), (2, .int v2)] [] := by
  unfold F_X9_level_22b at h
  refine aw_iload_n 2 dX9_level_22 rfl rfl ?_
  refine aw_bipush 20 dX9_level_23 (by decide) ?_
  refine aw_icmp_gt 83 dX9_level_25 (by decide) h (fun h => ?_) (fun h => ?_)
  · refine aw_iconst (-1) dX9_level_83 rfl ?_
    exact aw_iretT dX9_level_84 rfl h
  · refine aw_iconst 0 dX9_level_28 rfl ?_
    refine aw_istore_n 3 [(3, .int 0), (0, .ref v0), (1, .int v1), (2, .int v2)] dX9_level_29 rfl rfl rfl ?_
    refine aw_iconst 0 dX9_level_30 rfl ?_
    refine aw_istore [(4, .int 0), (3, .int 0), (0, .ref v0), (1, .int v1), (2, .int v2)] dX9_level_31 rfl rfl ?_
    refine aw_env [(0, .ref v0), (1, .int v1), (2, .int v2), (3, .int 0), (4, .int 0)] [2, 3, 4, 1, 0] rfl ?_
    exact L1_X9_level_33 hl0 N K22 hK22 N v0 v1 v2 0 0 S h
theorem L1_X9_level_22 {g : AxG} {l : Launch} (hl0 : l.stackTraces = false) {res : AxT Int32} (N : Nat)  : ∀ (n : Nat) (v0 : Nat) (v1 : Int32) (v2 : Int32) (S : AxS), F_X9_level_22 N  n v0 v1 v2 S = some res → AW g l (axRm (9) (axCs (axOI res)) (6 * axCs (axOI res))) mt_X9_level (axMQ g (axCs (axOI res)) (6 * axCs (axOI res)) (axOI res)) 0 0 S 22 [(0, .ref v0), (1, .int v1), (2, .int v2)] [] := by
  intro n
  induction n with
  | zero => intro v0 v1 v2 S h; cases h
  | succ n ih => intro v0 v1 v2 S h; exact L1_X9_level_22b hl0 N (F_X9_level_22 N  n) ih v0 v1 v2 S h
theorem L1_X9_level_17 {g : AxG} {l : Launch} (hl0 : l.stackTraces = false) {res : AxT Int32} (N : Nat)  (v0 : Nat) (v1 : Int32) (w0 : Int32) (w1 : Nat) (S : AxS) (h : F_X9_level_17 N  v0 v1 w0 w1 S = some res) : AW g l (axRm (9) (axCs (axOI res)) (6 * axCs (axOI res))) mt_X9_level (axMQ g (axCs (axOI res)) (6 * axCs (axOI res)) (axOI res)) 0 0 S 17 [(0, .ref v0), (1, .int v1)] [.int w0, .ref w1] := by
  unfold F_X9_level_17 at h
  obtain ⟨hL1, h⟩ := ax_is_spec h
  refine aw_thV (ob := axOI) (rest := []) (fun _ _ => rfl) rfl h (fun u9 hF hu => aw_runV (As := [.int w0]) (rest := []) (L1_X9_needArgument hl0 N hF) axc9 hL1 wd_604 wd_601 wd_603 wd_3 wd_87 pd_X9_needArgument rfl (ax_rm (by omega) rfl) (ax_hfV (fun _ _ => rfl) hu) (Nat.le_of_ble_eq_true rfl) rfl dX9_level_17) (fun T2 h => ?_)
  refine aw_iconst 0 dX9_level_20 rfl ?_
  refine aw_istore_n 2 [(2, .int 0), (0, .ref v0), (1, .int v1)] dX9_level_21 rfl rfl rfl ?_
  refine aw_env [(0, .ref v0), (1, .int v1), (2, .int 0)] [1, 2, 0] rfl ?_
  exact L1_X9_level_22 hl0 N  N v0 v1 0 T2 h
theorem L1_X9_level_16 {g : AxG} {l : Launch} (hl0 : l.stackTraces = false) {res : AxT Int32} (N : Nat)  (v0 : Nat) (v1 : Int32) (w0 : Nat) (S : AxS) (h : F_X9_level_16 N  v0 v1 w0 S = some res) : AW g l (axRm (9) (axCs (axOI res)) (6 * axCs (axOI res))) mt_X9_level (axMQ g (axCs (axOI res)) (6 * axCs (axOI res)) (axOI res)) 0 0 S 16 [(0, .ref v0), (1, .int v1)] [.ref w0] := by
  unfold F_X9_level_16 at h
  refine aw_iconst 0 dX9_level_16 rfl ?_
  refine aw_env [(0, .ref v0), (1, .int v1)] [0, 1] rfl ?_
  exact L1_X9_level_17 hl0 N  v0 v1 0 w0 S h
theorem L1_X9_level {g : AxG} {l : Launch} (hl0 : l.stackTraces = false) (N : Nat) {v0 : Nat} {v1 : Int32} {S : AxS} {res : AxT Int32} (h : F_X9_level N v0 v1 S = some res) : AxMet g l yX9_level cX9_level 5 (some .int) (9) (axCs (axOI res)) (6 * axCs (axOI res)) [.ref v0, .int v1] S (axOI res) := by
  refine ax_met (own := RX9) (ini := false) (by decide +kernel) rfl (fun h => nomatch h) rfl ?_
  show AW g l (axRm (9) (axCs (axOI res)) (6 * axCs (axOI res))) mt_X9_level (axMQ g (axCs (axOI res)) (6 * axCs (axOI res)) (axOI res)) 0 0 S 0 [(0, .ref v0), (1, .int v1)] []
  unfold F_X9_level at h
  refine aw_aload_n 0 dX9_level_0 rfl rfl ?_
  refine aw_iload_n 1 dX9_level_1 rfl rfl ?_
  refine aw_if_lt 16 dX9_level_2 (by decide) h (fun h => ?_) (fun h => ?_)
  · refine aw_env [(0, .ref v0), (1, .int v1)] [0, 1] rfl ?_
    exact L1_X9_level_16 hl0 N  v0 v1 v0 S h
  · refine aw_iload_n 1 dX9_level_5 rfl rfl ?_
    refine aw_sipush 200 dX9_level_6 (by decide) ?_
    refine aw_icmp_gt 16 dX9_level_9 (by decide) h (fun h => ?_) (fun h => ?_)
    · refine aw_env [(0, .ref v0), (1, .int v1)] [0, 1] rfl ?_
      exact L1_X9_level_16 hl0 N  v0 v1 v0 S h
    · refine aw_iconst 1 dX9_level_12 rfl ?_
      refine aw_goto 17 dX9_level_13 (by decide) ?_
      refine aw_env [(0, .ref v0), (1, .int v1)] [0, 1] rfl ?_
      exact L1_X9_level_17 hl0 N  v0 v1 1 v0 S h

theorem dX9_image_0 : decode cX9_image 0 = .ok (.aload_n 0, 1) := by decide +kernel
theorem dX9_image_1 : decode cX9_image 1 = .ok (.getfield 115, 3) := by decide +kernel
theorem dX9_image_4 : decode cX9_image 4 = .ok (.ifCond .lt 15, 3) := by decide +kernel
theorem dX9_image_7 : decode cX9_image 7 = .ok (.aload_n 0, 1) := by decide +kernel
theorem dX9_image_8 : decode cX9_image 8 = .ok (.getfield 115, 3) := by decide +kernel
theorem dX9_image_11 : decode cX9_image 11 = .ok (.aload_n 0, 1) := by decide +kernel
theorem dX9_image_12 : decode cX9_image 12 = .ok (.getfield 72, 3) := by decide +kernel
theorem dX9_image_15 : decode cX9_image 15 = .ok (.arraylength, 1) := by decide +kernel
theorem dX9_image_16 : decode cX9_image 16 = .ok (.if_icmp .lt 5, 3) := by decide +kernel
theorem dX9_image_19 : decode cX9_image 19 = .ok (.iconst (-1), 1) := by decide +kernel
theorem dX9_image_20 : decode cX9_image 20 = .ok (.ireturn, 1) := by decide +kernel
theorem dX9_image_21 : decode cX9_image 21 = .ok (.aload_n 0, 1) := by decide +kernel
theorem dX9_image_22 : decode cX9_image 22 = .ok (.getfield 72, 3) := by decide +kernel
theorem dX9_image_25 : decode cX9_image 25 = .ok (.aload_n 0, 1) := by decide +kernel
theorem dX9_image_26 : decode cX9_image 26 = .ok (.getfield 115, 3) := by decide +kernel
theorem dX9_image_29 : decode cX9_image 29 = .ok (.aaload, 1) := by decide +kernel
theorem dX9_image_30 : decode cX9_image 30 = .ok (.aload_n 0, 1) := by decide +kernel
theorem dX9_image_31 : decode cX9_image 31 = .ok (.getfield 56, 3) := by decide +kernel
theorem dX9_image_34 : decode cX9_image 34 = .ok (.aload_n 0, 1) := by decide +kernel
theorem dX9_image_35 : decode cX9_image 35 = .ok (.getfield 66, 3) := by decide +kernel
theorem dX9_image_38 : decode cX9_image 38 = .ok (.invokevirtual 352, 3) := by decide +kernel
theorem dX9_image_41 : decode cX9_image 41 = .ok (.aload_n 0, 1) := by decide +kernel
theorem dX9_image_42 : decode cX9_image 42 = .ok (.dup, 1) := by decide +kernel
theorem dX9_image_43 : decode cX9_image 43 = .ok (.getfield 115, 3) := by decide +kernel
theorem dX9_image_46 : decode cX9_image 46 = .ok (.iconst 1, 1) := by decide +kernel
theorem dX9_image_47 : decode cX9_image 47 = .ok (.iadd, 1) := by decide +kernel
theorem dX9_image_48 : decode cX9_image 48 = .ok (.putfield 115, 3) := by decide +kernel
theorem dX9_image_51 : decode cX9_image 51 = .ok (.aload_n 0, 1) := by decide +kernel
theorem dX9_image_52 : decode cX9_image 52 = .ok (.getfield 115, 3) := by decide +kernel
theorem dX9_image_55 : decode cX9_image 55 = .ok (.ireturn, 1) := by decide +kernel
abbrev mt_X9_image : AxM := (RX9, cX9_image, 1, (some .int), false, [])
theorem L1_X9_image {g : AxG} {l : Launch} (N : Nat) {v0 : Nat} {S : AxS} {r9 : Int32} {S9 : AxS} (h : F_X9_image N v0 S = some ((r9, S9))) : AxMet g l yX9_image cX9_image 1 (some .int) (4) 0 0 [.ref v0] S ((.inl (some (.int r9)), S9)) := by
  refine ax_met (own := RX9) (ini := false) (by decide +kernel) rfl (fun h => nomatch h) rfl ?_
  show AW g l (axRm (4) 0 0) mt_X9_image (axMQ g 0 0 (.inl (some (.int r9)), S9)) 0 0 S 0 [(0, .ref v0)] []
  unfold F_X9_image at h
  refine aw_aload_n 0 dX9_image_0 rfl rfl ?_
  refine aw_getI axc9 12 rfl rfl wd_465 dX9_image_1 h (fun x1 h => ?_)
  refine aw_if_lt 19 dX9_image_4 (by decide) h (fun h => ?_) (fun h => ?_)
  · refine aw_iconst (-1) dX9_image_19 rfl ?_
    exact aw_iret dX9_image_20 rfl (Nat.le_refl _) (Nat.le_refl _) h
  · refine aw_aload_n 0 dX9_image_7 rfl rfl ?_
    refine aw_getI axc9 12 rfl rfl wd_465 dX9_image_8 h (fun x2 h => ?_)
    refine aw_aload_n 0 dX9_image_11 rfl rfl ?_
    refine aw_getR axc9 11 rfl rfl wd_464 dX9_image_12 h (fun a3 h => ?_)
    refine aw_alen dX9_image_15 h (fun x4 h => ?_)
    refine aw_icmp_lt 21 dX9_image_16 (by decide) h (fun h => ?_) (fun h => ?_)
    · refine aw_aload_n 0 dX9_image_21 rfl rfl ?_
      refine aw_getR axc9 11 rfl rfl wd_464 dX9_image_22 h (fun a5 h => ?_)
      refine aw_aload_n 0 dX9_image_25 rfl rfl ?_
      refine aw_getI axc9 12 rfl rfl wd_465 dX9_image_26 h (fun x6 h => ?_)
      refine aw_aald dX9_image_29 h (fun a7 h => ?_)
      refine aw_aload_n 0 dX9_image_30 rfl rfl ?_
      refine aw_getR axc9 8 rfl rfl wd_461 dX9_image_31 h (fun a8 h => ?_)
      refine aw_aload_n 0 dX9_image_34 rfl rfl ?_
      refine aw_getR axc9 10 rfl rfl wd_463 dX9_image_35 h (fun a9 h => ?_)
      obtain ⟨hL10, h⟩ := ax_is_spec h
      refine aw_doneV (rest := []) h (fun S9 hF => aw_runV (As := [.ref a8, .ref a9]) (rest := []) (L1_X3_take N hF) axc3 hL10 wd_573 wd_570 wd_571 wd_572 wd_96 pd_X3_take rfl (ax_rm (by omega) rfl) ax_hf0 (Nat.le_of_ble_eq_true rfl) rfl dX9_image_38) (fun T11 h => ?_)
      refine aw_aload_n 0 dX9_image_41 rfl rfl ?_
      refine aw_dup rfl dX9_image_42 ?_
      refine aw_getI axc9 12 rfl rfl wd_465 dX9_image_43 h (fun x13 h => ?_)
      refine aw_iconst 1 dX9_image_46 rfl ?_
      refine aw_iadd dX9_image_47 ?_
      refine aw_putI axc9 12 rfl rfl wd_465 rfl rfl rfl dX9_image_48 h (fun T14 h => ?_)
      refine aw_aload_n 0 dX9_image_51 rfl rfl ?_
      refine aw_getI axc9 12 rfl rfl wd_465 dX9_image_52 h (fun x15 h => ?_)
      exact aw_iret dX9_image_55 rfl (Nat.le_refl _) (Nat.le_refl _) h
    · refine aw_iconst (-1) dX9_image_19 rfl ?_
      exact aw_iret dX9_image_20 rfl (Nat.le_refl _) (Nat.le_refl _) h

theorem dX9_restore_0 : decode cX9_restore 0 = .ok (.aload_n 0, 1) := by decide +kernel
theorem dX9_restore_1 : decode cX9_restore 1 = .ok (.getfield 115, 3) := by decide +kernel
theorem dX9_restore_4 : decode cX9_restore 4 = .ok (.ifCond .le 15, 3) := by decide +kernel
theorem dX9_restore_7 : decode cX9_restore 7 = .ok (.aload_n 0, 1) := by decide +kernel
theorem dX9_restore_8 : decode cX9_restore 8 = .ok (.getfield 115, 3) := by decide +kernel
theorem dX9_restore_11 : decode cX9_restore 11 = .ok (.aload_n 0, 1) := by decide +kernel
theorem dX9_restore_12 : decode cX9_restore 12 = .ok (.getfield 72, 3) := by decide +kernel
theorem dX9_restore_15 : decode cX9_restore 15 = .ok (.arraylength, 1) := by decide +kernel
theorem dX9_restore_16 : decode cX9_restore 16 = .ok (.if_icmp .le 5, 3) := by decide +kernel
theorem dX9_restore_19 : decode cX9_restore 19 = .ok (.iconst (-1), 1) := by decide +kernel
theorem dX9_restore_20 : decode cX9_restore 20 = .ok (.ireturn, 1) := by decide +kernel
theorem dX9_restore_21 : decode cX9_restore 21 = .ok (.aload_n 0, 1) := by decide +kernel
theorem dX9_restore_22 : decode cX9_restore 22 = .ok (.dup, 1) := by decide +kernel
theorem dX9_restore_23 : decode cX9_restore 23 = .ok (.getfield 115, 3) := by decide +kernel
theorem dX9_restore_26 : decode cX9_restore 26 = .ok (.iconst 1, 1) := by decide +kernel
theorem dX9_restore_27 : decode cX9_restore 27 = .ok (.isub, 1) := by decide +kernel
theorem dX9_restore_28 : decode cX9_restore 28 = .ok (.putfield 115, 3) := by decide +kernel
theorem dX9_restore_31 : decode cX9_restore 31 = .ok (.aload_n 0, 1) := by decide +kernel
theorem dX9_restore_32 : decode cX9_restore 32 = .ok (.getfield 56, 3) := by decide +kernel
theorem dX9_restore_35 : decode cX9_restore 35 = .ok (.aload_n 0, 1) := by decide +kernel
theorem dX9_restore_36 : decode cX9_restore 36 = .ok (.getfield 72, 3) := by decide +kernel
theorem dX9_restore_39 : decode cX9_restore 39 = .ok (.aload_n 0, 1) := by decide +kernel
theorem dX9_restore_40 : decode cX9_restore 40 = .ok (.getfield 115, 3) := by decide +kernel
theorem dX9_restore_43 : decode cX9_restore 43 = .ok (.aaload, 1) := by decide +kernel
theorem dX9_restore_44 : decode cX9_restore 44 = .ok (.getfield 355, 3) := by decide +kernel
theorem dX9_restore_47 : decode cX9_restore 47 = .ok (.invokevirtual 262, 3) := by decide +kernel
theorem dX9_restore_50 : decode cX9_restore 50 = .ok (.aload_n 0, 1) := by decide +kernel
theorem dX9_restore_51 : decode cX9_restore 51 = .ok (.getfield 66, 3) := by decide +kernel
theorem dX9_restore_54 : decode cX9_restore 54 = .ok (.aload_n 0, 1) := by decide +kernel
theorem dX9_restore_55 : decode cX9_restore 55 = .ok (.getfield 72, 3) := by decide +kernel
theorem dX9_restore_58 : decode cX9_restore 58 = .ok (.aload_n 0, 1) := by decide +kernel
theorem dX9_restore_59 : decode cX9_restore 59 = .ok (.getfield 115, 3) := by decide +kernel
theorem dX9_restore_62 : decode cX9_restore 62 = .ok (.aaload, 1) := by decide +kernel
theorem dX9_restore_63 : decode cX9_restore 63 = .ok (.getfield 358, 3) := by decide +kernel
theorem dX9_restore_66 : decode cX9_restore 66 = .ok (.invokevirtual 359, 3) := by decide +kernel
theorem dX9_restore_69 : decode cX9_restore 69 = .ok (.aload_n 0, 1) := by decide +kernel
theorem dX9_restore_70 : decode cX9_restore 70 = .ok (.iconst 0, 1) := by decide +kernel
theorem dX9_restore_71 : decode cX9_restore 71 = .ok (.putfield 118, 3) := by decide +kernel
theorem dX9_restore_74 : decode cX9_restore 74 = .ok (.aload_n 0, 1) := by decide +kernel
theorem dX9_restore_75 : decode cX9_restore 75 = .ok (.getfield 115, 3) := by decide +kernel
theorem dX9_restore_78 : decode cX9_restore 78 = .ok (.ireturn, 1) := by decide +kernel
abbrev mt_X9_restore : AxM := (RX9, cX9_restore, 1, (some .int), false, [])
theorem L1_X9_restore {g : AxG} {l : Launch} (N : Nat) {v0 : Nat} {S : AxS} {r9 : Int32} {S9 : AxS} (h : F_X9_restore N v0 S = some ((r9, S9))) : AxMet g l yX9_restore cX9_restore 1 (some .int) (3) 0 0 [.ref v0] S ((.inl (some (.int r9)), S9)) := by
  refine ax_met (own := RX9) (ini := false) (by decide +kernel) rfl (fun h => nomatch h) rfl ?_
  show AW g l (axRm (3) 0 0) mt_X9_restore (axMQ g 0 0 (.inl (some (.int r9)), S9)) 0 0 S 0 [(0, .ref v0)] []
  unfold F_X9_restore at h
  refine aw_aload_n 0 dX9_restore_0 rfl rfl ?_
  refine aw_getI axc9 12 rfl rfl wd_465 dX9_restore_1 h (fun x1 h => ?_)
  refine aw_if_le 19 dX9_restore_4 (by decide) h (fun h => ?_) (fun h => ?_)
  · refine aw_iconst (-1) dX9_restore_19 rfl ?_
    exact aw_iret dX9_restore_20 rfl (Nat.le_refl _) (Nat.le_refl _) h
  · refine aw_aload_n 0 dX9_restore_7 rfl rfl ?_
    refine aw_getI axc9 12 rfl rfl wd_465 dX9_restore_8 h (fun x2 h => ?_)
    refine aw_aload_n 0 dX9_restore_11 rfl rfl ?_
    refine aw_getR axc9 11 rfl rfl wd_464 dX9_restore_12 h (fun a3 h => ?_)
    refine aw_alen dX9_restore_15 h (fun x4 h => ?_)
    refine aw_icmp_le 21 dX9_restore_16 (by decide) h (fun h => ?_) (fun h => ?_)
    · refine aw_aload_n 0 dX9_restore_21 rfl rfl ?_
      refine aw_dup rfl dX9_restore_22 ?_
      refine aw_getI axc9 12 rfl rfl wd_465 dX9_restore_23 h (fun x5 h => ?_)
      refine aw_iconst 1 dX9_restore_26 rfl ?_
      refine aw_isub dX9_restore_27 ?_
      refine aw_putI axc9 12 rfl rfl wd_465 rfl rfl rfl dX9_restore_28 h (fun T6 h => ?_)
      refine aw_aload_n 0 dX9_restore_31 rfl rfl ?_
      refine aw_getR axc9 8 rfl rfl wd_461 dX9_restore_32 h (fun a7 h => ?_)
      refine aw_aload_n 0 dX9_restore_35 rfl rfl ?_
      refine aw_getR axc9 11 rfl rfl wd_464 dX9_restore_36 h (fun a8 h => ?_)
      refine aw_aload_n 0 dX9_restore_39 rfl rfl ?_
      refine aw_getI axc9 12 rfl rfl wd_465 dX9_restore_40 h (fun x9 h => ?_)
      refine aw_aald dX9_restore_43 h (fun a10 h => ?_)
      refine aw_getR axc3 0 rfl rfl wd_421 dX9_restore_44 h (fun a11 h => ?_)
      obtain ⟨hL12, h⟩ := ax_is_spec h
      refine aw_doneV (rest := []) h (fun S9 hF => aw_runV (As := [.ref a11]) (rest := []) (L1_X5_take N hF) axc5 hL12 wd_538 wd_583 wd_536 wd_537 wd_93 pd_X5_take rfl (ax_rm (by omega) rfl) ax_hf0 (Nat.le_of_ble_eq_true rfl) rfl dX9_restore_47) (fun T13 h => ?_)
      refine aw_aload_n 0 dX9_restore_50 rfl rfl ?_
      refine aw_getR axc9 10 rfl rfl wd_463 dX9_restore_51 h (fun a15 h => ?_)
      refine aw_aload_n 0 dX9_restore_54 rfl rfl ?_
      refine aw_getR axc9 11 rfl rfl wd_464 dX9_restore_55 h (fun a16 h => ?_)
      refine aw_aload_n 0 dX9_restore_58 rfl rfl ?_
      refine aw_getI axc9 12 rfl rfl wd_465 dX9_restore_59 h (fun x17 h => ?_)
      refine aw_aald dX9_restore_62 h (fun a18 h => ?_)
      refine aw_getR axc3 1 rfl rfl wd_423 dX9_restore_63 h (fun a19 h => ?_)
      obtain ⟨hL20, h⟩ := ax_is_spec h
      refine aw_doneV (rest := []) h (fun S9 hF => aw_runV (As := [.ref a19]) (rest := []) (L1_X8_take N hF) axc8 hL20 wd_578 wd_584 wd_576 wd_577 wd_94 pd_X8_take rfl (ax_rm (by omega) rfl) ax_hf0 (Nat.le_of_ble_eq_true rfl) rfl dX9_restore_66) (fun T21 h => ?_)
      refine aw_aload_n 0 dX9_restore_69 rfl rfl ?_
      refine aw_iconst 0 dX9_restore_70 rfl ?_
      refine aw_putI axc9 13 rfl rfl wd_466 rfl rfl rfl dX9_restore_71 h (fun T23 h => ?_)
      refine aw_aload_n 0 dX9_restore_74 rfl rfl ?_
      refine aw_getI axc9 12 rfl rfl wd_465 dX9_restore_75 h (fun x24 h => ?_)
      exact aw_iret dX9_restore_78 rfl (Nat.le_refl _) (Nat.le_refl _) h
    · refine aw_iconst (-1) dX9_restore_19 rfl ?_
      exact aw_iret dX9_restore_20 rfl (Nat.le_refl _) (Nat.le_refl _) h

theorem dX9_status_0 : decode cX9_status 0 = .ok (.iload_n 1, 1) := by decide +kernel
theorem dX9_status_1 : decode cX9_status 1 = .ok (.lookupswitch 37 #[(0, 27), (1, 32)], 27) := by decide +kernel
theorem dX9_status_28 : decode cX9_status 28 = .ok (.aload_n 0, 1) := by decide +kernel
theorem dX9_status_29 : decode cX9_status 29 = .ok (.getfield 362, 3) := by decide +kernel
theorem dX9_status_32 : decode cX9_status 32 = .ok (.ireturn, 1) := by decide +kernel
theorem dX9_status_33 : decode cX9_status 33 = .ok (.aload_n 0, 1) := by decide +kernel
theorem dX9_status_34 : decode cX9_status 34 = .ok (.getfield 365, 3) := by decide +kernel
theorem dX9_status_37 : decode cX9_status 37 = .ok (.ireturn, 1) := by decide +kernel
theorem dX9_status_38 : decode cX9_status 38 = .ok (.iconst (-1), 1) := by decide +kernel
theorem dX9_status_39 : decode cX9_status 39 = .ok (.ireturn, 1) := by decide +kernel
abbrev mt_X9_status : AxM := (RX9, cX9_status, 2, (some .int), false, [])
theorem L1_X9_status {g : AxG} {l : Launch} (N : Nat) {v0 : Nat} {v1 : Int32} {S : AxS} {r9 : Int32} {S9 : AxS} (h : F_X9_status N v0 v1 S = some ((r9, S9))) : AxMet g l yX9_status cX9_status 2 (some .int) (0) 0 0 [.ref v0, .int v1] S ((.inl (some (.int r9)), S9)) := by
  refine ax_met (own := RX9) (ini := false) (by decide +kernel) rfl (fun h => nomatch h) rfl ?_
  show AW g l (axRm (0) 0 0) mt_X9_status (axMQ g 0 0 (.inl (some (.int r9)), S9)) 0 0 S 0 [(0, .ref v0), (1, .int v1)] []
  unfold F_X9_status at h
  refine aw_iload_n 1 dX9_status_0 rfl rfl ?_
  refine aw_case 0 h (fun h => ?_) (fun c2 h => ?_)
  · refine aw_lsw 28 (off := 27) dX9_status_1 (by decide) (by decide) (by decide) ?_
    refine aw_aload_n 0 dX9_status_28 rfl rfl ?_
    refine aw_getI axc9 14 rfl rfl wd_467 dX9_status_29 h (fun x1 h => ?_)
    exact aw_iret dX9_status_32 rfl (Nat.le_refl _) (Nat.le_refl _) h
  refine aw_case 1 h (fun h => ?_) (fun c4 h => ?_)
  · refine aw_lsw 33 (off := 32) dX9_status_1 (by decide) (by decide) (by decide) ?_
    refine aw_aload_n 0 dX9_status_33 rfl rfl ?_
    refine aw_getI axc9 15 rfl rfl wd_468 dX9_status_34 h (fun x3 h => ?_)
    exact aw_iret dX9_status_37 rfl (Nat.le_refl _) (Nat.le_refl _) h
  refine aw_lsw 38 (off := 37) dX9_status_1 (by decide) (by show Op.lookupswitch.offset [(0, 27), (1, 32)] 37 _ = _; rw [lv_osw c2 (by decide), lv_osw c4 (by decide)]; rfl) (by decide) ?_
  refine aw_iconst (-1) dX9_status_38 rfl ?_
  exact aw_iret dX9_status_39 rfl (Nat.le_refl _) (Nat.le_refl _) h

theorem dX9_kept_0 : decode cX9_kept 0 = .ok (.iload_n 1, 1) := by decide +kernel
theorem dX9_kept_1 : decode cX9_kept 1 = .ok (.tableswitch 48 0 2 #[27, 32, 40], 27) := by decide +kernel
theorem dX9_kept_28 : decode cX9_kept 28 = .ok (.aload_n 0, 1) := by decide +kernel
theorem dX9_kept_29 : decode cX9_kept 29 = .ok (.getfield 115, 3) := by decide +kernel
theorem dX9_kept_32 : decode cX9_kept 32 = .ok (.ireturn, 1) := by decide +kernel
theorem dX9_kept_33 : decode cX9_kept 33 = .ok (.aload_n 0, 1) := by decide +kernel
theorem dX9_kept_34 : decode cX9_kept 34 = .ok (.getfield 10, 3) := by decide +kernel
theorem dX9_kept_37 : decode cX9_kept 37 = .ok (.getfield 121, 3) := by decide +kernel
theorem dX9_kept_40 : decode cX9_kept 40 = .ok (.ireturn, 1) := by decide +kernel
theorem dX9_kept_41 : decode cX9_kept 41 = .ok (.aload_n 0, 1) := by decide +kernel
theorem dX9_kept_42 : decode cX9_kept 42 = .ok (.getfield 66, 3) := by decide +kernel
theorem dX9_kept_45 : decode cX9_kept 45 = .ok (.getfield 111, 3) := by decide +kernel
theorem dX9_kept_48 : decode cX9_kept 48 = .ok (.ireturn, 1) := by decide +kernel
theorem dX9_kept_49 : decode cX9_kept 49 = .ok (.iconst (-1), 1) := by decide +kernel
theorem dX9_kept_50 : decode cX9_kept 50 = .ok (.ireturn, 1) := by decide +kernel
abbrev mt_X9_kept : AxM := (RX9, cX9_kept, 2, (some .int), false, [])
theorem L1_X9_kept {g : AxG} {l : Launch} (N : Nat) {v0 : Nat} {v1 : Int32} {S : AxS} {r9 : Int32} {S9 : AxS} (h : F_X9_kept N v0 v1 S = some ((r9, S9))) : AxMet g l yX9_kept cX9_kept 2 (some .int) (0) 0 0 [.ref v0, .int v1] S ((.inl (some (.int r9)), S9)) := by
  refine ax_met (own := RX9) (ini := false) (by decide +kernel) rfl (fun h => nomatch h) rfl ?_
  show AW g l (axRm (0) 0 0) mt_X9_kept (axMQ g 0 0 (.inl (some (.int r9)), S9)) 0 0 S 0 [(0, .ref v0), (1, .int v1)] []
  unfold F_X9_kept at h
  refine aw_iload_n 1 dX9_kept_0 rfl rfl ?_
  refine aw_case 0 h (fun h => ?_) (fun c2 h => ?_)
  · refine aw_tswIn 28 (off := 27) dX9_kept_1 (by decide) (by decide) (by decide) (by decide) ?_
    refine aw_aload_n 0 dX9_kept_28 rfl rfl ?_
    refine aw_getI axc9 12 rfl rfl wd_465 dX9_kept_29 h (fun x1 h => ?_)
    exact aw_iret dX9_kept_32 rfl (Nat.le_refl _) (Nat.le_refl _) h
  refine aw_case 1 h (fun h => ?_) (fun c5 h => ?_)
  · refine aw_tswIn 33 (off := 32) dX9_kept_1 (by decide) (by decide) (by decide) (by decide) ?_
    refine aw_aload_n 0 dX9_kept_33 rfl rfl ?_
    refine aw_getR axc9 0 rfl rfl wd_453 dX9_kept_34 h (fun a3 h => ?_)
    refine aw_getI axc7 1 rfl rfl wd_125 dX9_kept_37 h (fun x4 h => ?_)
    exact aw_iret dX9_kept_40 rfl (Nat.le_refl _) (Nat.le_refl _) h
  refine aw_case 2 h (fun h => ?_) (fun c8 h => ?_)
  · refine aw_tswIn 41 (off := 40) dX9_kept_1 (by decide) (by decide) (by decide) (by decide) ?_
    refine aw_aload_n 0 dX9_kept_41 rfl rfl ?_
    refine aw_getR axc9 10 rfl rfl wd_463 dX9_kept_42 h (fun a6 h => ?_)
    refine aw_getI axc8 1 rfl rfl wd_360 dX9_kept_45 h (fun x7 h => ?_)
    exact aw_iret dX9_kept_48 rfl (Nat.le_refl _) (Nat.le_refl _) h
  refine aw_tswOut 49 dX9_kept_1 (by have q0 := ax_i32ne c2 (v := 0) (i := 0) (by decide); have q1 := ax_i32ne c5 (v := 1) (i := 1) (by decide); have q2 := ax_i32ne c8 (v := 2) (i := 2) (by decide); omega) (by decide) ?_
  refine aw_iconst (-1) dX9_kept_49 rfl ?_
  exact aw_iret dX9_kept_50 rfl (Nat.le_refl _) (Nat.le_refl _) h

theorem dX9_doStep_0 : decode cX9_doStep 0 = .ok (.iload_n 1, 1) := by decide +kernel
theorem dX9_doStep_1 : decode cX9_doStep 1 = .ok (.tableswitch 91 1 5 #[35, 44, 64, 72, 81], 35) := by decide +kernel
theorem dX9_doStep_36 : decode cX9_doStep 36 = .ok (.aload_n 0, 1) := by decide +kernel
theorem dX9_doStep_37 : decode cX9_doStep 37 = .ok (.getfield 56, 3) := by decide +kernel
theorem dX9_doStep_40 : decode cX9_doStep 40 = .ok (.iload_n 2, 1) := by decide +kernel
theorem dX9_doStep_41 : decode cX9_doStep 41 = .ok (.invokevirtual 268, 3) := by decide +kernel
theorem dX9_doStep_44 : decode cX9_doStep 44 = .ok (.ireturn, 1) := by decide +kernel
theorem dX9_doStep_45 : decode cX9_doStep 45 = .ok (.aload_n 0, 1) := by decide +kernel
theorem dX9_doStep_46 : decode cX9_doStep 46 = .ok (.getfield 56, 3) := by decide +kernel
theorem dX9_doStep_49 : decode cX9_doStep 49 = .ok (.iload_n 2, 1) := by decide +kernel
theorem dX9_doStep_50 : decode cX9_doStep 50 = .ok (.aload_n 0, 1) := by decide +kernel
theorem dX9_doStep_51 : decode cX9_doStep 51 = .ok (.getfield 19, 3) := by decide +kernel
theorem dX9_doStep_54 : decode cX9_doStep 54 = .ok (.getfield 241, 3) := by decide +kernel
theorem dX9_doStep_57 : decode cX9_doStep 57 = .ok (.iload_n 2, 1) := by decide +kernel
theorem dX9_doStep_58 : decode cX9_doStep 58 = .ok (.invokestatic 223, 3) := by decide +kernel
theorem dX9_doStep_61 : decode cX9_doStep 61 = .ok (.invokevirtual 406, 3) := by decide +kernel
theorem dX9_doStep_64 : decode cX9_doStep 64 = .ok (.ireturn, 1) := by decide +kernel
theorem dX9_doStep_65 : decode cX9_doStep 65 = .ok (.aload_n 0, 1) := by decide +kernel
theorem dX9_doStep_66 : decode cX9_doStep 66 = .ok (.getfield 56, 3) := by decide +kernel
theorem dX9_doStep_69 : decode cX9_doStep 69 = .ok (.invokevirtual 409, 3) := by decide +kernel
theorem dX9_doStep_72 : decode cX9_doStep 72 = .ok (.ireturn, 1) := by decide +kernel
theorem dX9_doStep_73 : decode cX9_doStep 73 = .ok (.aload_n 0, 1) := by decide +kernel
theorem dX9_doStep_74 : decode cX9_doStep 74 = .ok (.getfield 56, 3) := by decide +kernel
theorem dX9_doStep_77 : decode cX9_doStep 77 = .ok (.iload_n 2, 1) := by decide +kernel
theorem dX9_doStep_78 : decode cX9_doStep 78 = .ok (.invokevirtual 413, 3) := by decide +kernel
theorem dX9_doStep_81 : decode cX9_doStep 81 = .ok (.ireturn, 1) := by decide +kernel
theorem dX9_doStep_82 : decode cX9_doStep 82 = .ok (.aload_n 0, 1) := by decide +kernel
theorem dX9_doStep_83 : decode cX9_doStep 83 = .ok (.getfield 56, 3) := by decide +kernel
theorem dX9_doStep_86 : decode cX9_doStep 86 = .ok (.iload_n 2, 1) := by decide +kernel
theorem dX9_doStep_87 : decode cX9_doStep 87 = .ok (.iload_n 3, 1) := by decide +kernel
theorem dX9_doStep_88 : decode cX9_doStep 88 = .ok (.invokevirtual 416, 3) := by decide +kernel
theorem dX9_doStep_91 : decode cX9_doStep 91 = .ok (.ireturn, 1) := by decide +kernel
theorem dX9_doStep_92 : decode cX9_doStep 92 = .ok (.iload_n 1, 1) := by decide +kernel
theorem dX9_doStep_93 : decode cX9_doStep 93 = .ok (.bipush 6, 2) := by decide +kernel
theorem dX9_doStep_95 : decode cX9_doStep 95 = .ok (.if_icmp .ne 16, 3) := by decide +kernel
theorem dX9_doStep_98 : decode cX9_doStep 98 = .ok (.aload_n 0, 1) := by decide +kernel
theorem dX9_doStep_99 : decode cX9_doStep 99 = .ok (.getfield 56, 3) := by decide +kernel
theorem dX9_doStep_102 : decode cX9_doStep 102 = .ok (.getfield 180, 3) := by decide +kernel
theorem dX9_doStep_105 : decode cX9_doStep 105 = .ok (.sipush 999, 3) := by decide +kernel
theorem dX9_doStep_108 : decode cX9_doStep 108 = .ok (.if_icmp .lt 5, 3) := by decide +kernel
theorem dX9_doStep_111 : decode cX9_doStep 111 = .ok (.iconst 0, 1) := by decide +kernel
theorem dX9_doStep_112 : decode cX9_doStep 112 = .ok (.ireturn, 1) := by decide +kernel
theorem dX9_doStep_113 : decode cX9_doStep 113 = .ok (.aload_n 0, 1) := by decide +kernel
theorem dX9_doStep_114 : decode cX9_doStep 114 = .ok (.aload_n 0, 1) := by decide +kernel
theorem dX9_doStep_115 : decode cX9_doStep 115 = .ok (.getfield 56, 3) := by decide +kernel
theorem dX9_doStep_118 : decode cX9_doStep 118 = .ok (.iconst 0, 1) := by decide +kernel
theorem dX9_doStep_119 : decode cX9_doStep 119 = .ok (.invokevirtual 265, 3) := by decide +kernel
theorem dX9_doStep_122 : decode cX9_doStep 122 = .ok (.pop, 1) := by decide +kernel
theorem dX9_doStep_123 : decode cX9_doStep 123 = .ok (.iconst 1, 1) := by decide +kernel
theorem dX9_doStep_124 : decode cX9_doStep 124 = .ok (.ireturn, 1) := by decide +kernel
abbrev mt_X9_doStep : AxM := (RX9, cX9_doStep, 4, (some .boolean), false, [])
theorem L1_X9_doStep {g : AxG} {l : Launch} (N : Nat) {v0 : Nat} {v1 : Int32} {v2 : Int32} {v3 : Int32} {S : AxS} {r9 : Int32} {S9 : AxS} (h : F_X9_doStep N v0 v1 v2 v3 S = some ((r9, S9))) : AxMet g l yX9_doStep cX9_doStep 4 (some .boolean) (5) 0 0 [.ref v0, .int v1, .int v2, .int v3] S ((.inl (some (.int r9)), S9)) := by
  refine ax_met (own := RX9) (ini := false) (by decide +kernel) rfl (fun h => nomatch h) rfl ?_
  show AW g l (axRm (5) 0 0) mt_X9_doStep (axMQ g 0 0 (.inl (some (.int r9)), S9)) 0 0 S 0 [(0, .ref v0), (1, .int v1), (2, .int v2), (3, .int v3)] []
  unfold F_X9_doStep at h
  refine aw_iload_n 1 dX9_doStep_0 rfl rfl ?_
  refine aw_case 1 h (fun h => ?_) (fun c5 h => ?_)
  · refine aw_tswIn 36 (off := 35) dX9_doStep_1 (by decide) (by decide) (by decide) (by decide) ?_
    refine aw_aload_n 0 dX9_doStep_36 rfl rfl ?_
    refine aw_getR axc9 8 rfl rfl wd_461 dX9_doStep_37 h (fun a1 h => ?_)
    refine aw_iload_n 2 dX9_doStep_40 rfl rfl ?_
    obtain ⟨hL2, h⟩ := ax_is_spec h
    refine aw_doneI (rest := []) h (fun r9 S9 hF => aw_runV (As := [.int v2]) (rest := []) (L1_X5_pays N hF) axc5 hL2 wd_887 wd_884 wd_885 wd_886 wd_93 pd_X5_pays rfl (ax_rm (by omega) rfl) ax_hf0 (Nat.le_of_ble_eq_true rfl) rfl dX9_doStep_41) (fun x4 T3 h => ?_)
    exact aw_zret dX9_doStep_44 rfl (Nat.le_refl _) (Nat.le_refl _) h
  refine aw_case 2 h (fun h => ?_) (fun c14 h => ?_)
  · refine aw_tswIn 45 (off := 44) dX9_doStep_1 (by decide) (by decide) (by decide) (by decide) ?_
    refine aw_aload_n 0 dX9_doStep_45 rfl rfl ?_
    refine aw_getR axc9 8 rfl rfl wd_461 dX9_doStep_46 h (fun a6 h => ?_)
    refine aw_iload_n 2 dX9_doStep_49 rfl rfl ?_
    refine aw_aload_n 0 dX9_doStep_50 rfl rfl ?_
    refine aw_getR axc9 1 rfl rfl wd_454 dX9_doStep_51 h (fun a7 h => ?_)
    refine aw_getR axc1 8 rfl rfl wd_190 dX9_doStep_54 h (fun a8 h => ?_)
    refine aw_iload_n 2 dX9_doStep_57 rfl rfl ?_
    refine aw_doneI (rest := [.int v2, .ref a6]) h (fun r9 S9 hF => aw_runS (As := [.ref a8, .int v2]) (rest := [.int v2, .ref a6]) (L1_X9_at N hF) wd_541 wd_874 wd_540 wd_87 pd_X9_at.2 rfl (ax_rm (by omega) rfl) ax_hf0 (Nat.le_of_ble_eq_true rfl) rfl dX9_doStep_58) (fun x10 T9 h => ?_)
    obtain ⟨hL11, h⟩ := ax_is_spec h
    refine aw_doneI (rest := []) h (fun r9 S9 hF => aw_runV (As := [.int v2, .int x10]) (rest := []) (L1_X5_gives N hF) axc5 hL11 wd_891 wd_888 wd_889 wd_890 wd_93 pd_X5_gives rfl (ax_rm (by omega) rfl) ax_hf0 (Nat.le_of_ble_eq_true rfl) rfl dX9_doStep_61) (fun x13 T12 h => ?_)
    exact aw_zret dX9_doStep_64 rfl (Nat.le_refl _) (Nat.le_refl _) h
  refine aw_case 3 h (fun h => ?_) (fun c19 h => ?_)
  · refine aw_tswIn 65 (off := 64) dX9_doStep_1 (by decide) (by decide) (by decide) (by decide) ?_
    refine aw_aload_n 0 dX9_doStep_65 rfl rfl ?_
    refine aw_getR axc9 8 rfl rfl wd_461 dX9_doStep_66 h (fun a15 h => ?_)
    obtain ⟨hL16, h⟩ := ax_is_spec h
    refine aw_doneI (rest := []) h (fun r9 S9 hF => aw_runV (As := []) (rest := []) (L1_X5_waxes N hF) axc5 hL16 wd_896 wd_893 wd_894 wd_895 wd_93 pd_X5_waxes rfl (ax_rm (by omega) rfl) ax_hf0 (Nat.le_of_ble_eq_true rfl) rfl dX9_doStep_69) (fun x18 T17 h => ?_)
    exact aw_zret dX9_doStep_72 rfl (Nat.le_refl _) (Nat.le_refl _) h
  refine aw_case 4 h (fun h => ?_) (fun c24 h => ?_)
  · refine aw_tswIn 73 (off := 72) dX9_doStep_1 (by decide) (by decide) (by decide) (by decide) ?_
    refine aw_aload_n 0 dX9_doStep_73 rfl rfl ?_
    refine aw_getR axc9 8 rfl rfl wd_461 dX9_doStep_74 h (fun a20 h => ?_)
    refine aw_iload_n 2 dX9_doStep_77 rfl rfl ?_
    obtain ⟨hL21, h⟩ := ax_is_spec h
    refine aw_doneI (rest := []) h (fun r9 S9 hF => aw_runV (As := [.int v2]) (rest := []) (L1_X5_hangUp N hF) axc5 hL21 wd_900 wd_897 wd_898 wd_899 wd_93 pd_X5_hangUp rfl (ax_rm (by omega) rfl) ax_hf0 (Nat.le_of_ble_eq_true rfl) rfl dX9_doStep_78) (fun x23 T22 h => ?_)
    exact aw_zret dX9_doStep_81 rfl (Nat.le_refl _) (Nat.le_refl _) h
  refine aw_case 5 h (fun h => ?_) (fun c29 h => ?_)
  · refine aw_tswIn 82 (off := 81) dX9_doStep_1 (by decide) (by decide) (by decide) (by decide) ?_
    refine aw_aload_n 0 dX9_doStep_82 rfl rfl ?_
    refine aw_getR axc9 8 rfl rfl wd_461 dX9_doStep_83 h (fun a25 h => ?_)
    refine aw_iload_n 2 dX9_doStep_86 rfl rfl ?_
    refine aw_iload_n 3 dX9_doStep_87 rfl rfl ?_
    obtain ⟨hL26, h⟩ := ax_is_spec h
    refine aw_doneI (rest := []) h (fun r9 S9 hF => aw_runV (As := [.int v2, .int v3]) (rest := []) (L1_X5_swaps N hF) axc5 hL26 wd_904 wd_901 wd_902 wd_903 wd_93 pd_X5_swaps rfl (ax_rm (by omega) rfl) ax_hf0 (Nat.le_of_ble_eq_true rfl) rfl dX9_doStep_88) (fun x28 T27 h => ?_)
    exact aw_zret dX9_doStep_91 rfl (Nat.le_refl _) (Nat.le_refl _) h
  refine aw_tswOut 92 dX9_doStep_1 (by have q0 := ax_i32ne c5 (v := 1) (i := 1) (by decide); have q1 := ax_i32ne c14 (v := 2) (i := 2) (by decide); have q2 := ax_i32ne c19 (v := 3) (i := 3) (by decide); have q3 := ax_i32ne c24 (v := 4) (i := 4) (by decide); have q4 := ax_i32ne c29 (v := 5) (i := 5) (by decide); omega) (by decide) ?_
  refine aw_iload_n 1 dX9_doStep_92 rfl rfl ?_
  refine aw_bipush 6 dX9_doStep_93 (by decide) ?_
  refine aw_icmp_ne 111 dX9_doStep_95 (by decide) h (fun h => ?_) (fun h => ?_)
  · refine aw_iconst 0 dX9_doStep_111 rfl ?_
    exact aw_zret dX9_doStep_112 rfl (Nat.le_refl _) (Nat.le_refl _) h
  · refine aw_aload_n 0 dX9_doStep_98 rfl rfl ?_
    refine aw_getR axc9 8 rfl rfl wd_461 dX9_doStep_99 h (fun a30 h => ?_)
    refine aw_getI axc5 2 rfl rfl wd_297 dX9_doStep_102 h (fun x31 h => ?_)
    refine aw_sipush 999 dX9_doStep_105 (by decide) ?_
    refine aw_icmp_lt 113 dX9_doStep_108 (by decide) h (fun h => ?_) (fun h => ?_)
    · refine aw_aload_n 0 dX9_doStep_113 rfl rfl ?_
      refine aw_aload_n 0 dX9_doStep_114 rfl rfl ?_
      refine aw_getR axc9 8 rfl rfl wd_461 dX9_doStep_115 h (fun a32 h => ?_)
      refine aw_iconst 0 dX9_doStep_118 rfl ?_
      obtain ⟨hL33, h⟩ := ax_is_spec h
      refine aw_doneI (rest := []) h (fun r9 S9 hF => aw_runV (As := [.ref a32, .int 0]) (rest := []) (L1_X9_passNight N hF) axc9 hL33 wd_908 wd_905 wd_907 wd_16 wd_87 pd_X9_passNight rfl (ax_rm (by omega) rfl) ax_hf0 (Nat.le_of_ble_eq_true rfl) rfl dX9_doStep_119) (fun x35 T34 h => ?_)
      refine aw_pop rfl dX9_doStep_122 ?_
      refine aw_iconst 1 dX9_doStep_123 rfl ?_
      exact aw_zret dX9_doStep_124 rfl (Nat.le_refl _) (Nat.le_refl _) h
    · refine aw_iconst 0 dX9_doStep_111 rfl ?_
      exact aw_zret dX9_doStep_112 rfl (Nat.le_refl _) (Nat.le_refl _) h

theorem dX9_runSteps_0 : decode cX9_runSteps 0 = .ok (.iload_n 3, 1) := by decide +kernel
theorem dX9_runSteps_1 : decode cX9_runSteps 1 = .ok (.bipush 6, 2) := by decide +kernel
theorem dX9_runSteps_3 : decode cX9_runSteps 3 = .ok (.if_icmp .le 4, 3) := by decide +kernel
theorem dX9_runSteps_6 : decode cX9_runSteps 6 = .ok (.return_, 1) := by decide +kernel
theorem dX9_runSteps_7 : decode cX9_runSteps 7 = .ok (.iload_n 1, 1) := by decide +kernel
theorem dX9_runSteps_8 : decode cX9_runSteps 8 = .ok (.istore 4, 2) := by decide +kernel
theorem dX9_runSteps_10 : decode cX9_runSteps 10 = .ok (.iload 4, 2) := by decide +kernel
theorem dX9_runSteps_12 : decode cX9_runSteps 12 = .ok (.iload_n 2, 1) := by decide +kernel
theorem dX9_runSteps_13 : decode cX9_runSteps 13 = .ok (.if_icmp .ge 195, 3) := by decide +kernel
theorem dX9_runSteps_16 : decode cX9_runSteps 16 = .ok (.aload_n 0, 1) := by decide +kernel
theorem dX9_runSteps_17 : decode cX9_runSteps 17 = .ok (.getfield 49, 3) := by decide +kernel
theorem dX9_runSteps_20 : decode cX9_runSteps 20 = .ok (.getfield 153, 3) := by decide +kernel
theorem dX9_runSteps_23 : decode cX9_runSteps 23 = .ok (.sipush 200, 3) := by decide +kernel
theorem dX9_runSteps_26 : decode cX9_runSteps 26 = .ok (.if_icmp .ge 182, 3) := by decide +kernel
theorem dX9_runSteps_29 : decode cX9_runSteps 29 = .ok (.aload_n 0, 1) := by decide +kernel
theorem dX9_runSteps_30 : decode cX9_runSteps 30 = .ok (.getfield 49, 3) := by decide +kernel
theorem dX9_runSteps_33 : decode cX9_runSteps 33 = .ok (.dup, 1) := by decide +kernel
theorem dX9_runSteps_34 : decode cX9_runSteps 34 = .ok (.getfield 153, 3) := by decide +kernel
theorem dX9_runSteps_37 : decode cX9_runSteps 37 = .ok (.iconst 1, 1) := by decide +kernel
theorem dX9_runSteps_38 : decode cX9_runSteps 38 = .ok (.iadd, 1) := by decide +kernel
theorem dX9_runSteps_39 : decode cX9_runSteps 39 = .ok (.putfield 153, 3) := by decide +kernel
theorem dX9_runSteps_42 : decode cX9_runSteps 42 = .ok (.aload_n 0, 1) := by decide +kernel
theorem dX9_runSteps_43 : decode cX9_runSteps 43 = .ok (.getfield 49, 3) := by decide +kernel
theorem dX9_runSteps_46 : decode cX9_runSteps 46 = .ok (.getfield 391, 3) := by decide +kernel
theorem dX9_runSteps_49 : decode cX9_runSteps 49 = .ok (.iload 4, 2) := by decide +kernel
theorem dX9_runSteps_51 : decode cX9_runSteps 51 = .ok (.invokestatic 223, 3) := by decide +kernel
theorem dX9_runSteps_54 : decode cX9_runSteps 54 = .ok (.bipush 7, 2) := by decide +kernel
theorem dX9_runSteps_56 : decode cX9_runSteps 56 = .ok (.if_icmp .ne 69, 3) := by decide +kernel
theorem dX9_runSteps_59 : decode cX9_runSteps 59 = .ok (.aload_n 0, 1) := by decide +kernel
theorem dX9_runSteps_60 : decode cX9_runSteps 60 = .ok (.getfield 49, 3) := by decide +kernel
theorem dX9_runSteps_63 : decode cX9_runSteps 63 = .ok (.getfield 394, 3) := by decide +kernel
theorem dX9_runSteps_66 : decode cX9_runSteps 66 = .ok (.iload 4, 2) := by decide +kernel
theorem dX9_runSteps_68 : decode cX9_runSteps 68 = .ok (.invokestatic 223, 3) := by decide +kernel
theorem dX9_runSteps_71 : decode cX9_runSteps 71 = .ok (.istore 5, 2) := by decide +kernel
theorem dX9_runSteps_73 : decode cX9_runSteps 73 = .ok (.iconst 0, 1) := by decide +kernel
theorem dX9_runSteps_74 : decode cX9_runSteps 74 = .ok (.istore 6, 2) := by decide +kernel
theorem dX9_runSteps_76 : decode cX9_runSteps 76 = .ok (.iload 6, 2) := by decide +kernel
theorem dX9_runSteps_78 : decode cX9_runSteps 78 = .ok (.iload 5, 2) := by decide +kernel
theorem dX9_runSteps_80 : decode cX9_runSteps 80 = .ok (.if_icmp .ge 42, 3) := by decide +kernel
theorem dX9_runSteps_83 : decode cX9_runSteps 83 = .ok (.aload_n 0, 1) := by decide +kernel
theorem dX9_runSteps_84 : decode cX9_runSteps 84 = .ok (.getfield 49, 3) := by decide +kernel
theorem dX9_runSteps_87 : decode cX9_runSteps 87 = .ok (.getfield 153, 3) := by decide +kernel
theorem dX9_runSteps_90 : decode cX9_runSteps 90 = .ok (.sipush 200, 3) := by decide +kernel
theorem dX9_runSteps_93 : decode cX9_runSteps 93 = .ok (.if_icmp .ge 29, 3) := by decide +kernel
theorem dX9_runSteps_96 : decode cX9_runSteps 96 = .ok (.aload_n 0, 1) := by decide +kernel
theorem dX9_runSteps_97 : decode cX9_runSteps 97 = .ok (.iload 4, 2) := by decide +kernel
theorem dX9_runSteps_99 : decode cX9_runSteps 99 = .ok (.iconst 1, 1) := by decide +kernel
theorem dX9_runSteps_100 : decode cX9_runSteps 100 = .ok (.iadd, 1) := by decide +kernel
theorem dX9_runSteps_101 : decode cX9_runSteps 101 = .ok (.aload_n 0, 1) := by decide +kernel
theorem dX9_runSteps_102 : decode cX9_runSteps 102 = .ok (.getfield 49, 3) := by decide +kernel
theorem dX9_runSteps_105 : decode cX9_runSteps 105 = .ok (.iload 4, 2) := by decide +kernel
theorem dX9_runSteps_107 : decode cX9_runSteps 107 = .ok (.invokevirtual 397, 3) := by decide +kernel
theorem dX9_runSteps_110 : decode cX9_runSteps 110 = .ok (.iload_n 3, 1) := by decide +kernel
theorem dX9_runSteps_111 : decode cX9_runSteps 111 = .ok (.iconst 1, 1) := by decide +kernel
theorem dX9_runSteps_112 : decode cX9_runSteps 112 = .ok (.iadd, 1) := by decide +kernel
theorem dX9_runSteps_113 : decode cX9_runSteps 113 = .ok (.invokevirtual 162, 3) := by decide +kernel
theorem dX9_runSteps_116 : decode cX9_runSteps 116 = .ok (.iinc 6 1, 3) := by decide +kernel
theorem dX9_runSteps_119 : decode cX9_runSteps 119 = .ok (.goto (-43), 3) := by decide +kernel
theorem dX9_runSteps_122 : decode cX9_runSteps 122 = .ok (.goto 72, 3) := by decide +kernel
theorem dX9_runSteps_125 : decode cX9_runSteps 125 = .ok (.aload_n 0, 1) := by decide +kernel
theorem dX9_runSteps_126 : decode cX9_runSteps 126 = .ok (.aload_n 0, 1) := by decide +kernel
theorem dX9_runSteps_127 : decode cX9_runSteps 127 = .ok (.getfield 49, 3) := by decide +kernel
theorem dX9_runSteps_130 : decode cX9_runSteps 130 = .ok (.getfield 391, 3) := by decide +kernel
theorem dX9_runSteps_133 : decode cX9_runSteps 133 = .ok (.iload 4, 2) := by decide +kernel
theorem dX9_runSteps_135 : decode cX9_runSteps 135 = .ok (.invokestatic 223, 3) := by decide +kernel
theorem dX9_runSteps_138 : decode cX9_runSteps 138 = .ok (.aload_n 0, 1) := by decide +kernel
theorem dX9_runSteps_139 : decode cX9_runSteps 139 = .ok (.getfield 49, 3) := by decide +kernel
theorem dX9_runSteps_142 : decode cX9_runSteps 142 = .ok (.getfield 394, 3) := by decide +kernel
theorem dX9_runSteps_145 : decode cX9_runSteps 145 = .ok (.iload 4, 2) := by decide +kernel
theorem dX9_runSteps_147 : decode cX9_runSteps 147 = .ok (.invokestatic 223, 3) := by decide +kernel
theorem dX9_runSteps_150 : decode cX9_runSteps 150 = .ok (.aload_n 0, 1) := by decide +kernel
theorem dX9_runSteps_151 : decode cX9_runSteps 151 = .ok (.getfield 49, 3) := by decide +kernel
theorem dX9_runSteps_154 : decode cX9_runSteps 154 = .ok (.getfield 400, 3) := by decide +kernel
theorem dX9_runSteps_157 : decode cX9_runSteps 157 = .ok (.iload 4, 2) := by decide +kernel
theorem dX9_runSteps_159 : decode cX9_runSteps 159 = .ok (.invokestatic 223, 3) := by decide +kernel
theorem dX9_runSteps_162 : decode cX9_runSteps 162 = .ok (.invokevirtual 403, 3) := by decide +kernel
theorem dX9_runSteps_165 : decode cX9_runSteps 165 = .ok (.ifCond .eq 19, 3) := by decide +kernel
theorem dX9_runSteps_168 : decode cX9_runSteps 168 = .ok (.aload_n 0, 1) := by decide +kernel
theorem dX9_runSteps_169 : decode cX9_runSteps 169 = .ok (.getfield 49, 3) := by decide +kernel
theorem dX9_runSteps_172 : decode cX9_runSteps 172 = .ok (.dup, 1) := by decide +kernel
theorem dX9_runSteps_173 : decode cX9_runSteps 173 = .ok (.getfield 156, 3) := by decide +kernel
theorem dX9_runSteps_176 : decode cX9_runSteps 176 = .ok (.iconst 1, 1) := by decide +kernel
theorem dX9_runSteps_177 : decode cX9_runSteps 177 = .ok (.iadd, 1) := by decide +kernel
theorem dX9_runSteps_178 : decode cX9_runSteps 178 = .ok (.putfield 156, 3) := by decide +kernel
theorem dX9_runSteps_181 : decode cX9_runSteps 181 = .ok (.goto 13, 3) := by decide +kernel
theorem dX9_runSteps_184 : decode cX9_runSteps 184 = .ok (.aload_n 0, 1) := by decide +kernel
theorem dX9_runSteps_185 : decode cX9_runSteps 185 = .ok (.dup, 1) := by decide +kernel
theorem dX9_runSteps_186 : decode cX9_runSteps 186 = .ok (.getfield 118, 3) := by decide +kernel
theorem dX9_runSteps_189 : decode cX9_runSteps 189 = .ok (.iconst 1, 1) := by decide +kernel
theorem dX9_runSteps_190 : decode cX9_runSteps 190 = .ok (.iadd, 1) := by decide +kernel
theorem dX9_runSteps_191 : decode cX9_runSteps 191 = .ok (.putfield 118, 3) := by decide +kernel
theorem dX9_runSteps_194 : decode cX9_runSteps 194 = .ok (.aload_n 0, 1) := by decide +kernel
theorem dX9_runSteps_195 : decode cX9_runSteps 195 = .ok (.getfield 49, 3) := by decide +kernel
theorem dX9_runSteps_198 : decode cX9_runSteps 198 = .ok (.iload 4, 2) := by decide +kernel
theorem dX9_runSteps_200 : decode cX9_runSteps 200 = .ok (.invokevirtual 397, 3) := by decide +kernel
theorem dX9_runSteps_203 : decode cX9_runSteps 203 = .ok (.istore 4, 2) := by decide +kernel
theorem dX9_runSteps_205 : decode cX9_runSteps 205 = .ok (.goto (-195), 3) := by decide +kernel
theorem dX9_runSteps_208 : decode cX9_runSteps 208 = .ok (.return_, 1) := by decide +kernel
abbrev mt_X9_runSteps : AxM := (RX9, cX9_runSteps, 7, none, false, [])
theorem L1_X9_runSteps_194 {g : AxG} {l : Launch} {S9 : AxS} (N : Nat) (kr : Nat → Int32 → Int32 → Int32 → AxS → Option (AxS)) (d : Nat) (hkr : ∀ (a0 : Nat) (a1 : Int32) (a2 : Int32) (a3 : Int32) (S : AxS) {S9 : AxS}, kr a0 a1 a2 a3 S = some S9 → AxMet g l yX9_runSteps cX9_runSteps 7 none d 0 0 [.ref a0, .int a1, .int a2, .int a3] S ((.inl none, S9))) (K10 : Nat → Int32 → Int32 → Int32 → AxS → Option (AxS)) (hK10 : ∀ (v0 : Nat) (v2 : Int32) (v3 : Int32) (v4 : Int32) (S : AxS), K10 v0 v2 v3 v4 S = some S9 → AW g l (axRm (d + 6) 0 0) mt_X9_runSteps (axMQ g 0 0 (.inl none, S9)) 0 0 S 10 [(0, .ref v0), (2, .int v2), (3, .int v3), (4, .int v4)] []) (v0 : Nat) (v2 : Int32) (v3 : Int32) (v4 : Int32) (S : AxS) (h : F_X9_runSteps_194 N kr K10 v0 v2 v3 v4 S = some S9) : AW g l (axRm (d + 6) 0 0) mt_X9_runSteps (axMQ g 0 0 (.inl none, S9)) 0 0 S 194 [(0, .ref v0), (2, .int v2), (3, .int v3), (4, .int v4)] [] := by
  unfold F_X9_runSteps_194 at h
  refine aw_aload_n 0 dX9_runSteps_194 rfl rfl ?_
  refine aw_getR axc9 7 rfl rfl wd_460 dX9_runSteps_195 h (fun a1 h => ?_)
  refine aw_iload 3 dX9_runSteps_198 rfl ?_
  obtain ⟨hL2, h⟩ := ax_is_spec h
  refine aw_doneI (rest := []) h (fun r9 S9 hF => aw_runV (As := [.int v4]) (rest := []) (L1_X6_behind N hF) axc6 hL2 wd_878 wd_875 wd_876 wd_877 wd_92 pd_X6_behind rfl (ax_rm (by omega) rfl) ax_hf0 (Nat.le_of_ble_eq_true rfl) rfl dX9_runSteps_200) (fun x4 T3 h => ?_)
  refine aw_istore [(4, .int x4), (0, .ref v0), (2, .int v2), (3, .int v3)] dX9_runSteps_203 rfl rfl ?_
  refine aw_goto 10 dX9_runSteps_205 (by decide) ?_
  refine aw_env [(0, .ref v0), (2, .int v2), (3, .int v3), (4, .int x4)] [1, 2, 3, 0] rfl ?_
  exact hK10 v0 v2 v3 x4 T3 h
theorem L1_X9_runSteps_122 {g : AxG} {l : Launch} {S9 : AxS} (N : Nat) (kr : Nat → Int32 → Int32 → Int32 → AxS → Option (AxS)) (d : Nat) (hkr : ∀ (a0 : Nat) (a1 : Int32) (a2 : Int32) (a3 : Int32) (S : AxS) {S9 : AxS}, kr a0 a1 a2 a3 S = some S9 → AxMet g l yX9_runSteps cX9_runSteps 7 none d 0 0 [.ref a0, .int a1, .int a2, .int a3] S ((.inl none, S9))) (K10 : Nat → Int32 → Int32 → Int32 → AxS → Option (AxS)) (hK10 : ∀ (v0 : Nat) (v2 : Int32) (v3 : Int32) (v4 : Int32) (S : AxS), K10 v0 v2 v3 v4 S = some S9 → AW g l (axRm (d + 6) 0 0) mt_X9_runSteps (axMQ g 0 0 (.inl none, S9)) 0 0 S 10 [(0, .ref v0), (2, .int v2), (3, .int v3), (4, .int v4)] []) (v0 : Nat) (v2 : Int32) (v3 : Int32) (v4 : Int32) (S : AxS) (h : F_X9_runSteps_122 N kr K10 v0 v2 v3 v4 S = some S9) : AW g l (axRm (d + 6) 0 0) mt_X9_runSteps (axMQ g 0 0 (.inl none, S9)) 0 0 S 122 [(0, .ref v0), (2, .int v2), (3, .int v3), (4, .int v4)] [] := by
  unfold F_X9_runSteps_122 at h
  refine aw_goto 194 dX9_runSteps_122 (by decide) ?_
  refine aw_env [(0, .ref v0), (2, .int v2), (3, .int v3), (4, .int v4)] [0, 1, 2, 3] rfl ?_
  exact L1_X9_runSteps_194 N kr d hkr K10 hK10 v0 v2 v3 v4 S h
theorem L1_X9_runSteps_76b {g : AxG} {l : Launch} {S9 : AxS} (N : Nat) (kr : Nat → Int32 → Int32 → Int32 → AxS → Option (AxS)) (d : Nat) (hkr : ∀ (a0 : Nat) (a1 : Int32) (a2 : Int32) (a3 : Int32) (S : AxS) {S9 : AxS}, kr a0 a1 a2 a3 S = some S9 → AxMet g l yX9_runSteps cX9_runSteps 7 none d 0 0 [.ref a0, .int a1, .int a2, .int a3] S ((.inl none, S9))) (K10 : Nat → Int32 → Int32 → Int32 → AxS → Option (AxS)) (hK10 : ∀ (v0 : Nat) (v2 : Int32) (v3 : Int32) (v4 : Int32) (S : AxS), K10 v0 v2 v3 v4 S = some S9 → AW g l (axRm (d + 6) 0 0) mt_X9_runSteps (axMQ g 0 0 (.inl none, S9)) 0 0 S 10 [(0, .ref v0), (2, .int v2), (3, .int v3), (4, .int v4)] []) (K76 : Nat → Int32 → Int32 → Int32 → Int32 → Int32 → AxS → Option (AxS)) (hK76 : ∀ (v0 : Nat) (v2 : Int32) (v3 : Int32) (v4 : Int32) (v5 : Int32) (v6 : Int32) (S : AxS), K76 v0 v2 v3 v4 v5 v6 S = some S9 → AW g l (axRm (d + 6) 0 0) mt_X9_runSteps (axMQ g 0 0 (.inl none, S9)) 0 0 S 76 [(0, .ref v0), (2, .int v2), (3, .int v3), (4, .int v4), (5, .int v5), (6, .int v6)] []) (v0 : Nat) (v2 : Int32) (v3 : Int32) (v4 : Int32) (v5 : Int32) (v6 : Int32) (S : AxS) (h : F_X9_runSteps_76b N kr K10 K76 v0 v2 v3 v4 v5 v6 S = some S9) : AW g l (axRm (d + 6) 0 0) mt_X9_runSteps (axMQ g 0 0 (.inl none, S9)) 0 0 S 76 [(0, .ref v0), (2, .int v2), (3, .int v3), (4, .int v4), (5, .int v5), (6, .int v6)] [] := by
  unfold F_X9_runSteps_76b at h
  refine aw_iload 5 dX9_runSteps_76 rfl ?_
  refine aw_iload 4 dX9_runSteps_78 rfl ?_
  refine aw_icmp_ge 122 dX9_runSteps_80 (by decide) h (fun h => ?_) (fun h => ?_)
  · refine aw_env [(0, .ref v0), (2, .int v2), (3, .int v3), (4, .int v4)] [0, 1, 2, 3] rfl ?_
    exact L1_X9_runSteps_122 N kr d hkr K10 hK10 v0 v2 v3 v4 S h
  · refine aw_aload_n 0 dX9_runSteps_83 rfl rfl ?_
    refine aw_getR axc9 7 rfl rfl wd_460 dX9_runSteps_84 h (fun a1 h => ?_)
    refine aw_getI axc6 4 rfl rfl wd_271 dX9_runSteps_87 h (fun x2 h => ?_)
    refine aw_sipush 200 dX9_runSteps_90 (by decide) ?_
    refine aw_icmp_ge 122 dX9_runSteps_93 (by decide) h (fun h => ?_) (fun h => ?_)
    · refine aw_env [(0, .ref v0), (2, .int v2), (3, .int v3), (4, .int v4)] [0, 1, 2, 3] rfl ?_
      exact L1_X9_runSteps_122 N kr d hkr K10 hK10 v0 v2 v3 v4 S h
    · refine aw_aload_n 0 dX9_runSteps_96 rfl rfl ?_
      refine aw_iload 3 dX9_runSteps_97 rfl ?_
      refine aw_iconst 1 dX9_runSteps_99 rfl ?_
      refine aw_iadd dX9_runSteps_100 ?_
      refine aw_aload_n 0 dX9_runSteps_101 rfl rfl ?_
      refine aw_getR axc9 7 rfl rfl wd_460 dX9_runSteps_102 h (fun a3 h => ?_)
      refine aw_iload 3 dX9_runSteps_105 rfl ?_
      obtain ⟨hL4, h⟩ := ax_is_spec h
      refine aw_doneI (rest := [.int (v4 + 1), .ref v0]) h (fun r9 S9 hF => aw_runV (As := [.int v4]) (rest := [.int (v4 + 1), .ref v0]) (L1_X6_behind N hF) axc6 hL4 wd_878 wd_875 wd_876 wd_877 wd_92 pd_X6_behind rfl (ax_rm (by omega) rfl) ax_hf0 (Nat.le_of_ble_eq_true rfl) rfl dX9_runSteps_107) (fun x6 T5 h => ?_)
      refine aw_iload_n 2 dX9_runSteps_110 rfl rfl ?_
      refine aw_iconst 1 dX9_runSteps_111 rfl ?_
      refine aw_iadd dX9_runSteps_112 ?_
      obtain ⟨hL7, h⟩ := ax_is_spec h
      refine aw_doneV (rest := []) h (fun S9 hF => aw_runV (As := [.int (v4 + 1), .int x6, .int (v3 + 1)]) (rest := []) (hkr v0 (v4 + 1) x6 (v3 + 1) T5 hF) axc9 hL7 wd_873 wd_870 wd_872 wd_14 wd_87 pd_X9_runSteps rfl (ax_rm (by omega) rfl) ax_hf0 (Nat.le_of_ble_eq_true rfl) rfl dX9_runSteps_113) (fun T8 h => ?_)
      refine aw_iinc 5 [(6, .int (v6 + 1)), (0, .ref v0), (2, .int v2), (3, .int v3), (4, .int v4), (5, .int v5)] (v6 + 1) dX9_runSteps_116 rfl rfl rfl rfl ?_
      refine aw_goto 76 dX9_runSteps_119 (by decide) ?_
      refine aw_env [(0, .ref v0), (2, .int v2), (3, .int v3), (4, .int v4), (5, .int v5), (6, .int (v6 + 1))] [1, 2, 3, 4, 5, 0] rfl ?_
      exact hK76 v0 v2 v3 v4 v5 (v6 + 1) T8 h
theorem L1_X9_runSteps_76 {g : AxG} {l : Launch} {S9 : AxS} (N : Nat) (kr : Nat → Int32 → Int32 → Int32 → AxS → Option (AxS)) (d : Nat) (hkr : ∀ (a0 : Nat) (a1 : Int32) (a2 : Int32) (a3 : Int32) (S : AxS) {S9 : AxS}, kr a0 a1 a2 a3 S = some S9 → AxMet g l yX9_runSteps cX9_runSteps 7 none d 0 0 [.ref a0, .int a1, .int a2, .int a3] S ((.inl none, S9))) (K10 : Nat → Int32 → Int32 → Int32 → AxS → Option (AxS)) (hK10 : ∀ (v0 : Nat) (v2 : Int32) (v3 : Int32) (v4 : Int32) (S : AxS), K10 v0 v2 v3 v4 S = some S9 → AW g l (axRm (d + 6) 0 0) mt_X9_runSteps (axMQ g 0 0 (.inl none, S9)) 0 0 S 10 [(0, .ref v0), (2, .int v2), (3, .int v3), (4, .int v4)] []) : ∀ (n : Nat) (v0 : Nat) (v2 : Int32) (v3 : Int32) (v4 : Int32) (v5 : Int32) (v6 : Int32) (S : AxS), F_X9_runSteps_76 N kr K10 n v0 v2 v3 v4 v5 v6 S = some S9 → AW g l (axRm (d + 6) 0 0) mt_X9_runSteps (axMQ g 0 0 (.inl none, S9)) 0 0 S 76 [(0, .ref v0), (2, .int v2), (3, .int v3), (4, .int v4), (5, .int v5), (6, .int v6)] [] := by
  intro n
  induction n with
  | zero => intro v0 v2 v3 v4 v5 v6 S h; cases h
  | succ n ih => intro v0 v2 v3 v4 v5 v6 S h; exact L1_X9_runSteps_76b N kr d hkr K10 hK10 (F_X9_runSteps_76 N kr K10 n) ih v0 v2 v3 v4 v5 v6 S h
theorem L1_X9_runSteps_10b {g : AxG} {l : Launch} {S9 : AxS} (N : Nat) (kr : Nat → Int32 → Int32 → Int32 → AxS → Option (AxS)) (d : Nat) (hkr : ∀ (a0 : Nat) (a1 : Int32) (a2 : Int32) (a3 : Int32) (S : AxS) {S9 : AxS}, kr a0 a1 a2 a3 S = some S9 → AxMet g l yX9_runSteps cX9_runSteps 7 none d 0 0 [.ref a0, .int a1, .int a2, .int a3] S ((.inl none, S9))) (K10 : Nat → Int32 → Int32 → Int32 → AxS → Option (AxS)) (hK10 : ∀ (v0 : Nat) (v2 : Int32) (v3 : Int32) (v4 : Int32) (S : AxS), K10 v0 v2 v3 v4 S = some S9 → AW g l (axRm (d + 6) 0 0) mt_X9_runSteps (axMQ g 0 0 (.inl none, S9)) 0 0 S 10 [(0, .ref v0), (2, .int v2), (3, .int v3), (4, .int v4)] []) (v0 : Nat) (v2 : Int32) (v3 : Int32) (v4 : Int32) (S : AxS) (h : F_X9_runSteps_10b N kr K10 v0 v2 v3 v4 S = some S9) : AW g l (axRm (d + 6) 0 0) mt_X9_runSteps (axMQ g 0 0 (.inl none, S9)) 0 0 S 10 [(0, .ref v0), (2, .int v2), (3, .int v3), (4, .int v4)] [] := by
  unfold F_X9_runSteps_10b at h
  refine aw_iload 3 dX9_runSteps_10 rfl ?_
  refine aw_iload_n 1 dX9_runSteps_12 rfl rfl ?_
  refine aw_icmp_ge 208 dX9_runSteps_13 (by decide) h (fun h => ?_) (fun h => ?_)
  · exact aw_vret dX9_runSteps_208 rfl (Nat.le_refl _) (Nat.le_refl _) h
  · refine aw_aload_n 0 dX9_runSteps_16 rfl rfl ?_
    refine aw_getR axc9 7 rfl rfl wd_460 dX9_runSteps_17 h (fun a1 h => ?_)
    refine aw_getI axc6 4 rfl rfl wd_271 dX9_runSteps_20 h (fun x2 h => ?_)
    refine aw_sipush 200 dX9_runSteps_23 (by decide) ?_
    refine aw_icmp_ge 208 dX9_runSteps_26 (by decide) h (fun h => ?_) (fun h => ?_)
    · exact aw_vret dX9_runSteps_208 rfl (Nat.le_refl _) (Nat.le_refl _) h
    · refine aw_aload_n 0 dX9_runSteps_29 rfl rfl ?_
      refine aw_getR axc9 7 rfl rfl wd_460 dX9_runSteps_30 h (fun a3 h => ?_)
      refine aw_dup rfl dX9_runSteps_33 ?_
      refine aw_getI axc6 4 rfl rfl wd_271 dX9_runSteps_34 h (fun x4 h => ?_)
      refine aw_iconst 1 dX9_runSteps_37 rfl ?_
      refine aw_iadd dX9_runSteps_38 ?_
      refine aw_putI axc6 4 rfl rfl wd_271 rfl rfl rfl dX9_runSteps_39 h (fun T5 h => ?_)
      refine aw_aload_n 0 dX9_runSteps_42 rfl rfl ?_
      refine aw_getR axc9 7 rfl rfl wd_460 dX9_runSteps_43 h (fun a6 h => ?_)
      refine aw_getR axc6 0 rfl rfl wd_264 dX9_runSteps_46 h (fun a7 h => ?_)
      refine aw_iload 3 dX9_runSteps_49 rfl ?_
      refine aw_doneI (rest := []) h (fun r9 S9 hF => aw_runS (As := [.ref a7, .int v4]) (rest := []) (L1_X9_at N hF) wd_541 wd_874 wd_540 wd_87 pd_X9_at.2 rfl (ax_rm (by omega) rfl) ax_hf0 (Nat.le_of_ble_eq_true rfl) rfl dX9_runSteps_51) (fun x9 T8 h => ?_)
      refine aw_bipush 7 dX9_runSteps_54 (by decide) ?_
      refine aw_icmp_ne 125 dX9_runSteps_56 (by decide) h (fun h => ?_) (fun h => ?_)
      · refine aw_aload_n 0 dX9_runSteps_125 rfl rfl ?_
        refine aw_aload_n 0 dX9_runSteps_126 rfl rfl ?_
        refine aw_getR axc9 7 rfl rfl wd_460 dX9_runSteps_127 h (fun a10 h => ?_)
        refine aw_getR axc6 0 rfl rfl wd_264 dX9_runSteps_130 h (fun a11 h => ?_)
        refine aw_iload 3 dX9_runSteps_133 rfl ?_
        refine aw_doneI (rest := [.ref v0]) h (fun r9 S9 hF => aw_runS (As := [.ref a11, .int v4]) (rest := [.ref v0]) (L1_X9_at N hF) wd_541 wd_874 wd_540 wd_87 pd_X9_at.2 rfl (ax_rm (by omega) rfl) ax_hf0 (Nat.le_of_ble_eq_true rfl) rfl dX9_runSteps_135) (fun x13 T12 h => ?_)
        refine aw_aload_n 0 dX9_runSteps_138 rfl rfl ?_
        refine aw_getR axc9 7 rfl rfl wd_460 dX9_runSteps_139 h (fun a14 h => ?_)
        refine aw_getR axc6 1 rfl rfl wd_266 dX9_runSteps_142 h (fun a15 h => ?_)
        refine aw_iload 3 dX9_runSteps_145 rfl ?_
        refine aw_doneI (rest := [.int x13, .ref v0]) h (fun r9 S9 hF => aw_runS (As := [.ref a15, .int v4]) (rest := [.int x13, .ref v0]) (L1_X9_at N hF) wd_541 wd_874 wd_540 wd_87 pd_X9_at.2 rfl (ax_rm (by omega) rfl) ax_hf0 (Nat.le_of_ble_eq_true rfl) rfl dX9_runSteps_147) (fun x17 T16 h => ?_)
        refine aw_aload_n 0 dX9_runSteps_150 rfl rfl ?_
        refine aw_getR axc9 7 rfl rfl wd_460 dX9_runSteps_151 h (fun a18 h => ?_)
        refine aw_getR axc6 2 rfl rfl wd_268 dX9_runSteps_154 h (fun a19 h => ?_)
        refine aw_iload 3 dX9_runSteps_157 rfl ?_
        refine aw_doneI (rest := [.int x17, .int x13, .ref v0]) h (fun r9 S9 hF => aw_runS (As := [.ref a19, .int v4]) (rest := [.int x17, .int x13, .ref v0]) (L1_X9_at N hF) wd_541 wd_874 wd_540 wd_87 pd_X9_at.2 rfl (ax_rm (by omega) rfl) ax_hf0 (Nat.le_of_ble_eq_true rfl) rfl dX9_runSteps_159) (fun x21 T20 h => ?_)
        obtain ⟨hL22, h⟩ := ax_is_spec h
        refine aw_doneI (rest := []) h (fun r9 S9 hF => aw_runV (As := [.int x13, .int x17, .int x21]) (rest := []) (L1_X9_doStep N hF) axc9 hL22 wd_883 wd_880 wd_882 wd_15 wd_87 pd_X9_doStep rfl (ax_rm (by omega) rfl) ax_hf0 (Nat.le_of_ble_eq_true rfl) rfl dX9_runSteps_162) (fun x24 T23 h => ?_)
        refine aw_if_eq 184 dX9_runSteps_165 (by decide) h (fun h => ?_) (fun h => ?_)
        · refine aw_aload_n 0 dX9_runSteps_184 rfl rfl ?_
          refine aw_dup rfl dX9_runSteps_185 ?_
          refine aw_getI axc9 13 rfl rfl wd_466 dX9_runSteps_186 h (fun x25 h => ?_)
          refine aw_iconst 1 dX9_runSteps_189 rfl ?_
          refine aw_iadd dX9_runSteps_190 ?_
          refine aw_putI axc9 13 rfl rfl wd_466 rfl rfl rfl dX9_runSteps_191 h (fun T26 h => ?_)
          refine aw_env [(0, .ref v0), (2, .int v2), (3, .int v3), (4, .int v4)] [0, 1, 2, 3] rfl ?_
          exact L1_X9_runSteps_194 N kr d hkr K10 hK10 v0 v2 v3 v4 T26 h
        · refine aw_aload_n 0 dX9_runSteps_168 rfl rfl ?_
          refine aw_getR axc9 7 rfl rfl wd_460 dX9_runSteps_169 h (fun a27 h => ?_)
          refine aw_dup rfl dX9_runSteps_172 ?_
          refine aw_getI axc6 5 rfl rfl wd_272 dX9_runSteps_173 h (fun x28 h => ?_)
          refine aw_iconst 1 dX9_runSteps_176 rfl ?_
          refine aw_iadd dX9_runSteps_177 ?_
          refine aw_putI axc6 5 rfl rfl wd_272 rfl rfl rfl dX9_runSteps_178 h (fun T29 h => ?_)
          refine aw_goto 194 dX9_runSteps_181 (by decide) ?_
          refine aw_env [(0, .ref v0), (2, .int v2), (3, .int v3), (4, .int v4)] [0, 1, 2, 3] rfl ?_
          exact L1_X9_runSteps_194 N kr d hkr K10 hK10 v0 v2 v3 v4 T29 h
      · refine aw_aload_n 0 dX9_runSteps_59 rfl rfl ?_
        refine aw_getR axc9 7 rfl rfl wd_460 dX9_runSteps_60 h (fun a30 h => ?_)
        refine aw_getR axc6 1 rfl rfl wd_266 dX9_runSteps_63 h (fun a31 h => ?_)
        refine aw_iload 3 dX9_runSteps_66 rfl ?_
        refine aw_doneI (rest := []) h (fun r9 S9 hF => aw_runS (As := [.ref a31, .int v4]) (rest := []) (L1_X9_at N hF) wd_541 wd_874 wd_540 wd_87 pd_X9_at.2 rfl (ax_rm (by omega) rfl) ax_hf0 (Nat.le_of_ble_eq_true rfl) rfl dX9_runSteps_68) (fun x33 T32 h => ?_)
        refine aw_istore [(5, .int x33), (0, .ref v0), (2, .int v2), (3, .int v3), (4, .int v4)] dX9_runSteps_71 rfl rfl ?_
        refine aw_iconst 0 dX9_runSteps_73 rfl ?_
        refine aw_istore [(6, .int 0), (5, .int x33), (0, .ref v0), (2, .int v2), (3, .int v3), (4, .int v4)] dX9_runSteps_74 rfl rfl ?_
        refine aw_env [(0, .ref v0), (2, .int v2), (3, .int v3), (4, .int v4), (5, .int x33), (6, .int 0)] [2, 3, 4, 5, 1, 0] rfl ?_
        exact L1_X9_runSteps_76 N kr d hkr K10 hK10 N v0 v2 v3 v4 x33 0 T32 h
theorem L1_X9_runSteps_10 {g : AxG} {l : Launch} {S9 : AxS} (N : Nat) (kr : Nat → Int32 → Int32 → Int32 → AxS → Option (AxS)) (d : Nat) (hkr : ∀ (a0 : Nat) (a1 : Int32) (a2 : Int32) (a3 : Int32) (S : AxS) {S9 : AxS}, kr a0 a1 a2 a3 S = some S9 → AxMet g l yX9_runSteps cX9_runSteps 7 none d 0 0 [.ref a0, .int a1, .int a2, .int a3] S ((.inl none, S9)))  : ∀ (n : Nat) (v0 : Nat) (v2 : Int32) (v3 : Int32) (v4 : Int32) (S : AxS), F_X9_runSteps_10 N kr  n v0 v2 v3 v4 S = some S9 → AW g l (axRm (d + 6) 0 0) mt_X9_runSteps (axMQ g 0 0 (.inl none, S9)) 0 0 S 10 [(0, .ref v0), (2, .int v2), (3, .int v3), (4, .int v4)] [] := by
  intro n
  induction n with
  | zero => intro v0 v2 v3 v4 S h; cases h
  | succ n ih => intro v0 v2 v3 v4 S h; exact L1_X9_runSteps_10b N kr d hkr (F_X9_runSteps_10 N kr  n) ih v0 v2 v3 v4 S h
theorem L1_X9_runSteps {g : AxG} {l : Launch} (N : Nat) (kr : Nat → Int32 → Int32 → Int32 → AxS → Option (AxS)) (d : Nat) (hkr : ∀ (a0 : Nat) (a1 : Int32) (a2 : Int32) (a3 : Int32) (S : AxS) {S9 : AxS}, kr a0 a1 a2 a3 S = some S9 → AxMet g l yX9_runSteps cX9_runSteps 7 none d 0 0 [.ref a0, .int a1, .int a2, .int a3] S ((.inl none, S9))) {v0 : Nat} {v1 : Int32} {v2 : Int32} {v3 : Int32} {S : AxS} {S9 : AxS} (h : F_X9_runSteps N kr v0 v1 v2 v3 S = some S9) : AxMet g l yX9_runSteps cX9_runSteps 7 none (d + 6) 0 0 [.ref v0, .int v1, .int v2, .int v3] S ((.inl none, S9)) := by
  refine ax_met (own := RX9) (ini := false) (by decide +kernel) rfl (fun h => nomatch h) rfl ?_
  show AW g l (axRm (d + 6) 0 0) mt_X9_runSteps (axMQ g 0 0 (.inl none, S9)) 0 0 S 0 [(0, .ref v0), (1, .int v1), (2, .int v2), (3, .int v3)] []
  unfold F_X9_runSteps at h
  refine aw_iload_n 3 dX9_runSteps_0 rfl rfl ?_
  refine aw_bipush 6 dX9_runSteps_1 (by decide) ?_
  refine aw_icmp_le 7 dX9_runSteps_3 (by decide) h (fun h => ?_) (fun h => ?_)
  · refine aw_iload_n 1 dX9_runSteps_7 rfl rfl ?_
    refine aw_istore [(4, .int v1), (0, .ref v0), (1, .int v1), (2, .int v2), (3, .int v3)] dX9_runSteps_8 rfl rfl ?_
    refine aw_env [(0, .ref v0), (2, .int v2), (3, .int v3), (4, .int v1)] [1, 3, 4, 0] rfl ?_
    exact L1_X9_runSteps_10 N kr d hkr  N v0 v2 v3 v1 S h
  · exact aw_vret dX9_runSteps_6 rfl (Nat.le_refl _) (Nat.le_refl _) h
theorem L1GG_X9_runSteps {g : AxG} {l : Launch} (N : Nat) : ∀ (n : Nat) (v0 : Nat) (v1 : Int32) (v2 : Int32) (v3 : Int32) (S : AxS) {S9 : AxS}, GG_X9_runSteps N n v0 v1 v2 v3 S = some S9 → AxMet g l yX9_runSteps cX9_runSteps 7 none (6 * n) 0 0 [.ref v0, .int v1, .int v2, .int v3] S ((.inl none, S9)) := by
  intro n
  induction n with
  | zero => intro v0 v1 v2 v3 S S9 h; cases h
  | succ n ih =>
    intro v0 v1 v2 v3 S S9 h
    have h9 := L1_X9_runSteps (g := g) (l := l) N (GG_X9_runSteps N n) (6 * n) (fun a0 a1 a2 a3 S S9 h => ih a0 a1 a2 a3 S h) h
    exact h9
theorem L1G_X9_runSteps {g : AxG} {l : Launch} (N : Nat) {v0 : Nat} {v1 : Int32} {v2 : Int32} {v3 : Int32} {S : AxS} {S9 : AxS} (h : G_X9_runSteps N v0 v1 v2 v3 S = some S9) : AxMet g l yX9_runSteps cX9_runSteps 7 none (60) 0 0 [.ref v0, .int v1, .int v2, .int v3] S ((.inl none, S9)) := L1GG_X9_runSteps N 10 v0 v1 v2 v3 S h

