theorem dX9_ahead_0 : decode cX9_ahead 0 = .ok (.aload_n 0, 1) := by decide +kernel
theorem dX9_ahead_1 : decode cX9_ahead 1 = .ok (.iload_n 1, 1) := by decide +kernel
theorem dX9_ahead_2 : decode cX9_ahead 2 = .ok (.ifCond .lt 22, 3) := by decide +kernel
theorem dX9_ahead_5 : decode cX9_ahead 5 = .ok (.iload_n 1, 1) := by decide +kernel
theorem dX9_ahead_6 : decode cX9_ahead 6 = .ok (.bipush 60, 2) := by decide +kernel
theorem dX9_ahead_8 : decode cX9_ahead 8 = .ok (.if_icmp .gt 16, 3) := by decide +kernel
theorem dX9_ahead_11 : decode cX9_ahead 11 = .ok (.iload_n 2, 1) := by decide +kernel
theorem dX9_ahead_12 : decode cX9_ahead 12 = .ok (.ifCond .lt 12, 3) := by decide +kernel
theorem dX9_ahead_15 : decode cX9_ahead 15 = .ok (.iload_n 2, 1) := by decide +kernel
theorem dX9_ahead_16 : decode cX9_ahead 16 = .ok (.iconst 3, 1) := by decide +kernel
theorem dX9_ahead_17 : decode cX9_ahead 17 = .ok (.if_icmp .gt 7, 3) := by decide +kernel
theorem dX9_ahead_20 : decode cX9_ahead 20 = .ok (.iconst 1, 1) := by decide +kernel
theorem dX9_ahead_21 : decode cX9_ahead 21 = .ok (.goto 4, 3) := by decide +kernel
theorem dX9_ahead_24 : decode cX9_ahead 24 = .ok (.iconst 0, 1) := by decide +kernel
theorem dX9_ahead_25 : decode cX9_ahead 25 = .ok (.invokevirtual 128, 3) := by decide +kernel
theorem dX9_ahead_28 : decode cX9_ahead 28 = .ok (.aload_n 0, 1) := by decide +kernel
theorem dX9_ahead_29 : decode cX9_ahead 29 = .ok (.getfield 60, 3) := by decide +kernel
theorem dX9_ahead_32 : decode cX9_ahead 32 = .ok (.aload_n 0, 1) := by decide +kernel
theorem dX9_ahead_33 : decode cX9_ahead 33 = .ok (.getfield 56, 3) := by decide +kernel
theorem dX9_ahead_36 : decode cX9_ahead 36 = .ok (.invokevirtual 262, 3) := by decide +kernel
theorem dX9_ahead_39 : decode cX9_ahead 39 = .ok (.iconst 0, 1) := by decide +kernel
theorem dX9_ahead_40 : decode cX9_ahead 40 = .ok (.istore_n 3, 1) := by decide +kernel
theorem dX9_ahead_41 : decode cX9_ahead 41 = .ok (.iconst 0, 1) := by decide +kernel
theorem dX9_ahead_42 : decode cX9_ahead 42 = .ok (.istore 4, 2) := by decide +kernel
theorem dX9_ahead_44 : decode cX9_ahead 44 = .ok (.iload 4, 2) := by decide +kernel
theorem dX9_ahead_46 : decode cX9_ahead 46 = .ok (.iload_n 1, 1) := by decide +kernel
theorem dX9_ahead_47 : decode cX9_ahead 47 = .ok (.if_icmp .ge 24, 3) := by decide +kernel
theorem dX9_ahead_50 : decode cX9_ahead 50 = .ok (.aload_n 0, 1) := by decide +kernel
theorem dX9_ahead_51 : decode cX9_ahead 51 = .ok (.aload_n 0, 1) := by decide +kernel
theorem dX9_ahead_52 : decode cX9_ahead 52 = .ok (.getfield 60, 3) := by decide +kernel
theorem dX9_ahead_55 : decode cX9_ahead 55 = .ok (.iconst 0, 1) := by decide +kernel
theorem dX9_ahead_56 : decode cX9_ahead 56 = .ok (.invokevirtual 265, 3) := by decide +kernel
theorem dX9_ahead_59 : decode cX9_ahead 59 = .ok (.ifCond .ne 6, 3) := by decide +kernel
theorem dX9_ahead_62 : decode cX9_ahead 62 = .ok (.iinc 3 1, 3) := by decide +kernel
theorem dX9_ahead_65 : decode cX9_ahead 65 = .ok (.iinc 4 1, 3) := by decide +kernel
theorem dX9_ahead_68 : decode cX9_ahead 68 = .ok (.goto (-24), 3) := by decide +kernel
theorem dX9_ahead_71 : decode cX9_ahead 71 = .ok (.iload_n 2, 1) := by decide +kernel
theorem dX9_ahead_72 : decode cX9_ahead 72 = .ok (.tableswitch 68 0 2 #[28, 44, 52], 28) := by decide +kernel
theorem dX9_ahead_100 : decode cX9_ahead 100 = .ok (.aload_n 0, 1) := by decide +kernel
theorem dX9_ahead_101 : decode cX9_ahead 101 = .ok (.getfield 60, 3) := by decide +kernel
theorem dX9_ahead_104 : decode cX9_ahead 104 = .ok (.getfield 198, 3) := by decide +kernel
theorem dX9_ahead_107 : decode cX9_ahead 107 = .ok (.aload_n 0, 1) := by decide +kernel
theorem dX9_ahead_108 : decode cX9_ahead 108 = .ok (.getfield 56, 3) := by decide +kernel
theorem dX9_ahead_111 : decode cX9_ahead 111 = .ok (.getfield 198, 3) := by decide +kernel
theorem dX9_ahead_114 : decode cX9_ahead 114 = .ok (.isub, 1) := by decide +kernel
theorem dX9_ahead_115 : decode cX9_ahead 115 = .ok (.ireturn, 1) := by decide +kernel
theorem dX9_ahead_116 : decode cX9_ahead 116 = .ok (.aload_n 0, 1) := by decide +kernel
theorem dX9_ahead_117 : decode cX9_ahead 117 = .ok (.getfield 60, 3) := by decide +kernel
theorem dX9_ahead_120 : decode cX9_ahead 120 = .ok (.getfield 174, 3) := by decide +kernel
theorem dX9_ahead_123 : decode cX9_ahead 123 = .ok (.ireturn, 1) := by decide +kernel
theorem dX9_ahead_124 : decode cX9_ahead 124 = .ok (.aload_n 0, 1) := by decide +kernel
theorem dX9_ahead_125 : decode cX9_ahead 125 = .ok (.getfield 60, 3) := by decide +kernel
theorem dX9_ahead_128 : decode cX9_ahead 128 = .ok (.getfield 201, 3) := by decide +kernel
theorem dX9_ahead_131 : decode cX9_ahead 131 = .ok (.aload_n 0, 1) := by decide +kernel
theorem dX9_ahead_132 : decode cX9_ahead 132 = .ok (.getfield 56, 3) := by decide +kernel
theorem dX9_ahead_135 : decode cX9_ahead 135 = .ok (.getfield 201, 3) := by decide +kernel
theorem dX9_ahead_138 : decode cX9_ahead 138 = .ok (.isub, 1) := by decide +kernel
theorem dX9_ahead_139 : decode cX9_ahead 139 = .ok (.ireturn, 1) := by decide +kernel
theorem dX9_ahead_140 : decode cX9_ahead 140 = .ok (.iload_n 3, 1) := by decide +kernel
theorem dX9_ahead_141 : decode cX9_ahead 141 = .ok (.ireturn, 1) := by decide +kernel
abbrev mt_X9_ahead : AxM := (RX9, cX9_ahead, 5, (some .int), false, [])
theorem L1_X9_ahead_65 {g : AxG} {l : Launch} (hl0 : l.stackTraces = false) {res : AxT Int32} (N : Nat) (K44 : Nat → Int32 → Int32 → Int32 → Int32 → AxS → Option (AxT Int32)) (hK44 : ∀ (v0 : Nat) (v1 : Int32) (v2 : Int32) (v3 : Int32) (v4 : Int32) (S : AxS), K44 v0 v1 v2 v3 v4 S = some res → AW g l (axRm (9) (axCs (axOI res)) (6 * axCs (axOI res))) mt_X9_ahead (axMQ g (axCs (axOI res)) (6 * axCs (axOI res)) (axOI res)) 0 0 S 44 [(0, .ref v0), (1, .int v1), (2, .int v2), (3, .int v3), (4, .int v4)] []) (v0 : Nat) (v1 : Int32) (v2 : Int32) (v3 : Int32) (v4 : Int32) (S : AxS) (h : F_X9_ahead_65 N K44 v0 v1 v2 v3 v4 S = some res) : AW g l (axRm (9) (axCs (axOI res)) (6 * axCs (axOI res))) mt_X9_ahead (axMQ g (axCs (axOI res)) (6 * axCs (axOI res)) (axOI res)) 0 0 S 65 [(0, .ref v0), (1, .int v1), (2, .int v2), (3, .int v3), (4, .int v4)] [] := by
  unfold F_X9_ahead_65 at h
  refine aw_iinc 4 [(4, .int (v4 + 1)), (0, .ref v0), (1, .int v1), (2, .int v2), (3, .int v3)] (v4 + 1) dX9_ahead_65 rfl rfl rfl rfl ?_
  refine aw_goto 44 dX9_ahead_68 (by decide) ?_
  refine aw_env [(0, .ref v0), (1, .int v1), (2, .int v2), (3, .int v3), (4, .int (v4 + 1))] [1, 2, 3, 4, 0] rfl ?_
  exact hK44 v0 v1 v2 v3 (v4 + 1) S h
theorem L1_X9_ahead_44b {g : AxG} {l : Launch} (hl0 : l.stackTraces = false) {res : AxT Int32} (N : Nat) (K44 : Nat → Int32 → Int32 → Int32 → Int32 → AxS → Option (AxT Int32)) (hK44 : ∀ (v0 : Nat) (v1 : Int32) (v2 : Int32) (v3 : Int32) (v4 : Int32) (S : AxS), K44 v0 v1 v2 v3 v4 S = some res → AW g l (axRm (9) (axCs (axOI res)) (6 * axCs (axOI res))) mt_X9_ahead (axMQ g (axCs (axOI res)) (6 * axCs (axOI res)) (axOI res)) 0 0 S 44 [(0, .ref v0), (1, .int v1), (2, .int v2), (3, .int v3), (4, .int v4)] []) (v0 : Nat) (v1 : Int32) (v2 : Int32) (v3 : Int32) (v4 : Int32) (S : AxS) (h : F_X9_ahead_44b N K44 v0 v1 v2 v3 v4 S = some res) : AW g l (axRm (9) (axCs (axOI res)) (6 * axCs (axOI res))) mt_X9_ahead (axMQ g (axCs (axOI res)) (6 * axCs (axOI res)) (axOI res)) 0 0 S 44 [(0, .ref v0), (1, .int v1), (2, .int v2), (3, .int v3), (4, .int v4)] [] := by
  unfold F_X9_ahead_44b at h
  refine aw_iload 4 dX9_ahead_44 rfl ?_
  refine aw_iload_n 1 dX9_ahead_46 rfl rfl ?_
  refine aw_icmp_ge 71 dX9_ahead_47 (by decide) h (fun h => ?_) (fun h => ?_)
  · refine aw_iload_n 2 dX9_ahead_71 rfl rfl ?_
    refine aw_case 0 h (fun h => ?_) (fun c5 h => ?_)
    · refine aw_tswIn 100 (off := 28) dX9_ahead_72 (by decide) (by decide) (by decide) (by decide) ?_
      refine aw_aload_n 0 dX9_ahead_100 rfl rfl ?_
      refine aw_getR axc9 9 rfl rfl wd_462 dX9_ahead_101 h (fun a1 h => ?_)
      refine aw_getI axc5 10 rfl rfl wd_313 dX9_ahead_104 h (fun x2 h => ?_)
      refine aw_aload_n 0 dX9_ahead_107 rfl rfl ?_
      refine aw_getR axc9 8 rfl rfl wd_461 dX9_ahead_108 h (fun a3 h => ?_)
      refine aw_getI axc5 10 rfl rfl wd_313 dX9_ahead_111 h (fun x4 h => ?_)
      refine aw_isub dX9_ahead_114 ?_
      exact aw_iretT dX9_ahead_115 rfl h
    refine aw_case 1 h (fun h => ?_) (fun c8 h => ?_)
    · refine aw_tswIn 116 (off := 44) dX9_ahead_72 (by decide) (by decide) (by decide) (by decide) ?_
      refine aw_aload_n 0 dX9_ahead_116 rfl rfl ?_
      refine aw_getR axc9 9 rfl rfl wd_462 dX9_ahead_117 h (fun a6 h => ?_)
      refine aw_getI axc5 0 rfl rfl wd_293 dX9_ahead_120 h (fun x7 h => ?_)
      exact aw_iretT dX9_ahead_123 rfl h
    refine aw_case 2 h (fun h => ?_) (fun c13 h => ?_)
    · refine aw_tswIn 124 (off := 52) dX9_ahead_72 (by decide) (by decide) (by decide) (by decide) ?_
      refine aw_aload_n 0 dX9_ahead_124 rfl rfl ?_
      refine aw_getR axc9 9 rfl rfl wd_462 dX9_ahead_125 h (fun a9 h => ?_)
      refine aw_getI axc5 11 rfl rfl wd_315 dX9_ahead_128 h (fun x10 h => ?_)
      refine aw_aload_n 0 dX9_ahead_131 rfl rfl ?_
      refine aw_getR axc9 8 rfl rfl wd_461 dX9_ahead_132 h (fun a11 h => ?_)
      refine aw_getI axc5 11 rfl rfl wd_315 dX9_ahead_135 h (fun x12 h => ?_)
      refine aw_isub dX9_ahead_138 ?_
      exact aw_iretT dX9_ahead_139 rfl h
    refine aw_tswOut 140 dX9_ahead_72 (by have q0 := ax_i32ne c5 (v := 0) (i := 0) (by decide); have q1 := ax_i32ne c8 (v := 1) (i := 1) (by decide); have q2 := ax_i32ne c13 (v := 2) (i := 2) (by decide); omega) (by decide) ?_
    refine aw_iload_n 3 dX9_ahead_140 rfl rfl ?_
    exact aw_iretT dX9_ahead_141 rfl h
  · refine aw_aload_n 0 dX9_ahead_50 rfl rfl ?_
    refine aw_aload_n 0 dX9_ahead_51 rfl rfl ?_
    refine aw_getR axc9 9 rfl rfl wd_462 dX9_ahead_52 h (fun a14 h => ?_)
    refine aw_iconst 0 dX9_ahead_55 rfl ?_
    obtain ⟨hL15, h⟩ := ax_is_spec h
    refine aw_doneI (rest := []) h (fun r9 S9 hF => aw_runV (As := [.ref a14, .int 0]) (rest := []) (L1_X9_passNight N hF) axc9 hL15 wd_908 wd_905 wd_907 wd_16 wd_87 pd_X9_passNight rfl (ax_rm (by omega) rfl) ax_hf0 (Nat.le_of_ble_eq_true rfl) rfl dX9_ahead_56) (fun x17 T16 h => ?_)
    refine aw_if_ne 65 dX9_ahead_59 (by decide) h (fun h => ?_) (fun h => ?_)
    · refine aw_env [(0, .ref v0), (1, .int v1), (2, .int v2), (3, .int v3), (4, .int v4)] [0, 1, 2, 3, 4] rfl ?_
      exact L1_X9_ahead_65 hl0 N K44 hK44 v0 v1 v2 v3 v4 T16 h
    · refine aw_iinc 3 [(3, .int (v3 + 1)), (0, .ref v0), (1, .int v1), (2, .int v2), (4, .int v4)] (v3 + 1) dX9_ahead_62 rfl rfl rfl rfl ?_
      refine aw_env [(0, .ref v0), (1, .int v1), (2, .int v2), (3, .int (v3 + 1)), (4, .int v4)] [1, 2, 3, 0, 4] rfl ?_
      exact L1_X9_ahead_65 hl0 N K44 hK44 v0 v1 v2 (v3 + 1) v4 T16 h
theorem L1_X9_ahead_44 {g : AxG} {l : Launch} (hl0 : l.stackTraces = false) {res : AxT Int32} (N : Nat)  : ∀ (n : Nat) (v0 : Nat) (v1 : Int32) (v2 : Int32) (v3 : Int32) (v4 : Int32) (S : AxS), F_X9_ahead_44 N  n v0 v1 v2 v3 v4 S = some res → AW g l (axRm (9) (axCs (axOI res)) (6 * axCs (axOI res))) mt_X9_ahead (axMQ g (axCs (axOI res)) (6 * axCs (axOI res)) (axOI res)) 0 0 S 44 [(0, .ref v0), (1, .int v1), (2, .int v2), (3, .int v3), (4, .int v4)] [] := by
  intro n
  induction n with
  | zero => intro v0 v1 v2 v3 v4 S h; cases h
  | succ n ih => intro v0 v1 v2 v3 v4 S h; exact L1_X9_ahead_44b hl0 N (F_X9_ahead_44 N  n) ih v0 v1 v2 v3 v4 S h
theorem L1_X9_ahead_25 {g : AxG} {l : Launch} (hl0 : l.stackTraces = false) {res : AxT Int32} (N : Nat)  (v0 : Nat) (v1 : Int32) (v2 : Int32) (w0 : Int32) (w1 : Nat) (S : AxS) (h : F_X9_ahead_25 N  v0 v1 v2 w0 w1 S = some res) : AW g l (axRm (9) (axCs (axOI res)) (6 * axCs (axOI res))) mt_X9_ahead (axMQ g (axCs (axOI res)) (6 * axCs (axOI res)) (axOI res)) 0 0 S 25 [(0, .ref v0), (1, .int v1), (2, .int v2)] [.int w0, .ref w1] := by
  unfold F_X9_ahead_25 at h
  obtain ⟨hL1, h⟩ := ax_is_spec h
  refine aw_thV (ob := axOI) (rest := []) (fun _ _ => rfl) rfl h (fun u9 hF hu => aw_runV (As := [.int w0]) (rest := []) (L1_X9_needArgument hl0 N hF) axc9 hL1 wd_604 wd_601 wd_603 wd_3 wd_87 pd_X9_needArgument rfl (ax_rm (by omega) rfl) (ax_hfV (fun _ _ => rfl) hu) (Nat.le_of_ble_eq_true rfl) rfl dX9_ahead_25) (fun T2 h => ?_)
  refine aw_aload_n 0 dX9_ahead_28 rfl rfl ?_
  refine aw_getR axc9 9 rfl rfl wd_462 dX9_ahead_29 h (fun a4 h => ?_)
  refine aw_aload_n 0 dX9_ahead_32 rfl rfl ?_
  refine aw_getR axc9 8 rfl rfl wd_461 dX9_ahead_33 h (fun a5 h => ?_)
  obtain ⟨hL6, h⟩ := ax_is_spec h
  refine aw_doneV (rest := []) h (fun S9 hF => aw_runV (As := [.ref a5]) (rest := []) (L1_X5_take N hF) axc5 hL6 wd_538 wd_583 wd_536 wd_537 wd_93 pd_X5_take rfl (ax_rm (by omega) rfl) ax_hf0 (Nat.le_of_ble_eq_true rfl) rfl dX9_ahead_36) (fun T7 h => ?_)
  refine aw_iconst 0 dX9_ahead_39 rfl ?_
  refine aw_istore_n 3 [(3, .int 0), (0, .ref v0), (1, .int v1), (2, .int v2)] dX9_ahead_40 rfl rfl rfl ?_
  refine aw_iconst 0 dX9_ahead_41 rfl ?_
  refine aw_istore [(4, .int 0), (3, .int 0), (0, .ref v0), (1, .int v1), (2, .int v2)] dX9_ahead_42 rfl rfl ?_
  refine aw_env [(0, .ref v0), (1, .int v1), (2, .int v2), (3, .int 0), (4, .int 0)] [2, 3, 4, 1, 0] rfl ?_
  exact L1_X9_ahead_44 hl0 N  N v0 v1 v2 0 0 T7 h
theorem L1_X9_ahead_24 {g : AxG} {l : Launch} (hl0 : l.stackTraces = false) {res : AxT Int32} (N : Nat)  (v0 : Nat) (v1 : Int32) (v2 : Int32) (w0 : Nat) (S : AxS) (h : F_X9_ahead_24 N  v0 v1 v2 w0 S = some res) : AW g l (axRm (9) (axCs (axOI res)) (6 * axCs (axOI res))) mt_X9_ahead (axMQ g (axCs (axOI res)) (6 * axCs (axOI res)) (axOI res)) 0 0 S 24 [(0, .ref v0), (1, .int v1), (2, .int v2)] [.ref w0] := by
  unfold F_X9_ahead_24 at h
  refine aw_iconst 0 dX9_ahead_24 rfl ?_
  refine aw_env [(0, .ref v0), (1, .int v1), (2, .int v2)] [0, 1, 2] rfl ?_
  exact L1_X9_ahead_25 hl0 N  v0 v1 v2 0 w0 S h
theorem L1_X9_ahead {g : AxG} {l : Launch} (hl0 : l.stackTraces = false) (N : Nat) {v0 : Nat} {v1 : Int32} {v2 : Int32} {S : AxS} {res : AxT Int32} (h : F_X9_ahead N v0 v1 v2 S = some res) : AxMet g l yX9_ahead cX9_ahead 5 (some .int) (9) (axCs (axOI res)) (6 * axCs (axOI res)) [.ref v0, .int v1, .int v2] S (axOI res) := by
  refine ax_met (own := RX9) (ini := false) (by decide +kernel) rfl (fun h => nomatch h) rfl ?_
  show AW g l (axRm (9) (axCs (axOI res)) (6 * axCs (axOI res))) mt_X9_ahead (axMQ g (axCs (axOI res)) (6 * axCs (axOI res)) (axOI res)) 0 0 S 0 [(0, .ref v0), (1, .int v1), (2, .int v2)] []
  unfold F_X9_ahead at h
  refine aw_aload_n 0 dX9_ahead_0 rfl rfl ?_
  refine aw_iload_n 1 dX9_ahead_1 rfl rfl ?_
  refine aw_if_lt 24 dX9_ahead_2 (by decide) h (fun h => ?_) (fun h => ?_)
  · refine aw_env [(0, .ref v0), (1, .int v1), (2, .int v2)] [0, 1, 2] rfl ?_
    exact L1_X9_ahead_24 hl0 N  v0 v1 v2 v0 S h
  · refine aw_iload_n 1 dX9_ahead_5 rfl rfl ?_
    refine aw_bipush 60 dX9_ahead_6 (by decide) ?_
    refine aw_icmp_gt 24 dX9_ahead_8 (by decide) h (fun h => ?_) (fun h => ?_)
    · refine aw_env [(0, .ref v0), (1, .int v1), (2, .int v2)] [0, 1, 2] rfl ?_
      exact L1_X9_ahead_24 hl0 N  v0 v1 v2 v0 S h
    · refine aw_iload_n 2 dX9_ahead_11 rfl rfl ?_
      refine aw_if_lt 24 dX9_ahead_12 (by decide) h (fun h => ?_) (fun h => ?_)
      · refine aw_env [(0, .ref v0), (1, .int v1), (2, .int v2)] [0, 1, 2] rfl ?_
        exact L1_X9_ahead_24 hl0 N  v0 v1 v2 v0 S h
      · refine aw_iload_n 2 dX9_ahead_15 rfl rfl ?_
        refine aw_iconst 3 dX9_ahead_16 rfl ?_
        refine aw_icmp_gt 24 dX9_ahead_17 (by decide) h (fun h => ?_) (fun h => ?_)
        · refine aw_env [(0, .ref v0), (1, .int v1), (2, .int v2)] [0, 1, 2] rfl ?_
          exact L1_X9_ahead_24 hl0 N  v0 v1 v2 v0 S h
        · refine aw_iconst 1 dX9_ahead_20 rfl ?_
          refine aw_goto 25 dX9_ahead_21 (by decide) ?_
          refine aw_env [(0, .ref v0), (1, .int v1), (2, .int v2)] [0, 1, 2] rfl ?_
          exact L1_X9_ahead_25 hl0 N  v0 v1 v2 1 v0 S h

theorem dX9_loudest_0 : decode cX9_loudest 0 = .ok (.aload_n 0, 1) := by decide +kernel
theorem dX9_loudest_1 : decode cX9_loudest 1 = .ok (.iload_n 1, 1) := by decide +kernel
theorem dX9_loudest_2 : decode cX9_loudest 2 = .ok (.ifCond .lt 12, 3) := by decide +kernel
theorem dX9_loudest_5 : decode cX9_loudest 5 = .ok (.iload_n 1, 1) := by decide +kernel
theorem dX9_loudest_6 : decode cX9_loudest 6 = .ok (.iconst 1, 1) := by decide +kernel
theorem dX9_loudest_7 : decode cX9_loudest 7 = .ok (.if_icmp .gt 7, 3) := by decide +kernel
theorem dX9_loudest_10 : decode cX9_loudest 10 = .ok (.iconst 1, 1) := by decide +kernel
theorem dX9_loudest_11 : decode cX9_loudest 11 = .ok (.goto 4, 3) := by decide +kernel
theorem dX9_loudest_14 : decode cX9_loudest 14 = .ok (.iconst 0, 1) := by decide +kernel
theorem dX9_loudest_15 : decode cX9_loudest 15 = .ok (.invokevirtual 128, 3) := by decide +kernel
theorem dX9_loudest_18 : decode cX9_loudest 18 = .ok (.aload_n 0, 1) := by decide +kernel
theorem dX9_loudest_19 : decode cX9_loudest 19 = .ok (.getfield 60, 3) := by decide +kernel
theorem dX9_loudest_22 : decode cX9_loudest 22 = .ok (.aload_n 0, 1) := by decide +kernel
theorem dX9_loudest_23 : decode cX9_loudest 23 = .ok (.getfield 56, 3) := by decide +kernel
theorem dX9_loudest_26 : decode cX9_loudest 26 = .ok (.invokevirtual 262, 3) := by decide +kernel
theorem dX9_loudest_29 : decode cX9_loudest 29 = .ok (.iconst (-1), 1) := by decide +kernel
theorem dX9_loudest_30 : decode cX9_loudest 30 = .ok (.istore_n 2, 1) := by decide +kernel
theorem dX9_loudest_31 : decode cX9_loudest 31 = .ok (.iconst 0, 1) := by decide +kernel
theorem dX9_loudest_32 : decode cX9_loudest 32 = .ok (.istore_n 3, 1) := by decide +kernel
theorem dX9_loudest_33 : decode cX9_loudest 33 = .ok (.iconst 0, 1) := by decide +kernel
theorem dX9_loudest_34 : decode cX9_loudest 34 = .ok (.istore 4, 2) := by decide +kernel
theorem dX9_loudest_36 : decode cX9_loudest 36 = .ok (.iload 4, 2) := by decide +kernel
theorem dX9_loudest_38 : decode cX9_loudest 38 = .ok (.bipush 60, 2) := by decide +kernel
theorem dX9_loudest_40 : decode cX9_loudest 40 = .ok (.if_icmp .ge 32, 3) := by decide +kernel
theorem dX9_loudest_43 : decode cX9_loudest 43 = .ok (.aload_n 0, 1) := by decide +kernel
theorem dX9_loudest_44 : decode cX9_loudest 44 = .ok (.aload_n 0, 1) := by decide +kernel
theorem dX9_loudest_45 : decode cX9_loudest 45 = .ok (.getfield 60, 3) := by decide +kernel
theorem dX9_loudest_48 : decode cX9_loudest 48 = .ok (.iconst 0, 1) := by decide +kernel
theorem dX9_loudest_49 : decode cX9_loudest 49 = .ok (.invokevirtual 265, 3) := by decide +kernel
theorem dX9_loudest_52 : decode cX9_loudest 52 = .ok (.istore 5, 2) := by decide +kernel
theorem dX9_loudest_54 : decode cX9_loudest 54 = .ok (.iload 5, 2) := by decide +kernel
theorem dX9_loudest_56 : decode cX9_loudest 56 = .ok (.iload_n 2, 1) := by decide +kernel
theorem dX9_loudest_57 : decode cX9_loudest 57 = .ok (.if_icmp .le 9, 3) := by decide +kernel
theorem dX9_loudest_60 : decode cX9_loudest 60 = .ok (.iload 5, 2) := by decide +kernel
theorem dX9_loudest_62 : decode cX9_loudest 62 = .ok (.istore_n 2, 1) := by decide +kernel
theorem dX9_loudest_63 : decode cX9_loudest 63 = .ok (.iload 4, 2) := by decide +kernel
theorem dX9_loudest_65 : decode cX9_loudest 65 = .ok (.istore_n 3, 1) := by decide +kernel
theorem dX9_loudest_66 : decode cX9_loudest 66 = .ok (.iinc 4 1, 3) := by decide +kernel
theorem dX9_loudest_69 : decode cX9_loudest 69 = .ok (.goto (-33), 3) := by decide +kernel
theorem dX9_loudest_72 : decode cX9_loudest 72 = .ok (.iload_n 1, 1) := by decide +kernel
theorem dX9_loudest_73 : decode cX9_loudest 73 = .ok (.ifCond .ne 7, 3) := by decide +kernel
theorem dX9_loudest_76 : decode cX9_loudest 76 = .ok (.iload_n 3, 1) := by decide +kernel
theorem dX9_loudest_77 : decode cX9_loudest 77 = .ok (.goto 4, 3) := by decide +kernel
theorem dX9_loudest_80 : decode cX9_loudest 80 = .ok (.iload_n 2, 1) := by decide +kernel
theorem dX9_loudest_81 : decode cX9_loudest 81 = .ok (.ireturn, 1) := by decide +kernel
abbrev mt_X9_loudest : AxM := (RX9, cX9_loudest, 6, (some .int), false, [])
theorem L1_X9_loudest_66 {g : AxG} {l : Launch} (hl0 : l.stackTraces = false) {res : AxT Int32} (N : Nat) (K36 : Nat → Int32 → Int32 → Int32 → Int32 → AxS → Option (AxT Int32)) (hK36 : ∀ (v0 : Nat) (v1 : Int32) (v2 : Int32) (v3 : Int32) (v4 : Int32) (S : AxS), K36 v0 v1 v2 v3 v4 S = some res → AW g l (axRm (9) (axCs (axOI res)) (6 * axCs (axOI res))) mt_X9_loudest (axMQ g (axCs (axOI res)) (6 * axCs (axOI res)) (axOI res)) 0 0 S 36 [(0, .ref v0), (1, .int v1), (2, .int v2), (3, .int v3), (4, .int v4)] []) (v0 : Nat) (v1 : Int32) (v2 : Int32) (v3 : Int32) (v4 : Int32) (S : AxS) (h : F_X9_loudest_66 N K36 v0 v1 v2 v3 v4 S = some res) : AW g l (axRm (9) (axCs (axOI res)) (6 * axCs (axOI res))) mt_X9_loudest (axMQ g (axCs (axOI res)) (6 * axCs (axOI res)) (axOI res)) 0 0 S 66 [(0, .ref v0), (1, .int v1), (2, .int v2), (3, .int v3), (4, .int v4)] [] := by
  unfold F_X9_loudest_66 at h
  refine aw_iinc 4 [(4, .int (v4 + 1)), (0, .ref v0), (1, .int v1), (2, .int v2), (3, .int v3)] (v4 + 1) dX9_loudest_66 rfl rfl rfl rfl ?_
  refine aw_goto 36 dX9_loudest_69 (by decide) ?_
  refine aw_env [(0, .ref v0), (1, .int v1), (2, .int v2), (3, .int v3), (4, .int (v4 + 1))] [1, 2, 3, 4, 0] rfl ?_
  exact hK36 v0 v1 v2 v3 (v4 + 1) S h
theorem L1_X9_loudest_36b {g : AxG} {l : Launch} (hl0 : l.stackTraces = false) {res : AxT Int32} (N : Nat) (K36 : Nat → Int32 → Int32 → Int32 → Int32 → AxS → Option (AxT Int32)) (hK36 : ∀ (v0 : Nat) (v1 : Int32) (v2 : Int32) (v3 : Int32) (v4 : Int32) (S : AxS), K36 v0 v1 v2 v3 v4 S = some res → AW g l (axRm (9) (axCs (axOI res)) (6 * axCs (axOI res))) mt_X9_loudest (axMQ g (axCs (axOI res)) (6 * axCs (axOI res)) (axOI res)) 0 0 S 36 [(0, .ref v0), (1, .int v1), (2, .int v2), (3, .int v3), (4, .int v4)] []) (v0 : Nat) (v1 : Int32) (v2 : Int32) (v3 : Int32) (v4 : Int32) (S : AxS) (h : F_X9_loudest_36b N K36 v0 v1 v2 v3 v4 S = some res) : AW g l (axRm (9) (axCs (axOI res)) (6 * axCs (axOI res))) mt_X9_loudest (axMQ g (axCs (axOI res)) (6 * axCs (axOI res)) (axOI res)) 0 0 S 36 [(0, .ref v0), (1, .int v1), (2, .int v2), (3, .int v3), (4, .int v4)] [] := by
  unfold F_X9_loudest_36b at h
  refine aw_iload 4 dX9_loudest_36 rfl ?_
  refine aw_bipush 60 dX9_loudest_38 (by decide) ?_
  refine aw_icmp_ge 72 dX9_loudest_40 (by decide) h (fun h => ?_) (fun h => ?_)
  · refine aw_iload_n 1 dX9_loudest_72 rfl rfl ?_
    refine aw_if_ne 80 dX9_loudest_73 (by decide) h (fun h => ?_) (fun h => ?_)
    · refine aw_iload_n 2 dX9_loudest_80 rfl rfl ?_
      exact aw_iretT dX9_loudest_81 rfl h
    · refine aw_iload_n 3 dX9_loudest_76 rfl rfl ?_
      refine aw_goto 81 dX9_loudest_77 (by decide) ?_
      exact aw_iretT dX9_loudest_81 rfl h
  · refine aw_aload_n 0 dX9_loudest_43 rfl rfl ?_
    refine aw_aload_n 0 dX9_loudest_44 rfl rfl ?_
    refine aw_getR axc9 9 rfl rfl wd_462 dX9_loudest_45 h (fun a1 h => ?_)
    refine aw_iconst 0 dX9_loudest_48 rfl ?_
    obtain ⟨hL2, h⟩ := ax_is_spec h
    refine aw_doneI (rest := []) h (fun r9 S9 hF => aw_runV (As := [.ref a1, .int 0]) (rest := []) (L1_X9_passNight N hF) axc9 hL2 wd_908 wd_905 wd_907 wd_16 wd_87 pd_X9_passNight rfl (ax_rm (by omega) rfl) ax_hf0 (Nat.le_of_ble_eq_true rfl) rfl dX9_loudest_49) (fun x4 T3 h => ?_)
    refine aw_istore [(5, .int x4), (0, .ref v0), (1, .int v1), (2, .int v2), (3, .int v3), (4, .int v4)] dX9_loudest_52 rfl rfl ?_
    refine aw_iload 0 dX9_loudest_54 rfl ?_
    refine aw_iload_n 3 dX9_loudest_56 rfl rfl ?_
    refine aw_icmp_le 66 dX9_loudest_57 (by decide) h (fun h => ?_) (fun h => ?_)
    · refine aw_env [(0, .ref v0), (1, .int v1), (2, .int v2), (3, .int v3), (4, .int v4)] [1, 2, 3, 4, 5] rfl ?_
      exact L1_X9_loudest_66 hl0 N K36 hK36 v0 v1 v2 v3 v4 T3 h
    · refine aw_iload 0 dX9_loudest_60 rfl ?_
      refine aw_istore_n 2 [(2, .int x4), (5, .int x4), (0, .ref v0), (1, .int v1), (3, .int v3), (4, .int v4)] dX9_loudest_62 rfl rfl rfl ?_
      refine aw_iload 5 dX9_loudest_63 rfl ?_
      refine aw_istore_n 3 [(3, .int v4), (2, .int x4), (5, .int x4), (0, .ref v0), (1, .int v1), (4, .int v4)] dX9_loudest_65 rfl rfl rfl ?_
      refine aw_env [(0, .ref v0), (1, .int v1), (2, .int x4), (3, .int v4), (4, .int v4)] [3, 4, 1, 0, 5] rfl ?_
      exact L1_X9_loudest_66 hl0 N K36 hK36 v0 v1 x4 v4 v4 T3 h
theorem L1_X9_loudest_36 {g : AxG} {l : Launch} (hl0 : l.stackTraces = false) {res : AxT Int32} (N : Nat)  : ∀ (n : Nat) (v0 : Nat) (v1 : Int32) (v2 : Int32) (v3 : Int32) (v4 : Int32) (S : AxS), F_X9_loudest_36 N  n v0 v1 v2 v3 v4 S = some res → AW g l (axRm (9) (axCs (axOI res)) (6 * axCs (axOI res))) mt_X9_loudest (axMQ g (axCs (axOI res)) (6 * axCs (axOI res)) (axOI res)) 0 0 S 36 [(0, .ref v0), (1, .int v1), (2, .int v2), (3, .int v3), (4, .int v4)] [] := by
  intro n
  induction n with
  | zero => intro v0 v1 v2 v3 v4 S h; cases h
  | succ n ih => intro v0 v1 v2 v3 v4 S h; exact L1_X9_loudest_36b hl0 N (F_X9_loudest_36 N  n) ih v0 v1 v2 v3 v4 S h
theorem L1_X9_loudest_15 {g : AxG} {l : Launch} (hl0 : l.stackTraces = false) {res : AxT Int32} (N : Nat)  (v0 : Nat) (v1 : Int32) (w0 : Int32) (w1 : Nat) (S : AxS) (h : F_X9_loudest_15 N  v0 v1 w0 w1 S = some res) : AW g l (axRm (9) (axCs (axOI res)) (6 * axCs (axOI res))) mt_X9_loudest (axMQ g (axCs (axOI res)) (6 * axCs (axOI res)) (axOI res)) 0 0 S 15 [(0, .ref v0), (1, .int v1)] [.int w0, .ref w1] := by
  unfold F_X9_loudest_15 at h
  obtain ⟨hL1, h⟩ := ax_is_spec h
  refine aw_thV (ob := axOI) (rest := []) (fun _ _ => rfl) rfl h (fun u9 hF hu => aw_runV (As := [.int w0]) (rest := []) (L1_X9_needArgument hl0 N hF) axc9 hL1 wd_604 wd_601 wd_603 wd_3 wd_87 pd_X9_needArgument rfl (ax_rm (by omega) rfl) (ax_hfV (fun _ _ => rfl) hu) (Nat.le_of_ble_eq_true rfl) rfl dX9_loudest_15) (fun T2 h => ?_)
  refine aw_aload_n 0 dX9_loudest_18 rfl rfl ?_
  refine aw_getR axc9 9 rfl rfl wd_462 dX9_loudest_19 h (fun a4 h => ?_)
  refine aw_aload_n 0 dX9_loudest_22 rfl rfl ?_
  refine aw_getR axc9 8 rfl rfl wd_461 dX9_loudest_23 h (fun a5 h => ?_)
  obtain ⟨hL6, h⟩ := ax_is_spec h
  refine aw_doneV (rest := []) h (fun S9 hF => aw_runV (As := [.ref a5]) (rest := []) (L1_X5_take N hF) axc5 hL6 wd_538 wd_583 wd_536 wd_537 wd_93 pd_X5_take rfl (ax_rm (by omega) rfl) ax_hf0 (Nat.le_of_ble_eq_true rfl) rfl dX9_loudest_26) (fun T7 h => ?_)
  refine aw_iconst (-1) dX9_loudest_29 rfl ?_
  refine aw_istore_n 2 [(2, .int ((-1))), (0, .ref v0), (1, .int v1)] dX9_loudest_30 rfl rfl rfl ?_
  refine aw_iconst 0 dX9_loudest_31 rfl ?_
  refine aw_istore_n 3 [(3, .int 0), (2, .int ((-1))), (0, .ref v0), (1, .int v1)] dX9_loudest_32 rfl rfl rfl ?_
  refine aw_iconst 0 dX9_loudest_33 rfl ?_
  refine aw_istore [(4, .int 0), (3, .int 0), (2, .int ((-1))), (0, .ref v0), (1, .int v1)] dX9_loudest_34 rfl rfl ?_
  refine aw_env [(0, .ref v0), (1, .int v1), (2, .int ((-1))), (3, .int 0), (4, .int 0)] [3, 4, 2, 1, 0] rfl ?_
  exact L1_X9_loudest_36 hl0 N  N v0 v1 ((-1)) 0 0 T7 h
theorem L1_X9_loudest_14 {g : AxG} {l : Launch} (hl0 : l.stackTraces = false) {res : AxT Int32} (N : Nat)  (v0 : Nat) (v1 : Int32) (w0 : Nat) (S : AxS) (h : F_X9_loudest_14 N  v0 v1 w0 S = some res) : AW g l (axRm (9) (axCs (axOI res)) (6 * axCs (axOI res))) mt_X9_loudest (axMQ g (axCs (axOI res)) (6 * axCs (axOI res)) (axOI res)) 0 0 S 14 [(0, .ref v0), (1, .int v1)] [.ref w0] := by
  unfold F_X9_loudest_14 at h
  refine aw_iconst 0 dX9_loudest_14 rfl ?_
  refine aw_env [(0, .ref v0), (1, .int v1)] [0, 1] rfl ?_
  exact L1_X9_loudest_15 hl0 N  v0 v1 0 w0 S h
theorem L1_X9_loudest {g : AxG} {l : Launch} (hl0 : l.stackTraces = false) (N : Nat) {v0 : Nat} {v1 : Int32} {S : AxS} {res : AxT Int32} (h : F_X9_loudest N v0 v1 S = some res) : AxMet g l yX9_loudest cX9_loudest 6 (some .int) (9) (axCs (axOI res)) (6 * axCs (axOI res)) [.ref v0, .int v1] S (axOI res) := by
  refine ax_met (own := RX9) (ini := false) (by decide +kernel) rfl (fun h => nomatch h) rfl ?_
  show AW g l (axRm (9) (axCs (axOI res)) (6 * axCs (axOI res))) mt_X9_loudest (axMQ g (axCs (axOI res)) (6 * axCs (axOI res)) (axOI res)) 0 0 S 0 [(0, .ref v0), (1, .int v1)] []
  unfold F_X9_loudest at h
  refine aw_aload_n 0 dX9_loudest_0 rfl rfl ?_
  refine aw_iload_n 1 dX9_loudest_1 rfl rfl ?_
  refine aw_if_lt 14 dX9_loudest_2 (by decide) h (fun h => ?_) (fun h => ?_)
  · refine aw_env [(0, .ref v0), (1, .int v1)] [0, 1] rfl ?_
    exact L1_X9_loudest_14 hl0 N  v0 v1 v0 S h
  · refine aw_iload_n 1 dX9_loudest_5 rfl rfl ?_
    refine aw_iconst 1 dX9_loudest_6 rfl ?_
    refine aw_icmp_gt 14 dX9_loudest_7 (by decide) h (fun h => ?_) (fun h => ?_)
    · refine aw_env [(0, .ref v0), (1, .int v1)] [0, 1] rfl ?_
      exact L1_X9_loudest_14 hl0 N  v0 v1 v0 S h
    · refine aw_iconst 1 dX9_loudest_10 rfl ?_
      refine aw_goto 15 dX9_loudest_11 (by decide) ?_
      refine aw_env [(0, .ref v0), (1, .int v1)] [0, 1] rfl ?_
      exact L1_X9_loudest_15 hl0 N  v0 v1 1 v0 S h

theorem dX9_hush_0 : decode cX9_hush 0 = .ok (.aload_n 0, 1) := by decide +kernel
theorem dX9_hush_1 : decode cX9_hush 1 = .ok (.iload_n 1, 1) := by decide +kernel
theorem dX9_hush_2 : decode cX9_hush 2 = .ok (.ifCond .lt 14, 3) := by decide +kernel
theorem dX9_hush_5 : decode cX9_hush 5 = .ok (.iload_n 1, 1) := by decide +kernel
theorem dX9_hush_6 : decode cX9_hush 6 = .ok (.sipush 999, 3) := by decide +kernel
theorem dX9_hush_9 : decode cX9_hush 9 = .ok (.if_icmp .gt 7, 3) := by decide +kernel
theorem dX9_hush_12 : decode cX9_hush 12 = .ok (.iconst 1, 1) := by decide +kernel
theorem dX9_hush_13 : decode cX9_hush 13 = .ok (.goto 4, 3) := by decide +kernel
theorem dX9_hush_16 : decode cX9_hush 16 = .ok (.iconst 0, 1) := by decide +kernel
theorem dX9_hush_17 : decode cX9_hush 17 = .ok (.invokevirtual 128, 3) := by decide +kernel
theorem dX9_hush_20 : decode cX9_hush 20 = .ok (.iconst 0, 1) := by decide +kernel
theorem dX9_hush_21 : decode cX9_hush 21 = .ok (.istore_n 2, 1) := by decide +kernel
theorem dX9_hush_22 : decode cX9_hush 22 = .ok (.iload_n 2, 1) := by decide +kernel
theorem dX9_hush_23 : decode cX9_hush 23 = .ok (.sipush 999, 3) := by decide +kernel
theorem dX9_hush_26 : decode cX9_hush 26 = .ok (.if_icmp .gt 48, 3) := by decide +kernel
theorem dX9_hush_29 : decode cX9_hush 29 = .ok (.aload_n 0, 1) := by decide +kernel
theorem dX9_hush_30 : decode cX9_hush 30 = .ok (.getfield 60, 3) := by decide +kernel
theorem dX9_hush_33 : decode cX9_hush 33 = .ok (.aload_n 0, 1) := by decide +kernel
theorem dX9_hush_34 : decode cX9_hush 34 = .ok (.getfield 56, 3) := by decide +kernel
theorem dX9_hush_37 : decode cX9_hush 37 = .ok (.invokevirtual 262, 3) := by decide +kernel
theorem dX9_hush_40 : decode cX9_hush 40 = .ok (.aload_n 0, 1) := by decide +kernel
theorem dX9_hush_41 : decode cX9_hush 41 = .ok (.getfield 60, 3) := by decide +kernel
theorem dX9_hush_44 : decode cX9_hush 44 = .ok (.iload_n 2, 1) := by decide +kernel
theorem dX9_hush_45 : decode cX9_hush 45 = .ok (.invokevirtual 268, 3) := by decide +kernel
theorem dX9_hush_48 : decode cX9_hush 48 = .ok (.ifCond .ne 5, 3) := by decide +kernel
theorem dX9_hush_51 : decode cX9_hush 51 = .ok (.iconst (-1), 1) := by decide +kernel
theorem dX9_hush_52 : decode cX9_hush 52 = .ok (.ireturn, 1) := by decide +kernel
theorem dX9_hush_53 : decode cX9_hush 53 = .ok (.aload_n 0, 1) := by decide +kernel
theorem dX9_hush_54 : decode cX9_hush 54 = .ok (.aload_n 0, 1) := by decide +kernel
theorem dX9_hush_55 : decode cX9_hush 55 = .ok (.getfield 60, 3) := by decide +kernel
theorem dX9_hush_58 : decode cX9_hush 58 = .ok (.iconst 0, 1) := by decide +kernel
theorem dX9_hush_59 : decode cX9_hush 59 = .ok (.invokevirtual 230, 3) := by decide +kernel
theorem dX9_hush_62 : decode cX9_hush 62 = .ok (.iload_n 1, 1) := by decide +kernel
theorem dX9_hush_63 : decode cX9_hush 63 = .ok (.if_icmp .gt 5, 3) := by decide +kernel
theorem dX9_hush_66 : decode cX9_hush 66 = .ok (.iload_n 2, 1) := by decide +kernel
theorem dX9_hush_67 : decode cX9_hush 67 = .ok (.ireturn, 1) := by decide +kernel
theorem dX9_hush_68 : decode cX9_hush 68 = .ok (.iinc 2 1, 3) := by decide +kernel
theorem dX9_hush_71 : decode cX9_hush 71 = .ok (.goto (-49), 3) := by decide +kernel
theorem dX9_hush_74 : decode cX9_hush 74 = .ok (.iconst (-1), 1) := by decide +kernel
theorem dX9_hush_75 : decode cX9_hush 75 = .ok (.ireturn, 1) := by decide +kernel
abbrev mt_X9_hush : AxM := (RX9, cX9_hush, 3, (some .int), false, [])
theorem L1_X9_hush_22b {g : AxG} {l : Launch} (hl0 : l.stackTraces = false) {res : AxT Int32} (N : Nat) (K22 : Nat → Int32 → Int32 → AxS → Option (AxT Int32)) (hK22 : ∀ (v0 : Nat) (v1 : Int32) (v2 : Int32) (S : AxS), K22 v0 v1 v2 S = some res → AW g l (axRm (9) (axCs (axOI res)) (6 * axCs (axOI res))) mt_X9_hush (axMQ g (axCs (axOI res)) (6 * axCs (axOI res)) (axOI res)) 0 0 S 22 [(0, .ref v0), (1, .int v1), (2, .int v2)] []) (v0 : Nat) (v1 : Int32) (v2 : Int32) (S : AxS) (h : F_X9_hush_22b N K22 v0 v1 v2 S = some res) : AW g l (axRm (9) (axCs (axOI res)) (6 * axCs (axOI res))) mt_X9_hush (axMQ g (axCs (axOI res)) (6 * axCs (axOI res)) (axOI res)) 0 0 S 22 [(0, .ref v0), (1, .int v1), (2, .int v2)] [] := by
  unfold F_X9_hush_22b at h
  refine aw_iload_n 2 dX9_hush_22 rfl rfl ?_
  refine aw_sipush 999 dX9_hush_23 (by decide) ?_
  refine aw_icmp_gt 74 dX9_hush_26 (by decide) h (fun h => ?_) (fun h => ?_)
  · refine aw_iconst (-1) dX9_hush_74 rfl ?_
    exact aw_iretT dX9_hush_75 rfl h
  · refine aw_aload_n 0 dX9_hush_29 rfl rfl ?_
    refine aw_getR axc9 9 rfl rfl wd_462 dX9_hush_30 h (fun a1 h => ?_)
    refine aw_aload_n 0 dX9_hush_33 rfl rfl ?_
    refine aw_getR axc9 8 rfl rfl wd_461 dX9_hush_34 h (fun a2 h => ?_)
    obtain ⟨hL3, h⟩ := ax_is_spec h
    refine aw_doneV (rest := []) h (fun S9 hF => aw_runV (As := [.ref a2]) (rest := []) (L1_X5_take N hF) axc5 hL3 wd_538 wd_583 wd_536 wd_537 wd_93 pd_X5_take rfl (ax_rm (by omega) rfl) ax_hf0 (Nat.le_of_ble_eq_true rfl) rfl dX9_hush_37) (fun T4 h => ?_)
    refine aw_aload_n 0 dX9_hush_40 rfl rfl ?_
    refine aw_getR axc9 9 rfl rfl wd_462 dX9_hush_41 h (fun a6 h => ?_)
    refine aw_iload_n 2 dX9_hush_44 rfl rfl ?_
    obtain ⟨hL7, h⟩ := ax_is_spec h
    refine aw_doneI (rest := []) h (fun r9 S9 hF => aw_runV (As := [.int v2]) (rest := []) (L1_X5_pays N hF) axc5 hL7 wd_887 wd_884 wd_885 wd_886 wd_93 pd_X5_pays rfl (ax_rm (by omega) rfl) ax_hf0 (Nat.le_of_ble_eq_true rfl) rfl dX9_hush_45) (fun x9 T8 h => ?_)
    refine aw_if_ne 53 dX9_hush_48 (by decide) h (fun h => ?_) (fun h => ?_)
    · refine aw_aload_n 0 dX9_hush_53 rfl rfl ?_
      refine aw_aload_n 0 dX9_hush_54 rfl rfl ?_
      refine aw_getR axc9 9 rfl rfl wd_462 dX9_hush_55 h (fun a10 h => ?_)
      refine aw_iconst 0 dX9_hush_58 rfl ?_
      obtain ⟨hL11, h⟩ := ax_is_spec h
      refine aw_doneI (rest := []) h (fun r9 S9 hF => aw_runV (As := [.ref a10, .int 0]) (rest := []) (L1_X9_strokesOf N hF) axc9 hL11 wd_549 wd_546 wd_548 wd_2 wd_87 pd_X9_strokesOf rfl (ax_rm (by omega) rfl) ax_hf0 (Nat.le_of_ble_eq_true rfl) rfl dX9_hush_59) (fun x13 T12 h => ?_)
      refine aw_iload_n 1 dX9_hush_62 rfl rfl ?_
      refine aw_icmp_gt 68 dX9_hush_63 (by decide) h (fun h => ?_) (fun h => ?_)
      · refine aw_iinc 2 [(2, .int (v2 + 1)), (0, .ref v0), (1, .int v1)] (v2 + 1) dX9_hush_68 rfl rfl rfl rfl ?_
        refine aw_goto 22 dX9_hush_71 (by decide) ?_
        refine aw_env [(0, .ref v0), (1, .int v1), (2, .int (v2 + 1))] [1, 2, 0] rfl ?_
        exact hK22 v0 v1 (v2 + 1) T12 h
      · refine aw_iload_n 2 dX9_hush_66 rfl rfl ?_
        exact aw_iretT dX9_hush_67 rfl h
    · refine aw_iconst (-1) dX9_hush_51 rfl ?_
      exact aw_iretT dX9_hush_52 rfl h
theorem L1_X9_hush_22 {g : AxG} {l : Launch} (hl0 : l.stackTraces = false) {res : AxT Int32} (N : Nat)  : ∀ (n : Nat) (v0 : Nat) (v1 : Int32) (v2 : Int32) (S : AxS), F_X9_hush_22 N  n v0 v1 v2 S = some res → AW g l (axRm (9) (axCs (axOI res)) (6 * axCs (axOI res))) mt_X9_hush (axMQ g (axCs (axOI res)) (6 * axCs (axOI res)) (axOI res)) 0 0 S 22 [(0, .ref v0), (1, .int v1), (2, .int v2)] [] := by
  intro n
  induction n with
  | zero => intro v0 v1 v2 S h; cases h
  | succ n ih => intro v0 v1 v2 S h; exact L1_X9_hush_22b hl0 N (F_X9_hush_22 N  n) ih v0 v1 v2 S h
theorem L1_X9_hush_17 {g : AxG} {l : Launch} (hl0 : l.stackTraces = false) {res : AxT Int32} (N : Nat)  (v0 : Nat) (v1 : Int32) (w0 : Int32) (w1 : Nat) (S : AxS) (h : F_X9_hush_17 N  v0 v1 w0 w1 S = some res) : AW g l (axRm (9) (axCs (axOI res)) (6 * axCs (axOI res))) mt_X9_hush (axMQ g (axCs (axOI res)) (6 * axCs (axOI res)) (axOI res)) 0 0 S 17 [(0, .ref v0), (1, .int v1)] [.int w0, .ref w1] := by
  unfold F_X9_hush_17 at h
  obtain ⟨hL1, h⟩ := ax_is_spec h
  refine aw_thV (ob := axOI) (rest := []) (fun _ _ => rfl) rfl h (fun u9 hF hu => aw_runV (As := [.int w0]) (rest := []) (L1_X9_needArgument hl0 N hF) axc9 hL1 wd_604 wd_601 wd_603 wd_3 wd_87 pd_X9_needArgument rfl (ax_rm (by omega) rfl) (ax_hfV (fun _ _ => rfl) hu) (Nat.le_of_ble_eq_true rfl) rfl dX9_hush_17) (fun T2 h => ?_)
  refine aw_iconst 0 dX9_hush_20 rfl ?_
  refine aw_istore_n 2 [(2, .int 0), (0, .ref v0), (1, .int v1)] dX9_hush_21 rfl rfl rfl ?_
  refine aw_env [(0, .ref v0), (1, .int v1), (2, .int 0)] [1, 2, 0] rfl ?_
  exact L1_X9_hush_22 hl0 N  N v0 v1 0 T2 h
theorem L1_X9_hush_16 {g : AxG} {l : Launch} (hl0 : l.stackTraces = false) {res : AxT Int32} (N : Nat)  (v0 : Nat) (v1 : Int32) (w0 : Nat) (S : AxS) (h : F_X9_hush_16 N  v0 v1 w0 S = some res) : AW g l (axRm (9) (axCs (axOI res)) (6 * axCs (axOI res))) mt_X9_hush (axMQ g (axCs (axOI res)) (6 * axCs (axOI res)) (axOI res)) 0 0 S 16 [(0, .ref v0), (1, .int v1)] [.ref w0] := by
  unfold F_X9_hush_16 at h
  refine aw_iconst 0 dX9_hush_16 rfl ?_
  refine aw_env [(0, .ref v0), (1, .int v1)] [0, 1] rfl ?_
  exact L1_X9_hush_17 hl0 N  v0 v1 0 w0 S h
theorem L1_X9_hush {g : AxG} {l : Launch} (hl0 : l.stackTraces = false) (N : Nat) {v0 : Nat} {v1 : Int32} {S : AxS} {res : AxT Int32} (h : F_X9_hush N v0 v1 S = some res) : AxMet g l yX9_hush cX9_hush 3 (some .int) (9) (axCs (axOI res)) (6 * axCs (axOI res)) [.ref v0, .int v1] S (axOI res) := by
  refine ax_met (own := RX9) (ini := false) (by decide +kernel) rfl (fun h => nomatch h) rfl ?_
  show AW g l (axRm (9) (axCs (axOI res)) (6 * axCs (axOI res))) mt_X9_hush (axMQ g (axCs (axOI res)) (6 * axCs (axOI res)) (axOI res)) 0 0 S 0 [(0, .ref v0), (1, .int v1)] []
  unfold F_X9_hush at h
  refine aw_aload_n 0 dX9_hush_0 rfl rfl ?_
  refine aw_iload_n 1 dX9_hush_1 rfl rfl ?_
  refine aw_if_lt 16 dX9_hush_2 (by decide) h (fun h => ?_) (fun h => ?_)
  · refine aw_env [(0, .ref v0), (1, .int v1)] [0, 1] rfl ?_
    exact L1_X9_hush_16 hl0 N  v0 v1 v0 S h
  · refine aw_iload_n 1 dX9_hush_5 rfl rfl ?_
    refine aw_sipush 999 dX9_hush_6 (by decide) ?_
    refine aw_icmp_gt 16 dX9_hush_9 (by decide) h (fun h => ?_) (fun h => ?_)
    · refine aw_env [(0, .ref v0), (1, .int v1)] [0, 1] rfl ?_
      exact L1_X9_hush_16 hl0 N  v0 v1 v0 S h
    · refine aw_iconst 1 dX9_hush_12 rfl ?_
      refine aw_goto 17 dX9_hush_13 (by decide) ?_
      refine aw_env [(0, .ref v0), (1, .int v1)] [0, 1] rfl ?_
      exact L1_X9_hush_17 hl0 N  v0 v1 1 v0 S h

theorem dX9_tensOf_0 : decode cX9_tensOf 0 = .ok (.iload_n 0, 1) := by decide +kernel
theorem dX9_tensOf_1 : decode cX9_tensOf 1 = .ok (.iconst 2, 1) := by decide +kernel
theorem dX9_tensOf_2 : decode cX9_tensOf 2 = .ok (.iload_n 1, 1) := by decide +kernel
theorem dX9_tensOf_3 : decode cX9_tensOf 3 = .ok (.iconst 1, 1) := by decide +kernel
theorem dX9_tensOf_4 : decode cX9_tensOf 4 = .ok (.isub, 1) := by decide +kernel
theorem dX9_tensOf_5 : decode cX9_tensOf 5 = .ok (.iload_n 2, 1) := by decide +kernel
theorem dX9_tensOf_6 : decode cX9_tensOf 6 = .ok (.isub, 1) := by decide +kernel
theorem dX9_tensOf_7 : decode cX9_tensOf 7 = .ok (.imul, 1) := by decide +kernel
theorem dX9_tensOf_8 : decode cX9_tensOf 8 = .ok (.ishr, 1) := by decide +kernel
theorem dX9_tensOf_9 : decode cX9_tensOf 9 = .ok (.iconst 3, 1) := by decide +kernel
theorem dX9_tensOf_10 : decode cX9_tensOf 10 = .ok (.iand, 1) := by decide +kernel
theorem dX9_tensOf_11 : decode cX9_tensOf 11 = .ok (.istore_n 3, 1) := by decide +kernel
theorem dX9_tensOf_12 : decode cX9_tensOf 12 = .ok (.iload_n 3, 1) := by decide +kernel
theorem dX9_tensOf_13 : decode cX9_tensOf 13 = .ok (.iconst 3, 1) := by decide +kernel
theorem dX9_tensOf_14 : decode cX9_tensOf 14 = .ok (.if_icmp .ne 7, 3) := by decide +kernel
theorem dX9_tensOf_17 : decode cX9_tensOf 17 = .ok (.iconst 4, 1) := by decide +kernel
theorem dX9_tensOf_18 : decode cX9_tensOf 18 = .ok (.goto 4, 3) := by decide +kernel
theorem dX9_tensOf_21 : decode cX9_tensOf 21 = .ok (.iload_n 3, 1) := by decide +kernel
theorem dX9_tensOf_22 : decode cX9_tensOf 22 = .ok (.ireturn, 1) := by decide +kernel
abbrev mt_X9_tensOf : AxM := (RX9, cX9_tensOf, 4, (some .int), false, [])
theorem L1_X9_tensOf {g : AxG} {l : Launch} (N : Nat) {v0 : Int32} {v1 : Int32} {v2 : Int32} {S : AxS} {r9 : Int32} {S9 : AxS} (h : F_X9_tensOf N v0 v1 v2 S = some ((r9, S9))) : AxMet g l yX9_tensOf cX9_tensOf 4 (some .int) (0) 0 0 [.int v0, .int v1, .int v2] S ((.inl (some (.int r9)), S9)) := by
  refine ax_met (own := RX9) (ini := false) (by decide +kernel) rfl (fun h => nomatch h) rfl ?_
  show AW g l (axRm (0) 0 0) mt_X9_tensOf (axMQ g 0 0 (.inl (some (.int r9)), S9)) 0 0 S 0 [(0, .int v0), (1, .int v1), (2, .int v2)] []
  unfold F_X9_tensOf at h
  refine aw_iload_n 0 dX9_tensOf_0 rfl rfl ?_
  refine aw_iconst 2 dX9_tensOf_1 rfl ?_
  refine aw_iload_n 1 dX9_tensOf_2 rfl rfl ?_
  refine aw_iconst 1 dX9_tensOf_3 rfl ?_
  refine aw_isub dX9_tensOf_4 ?_
  refine aw_iload_n 2 dX9_tensOf_5 rfl rfl ?_
  refine aw_isub dX9_tensOf_6 ?_
  refine aw_imul dX9_tensOf_7 ?_
  refine aw_ishr dX9_tensOf_8 ?_
  refine aw_iconst 3 dX9_tensOf_9 rfl ?_
  refine aw_iand dX9_tensOf_10 ?_
  refine aw_istore_n 3 [(3, .int ((v0 >>> ((2 * ((v1 - 1) - v2)) &&& 31)) &&& 3)), (0, .int v0), (1, .int v1), (2, .int v2)] dX9_tensOf_11 rfl rfl rfl ?_
  refine aw_iload_n 0 dX9_tensOf_12 rfl rfl ?_
  refine aw_iconst 3 dX9_tensOf_13 rfl ?_
  refine aw_icmp_ne 21 dX9_tensOf_14 (by decide) h (fun h => ?_) (fun h => ?_)
  · refine aw_iload_n 0 dX9_tensOf_21 rfl rfl ?_
    exact aw_iret dX9_tensOf_22 rfl (Nat.le_refl _) (Nat.le_refl _) h
  · refine aw_iconst 4 dX9_tensOf_17 rfl ?_
    refine aw_goto 22 dX9_tensOf_18 (by decide) ?_
    exact aw_iret dX9_tensOf_22 rfl (Nat.le_refl _) (Nat.le_refl _) h

theorem dX9_tensTogether_0 : decode cX9_tensTogether 0 = .ok (.iconst 0, 1) := by decide +kernel
theorem dX9_tensTogether_1 : decode cX9_tensTogether 1 = .ok (.istore_n 2, 1) := by decide +kernel
theorem dX9_tensTogether_2 : decode cX9_tensTogether 2 = .ok (.iconst 0, 1) := by decide +kernel
theorem dX9_tensTogether_3 : decode cX9_tensTogether 3 = .ok (.istore_n 3, 1) := by decide +kernel
theorem dX9_tensTogether_4 : decode cX9_tensTogether 4 = .ok (.iload_n 3, 1) := by decide +kernel
theorem dX9_tensTogether_5 : decode cX9_tensTogether 5 = .ok (.iload_n 1, 1) := by decide +kernel
theorem dX9_tensTogether_6 : decode cX9_tensTogether 6 = .ok (.if_icmp .ge 18, 3) := by decide +kernel
theorem dX9_tensTogether_9 : decode cX9_tensTogether 9 = .ok (.iload_n 2, 1) := by decide +kernel
theorem dX9_tensTogether_10 : decode cX9_tensTogether 10 = .ok (.iload_n 0, 1) := by decide +kernel
theorem dX9_tensTogether_11 : decode cX9_tensTogether 11 = .ok (.iload_n 1, 1) := by decide +kernel
theorem dX9_tensTogether_12 : decode cX9_tensTogether 12 = .ok (.iload_n 3, 1) := by decide +kernel
theorem dX9_tensTogether_13 : decode cX9_tensTogether 13 = .ok (.invokestatic 426, 3) := by decide +kernel
theorem dX9_tensTogether_16 : decode cX9_tensTogether 16 = .ok (.iadd, 1) := by decide +kernel
theorem dX9_tensTogether_17 : decode cX9_tensTogether 17 = .ok (.istore_n 2, 1) := by decide +kernel
theorem dX9_tensTogether_18 : decode cX9_tensTogether 18 = .ok (.iinc 3 1, 3) := by decide +kernel
theorem dX9_tensTogether_21 : decode cX9_tensTogether 21 = .ok (.goto (-17), 3) := by decide +kernel
theorem dX9_tensTogether_24 : decode cX9_tensTogether 24 = .ok (.iload_n 2, 1) := by decide +kernel
theorem dX9_tensTogether_25 : decode cX9_tensTogether 25 = .ok (.ireturn, 1) := by decide +kernel
abbrev mt_X9_tensTogether : AxM := (RX9, cX9_tensTogether, 4, (some .int), false, [])
theorem L1_X9_tensTogether_4b {g : AxG} {l : Launch} {r9 : Int32} {S9 : AxS} (N : Nat) (K4 : Int32 → Int32 → Int32 → Int32 → AxS → Option (Int32 × AxS)) (hK4 : ∀ (v0 : Int32) (v1 : Int32) (v2 : Int32) (v3 : Int32) (S : AxS), K4 v0 v1 v2 v3 S = some ((r9, S9)) → AW g l (axRm (1) 0 0) mt_X9_tensTogether (axMQ g 0 0 (.inl (some (.int r9)), S9)) 0 0 S 4 [(0, .int v0), (1, .int v1), (2, .int v2), (3, .int v3)] []) (v0 : Int32) (v1 : Int32) (v2 : Int32) (v3 : Int32) (S : AxS) (h : F_X9_tensTogether_4b N K4 v0 v1 v2 v3 S = some ((r9, S9))) : AW g l (axRm (1) 0 0) mt_X9_tensTogether (axMQ g 0 0 (.inl (some (.int r9)), S9)) 0 0 S 4 [(0, .int v0), (1, .int v1), (2, .int v2), (3, .int v3)] [] := by
  unfold F_X9_tensTogether_4b at h
  refine aw_iload_n 3 dX9_tensTogether_4 rfl rfl ?_
  refine aw_iload_n 1 dX9_tensTogether_5 rfl rfl ?_
  refine aw_icmp_ge 24 dX9_tensTogether_6 (by decide) h (fun h => ?_) (fun h => ?_)
  · refine aw_iload_n 2 dX9_tensTogether_24 rfl rfl ?_
    exact aw_iret dX9_tensTogether_25 rfl (Nat.le_refl _) (Nat.le_refl _) h
  · refine aw_iload_n 2 dX9_tensTogether_9 rfl rfl ?_
    refine aw_iload_n 0 dX9_tensTogether_10 rfl rfl ?_
    refine aw_iload_n 1 dX9_tensTogether_11 rfl rfl ?_
    refine aw_iload_n 3 dX9_tensTogether_12 rfl rfl ?_
    refine aw_doneI (rest := [.int v2]) h (fun r9 S9 hF => aw_runS (As := [.int v0, .int v1, .int v3]) (rest := [.int v2]) (L1_X9_tensOf N hF) wd_1061 wd_1059 wd_1060 wd_87 pd_X9_tensOf.2 rfl (ax_rm (by omega) rfl) ax_hf0 (Nat.le_of_ble_eq_true rfl) rfl dX9_tensTogether_13) (fun x2 T1 h => ?_)
    refine aw_iadd dX9_tensTogether_16 ?_
    refine aw_istore_n 2 [(2, .int (v2 + x2)), (0, .int v0), (1, .int v1), (3, .int v3)] dX9_tensTogether_17 rfl rfl rfl ?_
    refine aw_iinc 3 [(3, .int (v3 + 1)), (2, .int (v2 + x2)), (0, .int v0), (1, .int v1)] (v3 + 1) dX9_tensTogether_18 rfl rfl rfl rfl ?_
    refine aw_goto 4 dX9_tensTogether_21 (by decide) ?_
    refine aw_env [(0, .int v0), (1, .int v1), (2, .int (v2 + x2)), (3, .int (v3 + 1))] [2, 3, 1, 0] rfl ?_
    exact hK4 v0 v1 (v2 + x2) (v3 + 1) T1 h
theorem L1_X9_tensTogether_4 {g : AxG} {l : Launch} {r9 : Int32} {S9 : AxS} (N : Nat)  : ∀ (n : Nat) (v0 : Int32) (v1 : Int32) (v2 : Int32) (v3 : Int32) (S : AxS), F_X9_tensTogether_4 N  n v0 v1 v2 v3 S = some ((r9, S9)) → AW g l (axRm (1) 0 0) mt_X9_tensTogether (axMQ g 0 0 (.inl (some (.int r9)), S9)) 0 0 S 4 [(0, .int v0), (1, .int v1), (2, .int v2), (3, .int v3)] [] := by
  intro n
  induction n with
  | zero => intro v0 v1 v2 v3 S h; cases h
  | succ n ih => intro v0 v1 v2 v3 S h; exact L1_X9_tensTogether_4b N (F_X9_tensTogether_4 N  n) ih v0 v1 v2 v3 S h
theorem L1_X9_tensTogether {g : AxG} {l : Launch} (N : Nat) {v0 : Int32} {v1 : Int32} {S : AxS} {r9 : Int32} {S9 : AxS} (h : F_X9_tensTogether N v0 v1 S = some ((r9, S9))) : AxMet g l yX9_tensTogether cX9_tensTogether 4 (some .int) (1) 0 0 [.int v0, .int v1] S ((.inl (some (.int r9)), S9)) := by
  refine ax_met (own := RX9) (ini := false) (by decide +kernel) rfl (fun h => nomatch h) rfl ?_
  show AW g l (axRm (1) 0 0) mt_X9_tensTogether (axMQ g 0 0 (.inl (some (.int r9)), S9)) 0 0 S 0 [(0, .int v0), (1, .int v1)] []
  unfold F_X9_tensTogether at h
  refine aw_iconst 0 dX9_tensTogether_0 rfl ?_
  refine aw_istore_n 2 [(2, .int 0), (0, .int v0), (1, .int v1)] dX9_tensTogether_1 rfl rfl rfl ?_
  refine aw_iconst 0 dX9_tensTogether_2 rfl ?_
  refine aw_istore_n 3 [(3, .int 0), (2, .int 0), (0, .int v0), (1, .int v1)] dX9_tensTogether_3 rfl rfl rfl ?_
  refine aw_env [(0, .int v0), (1, .int v1), (2, .int 0), (3, .int 0)] [2, 3, 1, 0] rfl ?_
  exact L1_X9_tensTogether_4 N  N v0 v1 0 0 S h

theorem dX9_staysQuiet_0 : decode cX9_staysQuiet 0 = .ok (.aload_n 0, 1) := by decide +kernel
theorem dX9_staysQuiet_1 : decode cX9_staysQuiet 1 = .ok (.getfield 60, 3) := by decide +kernel
theorem dX9_staysQuiet_4 : decode cX9_staysQuiet 4 = .ok (.aload_n 0, 1) := by decide +kernel
theorem dX9_staysQuiet_5 : decode cX9_staysQuiet 5 = .ok (.getfield 56, 3) := by decide +kernel
theorem dX9_staysQuiet_8 : decode cX9_staysQuiet 8 = .ok (.invokevirtual 262, 3) := by decide +kernel
theorem dX9_staysQuiet_11 : decode cX9_staysQuiet 11 = .ok (.iconst 0, 1) := by decide +kernel
theorem dX9_staysQuiet_12 : decode cX9_staysQuiet 12 = .ok (.istore 5, 2) := by decide +kernel
theorem dX9_staysQuiet_14 : decode cX9_staysQuiet 14 = .ok (.iload 5, 2) := by decide +kernel
theorem dX9_staysQuiet_16 : decode cX9_staysQuiet 16 = .ok (.iload_n 2, 1) := by decide +kernel
theorem dX9_staysQuiet_17 : decode cX9_staysQuiet 17 = .ok (.if_icmp .ge 61, 3) := by decide +kernel
theorem dX9_staysQuiet_20 : decode cX9_staysQuiet 20 = .ok (.aload_n 0, 1) := by decide +kernel
theorem dX9_staysQuiet_21 : decode cX9_staysQuiet 21 = .ok (.getfield 60, 3) := by decide +kernel
theorem dX9_staysQuiet_24 : decode cX9_staysQuiet 24 = .ok (.bipush 10, 2) := by decide +kernel
theorem dX9_staysQuiet_26 : decode cX9_staysQuiet 26 = .ok (.iload_n 1, 1) := by decide +kernel
theorem dX9_staysQuiet_27 : decode cX9_staysQuiet 27 = .ok (.iload_n 2, 1) := by decide +kernel
theorem dX9_staysQuiet_28 : decode cX9_staysQuiet 28 = .ok (.iload 5, 2) := by decide +kernel
theorem dX9_staysQuiet_30 : decode cX9_staysQuiet 30 = .ok (.invokestatic 426, 3) := by decide +kernel
theorem dX9_staysQuiet_33 : decode cX9_staysQuiet 33 = .ok (.imul, 1) := by decide +kernel
theorem dX9_staysQuiet_34 : decode cX9_staysQuiet 34 = .ok (.invokevirtual 268, 3) := by decide +kernel
theorem dX9_staysQuiet_37 : decode cX9_staysQuiet 37 = .ok (.ifCond .ne 5, 3) := by decide +kernel
theorem dX9_staysQuiet_40 : decode cX9_staysQuiet 40 = .ok (.iconst 0, 1) := by decide +kernel
theorem dX9_staysQuiet_41 : decode cX9_staysQuiet 41 = .ok (.ireturn, 1) := by decide +kernel
theorem dX9_staysQuiet_42 : decode cX9_staysQuiet 42 = .ok (.aload_n 0, 1) := by decide +kernel
theorem dX9_staysQuiet_43 : decode cX9_staysQuiet 43 = .ok (.aload_n 0, 1) := by decide +kernel
theorem dX9_staysQuiet_44 : decode cX9_staysQuiet 44 = .ok (.getfield 60, 3) := by decide +kernel
theorem dX9_staysQuiet_47 : decode cX9_staysQuiet 47 = .ok (.iconst 0, 1) := by decide +kernel
theorem dX9_staysQuiet_48 : decode cX9_staysQuiet 48 = .ok (.invokevirtual 265, 3) := by decide +kernel
theorem dX9_staysQuiet_51 : decode cX9_staysQuiet 51 = .ok (.istore 6, 2) := by decide +kernel
theorem dX9_staysQuiet_53 : decode cX9_staysQuiet 53 = .ok (.iload 4, 2) := by decide +kernel
theorem dX9_staysQuiet_55 : decode cX9_staysQuiet 55 = .ok (.iload 5, 2) := by decide +kernel
theorem dX9_staysQuiet_57 : decode cX9_staysQuiet 57 = .ok (.ishr, 1) := by decide +kernel
theorem dX9_staysQuiet_58 : decode cX9_staysQuiet 58 = .ok (.iconst 1, 1) := by decide +kernel
theorem dX9_staysQuiet_59 : decode cX9_staysQuiet 59 = .ok (.iand, 1) := by decide +kernel
theorem dX9_staysQuiet_60 : decode cX9_staysQuiet 60 = .ok (.iconst 1, 1) := by decide +kernel
theorem dX9_staysQuiet_61 : decode cX9_staysQuiet 61 = .ok (.if_icmp .ne 11, 3) := by decide +kernel
theorem dX9_staysQuiet_64 : decode cX9_staysQuiet 64 = .ok (.iload 6, 2) := by decide +kernel
theorem dX9_staysQuiet_66 : decode cX9_staysQuiet 66 = .ok (.iload_n 3, 1) := by decide +kernel
theorem dX9_staysQuiet_67 : decode cX9_staysQuiet 67 = .ok (.if_icmp .le 5, 3) := by decide +kernel
theorem dX9_staysQuiet_70 : decode cX9_staysQuiet 70 = .ok (.iconst 0, 1) := by decide +kernel
theorem dX9_staysQuiet_71 : decode cX9_staysQuiet 71 = .ok (.ireturn, 1) := by decide +kernel
theorem dX9_staysQuiet_72 : decode cX9_staysQuiet 72 = .ok (.iinc 5 1, 3) := by decide +kernel
theorem dX9_staysQuiet_75 : decode cX9_staysQuiet 75 = .ok (.goto (-61), 3) := by decide +kernel
theorem dX9_staysQuiet_78 : decode cX9_staysQuiet 78 = .ok (.iconst 1, 1) := by decide +kernel
theorem dX9_staysQuiet_79 : decode cX9_staysQuiet 79 = .ok (.ireturn, 1) := by decide +kernel
abbrev mt_X9_staysQuiet : AxM := (RX9, cX9_staysQuiet, 7, (some .boolean), false, [])
theorem L1_X9_staysQuiet_72 {g : AxG} {l : Launch} {r9 : Int32} {S9 : AxS} (N : Nat) (K14 : Nat → Int32 → Int32 → Int32 → Int32 → Int32 → AxS → Option (Int32 × AxS)) (hK14 : ∀ (v0 : Nat) (v1 : Int32) (v2 : Int32) (v3 : Int32) (v4 : Int32) (v5 : Int32) (S : AxS), K14 v0 v1 v2 v3 v4 v5 S = some ((r9, S9)) → AW g l (axRm (5) 0 0) mt_X9_staysQuiet (axMQ g 0 0 (.inl (some (.int r9)), S9)) 0 0 S 14 [(0, .ref v0), (1, .int v1), (2, .int v2), (3, .int v3), (4, .int v4), (5, .int v5)] []) (v0 : Nat) (v1 : Int32) (v2 : Int32) (v3 : Int32) (v4 : Int32) (v5 : Int32) (S : AxS) (h : F_X9_staysQuiet_72 N K14 v0 v1 v2 v3 v4 v5 S = some ((r9, S9))) : AW g l (axRm (5) 0 0) mt_X9_staysQuiet (axMQ g 0 0 (.inl (some (.int r9)), S9)) 0 0 S 72 [(0, .ref v0), (1, .int v1), (2, .int v2), (3, .int v3), (4, .int v4), (5, .int v5)] [] := by
  unfold F_X9_staysQuiet_72 at h
  refine aw_iinc 5 [(5, .int (v5 + 1)), (0, .ref v0), (1, .int v1), (2, .int v2), (3, .int v3), (4, .int v4)] (v5 + 1) dX9_staysQuiet_72 rfl rfl rfl rfl ?_
  refine aw_goto 14 dX9_staysQuiet_75 (by decide) ?_
  refine aw_env [(0, .ref v0), (1, .int v1), (2, .int v2), (3, .int v3), (4, .int v4), (5, .int (v5 + 1))] [1, 2, 3, 4, 5, 0] rfl ?_
  exact hK14 v0 v1 v2 v3 v4 (v5 + 1) S h
theorem L1_X9_staysQuiet_14b {g : AxG} {l : Launch} {r9 : Int32} {S9 : AxS} (N : Nat) (K14 : Nat → Int32 → Int32 → Int32 → Int32 → Int32 → AxS → Option (Int32 × AxS)) (hK14 : ∀ (v0 : Nat) (v1 : Int32) (v2 : Int32) (v3 : Int32) (v4 : Int32) (v5 : Int32) (S : AxS), K14 v0 v1 v2 v3 v4 v5 S = some ((r9, S9)) → AW g l (axRm (5) 0 0) mt_X9_staysQuiet (axMQ g 0 0 (.inl (some (.int r9)), S9)) 0 0 S 14 [(0, .ref v0), (1, .int v1), (2, .int v2), (3, .int v3), (4, .int v4), (5, .int v5)] []) (v0 : Nat) (v1 : Int32) (v2 : Int32) (v3 : Int32) (v4 : Int32) (v5 : Int32) (S : AxS) (h : F_X9_staysQuiet_14b N K14 v0 v1 v2 v3 v4 v5 S = some ((r9, S9))) : AW g l (axRm (5) 0 0) mt_X9_staysQuiet (axMQ g 0 0 (.inl (some (.int r9)), S9)) 0 0 S 14 [(0, .ref v0), (1, .int v1), (2, .int v2), (3, .int v3), (4, .int v4), (5, .int v5)] [] := by
  unfold F_X9_staysQuiet_14b at h
  refine aw_iload 5 dX9_staysQuiet_14 rfl ?_
  refine aw_iload_n 2 dX9_staysQuiet_16 rfl rfl ?_
  refine aw_icmp_ge 78 dX9_staysQuiet_17 (by decide) h (fun h => ?_) (fun h => ?_)
  · refine aw_iconst 1 dX9_staysQuiet_78 rfl ?_
    exact aw_zret dX9_staysQuiet_79 rfl (Nat.le_refl _) (Nat.le_refl _) h
  · refine aw_aload_n 0 dX9_staysQuiet_20 rfl rfl ?_
    refine aw_getR axc9 9 rfl rfl wd_462 dX9_staysQuiet_21 h (fun a1 h => ?_)
    refine aw_bipush 10 dX9_staysQuiet_24 (by decide) ?_
    refine aw_iload_n 1 dX9_staysQuiet_26 rfl rfl ?_
    refine aw_iload_n 2 dX9_staysQuiet_27 rfl rfl ?_
    refine aw_iload 5 dX9_staysQuiet_28 rfl ?_
    refine aw_doneI (rest := [.int 10, .ref a1]) h (fun r9 S9 hF => aw_runS (As := [.int v1, .int v2, .int v5]) (rest := [.int 10, .ref a1]) (L1_X9_tensOf N hF) wd_1061 wd_1059 wd_1060 wd_87 pd_X9_tensOf.2 rfl (ax_rm (by omega) rfl) ax_hf0 (Nat.le_of_ble_eq_true rfl) rfl dX9_staysQuiet_30) (fun x3 T2 h => ?_)
    refine aw_imul dX9_staysQuiet_33 ?_
    obtain ⟨hL4, h⟩ := ax_is_spec h
    refine aw_doneI (rest := []) h (fun r9 S9 hF => aw_runV (As := [.int (10 * x3)]) (rest := []) (L1_X5_pays N hF) axc5 hL4 wd_887 wd_884 wd_885 wd_886 wd_93 pd_X5_pays rfl (ax_rm (by omega) rfl) ax_hf0 (Nat.le_of_ble_eq_true rfl) rfl dX9_staysQuiet_34) (fun x6 T5 h => ?_)
    refine aw_if_ne 42 dX9_staysQuiet_37 (by decide) h (fun h => ?_) (fun h => ?_)
    · refine aw_aload_n 0 dX9_staysQuiet_42 rfl rfl ?_
      refine aw_aload_n 0 dX9_staysQuiet_43 rfl rfl ?_
      refine aw_getR axc9 9 rfl rfl wd_462 dX9_staysQuiet_44 h (fun a7 h => ?_)
      refine aw_iconst 0 dX9_staysQuiet_47 rfl ?_
      obtain ⟨hL8, h⟩ := ax_is_spec h
      refine aw_doneI (rest := []) h (fun r9 S9 hF => aw_runV (As := [.ref a7, .int 0]) (rest := []) (L1_X9_passNight N hF) axc9 hL8 wd_908 wd_905 wd_907 wd_16 wd_87 pd_X9_passNight rfl (ax_rm (by omega) rfl) ax_hf0 (Nat.le_of_ble_eq_true rfl) rfl dX9_staysQuiet_48) (fun x10 T9 h => ?_)
      refine aw_istore [(6, .int x10), (0, .ref v0), (1, .int v1), (2, .int v2), (3, .int v3), (4, .int v4), (5, .int v5)] dX9_staysQuiet_51 rfl rfl ?_
      refine aw_iload 5 dX9_staysQuiet_53 rfl ?_
      refine aw_iload 6 dX9_staysQuiet_55 rfl ?_
      refine aw_ishr dX9_staysQuiet_57 ?_
      refine aw_iconst 1 dX9_staysQuiet_58 rfl ?_
      refine aw_iand dX9_staysQuiet_59 ?_
      refine aw_iconst 1 dX9_staysQuiet_60 rfl ?_
      refine aw_icmp_ne 72 dX9_staysQuiet_61 (by decide) h (fun h => ?_) (fun h => ?_)
      · refine aw_env [(0, .ref v0), (1, .int v1), (2, .int v2), (3, .int v3), (4, .int v4), (5, .int v5)] [1, 2, 3, 4, 5, 6] rfl ?_
        exact L1_X9_staysQuiet_72 N K14 hK14 v0 v1 v2 v3 v4 v5 T9 h
      · refine aw_iload 0 dX9_staysQuiet_64 rfl ?_
        refine aw_iload_n 4 dX9_staysQuiet_66 rfl rfl ?_
        refine aw_icmp_le 72 dX9_staysQuiet_67 (by decide) h (fun h => ?_) (fun h => ?_)
        · refine aw_env [(0, .ref v0), (1, .int v1), (2, .int v2), (3, .int v3), (4, .int v4), (5, .int v5)] [1, 2, 3, 4, 5, 6] rfl ?_
          exact L1_X9_staysQuiet_72 N K14 hK14 v0 v1 v2 v3 v4 v5 T9 h
        · refine aw_iconst 0 dX9_staysQuiet_70 rfl ?_
          exact aw_zret dX9_staysQuiet_71 rfl (Nat.le_refl _) (Nat.le_refl _) h
    · refine aw_iconst 0 dX9_staysQuiet_40 rfl ?_
      exact aw_zret dX9_staysQuiet_41 rfl (Nat.le_refl _) (Nat.le_refl _) h
theorem L1_X9_staysQuiet_14 {g : AxG} {l : Launch} {r9 : Int32} {S9 : AxS} (N : Nat)  : ∀ (n : Nat) (v0 : Nat) (v1 : Int32) (v2 : Int32) (v3 : Int32) (v4 : Int32) (v5 : Int32) (S : AxS), F_X9_staysQuiet_14 N  n v0 v1 v2 v3 v4 v5 S = some ((r9, S9)) → AW g l (axRm (5) 0 0) mt_X9_staysQuiet (axMQ g 0 0 (.inl (some (.int r9)), S9)) 0 0 S 14 [(0, .ref v0), (1, .int v1), (2, .int v2), (3, .int v3), (4, .int v4), (5, .int v5)] [] := by
  intro n
  induction n with
  | zero => intro v0 v1 v2 v3 v4 v5 S h; cases h
  | succ n ih => intro v0 v1 v2 v3 v4 v5 S h; exact L1_X9_staysQuiet_14b N (F_X9_staysQuiet_14 N  n) ih v0 v1 v2 v3 v4 v5 S h
theorem L1_X9_staysQuiet {g : AxG} {l : Launch} (N : Nat) {v0 : Nat} {v1 : Int32} {v2 : Int32} {v3 : Int32} {v4 : Int32} {S : AxS} {r9 : Int32} {S9 : AxS} (h : F_X9_staysQuiet N v0 v1 v2 v3 v4 S = some ((r9, S9))) : AxMet g l yX9_staysQuiet cX9_staysQuiet 7 (some .boolean) (5) 0 0 [.ref v0, .int v1, .int v2, .int v3, .int v4] S ((.inl (some (.int r9)), S9)) := by
  refine ax_met (own := RX9) (ini := false) (by decide +kernel) rfl (fun h => nomatch h) rfl ?_
  show AW g l (axRm (5) 0 0) mt_X9_staysQuiet (axMQ g 0 0 (.inl (some (.int r9)), S9)) 0 0 S 0 [(0, .ref v0), (1, .int v1), (2, .int v2), (3, .int v3), (4, .int v4)] []
  unfold F_X9_staysQuiet at h
  refine aw_aload_n 0 dX9_staysQuiet_0 rfl rfl ?_
  refine aw_getR axc9 9 rfl rfl wd_462 dX9_staysQuiet_1 h (fun a1 h => ?_)
  refine aw_aload_n 0 dX9_staysQuiet_4 rfl rfl ?_
  refine aw_getR axc9 8 rfl rfl wd_461 dX9_staysQuiet_5 h (fun a2 h => ?_)
  obtain ⟨hL3, h⟩ := ax_is_spec h
  refine aw_doneV (rest := []) h (fun S9 hF => aw_runV (As := [.ref a2]) (rest := []) (L1_X5_take N hF) axc5 hL3 wd_538 wd_583 wd_536 wd_537 wd_93 pd_X5_take rfl (ax_rm (by omega) rfl) ax_hf0 (Nat.le_of_ble_eq_true rfl) rfl dX9_staysQuiet_8) (fun T4 h => ?_)
  refine aw_iconst 0 dX9_staysQuiet_11 rfl ?_
  refine aw_istore [(5, .int 0), (0, .ref v0), (1, .int v1), (2, .int v2), (3, .int v3), (4, .int v4)] dX9_staysQuiet_12 rfl rfl ?_
  refine aw_env [(0, .ref v0), (1, .int v1), (2, .int v2), (3, .int v3), (4, .int v4), (5, .int 0)] [1, 2, 3, 4, 5, 0] rfl ?_
  exact L1_X9_staysQuiet_14 N  N v0 v1 v2 v3 v4 0 T4 h

theorem dX9_tensAsDigits_0 : decode cX9_tensAsDigits 0 = .ok (.iconst 0, 1) := by decide +kernel
theorem dX9_tensAsDigits_1 : decode cX9_tensAsDigits 1 = .ok (.istore_n 2, 1) := by decide +kernel
theorem dX9_tensAsDigits_2 : decode cX9_tensAsDigits 2 = .ok (.iconst 0, 1) := by decide +kernel
theorem dX9_tensAsDigits_3 : decode cX9_tensAsDigits 3 = .ok (.istore_n 3, 1) := by decide +kernel
theorem dX9_tensAsDigits_4 : decode cX9_tensAsDigits 4 = .ok (.iload_n 3, 1) := by decide +kernel
theorem dX9_tensAsDigits_5 : decode cX9_tensAsDigits 5 = .ok (.iload_n 1, 1) := by decide +kernel
theorem dX9_tensAsDigits_6 : decode cX9_tensAsDigits 6 = .ok (.if_icmp .ge 21, 3) := by decide +kernel
theorem dX9_tensAsDigits_9 : decode cX9_tensAsDigits 9 = .ok (.bipush 10, 2) := by decide +kernel
theorem dX9_tensAsDigits_11 : decode cX9_tensAsDigits 11 = .ok (.iload_n 2, 1) := by decide +kernel
theorem dX9_tensAsDigits_12 : decode cX9_tensAsDigits 12 = .ok (.imul, 1) := by decide +kernel
theorem dX9_tensAsDigits_13 : decode cX9_tensAsDigits 13 = .ok (.iload_n 0, 1) := by decide +kernel
theorem dX9_tensAsDigits_14 : decode cX9_tensAsDigits 14 = .ok (.iload_n 1, 1) := by decide +kernel
theorem dX9_tensAsDigits_15 : decode cX9_tensAsDigits 15 = .ok (.iload_n 3, 1) := by decide +kernel
theorem dX9_tensAsDigits_16 : decode cX9_tensAsDigits 16 = .ok (.invokestatic 426, 3) := by decide +kernel
theorem dX9_tensAsDigits_19 : decode cX9_tensAsDigits 19 = .ok (.iadd, 1) := by decide +kernel
theorem dX9_tensAsDigits_20 : decode cX9_tensAsDigits 20 = .ok (.istore_n 2, 1) := by decide +kernel
theorem dX9_tensAsDigits_21 : decode cX9_tensAsDigits 21 = .ok (.iinc 3 1, 3) := by decide +kernel
theorem dX9_tensAsDigits_24 : decode cX9_tensAsDigits 24 = .ok (.goto (-20), 3) := by decide +kernel
theorem dX9_tensAsDigits_27 : decode cX9_tensAsDigits 27 = .ok (.iload_n 2, 1) := by decide +kernel
theorem dX9_tensAsDigits_28 : decode cX9_tensAsDigits 28 = .ok (.ireturn, 1) := by decide +kernel
abbrev mt_X9_tensAsDigits : AxM := (RX9, cX9_tensAsDigits, 4, (some .int), false, [])
theorem L1_X9_tensAsDigits_4b {g : AxG} {l : Launch} {r9 : Int32} {S9 : AxS} (N : Nat) (K4 : Int32 → Int32 → Int32 → Int32 → AxS → Option (Int32 × AxS)) (hK4 : ∀ (v0 : Int32) (v1 : Int32) (v2 : Int32) (v3 : Int32) (S : AxS), K4 v0 v1 v2 v3 S = some ((r9, S9)) → AW g l (axRm (1) 0 0) mt_X9_tensAsDigits (axMQ g 0 0 (.inl (some (.int r9)), S9)) 0 0 S 4 [(0, .int v0), (1, .int v1), (2, .int v2), (3, .int v3)] []) (v0 : Int32) (v1 : Int32) (v2 : Int32) (v3 : Int32) (S : AxS) (h : F_X9_tensAsDigits_4b N K4 v0 v1 v2 v3 S = some ((r9, S9))) : AW g l (axRm (1) 0 0) mt_X9_tensAsDigits (axMQ g 0 0 (.inl (some (.int r9)), S9)) 0 0 S 4 [(0, .int v0), (1, .int v1), (2, .int v2), (3, .int v3)] [] := by
  unfold F_X9_tensAsDigits_4b at h
  refine aw_iload_n 3 dX9_tensAsDigits_4 rfl rfl ?_
  refine aw_iload_n 1 dX9_tensAsDigits_5 rfl rfl ?_
  refine aw_icmp_ge 27 dX9_tensAsDigits_6 (by decide) h (fun h => ?_) (fun h => ?_)
  · refine aw_iload_n 2 dX9_tensAsDigits_27 rfl rfl ?_
    exact aw_iret dX9_tensAsDigits_28 rfl (Nat.le_refl _) (Nat.le_refl _) h
  · refine aw_bipush 10 dX9_tensAsDigits_9 (by decide) ?_
    refine aw_iload_n 2 dX9_tensAsDigits_11 rfl rfl ?_
    refine aw_imul dX9_tensAsDigits_12 ?_
    refine aw_iload_n 0 dX9_tensAsDigits_13 rfl rfl ?_
    refine aw_iload_n 1 dX9_tensAsDigits_14 rfl rfl ?_
    refine aw_iload_n 3 dX9_tensAsDigits_15 rfl rfl ?_
    refine aw_doneI (rest := [.int (10 * v2)]) h (fun r9 S9 hF => aw_runS (As := [.int v0, .int v1, .int v3]) (rest := [.int (10 * v2)]) (L1_X9_tensOf N hF) wd_1061 wd_1059 wd_1060 wd_87 pd_X9_tensOf.2 rfl (ax_rm (by omega) rfl) ax_hf0 (Nat.le_of_ble_eq_true rfl) rfl dX9_tensAsDigits_16) (fun x2 T1 h => ?_)
    refine aw_iadd dX9_tensAsDigits_19 ?_
    refine aw_istore_n 2 [(2, .int ((10 * v2) + x2)), (0, .int v0), (1, .int v1), (3, .int v3)] dX9_tensAsDigits_20 rfl rfl rfl ?_
    refine aw_iinc 3 [(3, .int (v3 + 1)), (2, .int ((10 * v2) + x2)), (0, .int v0), (1, .int v1)] (v3 + 1) dX9_tensAsDigits_21 rfl rfl rfl rfl ?_
    refine aw_goto 4 dX9_tensAsDigits_24 (by decide) ?_
    refine aw_env [(0, .int v0), (1, .int v1), (2, .int ((10 * v2) + x2)), (3, .int (v3 + 1))] [2, 3, 1, 0] rfl ?_
    exact hK4 v0 v1 ((10 * v2) + x2) (v3 + 1) T1 h
theorem L1_X9_tensAsDigits_4 {g : AxG} {l : Launch} {r9 : Int32} {S9 : AxS} (N : Nat)  : ∀ (n : Nat) (v0 : Int32) (v1 : Int32) (v2 : Int32) (v3 : Int32) (S : AxS), F_X9_tensAsDigits_4 N  n v0 v1 v2 v3 S = some ((r9, S9)) → AW g l (axRm (1) 0 0) mt_X9_tensAsDigits (axMQ g 0 0 (.inl (some (.int r9)), S9)) 0 0 S 4 [(0, .int v0), (1, .int v1), (2, .int v2), (3, .int v3)] [] := by
  intro n
  induction n with
  | zero => intro v0 v1 v2 v3 S h; cases h
  | succ n ih => intro v0 v1 v2 v3 S h; exact L1_X9_tensAsDigits_4b N (F_X9_tensAsDigits_4 N  n) ih v0 v1 v2 v3 S h
theorem L1_X9_tensAsDigits {g : AxG} {l : Launch} (N : Nat) {v0 : Int32} {v1 : Int32} {S : AxS} {r9 : Int32} {S9 : AxS} (h : F_X9_tensAsDigits N v0 v1 S = some ((r9, S9))) : AxMet g l yX9_tensAsDigits cX9_tensAsDigits 4 (some .int) (1) 0 0 [.int v0, .int v1] S ((.inl (some (.int r9)), S9)) := by
  refine ax_met (own := RX9) (ini := false) (by decide +kernel) rfl (fun h => nomatch h) rfl ?_
  show AW g l (axRm (1) 0 0) mt_X9_tensAsDigits (axMQ g 0 0 (.inl (some (.int r9)), S9)) 0 0 S 0 [(0, .int v0), (1, .int v1)] []
  unfold F_X9_tensAsDigits at h
  refine aw_iconst 0 dX9_tensAsDigits_0 rfl ?_
  refine aw_istore_n 2 [(2, .int 0), (0, .int v0), (1, .int v1)] dX9_tensAsDigits_1 rfl rfl rfl ?_
  refine aw_iconst 0 dX9_tensAsDigits_2 rfl ?_
  refine aw_istore_n 3 [(3, .int 0), (2, .int 0), (0, .int v0), (1, .int v1)] dX9_tensAsDigits_3 rfl rfl rfl ?_
  refine aw_env [(0, .int v0), (1, .int v1), (2, .int 0), (3, .int 0)] [2, 3, 1, 0] rfl ?_
  exact L1_X9_tensAsDigits_4 N  N v0 v1 0 0 S h

theorem dX9_plan_0 : decode cX9_plan 0 = .ok (.aload_n 0, 1) := by decide +kernel
theorem dX9_plan_1 : decode cX9_plan 1 = .ok (.iload_n 1, 1) := by decide +kernel
theorem dX9_plan_2 : decode cX9_plan 2 = .ok (.ifCond .lt 23, 3) := by decide +kernel
theorem dX9_plan_5 : decode cX9_plan 5 = .ok (.iload_n 1, 1) := by decide +kernel
theorem dX9_plan_6 : decode cX9_plan 6 = .ok (.iconst 5, 1) := by decide +kernel
theorem dX9_plan_7 : decode cX9_plan 7 = .ok (.if_icmp .gt 18, 3) := by decide +kernel
theorem dX9_plan_10 : decode cX9_plan 10 = .ok (.iload_n 2, 1) := by decide +kernel
theorem dX9_plan_11 : decode cX9_plan 11 = .ok (.ifCond .lt 14, 3) := by decide +kernel
theorem dX9_plan_14 : decode cX9_plan 14 = .ok (.iload_n 2, 1) := by decide +kernel
theorem dX9_plan_15 : decode cX9_plan 15 = .ok (.sipush 999, 3) := by decide +kernel
theorem dX9_plan_18 : decode cX9_plan 18 = .ok (.if_icmp .gt 7, 3) := by decide +kernel
theorem dX9_plan_21 : decode cX9_plan 21 = .ok (.iconst 1, 1) := by decide +kernel
theorem dX9_plan_22 : decode cX9_plan 22 = .ok (.goto 4, 3) := by decide +kernel
theorem dX9_plan_25 : decode cX9_plan 25 = .ok (.iconst 0, 1) := by decide +kernel
theorem dX9_plan_26 : decode cX9_plan 26 = .ok (.invokevirtual 128, 3) := by decide +kernel
theorem dX9_plan_29 : decode cX9_plan 29 = .ok (.aload_n 0, 1) := by decide +kernel
theorem dX9_plan_30 : decode cX9_plan 30 = .ok (.iload_n 3, 1) := by decide +kernel
theorem dX9_plan_31 : decode cX9_plan 31 = .ok (.ifCond .lt 25, 3) := by decide +kernel
theorem dX9_plan_34 : decode cX9_plan 34 = .ok (.iload_n 3, 1) := by decide +kernel
theorem dX9_plan_35 : decode cX9_plan 35 = .ok (.iconst 1, 1) := by decide +kernel
theorem dX9_plan_36 : decode cX9_plan 36 = .ok (.iload_n 1, 1) := by decide +kernel
theorem dX9_plan_37 : decode cX9_plan 37 = .ok (.ishl, 1) := by decide +kernel
theorem dX9_plan_38 : decode cX9_plan 38 = .ok (.if_icmp .ge 18, 3) := by decide +kernel
theorem dX9_plan_41 : decode cX9_plan 41 = .ok (.iload 4, 2) := by decide +kernel
theorem dX9_plan_43 : decode cX9_plan 43 = .ok (.ifCond .lt 13, 3) := by decide +kernel
theorem dX9_plan_46 : decode cX9_plan 46 = .ok (.iload 4, 2) := by decide +kernel
theorem dX9_plan_48 : decode cX9_plan 48 = .ok (.iconst 1, 1) := by decide +kernel
theorem dX9_plan_49 : decode cX9_plan 49 = .ok (.if_icmp .gt 7, 3) := by decide +kernel
theorem dX9_plan_52 : decode cX9_plan 52 = .ok (.iconst 1, 1) := by decide +kernel
theorem dX9_plan_53 : decode cX9_plan 53 = .ok (.goto 4, 3) := by decide +kernel
theorem dX9_plan_56 : decode cX9_plan 56 = .ok (.iconst 0, 1) := by decide +kernel
theorem dX9_plan_57 : decode cX9_plan 57 = .ok (.invokevirtual 128, 3) := by decide +kernel
theorem dX9_plan_60 : decode cX9_plan 60 = .ok (.iconst (-1), 1) := by decide +kernel
theorem dX9_plan_61 : decode cX9_plan 61 = .ok (.istore 5, 2) := by decide +kernel
theorem dX9_plan_63 : decode cX9_plan 63 = .ok (.iconst 0, 1) := by decide +kernel
theorem dX9_plan_64 : decode cX9_plan 64 = .ok (.istore 6, 2) := by decide +kernel
theorem dX9_plan_66 : decode cX9_plan 66 = .ok (.iconst 0, 1) := by decide +kernel
theorem dX9_plan_67 : decode cX9_plan 67 = .ok (.istore 7, 2) := by decide +kernel
theorem dX9_plan_69 : decode cX9_plan 69 = .ok (.iload 7, 2) := by decide +kernel
theorem dX9_plan_71 : decode cX9_plan 71 = .ok (.iconst 1, 1) := by decide +kernel
theorem dX9_plan_72 : decode cX9_plan 72 = .ok (.iconst 2, 1) := by decide +kernel
theorem dX9_plan_73 : decode cX9_plan 73 = .ok (.iload_n 1, 1) := by decide +kernel
theorem dX9_plan_74 : decode cX9_plan 74 = .ok (.imul, 1) := by decide +kernel
theorem dX9_plan_75 : decode cX9_plan 75 = .ok (.ishl, 1) := by decide +kernel
theorem dX9_plan_76 : decode cX9_plan 76 = .ok (.if_icmp .ge 50, 3) := by decide +kernel
theorem dX9_plan_79 : decode cX9_plan 79 = .ok (.iload 7, 2) := by decide +kernel
theorem dX9_plan_81 : decode cX9_plan 81 = .ok (.iload_n 1, 1) := by decide +kernel
theorem dX9_plan_82 : decode cX9_plan 82 = .ok (.invokestatic 272, 3) := by decide +kernel
theorem dX9_plan_85 : decode cX9_plan 85 = .ok (.istore 8, 2) := by decide +kernel
theorem dX9_plan_87 : decode cX9_plan 87 = .ok (.iload 5, 2) := by decide +kernel
theorem dX9_plan_89 : decode cX9_plan 89 = .ok (.iconst (-1), 1) := by decide +kernel
theorem dX9_plan_90 : decode cX9_plan 90 = .ok (.if_icmp .eq 10, 3) := by decide +kernel
theorem dX9_plan_93 : decode cX9_plan 93 = .ok (.iload 8, 2) := by decide +kernel
theorem dX9_plan_95 : decode cX9_plan 95 = .ok (.iload 5, 2) := by decide +kernel
theorem dX9_plan_97 : decode cX9_plan 97 = .ok (.if_icmp .ge 23, 3) := by decide +kernel
theorem dX9_plan_100 : decode cX9_plan 100 = .ok (.aload_n 0, 1) := by decide +kernel
theorem dX9_plan_101 : decode cX9_plan 101 = .ok (.iload 7, 2) := by decide +kernel
theorem dX9_plan_103 : decode cX9_plan 103 = .ok (.iload_n 1, 1) := by decide +kernel
theorem dX9_plan_104 : decode cX9_plan 104 = .ok (.iload_n 2, 1) := by decide +kernel
theorem dX9_plan_105 : decode cX9_plan 105 = .ok (.iload_n 3, 1) := by decide +kernel
theorem dX9_plan_106 : decode cX9_plan 106 = .ok (.invokevirtual 275, 3) := by decide +kernel
theorem dX9_plan_109 : decode cX9_plan 109 = .ok (.ifCond .eq 11, 3) := by decide +kernel
theorem dX9_plan_112 : decode cX9_plan 112 = .ok (.iload 8, 2) := by decide +kernel
theorem dX9_plan_114 : decode cX9_plan 114 = .ok (.istore 5, 2) := by decide +kernel
theorem dX9_plan_116 : decode cX9_plan 116 = .ok (.iload 7, 2) := by decide +kernel
theorem dX9_plan_118 : decode cX9_plan 118 = .ok (.istore 6, 2) := by decide +kernel
theorem dX9_plan_120 : decode cX9_plan 120 = .ok (.iinc 7 1, 3) := by decide +kernel
theorem dX9_plan_123 : decode cX9_plan 123 = .ok (.goto (-54), 3) := by decide +kernel
theorem dX9_plan_126 : decode cX9_plan 126 = .ok (.iload 5, 2) := by decide +kernel
theorem dX9_plan_128 : decode cX9_plan 128 = .ok (.iconst (-1), 1) := by decide +kernel
theorem dX9_plan_129 : decode cX9_plan 129 = .ok (.if_icmp .ne 5, 3) := by decide +kernel
theorem dX9_plan_132 : decode cX9_plan 132 = .ok (.iconst (-1), 1) := by decide +kernel
theorem dX9_plan_133 : decode cX9_plan 133 = .ok (.ireturn, 1) := by decide +kernel
theorem dX9_plan_134 : decode cX9_plan 134 = .ok (.iload 4, 2) := by decide +kernel
theorem dX9_plan_136 : decode cX9_plan 136 = .ok (.ifCond .ne 11, 3) := by decide +kernel
theorem dX9_plan_139 : decode cX9_plan 139 = .ok (.bipush 10, 2) := by decide +kernel
theorem dX9_plan_141 : decode cX9_plan 141 = .ok (.iload 5, 2) := by decide +kernel
theorem dX9_plan_143 : decode cX9_plan 143 = .ok (.imul, 1) := by decide +kernel
theorem dX9_plan_144 : decode cX9_plan 144 = .ok (.goto 9, 3) := by decide +kernel
theorem dX9_plan_147 : decode cX9_plan 147 = .ok (.iload 6, 2) := by decide +kernel
theorem dX9_plan_149 : decode cX9_plan 149 = .ok (.iload_n 1, 1) := by decide +kernel
theorem dX9_plan_150 : decode cX9_plan 150 = .ok (.invokestatic 279, 3) := by decide +kernel
theorem dX9_plan_153 : decode cX9_plan 153 = .ok (.ireturn, 1) := by decide +kernel
abbrev mt_X9_plan : AxM := (RX9, cX9_plan, 9, (some .int), false, [])
theorem L1_X9_plan_120 {g : AxG} {l : Launch} (hl0 : l.stackTraces = false) {res : AxT Int32} (N : Nat) (K69 : Nat → Int32 → Int32 → Int32 → Int32 → Int32 → Int32 → Int32 → AxS → Option (AxT Int32)) (hK69 : ∀ (v0 : Nat) (v1 : Int32) (v2 : Int32) (v3 : Int32) (v4 : Int32) (v5 : Int32) (v6 : Int32) (v7 : Int32) (S : AxS), K69 v0 v1 v2 v3 v4 v5 v6 v7 S = some res → AW g l (axRm (9) (axCs (axOI res)) (6 * axCs (axOI res))) mt_X9_plan (axMQ g (axCs (axOI res)) (6 * axCs (axOI res)) (axOI res)) 0 0 S 69 [(0, .ref v0), (1, .int v1), (2, .int v2), (3, .int v3), (4, .int v4), (5, .int v5), (6, .int v6), (7, .int v7)] []) (v0 : Nat) (v1 : Int32) (v2 : Int32) (v3 : Int32) (v4 : Int32) (v5 : Int32) (v6 : Int32) (v7 : Int32) (S : AxS) (h : F_X9_plan_120 N K69 v0 v1 v2 v3 v4 v5 v6 v7 S = some res) : AW g l (axRm (9) (axCs (axOI res)) (6 * axCs (axOI res))) mt_X9_plan (axMQ g (axCs (axOI res)) (6 * axCs (axOI res)) (axOI res)) 0 0 S 120 [(0, .ref v0), (1, .int v1), (2, .int v2), (3, .int v3), (4, .int v4), (5, .int v5), (6, .int v6), (7, .int v7)] [] := by
  unfold F_X9_plan_120 at h
  refine aw_iinc 7 [(7, .int (v7 + 1)), (0, .ref v0), (1, .int v1), (2, .int v2), (3, .int v3), (4, .int v4), (5, .int v5), (6, .int v6)] (v7 + 1) dX9_plan_120 rfl rfl rfl rfl ?_
  refine aw_goto 69 dX9_plan_123 (by decide) ?_
  refine aw_env [(0, .ref v0), (1, .int v1), (2, .int v2), (3, .int v3), (4, .int v4), (5, .int v5), (6, .int v6), (7, .int (v7 + 1))] [1, 2, 3, 4, 5, 6, 7, 0] rfl ?_
  exact hK69 v0 v1 v2 v3 v4 v5 v6 (v7 + 1) S h
theorem L1_X9_plan_100 {g : AxG} {l : Launch} (hl0 : l.stackTraces = false) {res : AxT Int32} (N : Nat) (K69 : Nat → Int32 → Int32 → Int32 → Int32 → Int32 → Int32 → Int32 → AxS → Option (AxT Int32)) (hK69 : ∀ (v0 : Nat) (v1 : Int32) (v2 : Int32) (v3 : Int32) (v4 : Int32) (v5 : Int32) (v6 : Int32) (v7 : Int32) (S : AxS), K69 v0 v1 v2 v3 v4 v5 v6 v7 S = some res → AW g l (axRm (9) (axCs (axOI res)) (6 * axCs (axOI res))) mt_X9_plan (axMQ g (axCs (axOI res)) (6 * axCs (axOI res)) (axOI res)) 0 0 S 69 [(0, .ref v0), (1, .int v1), (2, .int v2), (3, .int v3), (4, .int v4), (5, .int v5), (6, .int v6), (7, .int v7)] []) (v0 : Nat) (v1 : Int32) (v2 : Int32) (v3 : Int32) (v4 : Int32) (v5 : Int32) (v6 : Int32) (v7 : Int32) (v8 : Int32) (S : AxS) (h : F_X9_plan_100 N K69 v0 v1 v2 v3 v4 v5 v6 v7 v8 S = some res) : AW g l (axRm (9) (axCs (axOI res)) (6 * axCs (axOI res))) mt_X9_plan (axMQ g (axCs (axOI res)) (6 * axCs (axOI res)) (axOI res)) 0 0 S 100 [(0, .ref v0), (1, .int v1), (2, .int v2), (3, .int v3), (4, .int v4), (5, .int v5), (6, .int v6), (7, .int v7), (8, .int v8)] [] := by
  unfold F_X9_plan_100 at h
  refine aw_aload_n 0 dX9_plan_100 rfl rfl ?_
  refine aw_iload 7 dX9_plan_101 rfl ?_
  refine aw_iload_n 1 dX9_plan_103 rfl rfl ?_
  refine aw_iload_n 2 dX9_plan_104 rfl rfl ?_
  refine aw_iload_n 3 dX9_plan_105 rfl rfl ?_
  obtain ⟨hL1, h⟩ := ax_is_spec h
  refine aw_doneI (rest := []) h (fun r9 S9 hF => aw_runV (As := [.int v7, .int v1, .int v2, .int v3]) (rest := []) (L1_X9_staysQuiet N hF) axc9 hL1 wd_1065 wd_1062 wd_1064 wd_21 wd_87 pd_X9_staysQuiet rfl (ax_rm (by omega) rfl) ax_hf0 (Nat.le_of_ble_eq_true rfl) rfl dX9_plan_106) (fun x3 T2 h => ?_)
  refine aw_if_eq 120 dX9_plan_109 (by decide) h (fun h => ?_) (fun h => ?_)
  · refine aw_env [(0, .ref v0), (1, .int v1), (2, .int v2), (3, .int v3), (4, .int v4), (5, .int v5), (6, .int v6), (7, .int v7)] [0, 1, 2, 3, 4, 5, 6, 7] rfl ?_
    exact L1_X9_plan_120 hl0 N K69 hK69 v0 v1 v2 v3 v4 v5 v6 v7 T2 h
  · refine aw_iload 8 dX9_plan_112 rfl ?_
    refine aw_istore [(5, .int v8), (0, .ref v0), (1, .int v1), (2, .int v2), (3, .int v3), (4, .int v4), (6, .int v6), (7, .int v7), (8, .int v8)] dX9_plan_114 rfl rfl ?_
    refine aw_iload 7 dX9_plan_116 rfl ?_
    refine aw_istore [(6, .int v7), (5, .int v8), (0, .ref v0), (1, .int v1), (2, .int v2), (3, .int v3), (4, .int v4), (7, .int v7), (8, .int v8)] dX9_plan_118 rfl rfl ?_
    refine aw_env [(0, .ref v0), (1, .int v1), (2, .int v2), (3, .int v3), (4, .int v4), (5, .int v8), (6, .int v7), (7, .int v7)] [2, 3, 4, 5, 6, 1, 0, 7] rfl ?_
    exact L1_X9_plan_120 hl0 N K69 hK69 v0 v1 v2 v3 v4 v8 v7 v7 T2 h
theorem L1_X9_plan_69b {g : AxG} {l : Launch} (hl0 : l.stackTraces = false) {res : AxT Int32} (N : Nat) (K69 : Nat → Int32 → Int32 → Int32 → Int32 → Int32 → Int32 → Int32 → AxS → Option (AxT Int32)) (hK69 : ∀ (v0 : Nat) (v1 : Int32) (v2 : Int32) (v3 : Int32) (v4 : Int32) (v5 : Int32) (v6 : Int32) (v7 : Int32) (S : AxS), K69 v0 v1 v2 v3 v4 v5 v6 v7 S = some res → AW g l (axRm (9) (axCs (axOI res)) (6 * axCs (axOI res))) mt_X9_plan (axMQ g (axCs (axOI res)) (6 * axCs (axOI res)) (axOI res)) 0 0 S 69 [(0, .ref v0), (1, .int v1), (2, .int v2), (3, .int v3), (4, .int v4), (5, .int v5), (6, .int v6), (7, .int v7)] []) (v0 : Nat) (v1 : Int32) (v2 : Int32) (v3 : Int32) (v4 : Int32) (v5 : Int32) (v6 : Int32) (v7 : Int32) (S : AxS) (h : F_X9_plan_69b N K69 v0 v1 v2 v3 v4 v5 v6 v7 S = some res) : AW g l (axRm (9) (axCs (axOI res)) (6 * axCs (axOI res))) mt_X9_plan (axMQ g (axCs (axOI res)) (6 * axCs (axOI res)) (axOI res)) 0 0 S 69 [(0, .ref v0), (1, .int v1), (2, .int v2), (3, .int v3), (4, .int v4), (5, .int v5), (6, .int v6), (7, .int v7)] [] := by
  unfold F_X9_plan_69b at h
  refine aw_iload 7 dX9_plan_69 rfl ?_
  refine aw_iconst 1 dX9_plan_71 rfl ?_
  refine aw_iconst 2 dX9_plan_72 rfl ?_
  refine aw_iload_n 1 dX9_plan_73 rfl rfl ?_
  refine aw_imul dX9_plan_74 ?_
  refine aw_ishl dX9_plan_75 ?_
  refine aw_icmp_ge 126 dX9_plan_76 (by decide) h (fun h => ?_) (fun h => ?_)
  · refine aw_iload 5 dX9_plan_126 rfl ?_
    refine aw_iconst (-1) dX9_plan_128 rfl ?_
    refine aw_icmp_ne 134 dX9_plan_129 (by decide) h (fun h => ?_) (fun h => ?_)
    · refine aw_iload 4 dX9_plan_134 rfl ?_
      refine aw_if_ne 147 dX9_plan_136 (by decide) h (fun h => ?_) (fun h => ?_)
      · refine aw_iload 6 dX9_plan_147 rfl ?_
        refine aw_iload_n 1 dX9_plan_149 rfl rfl ?_
        refine aw_doneI (rest := []) h (fun r9 S9 hF => aw_runS (As := [.int v6, .int v1]) (rest := []) (L1_X9_tensAsDigits N hF) wd_1068 wd_1066 wd_1067 wd_87 pd_X9_tensAsDigits.2 rfl (ax_rm (by omega) rfl) ax_hf0 (Nat.le_of_ble_eq_true rfl) rfl dX9_plan_150) (fun x2 T1 h => ?_)
        exact aw_iretT dX9_plan_153 rfl h
      · refine aw_bipush 10 dX9_plan_139 (by decide) ?_
        refine aw_iload 5 dX9_plan_141 rfl ?_
        refine aw_imul dX9_plan_143 ?_
        refine aw_goto 153 dX9_plan_144 (by decide) ?_
        exact aw_iretT dX9_plan_153 rfl h
    · refine aw_iconst (-1) dX9_plan_132 rfl ?_
      exact aw_iretT dX9_plan_133 rfl h
  · refine aw_iload 7 dX9_plan_79 rfl ?_
    refine aw_iload_n 1 dX9_plan_81 rfl rfl ?_
    refine aw_doneI (rest := []) h (fun r9 S9 hF => aw_runS (As := [.int v7, .int v1]) (rest := []) (L1_X9_tensTogether N hF) wd_1058 wd_1056 wd_1057 wd_87 pd_X9_tensTogether.2 rfl (ax_rm (by omega) rfl) ax_hf0 (Nat.le_of_ble_eq_true rfl) rfl dX9_plan_82) (fun x4 T3 h => ?_)
    refine aw_istore [(8, .int x4), (0, .ref v0), (1, .int v1), (2, .int v2), (3, .int v3), (4, .int v4), (5, .int v5), (6, .int v6), (7, .int v7)] dX9_plan_85 rfl rfl ?_
    refine aw_iload 6 dX9_plan_87 rfl ?_
    refine aw_iconst (-1) dX9_plan_89 rfl ?_
    refine aw_icmp_eq 100 dX9_plan_90 (by decide) h (fun h => ?_) (fun h => ?_)
    · refine aw_env [(0, .ref v0), (1, .int v1), (2, .int v2), (3, .int v3), (4, .int v4), (5, .int v5), (6, .int v6), (7, .int v7), (8, .int x4)] [1, 2, 3, 4, 5, 6, 7, 8, 0] rfl ?_
      exact L1_X9_plan_100 hl0 N K69 hK69 v0 v1 v2 v3 v4 v5 v6 v7 x4 T3 h
    · refine aw_iload 0 dX9_plan_93 rfl ?_
      refine aw_iload 6 dX9_plan_95 rfl ?_
      refine aw_icmp_ge 120 dX9_plan_97 (by decide) h (fun h => ?_) (fun h => ?_)
      · refine aw_env [(0, .ref v0), (1, .int v1), (2, .int v2), (3, .int v3), (4, .int v4), (5, .int v5), (6, .int v6), (7, .int v7)] [1, 2, 3, 4, 5, 6, 7, 8] rfl ?_
        exact L1_X9_plan_120 hl0 N K69 hK69 v0 v1 v2 v3 v4 v5 v6 v7 T3 h
      · refine aw_env [(0, .ref v0), (1, .int v1), (2, .int v2), (3, .int v3), (4, .int v4), (5, .int v5), (6, .int v6), (7, .int v7), (8, .int x4)] [1, 2, 3, 4, 5, 6, 7, 8, 0] rfl ?_
        exact L1_X9_plan_100 hl0 N K69 hK69 v0 v1 v2 v3 v4 v5 v6 v7 x4 T3 h
theorem L1_X9_plan_69 {g : AxG} {l : Launch} (hl0 : l.stackTraces = false) {res : AxT Int32} (N : Nat)  : ∀ (n : Nat) (v0 : Nat) (v1 : Int32) (v2 : Int32) (v3 : Int32) (v4 : Int32) (v5 : Int32) (v6 : Int32) (v7 : Int32) (S : AxS), F_X9_plan_69 N  n v0 v1 v2 v3 v4 v5 v6 v7 S = some res → AW g l (axRm (9) (axCs (axOI res)) (6 * axCs (axOI res))) mt_X9_plan (axMQ g (axCs (axOI res)) (6 * axCs (axOI res)) (axOI res)) 0 0 S 69 [(0, .ref v0), (1, .int v1), (2, .int v2), (3, .int v3), (4, .int v4), (5, .int v5), (6, .int v6), (7, .int v7)] [] := by
  intro n
  induction n with
  | zero => intro v0 v1 v2 v3 v4 v5 v6 v7 S h; cases h
  | succ n ih => intro v0 v1 v2 v3 v4 v5 v6 v7 S h; exact L1_X9_plan_69b hl0 N (F_X9_plan_69 N  n) ih v0 v1 v2 v3 v4 v5 v6 v7 S h
theorem L1_X9_plan_57 {g : AxG} {l : Launch} (hl0 : l.stackTraces = false) {res : AxT Int32} (N : Nat)  (v0 : Nat) (v1 : Int32) (v2 : Int32) (v3 : Int32) (v4 : Int32) (w0 : Int32) (w1 : Nat) (S : AxS) (h : F_X9_plan_57 N  v0 v1 v2 v3 v4 w0 w1 S = some res) : AW g l (axRm (9) (axCs (axOI res)) (6 * axCs (axOI res))) mt_X9_plan (axMQ g (axCs (axOI res)) (6 * axCs (axOI res)) (axOI res)) 0 0 S 57 [(0, .ref v0), (1, .int v1), (2, .int v2), (3, .int v3), (4, .int v4)] [.int w0, .ref w1] := by
  unfold F_X9_plan_57 at h
  obtain ⟨hL1, h⟩ := ax_is_spec h
  refine aw_thV (ob := axOI) (rest := []) (fun _ _ => rfl) rfl h (fun u9 hF hu => aw_runV (As := [.int w0]) (rest := []) (L1_X9_needArgument hl0 N hF) axc9 hL1 wd_604 wd_601 wd_603 wd_3 wd_87 pd_X9_needArgument rfl (ax_rm (by omega) rfl) (ax_hfV (fun _ _ => rfl) hu) (Nat.le_of_ble_eq_true rfl) rfl dX9_plan_57) (fun T2 h => ?_)
  refine aw_iconst (-1) dX9_plan_60 rfl ?_
  refine aw_istore [(5, .int ((-1))), (0, .ref v0), (1, .int v1), (2, .int v2), (3, .int v3), (4, .int v4)] dX9_plan_61 rfl rfl ?_
  refine aw_iconst 0 dX9_plan_63 rfl ?_
  refine aw_istore [(6, .int 0), (5, .int ((-1))), (0, .ref v0), (1, .int v1), (2, .int v2), (3, .int v3), (4, .int v4)] dX9_plan_64 rfl rfl ?_
  refine aw_iconst 0 dX9_plan_66 rfl ?_
  refine aw_istore [(7, .int 0), (6, .int 0), (5, .int ((-1))), (0, .ref v0), (1, .int v1), (2, .int v2), (3, .int v3), (4, .int v4)] dX9_plan_67 rfl rfl ?_
  refine aw_env [(0, .ref v0), (1, .int v1), (2, .int v2), (3, .int v3), (4, .int v4), (5, .int ((-1))), (6, .int 0), (7, .int 0)] [3, 4, 5, 6, 7, 2, 1, 0] rfl ?_
  exact L1_X9_plan_69 hl0 N  N v0 v1 v2 v3 v4 ((-1)) 0 0 T2 h
theorem L1_X9_plan_56 {g : AxG} {l : Launch} (hl0 : l.stackTraces = false) {res : AxT Int32} (N : Nat)  (v0 : Nat) (v1 : Int32) (v2 : Int32) (v3 : Int32) (v4 : Int32) (w0 : Nat) (S : AxS) (h : F_X9_plan_56 N  v0 v1 v2 v3 v4 w0 S = some res) : AW g l (axRm (9) (axCs (axOI res)) (6 * axCs (axOI res))) mt_X9_plan (axMQ g (axCs (axOI res)) (6 * axCs (axOI res)) (axOI res)) 0 0 S 56 [(0, .ref v0), (1, .int v1), (2, .int v2), (3, .int v3), (4, .int v4)] [.ref w0] := by
  unfold F_X9_plan_56 at h
  refine aw_iconst 0 dX9_plan_56 rfl ?_
  refine aw_env [(0, .ref v0), (1, .int v1), (2, .int v2), (3, .int v3), (4, .int v4)] [0, 1, 2, 3, 4] rfl ?_
  exact L1_X9_plan_57 hl0 N  v0 v1 v2 v3 v4 0 w0 S h
theorem L1_X9_plan_26 {g : AxG} {l : Launch} (hl0 : l.stackTraces = false) {res : AxT Int32} (N : Nat)  (v0 : Nat) (v1 : Int32) (v2 : Int32) (v3 : Int32) (v4 : Int32) (w0 : Int32) (w1 : Nat) (S : AxS) (h : F_X9_plan_26 N  v0 v1 v2 v3 v4 w0 w1 S = some res) : AW g l (axRm (9) (axCs (axOI res)) (6 * axCs (axOI res))) mt_X9_plan (axMQ g (axCs (axOI res)) (6 * axCs (axOI res)) (axOI res)) 0 0 S 26 [(0, .ref v0), (1, .int v1), (2, .int v2), (3, .int v3), (4, .int v4)] [.int w0, .ref w1] := by
  unfold F_X9_plan_26 at h
  obtain ⟨hL1, h⟩ := ax_is_spec h
  refine aw_thV (ob := axOI) (rest := []) (fun _ _ => rfl) rfl h (fun u9 hF hu => aw_runV (As := [.int w0]) (rest := []) (L1_X9_needArgument hl0 N hF) axc9 hL1 wd_604 wd_601 wd_603 wd_3 wd_87 pd_X9_needArgument rfl (ax_rm (by omega) rfl) (ax_hfV (fun _ _ => rfl) hu) (Nat.le_of_ble_eq_true rfl) rfl dX9_plan_26) (fun T2 h => ?_)
  refine aw_aload_n 0 dX9_plan_29 rfl rfl ?_
  refine aw_iload_n 3 dX9_plan_30 rfl rfl ?_
  refine aw_if_lt 56 dX9_plan_31 (by decide) h (fun h => ?_) (fun h => ?_)
  · refine aw_env [(0, .ref v0), (1, .int v1), (2, .int v2), (3, .int v3), (4, .int v4)] [0, 1, 2, 3, 4] rfl ?_
    exact L1_X9_plan_56 hl0 N  v0 v1 v2 v3 v4 v0 T2 h
  · refine aw_iload_n 3 dX9_plan_34 rfl rfl ?_
    refine aw_iconst 1 dX9_plan_35 rfl ?_
    refine aw_iload_n 1 dX9_plan_36 rfl rfl ?_
    refine aw_ishl dX9_plan_37 ?_
    refine aw_icmp_ge 56 dX9_plan_38 (by decide) h (fun h => ?_) (fun h => ?_)
    · refine aw_env [(0, .ref v0), (1, .int v1), (2, .int v2), (3, .int v3), (4, .int v4)] [0, 1, 2, 3, 4] rfl ?_
      exact L1_X9_plan_56 hl0 N  v0 v1 v2 v3 v4 v0 T2 h
    · refine aw_iload 4 dX9_plan_41 rfl ?_
      refine aw_if_lt 56 dX9_plan_43 (by decide) h (fun h => ?_) (fun h => ?_)
      · refine aw_env [(0, .ref v0), (1, .int v1), (2, .int v2), (3, .int v3), (4, .int v4)] [0, 1, 2, 3, 4] rfl ?_
        exact L1_X9_plan_56 hl0 N  v0 v1 v2 v3 v4 v0 T2 h
      · refine aw_iload 4 dX9_plan_46 rfl ?_
        refine aw_iconst 1 dX9_plan_48 rfl ?_
        refine aw_icmp_gt 56 dX9_plan_49 (by decide) h (fun h => ?_) (fun h => ?_)
        · refine aw_env [(0, .ref v0), (1, .int v1), (2, .int v2), (3, .int v3), (4, .int v4)] [0, 1, 2, 3, 4] rfl ?_
          exact L1_X9_plan_56 hl0 N  v0 v1 v2 v3 v4 v0 T2 h
        · refine aw_iconst 1 dX9_plan_52 rfl ?_
          refine aw_goto 57 dX9_plan_53 (by decide) ?_
          refine aw_env [(0, .ref v0), (1, .int v1), (2, .int v2), (3, .int v3), (4, .int v4)] [0, 1, 2, 3, 4] rfl ?_
          exact L1_X9_plan_57 hl0 N  v0 v1 v2 v3 v4 1 v0 T2 h
theorem L1_X9_plan_25 {g : AxG} {l : Launch} (hl0 : l.stackTraces = false) {res : AxT Int32} (N : Nat)  (v0 : Nat) (v1 : Int32) (v2 : Int32) (v3 : Int32) (v4 : Int32) (w0 : Nat) (S : AxS) (h : F_X9_plan_25 N  v0 v1 v2 v3 v4 w0 S = some res) : AW g l (axRm (9) (axCs (axOI res)) (6 * axCs (axOI res))) mt_X9_plan (axMQ g (axCs (axOI res)) (6 * axCs (axOI res)) (axOI res)) 0 0 S 25 [(0, .ref v0), (1, .int v1), (2, .int v2), (3, .int v3), (4, .int v4)] [.ref w0] := by
  unfold F_X9_plan_25 at h
  refine aw_iconst 0 dX9_plan_25 rfl ?_
  refine aw_env [(0, .ref v0), (1, .int v1), (2, .int v2), (3, .int v3), (4, .int v4)] [0, 1, 2, 3, 4] rfl ?_
  exact L1_X9_plan_26 hl0 N  v0 v1 v2 v3 v4 0 w0 S h
theorem L1_X9_plan {g : AxG} {l : Launch} (hl0 : l.stackTraces = false) (N : Nat) {v0 : Nat} {v1 : Int32} {v2 : Int32} {v3 : Int32} {v4 : Int32} {S : AxS} {res : AxT Int32} (h : F_X9_plan N v0 v1 v2 v3 v4 S = some res) : AxMet g l yX9_plan cX9_plan 9 (some .int) (9) (axCs (axOI res)) (6 * axCs (axOI res)) [.ref v0, .int v1, .int v2, .int v3, .int v4] S (axOI res) := by
  refine ax_met (own := RX9) (ini := false) (by decide +kernel) rfl (fun h => nomatch h) rfl ?_
  show AW g l (axRm (9) (axCs (axOI res)) (6 * axCs (axOI res))) mt_X9_plan (axMQ g (axCs (axOI res)) (6 * axCs (axOI res)) (axOI res)) 0 0 S 0 [(0, .ref v0), (1, .int v1), (2, .int v2), (3, .int v3), (4, .int v4)] []
  unfold F_X9_plan at h
  refine aw_aload_n 0 dX9_plan_0 rfl rfl ?_
  refine aw_iload_n 1 dX9_plan_1 rfl rfl ?_
  refine aw_if_lt 25 dX9_plan_2 (by decide) h (fun h => ?_) (fun h => ?_)
  · refine aw_env [(0, .ref v0), (1, .int v1), (2, .int v2), (3, .int v3), (4, .int v4)] [0, 1, 2, 3, 4] rfl ?_
    exact L1_X9_plan_25 hl0 N  v0 v1 v2 v3 v4 v0 S h
  · refine aw_iload_n 1 dX9_plan_5 rfl rfl ?_
    refine aw_iconst 5 dX9_plan_6 rfl ?_
    refine aw_icmp_gt 25 dX9_plan_7 (by decide) h (fun h => ?_) (fun h => ?_)
    · refine aw_env [(0, .ref v0), (1, .int v1), (2, .int v2), (3, .int v3), (4, .int v4)] [0, 1, 2, 3, 4] rfl ?_
      exact L1_X9_plan_25 hl0 N  v0 v1 v2 v3 v4 v0 S h
    · refine aw_iload_n 2 dX9_plan_10 rfl rfl ?_
      refine aw_if_lt 25 dX9_plan_11 (by decide) h (fun h => ?_) (fun h => ?_)
      · refine aw_env [(0, .ref v0), (1, .int v1), (2, .int v2), (3, .int v3), (4, .int v4)] [0, 1, 2, 3, 4] rfl ?_
        exact L1_X9_plan_25 hl0 N  v0 v1 v2 v3 v4 v0 S h
      · refine aw_iload_n 2 dX9_plan_14 rfl rfl ?_
        refine aw_sipush 999 dX9_plan_15 (by decide) ?_
        refine aw_icmp_gt 25 dX9_plan_18 (by decide) h (fun h => ?_) (fun h => ?_)
        · refine aw_env [(0, .ref v0), (1, .int v1), (2, .int v2), (3, .int v3), (4, .int v4)] [0, 1, 2, 3, 4] rfl ?_
          exact L1_X9_plan_25 hl0 N  v0 v1 v2 v3 v4 v0 S h
        · refine aw_iconst 1 dX9_plan_21 rfl ?_
          refine aw_goto 26 dX9_plan_22 (by decide) ?_
          refine aw_env [(0, .ref v0), (1, .int v1), (2, .int v2), (3, .int v3), (4, .int v4)] [0, 1, 2, 3, 4] rfl ?_
          exact L1_X9_plan_26 hl0 N  v0 v1 v2 v3 v4 1 v0 S h

theorem dX9_grows_0 : decode cX9_grows 0 = .ok (.aload_n 0, 1) := by decide +kernel
theorem dX9_grows_1 : decode cX9_grows 1 = .ok (.iload_n 1, 1) := by decide +kernel
theorem dX9_grows_2 : decode cX9_grows 2 = .ok (.ifCond .lt 13, 3) := by decide +kernel
theorem dX9_grows_5 : decode cX9_grows 5 = .ok (.iload_n 1, 1) := by decide +kernel
theorem dX9_grows_6 : decode cX9_grows 6 = .ok (.ldc 253, 2) := by decide +kernel
theorem dX9_grows_8 : decode cX9_grows 8 = .ok (.if_icmp .gt 7, 3) := by decide +kernel
theorem dX9_grows_11 : decode cX9_grows 11 = .ok (.iconst 1, 1) := by decide +kernel
theorem dX9_grows_12 : decode cX9_grows 12 = .ok (.goto 4, 3) := by decide +kernel
theorem dX9_grows_15 : decode cX9_grows 15 = .ok (.iconst 0, 1) := by decide +kernel
theorem dX9_grows_16 : decode cX9_grows 16 = .ok (.invokevirtual 128, 3) := by decide +kernel
theorem dX9_grows_19 : decode cX9_grows 19 = .ok (.aload_n 0, 1) := by decide +kernel
theorem dX9_grows_20 : decode cX9_grows 20 = .ok (.getfield 60, 3) := by decide +kernel
theorem dX9_grows_23 : decode cX9_grows 23 = .ok (.aload_n 0, 1) := by decide +kernel
theorem dX9_grows_24 : decode cX9_grows 24 = .ok (.getfield 56, 3) := by decide +kernel
theorem dX9_grows_27 : decode cX9_grows 27 = .ok (.invokevirtual 262, 3) := by decide +kernel
theorem dX9_grows_30 : decode cX9_grows 30 = .ok (.iconst 0, 1) := by decide +kernel
theorem dX9_grows_31 : decode cX9_grows 31 = .ok (.istore_n 2, 1) := by decide +kernel
theorem dX9_grows_32 : decode cX9_grows 32 = .ok (.iload_n 2, 1) := by decide +kernel
theorem dX9_grows_33 : decode cX9_grows 33 = .ok (.bipush 120, 2) := by decide +kernel
theorem dX9_grows_35 : decode cX9_grows 35 = .ok (.if_icmp .gt 32, 3) := by decide +kernel
theorem dX9_grows_38 : decode cX9_grows 38 = .ok (.aload_n 0, 1) := by decide +kernel
theorem dX9_grows_39 : decode cX9_grows 39 = .ok (.getfield 60, 3) := by decide +kernel
theorem dX9_grows_42 : decode cX9_grows 42 = .ok (.getfield 174, 3) := by decide +kernel
theorem dX9_grows_45 : decode cX9_grows 45 = .ok (.iload_n 1, 1) := by decide +kernel
theorem dX9_grows_46 : decode cX9_grows 46 = .ok (.if_icmp .lt 5, 3) := by decide +kernel
theorem dX9_grows_49 : decode cX9_grows 49 = .ok (.iload_n 2, 1) := by decide +kernel
theorem dX9_grows_50 : decode cX9_grows 50 = .ok (.ireturn, 1) := by decide +kernel
theorem dX9_grows_51 : decode cX9_grows 51 = .ok (.aload_n 0, 1) := by decide +kernel
theorem dX9_grows_52 : decode cX9_grows 52 = .ok (.aload_n 0, 1) := by decide +kernel
theorem dX9_grows_53 : decode cX9_grows 53 = .ok (.getfield 60, 3) := by decide +kernel
theorem dX9_grows_56 : decode cX9_grows 56 = .ok (.iconst 0, 1) := by decide +kernel
theorem dX9_grows_57 : decode cX9_grows 57 = .ok (.invokevirtual 265, 3) := by decide +kernel
theorem dX9_grows_60 : decode cX9_grows 60 = .ok (.pop, 1) := by decide +kernel
theorem dX9_grows_61 : decode cX9_grows 61 = .ok (.iinc 2 1, 3) := by decide +kernel
theorem dX9_grows_64 : decode cX9_grows 64 = .ok (.goto (-32), 3) := by decide +kernel
theorem dX9_grows_67 : decode cX9_grows 67 = .ok (.iconst (-1), 1) := by decide +kernel
theorem dX9_grows_68 : decode cX9_grows 68 = .ok (.ireturn, 1) := by decide +kernel
abbrev mt_X9_grows : AxM := (RX9, cX9_grows, 3, (some .int), false, [])
theorem L1_X9_grows_32b {g : AxG} {l : Launch} (hl0 : l.stackTraces = false) {res : AxT Int32} (N : Nat) (K32 : Nat → Int32 → Int32 → AxS → Option (AxT Int32)) (hK32 : ∀ (v0 : Nat) (v1 : Int32) (v2 : Int32) (S : AxS), K32 v0 v1 v2 S = some res → AW g l (axRm (9) (axCs (axOI res)) (6 * axCs (axOI res))) mt_X9_grows (axMQ g (axCs (axOI res)) (6 * axCs (axOI res)) (axOI res)) 0 0 S 32 [(0, .ref v0), (1, .int v1), (2, .int v2)] []) (v0 : Nat) (v1 : Int32) (v2 : Int32) (S : AxS) (h : F_X9_grows_32b N K32 v0 v1 v2 S = some res) : AW g l (axRm (9) (axCs (axOI res)) (6 * axCs (axOI res))) mt_X9_grows (axMQ g (axCs (axOI res)) (6 * axCs (axOI res)) (axOI res)) 0 0 S 32 [(0, .ref v0), (1, .int v1), (2, .int v2)] [] := by
  unfold F_X9_grows_32b at h
  refine aw_iload_n 2 dX9_grows_32 rfl rfl ?_
  refine aw_bipush 120 dX9_grows_33 (by decide) ?_
  refine aw_icmp_gt 67 dX9_grows_35 (by decide) h (fun h => ?_) (fun h => ?_)
  · refine aw_iconst (-1) dX9_grows_67 rfl ?_
    exact aw_iretT dX9_grows_68 rfl h
  · refine aw_aload_n 0 dX9_grows_38 rfl rfl ?_
    refine aw_getR axc9 9 rfl rfl wd_462 dX9_grows_39 h (fun a1 h => ?_)
    refine aw_getI axc5 0 rfl rfl wd_293 dX9_grows_42 h (fun x2 h => ?_)
    refine aw_iload_n 1 dX9_grows_45 rfl rfl ?_
    refine aw_icmp_lt 51 dX9_grows_46 (by decide) h (fun h => ?_) (fun h => ?_)
    · refine aw_aload_n 0 dX9_grows_51 rfl rfl ?_
      refine aw_aload_n 0 dX9_grows_52 rfl rfl ?_
      refine aw_getR axc9 9 rfl rfl wd_462 dX9_grows_53 h (fun a3 h => ?_)
      refine aw_iconst 0 dX9_grows_56 rfl ?_
      obtain ⟨hL4, h⟩ := ax_is_spec h
      refine aw_doneI (rest := []) h (fun r9 S9 hF => aw_runV (As := [.ref a3, .int 0]) (rest := []) (L1_X9_passNight N hF) axc9 hL4 wd_908 wd_905 wd_907 wd_16 wd_87 pd_X9_passNight rfl (ax_rm (by omega) rfl) ax_hf0 (Nat.le_of_ble_eq_true rfl) rfl dX9_grows_57) (fun x6 T5 h => ?_)
      refine aw_pop rfl dX9_grows_60 ?_
      refine aw_iinc 2 [(2, .int (v2 + 1)), (0, .ref v0), (1, .int v1)] (v2 + 1) dX9_grows_61 rfl rfl rfl rfl ?_
      refine aw_goto 32 dX9_grows_64 (by decide) ?_
      refine aw_env [(0, .ref v0), (1, .int v1), (2, .int (v2 + 1))] [1, 2, 0] rfl ?_
      exact hK32 v0 v1 (v2 + 1) T5 h
    · refine aw_iload_n 2 dX9_grows_49 rfl rfl ?_
      exact aw_iretT dX9_grows_50 rfl h
theorem L1_X9_grows_32 {g : AxG} {l : Launch} (hl0 : l.stackTraces = false) {res : AxT Int32} (N : Nat)  : ∀ (n : Nat) (v0 : Nat) (v1 : Int32) (v2 : Int32) (S : AxS), F_X9_grows_32 N  n v0 v1 v2 S = some res → AW g l (axRm (9) (axCs (axOI res)) (6 * axCs (axOI res))) mt_X9_grows (axMQ g (axCs (axOI res)) (6 * axCs (axOI res)) (axOI res)) 0 0 S 32 [(0, .ref v0), (1, .int v1), (2, .int v2)] [] := by
  intro n
  induction n with
  | zero => intro v0 v1 v2 S h; cases h
  | succ n ih => intro v0 v1 v2 S h; exact L1_X9_grows_32b hl0 N (F_X9_grows_32 N  n) ih v0 v1 v2 S h
theorem L1_X9_grows_16 {g : AxG} {l : Launch} (hl0 : l.stackTraces = false) {res : AxT Int32} (N : Nat)  (v0 : Nat) (v1 : Int32) (w0 : Int32) (w1 : Nat) (S : AxS) (h : F_X9_grows_16 N  v0 v1 w0 w1 S = some res) : AW g l (axRm (9) (axCs (axOI res)) (6 * axCs (axOI res))) mt_X9_grows (axMQ g (axCs (axOI res)) (6 * axCs (axOI res)) (axOI res)) 0 0 S 16 [(0, .ref v0), (1, .int v1)] [.int w0, .ref w1] := by
  unfold F_X9_grows_16 at h
  obtain ⟨hL1, h⟩ := ax_is_spec h
  refine aw_thV (ob := axOI) (rest := []) (fun _ _ => rfl) rfl h (fun u9 hF hu => aw_runV (As := [.int w0]) (rest := []) (L1_X9_needArgument hl0 N hF) axc9 hL1 wd_604 wd_601 wd_603 wd_3 wd_87 pd_X9_needArgument rfl (ax_rm (by omega) rfl) (ax_hfV (fun _ _ => rfl) hu) (Nat.le_of_ble_eq_true rfl) rfl dX9_grows_16) (fun T2 h => ?_)
  refine aw_aload_n 0 dX9_grows_19 rfl rfl ?_
  refine aw_getR axc9 9 rfl rfl wd_462 dX9_grows_20 h (fun a4 h => ?_)
  refine aw_aload_n 0 dX9_grows_23 rfl rfl ?_
  refine aw_getR axc9 8 rfl rfl wd_461 dX9_grows_24 h (fun a5 h => ?_)
  obtain ⟨hL6, h⟩ := ax_is_spec h
  refine aw_doneV (rest := []) h (fun S9 hF => aw_runV (As := [.ref a5]) (rest := []) (L1_X5_take N hF) axc5 hL6 wd_538 wd_583 wd_536 wd_537 wd_93 pd_X5_take rfl (ax_rm (by omega) rfl) ax_hf0 (Nat.le_of_ble_eq_true rfl) rfl dX9_grows_27) (fun T7 h => ?_)
  refine aw_iconst 0 dX9_grows_30 rfl ?_
  refine aw_istore_n 2 [(2, .int 0), (0, .ref v0), (1, .int v1)] dX9_grows_31 rfl rfl rfl ?_
  refine aw_env [(0, .ref v0), (1, .int v1), (2, .int 0)] [1, 2, 0] rfl ?_
  exact L1_X9_grows_32 hl0 N  N v0 v1 0 T7 h
theorem L1_X9_grows_15 {g : AxG} {l : Launch} (hl0 : l.stackTraces = false) {res : AxT Int32} (N : Nat)  (v0 : Nat) (v1 : Int32) (w0 : Nat) (S : AxS) (h : F_X9_grows_15 N  v0 v1 w0 S = some res) : AW g l (axRm (9) (axCs (axOI res)) (6 * axCs (axOI res))) mt_X9_grows (axMQ g (axCs (axOI res)) (6 * axCs (axOI res)) (axOI res)) 0 0 S 15 [(0, .ref v0), (1, .int v1)] [.ref w0] := by
  unfold F_X9_grows_15 at h
  refine aw_iconst 0 dX9_grows_15 rfl ?_
  refine aw_env [(0, .ref v0), (1, .int v1)] [0, 1] rfl ?_
  exact L1_X9_grows_16 hl0 N  v0 v1 0 w0 S h
theorem L1_X9_grows {g : AxG} {l : Launch} (hl0 : l.stackTraces = false) (N : Nat) {v0 : Nat} {v1 : Int32} {S : AxS} {res : AxT Int32} (h : F_X9_grows N v0 v1 S = some res) : AxMet g l yX9_grows cX9_grows 3 (some .int) (9) (axCs (axOI res)) (6 * axCs (axOI res)) [.ref v0, .int v1] S (axOI res) := by
  refine ax_met (own := RX9) (ini := false) (by decide +kernel) rfl (fun h => nomatch h) rfl ?_
  show AW g l (axRm (9) (axCs (axOI res)) (6 * axCs (axOI res))) mt_X9_grows (axMQ g (axCs (axOI res)) (6 * axCs (axOI res)) (axOI res)) 0 0 S 0 [(0, .ref v0), (1, .int v1)] []
  unfold F_X9_grows at h
  refine aw_aload_n 0 dX9_grows_0 rfl rfl ?_
  refine aw_iload_n 1 dX9_grows_1 rfl rfl ?_
  refine aw_if_lt 15 dX9_grows_2 (by decide) h (fun h => ?_) (fun h => ?_)
  · refine aw_env [(0, .ref v0), (1, .int v1)] [0, 1] rfl ?_
    exact L1_X9_grows_15 hl0 N  v0 v1 v0 S h
  · refine aw_iload_n 1 dX9_grows_5 rfl rfl ?_
    refine aw_ldcI wd_1020 dX9_grows_6 ?_
    refine aw_icmp_gt 15 dX9_grows_8 (by decide) h (fun h => ?_) (fun h => ?_)
    · refine aw_env [(0, .ref v0), (1, .int v1)] [0, 1] rfl ?_
      exact L1_X9_grows_15 hl0 N  v0 v1 v0 S h
    · refine aw_iconst 1 dX9_grows_11 rfl ?_
      refine aw_goto 16 dX9_grows_12 (by decide) ?_
      refine aw_env [(0, .ref v0), (1, .int v1)] [0, 1] rfl ?_
      exact L1_X9_grows_16 hl0 N  v0 v1 1 v0 S h

theorem dX9_needYears_0 : decode cX9_needYears 0 = .ok (.aload_n 0, 1) := by decide +kernel
theorem dX9_needYears_1 : decode cX9_needYears 1 = .ok (.iload_n 1, 1) := by decide +kernel
theorem dX9_needYears_2 : decode cX9_needYears 2 = .ok (.iconst 1, 1) := by decide +kernel
theorem dX9_needYears_3 : decode cX9_needYears 3 = .ok (.if_icmp .lt 25, 3) := by decide +kernel
theorem dX9_needYears_6 : decode cX9_needYears 6 = .ok (.iload_n 1, 1) := by decide +kernel
theorem dX9_needYears_7 : decode cX9_needYears 7 = .ok (.bipush 96, 2) := by decide +kernel
theorem dX9_needYears_9 : decode cX9_needYears 9 = .ok (.if_icmp .gt 19, 3) := by decide +kernel
theorem dX9_needYears_12 : decode cX9_needYears 12 = .ok (.iload 4, 2) := by decide +kernel
theorem dX9_needYears_14 : decode cX9_needYears 14 = .ok (.ifCond .lt 14, 3) := by decide +kernel
theorem dX9_needYears_17 : decode cX9_needYears 17 = .ok (.iload 4, 2) := by decide +kernel
theorem dX9_needYears_19 : decode cX9_needYears 19 = .ok (.bipush 99, 2) := by decide +kernel
theorem dX9_needYears_21 : decode cX9_needYears 21 = .ok (.if_icmp .gt 7, 3) := by decide +kernel
theorem dX9_needYears_24 : decode cX9_needYears 24 = .ok (.iconst 1, 1) := by decide +kernel
theorem dX9_needYears_25 : decode cX9_needYears 25 = .ok (.goto 4, 3) := by decide +kernel
theorem dX9_needYears_28 : decode cX9_needYears 28 = .ok (.iconst 0, 1) := by decide +kernel
theorem dX9_needYears_29 : decode cX9_needYears 29 = .ok (.invokevirtual 128, 3) := by decide +kernel
theorem dX9_needYears_32 : decode cX9_needYears 32 = .ok (.aload_n 0, 1) := by decide +kernel
theorem dX9_needYears_33 : decode cX9_needYears 33 = .ok (.iload_n 2, 1) := by decide +kernel
theorem dX9_needYears_34 : decode cX9_needYears 34 = .ok (.ifCond .lt 23, 3) := by decide +kernel
theorem dX9_needYears_37 : decode cX9_needYears 37 = .ok (.iload_n 2, 1) := by decide +kernel
theorem dX9_needYears_38 : decode cX9_needYears 38 = .ok (.bipush 16, 2) := by decide +kernel
theorem dX9_needYears_40 : decode cX9_needYears 40 = .ok (.if_icmp .gt 17, 3) := by decide +kernel
theorem dX9_needYears_43 : decode cX9_needYears 43 = .ok (.iload_n 3, 1) := by decide +kernel
theorem dX9_needYears_44 : decode cX9_needYears 44 = .ok (.ifCond .lt 13, 3) := by decide +kernel
theorem dX9_needYears_47 : decode cX9_needYears 47 = .ok (.iload_n 3, 1) := by decide +kernel
theorem dX9_needYears_48 : decode cX9_needYears 48 = .ok (.bipush 16, 2) := by decide +kernel
theorem dX9_needYears_50 : decode cX9_needYears 50 = .ok (.if_icmp .gt 7, 3) := by decide +kernel
theorem dX9_needYears_53 : decode cX9_needYears 53 = .ok (.iconst 1, 1) := by decide +kernel
theorem dX9_needYears_54 : decode cX9_needYears 54 = .ok (.goto 4, 3) := by decide +kernel
theorem dX9_needYears_57 : decode cX9_needYears 57 = .ok (.iconst 0, 1) := by decide +kernel
theorem dX9_needYears_58 : decode cX9_needYears 58 = .ok (.invokevirtual 128, 3) := by decide +kernel
theorem dX9_needYears_61 : decode cX9_needYears 61 = .ok (.return_, 1) := by decide +kernel
abbrev mt_X9_needYears : AxM := (RX9, cX9_needYears, 5, none, false, [])
theorem L1_X9_needYears_58 {g : AxG} {l : Launch} (hl0 : l.stackTraces = false) {res : AxT Unit} (N : Nat)  (w0 : Int32) (w1 : Nat) (S : AxS) (h : F_X9_needYears_58 N  w0 w1 S = some res) : AW g l (axRm (9) (axCs (axOV res)) (6 * axCs (axOV res))) mt_X9_needYears (axMQ g (axCs (axOV res)) (6 * axCs (axOV res)) (axOV res)) 0 0 S 58 [] [.int w0, .ref w1] := by
  unfold F_X9_needYears_58 at h
  obtain ⟨hL1, h⟩ := ax_is_spec h
  refine aw_thV (ob := axOV) (rest := []) (fun _ _ => rfl) rfl h (fun u9 hF hu => aw_runV (As := [.int w0]) (rest := []) (L1_X9_needArgument hl0 N hF) axc9 hL1 wd_604 wd_601 wd_603 wd_3 wd_87 pd_X9_needArgument rfl (ax_rm (by omega) rfl) (ax_hfV (fun _ _ => rfl) hu) (Nat.le_of_ble_eq_true rfl) rfl dX9_needYears_58) (fun T2 h => ?_)
  exact aw_vretT dX9_needYears_61 rfl h
theorem L1_X9_needYears_57 {g : AxG} {l : Launch} (hl0 : l.stackTraces = false) {res : AxT Unit} (N : Nat)  (w0 : Nat) (S : AxS) (h : F_X9_needYears_57 N  w0 S = some res) : AW g l (axRm (9) (axCs (axOV res)) (6 * axCs (axOV res))) mt_X9_needYears (axMQ g (axCs (axOV res)) (6 * axCs (axOV res)) (axOV res)) 0 0 S 57 [] [.ref w0] := by
  unfold F_X9_needYears_57 at h
  refine aw_iconst 0 dX9_needYears_57 rfl ?_
  refine aw_env [] [] rfl ?_
  exact L1_X9_needYears_58 hl0 N  0 w0 S h
theorem L1_X9_needYears_29 {g : AxG} {l : Launch} (hl0 : l.stackTraces = false) {res : AxT Unit} (N : Nat)  (v0 : Nat) (v2 : Int32) (v3 : Int32) (w0 : Int32) (w1 : Nat) (S : AxS) (h : F_X9_needYears_29 N  v0 v2 v3 w0 w1 S = some res) : AW g l (axRm (9) (axCs (axOV res)) (6 * axCs (axOV res))) mt_X9_needYears (axMQ g (axCs (axOV res)) (6 * axCs (axOV res)) (axOV res)) 0 0 S 29 [(0, .ref v0), (2, .int v2), (3, .int v3)] [.int w0, .ref w1] := by
  unfold F_X9_needYears_29 at h
  obtain ⟨hL1, h⟩ := ax_is_spec h
  refine aw_thV (ob := axOV) (rest := []) (fun _ _ => rfl) rfl h (fun u9 hF hu => aw_runV (As := [.int w0]) (rest := []) (L1_X9_needArgument hl0 N hF) axc9 hL1 wd_604 wd_601 wd_603 wd_3 wd_87 pd_X9_needArgument rfl (ax_rm (by omega) rfl) (ax_hfV (fun _ _ => rfl) hu) (Nat.le_of_ble_eq_true rfl) rfl dX9_needYears_29) (fun T2 h => ?_)
  refine aw_aload_n 0 dX9_needYears_32 rfl rfl ?_
  refine aw_iload_n 1 dX9_needYears_33 rfl rfl ?_
  refine aw_if_lt 57 dX9_needYears_34 (by decide) h (fun h => ?_) (fun h => ?_)
  · refine aw_env [] [] rfl ?_
    exact L1_X9_needYears_57 hl0 N  v0 T2 h
  · refine aw_iload_n 1 dX9_needYears_37 rfl rfl ?_
    refine aw_bipush 16 dX9_needYears_38 (by decide) ?_
    refine aw_icmp_gt 57 dX9_needYears_40 (by decide) h (fun h => ?_) (fun h => ?_)
    · refine aw_env [] [] rfl ?_
      exact L1_X9_needYears_57 hl0 N  v0 T2 h
    · refine aw_iload_n 2 dX9_needYears_43 rfl rfl ?_
      refine aw_if_lt 57 dX9_needYears_44 (by decide) h (fun h => ?_) (fun h => ?_)
      · refine aw_env [] [] rfl ?_
        exact L1_X9_needYears_57 hl0 N  v0 T2 h
      · refine aw_iload_n 2 dX9_needYears_47 rfl rfl ?_
        refine aw_bipush 16 dX9_needYears_48 (by decide) ?_
        refine aw_icmp_gt 57 dX9_needYears_50 (by decide) h (fun h => ?_) (fun h => ?_)
        · refine aw_env [] [] rfl ?_
          exact L1_X9_needYears_57 hl0 N  v0 T2 h
        · refine aw_iconst 1 dX9_needYears_53 rfl ?_
          refine aw_goto 58 dX9_needYears_54 (by decide) ?_
          refine aw_env [] [] rfl ?_
          exact L1_X9_needYears_58 hl0 N  1 v0 T2 h
theorem L1_X9_needYears_28 {g : AxG} {l : Launch} (hl0 : l.stackTraces = false) {res : AxT Unit} (N : Nat)  (v0 : Nat) (v2 : Int32) (v3 : Int32) (w0 : Nat) (S : AxS) (h : F_X9_needYears_28 N  v0 v2 v3 w0 S = some res) : AW g l (axRm (9) (axCs (axOV res)) (6 * axCs (axOV res))) mt_X9_needYears (axMQ g (axCs (axOV res)) (6 * axCs (axOV res)) (axOV res)) 0 0 S 28 [(0, .ref v0), (2, .int v2), (3, .int v3)] [.ref w0] := by
  unfold F_X9_needYears_28 at h
  refine aw_iconst 0 dX9_needYears_28 rfl ?_
  refine aw_env [(0, .ref v0), (2, .int v2), (3, .int v3)] [0, 1, 2] rfl ?_
  exact L1_X9_needYears_29 hl0 N  v0 v2 v3 0 w0 S h
theorem L1_X9_needYears {g : AxG} {l : Launch} (hl0 : l.stackTraces = false) (N : Nat) {v0 : Nat} {v1 : Int32} {v2 : Int32} {v3 : Int32} {v4 : Int32} {S : AxS} {res : AxT Unit} (h : F_X9_needYears N v0 v1 v2 v3 v4 S = some res) : AxMet g l yX9_needYears cX9_needYears 5 none (9) (axCs (axOV res)) (6 * axCs (axOV res)) [.ref v0, .int v1, .int v2, .int v3, .int v4] S (axOV res) := by
  refine ax_met (own := RX9) (ini := false) (by decide +kernel) rfl (fun h => nomatch h) rfl ?_
  show AW g l (axRm (9) (axCs (axOV res)) (6 * axCs (axOV res))) mt_X9_needYears (axMQ g (axCs (axOV res)) (6 * axCs (axOV res)) (axOV res)) 0 0 S 0 [(0, .ref v0), (1, .int v1), (2, .int v2), (3, .int v3), (4, .int v4)] []
  unfold F_X9_needYears at h
  refine aw_aload_n 0 dX9_needYears_0 rfl rfl ?_
  refine aw_iload_n 1 dX9_needYears_1 rfl rfl ?_
  refine aw_iconst 1 dX9_needYears_2 rfl ?_
  refine aw_icmp_lt 28 dX9_needYears_3 (by decide) h (fun h => ?_) (fun h => ?_)
  · refine aw_env [(0, .ref v0), (2, .int v2), (3, .int v3)] [0, 2, 3] rfl ?_
    exact L1_X9_needYears_28 hl0 N  v0 v2 v3 v0 S h
  · refine aw_iload_n 1 dX9_needYears_6 rfl rfl ?_
    refine aw_bipush 96 dX9_needYears_7 (by decide) ?_
    refine aw_icmp_gt 28 dX9_needYears_9 (by decide) h (fun h => ?_) (fun h => ?_)
    · refine aw_env [(0, .ref v0), (2, .int v2), (3, .int v3)] [0, 2, 3] rfl ?_
      exact L1_X9_needYears_28 hl0 N  v0 v2 v3 v0 S h
    · refine aw_iload 4 dX9_needYears_12 rfl ?_
      refine aw_if_lt 28 dX9_needYears_14 (by decide) h (fun h => ?_) (fun h => ?_)
      · refine aw_env [(0, .ref v0), (2, .int v2), (3, .int v3)] [0, 2, 3] rfl ?_
        exact L1_X9_needYears_28 hl0 N  v0 v2 v3 v0 S h
      · refine aw_iload 4 dX9_needYears_17 rfl ?_
        refine aw_bipush 99 dX9_needYears_19 (by decide) ?_
        refine aw_icmp_gt 28 dX9_needYears_21 (by decide) h (fun h => ?_) (fun h => ?_)
        · refine aw_env [(0, .ref v0), (2, .int v2), (3, .int v3)] [0, 2, 3] rfl ?_
          exact L1_X9_needYears_28 hl0 N  v0 v2 v3 v0 S h
        · refine aw_iconst 1 dX9_needYears_24 rfl ?_
          refine aw_goto 29 dX9_needYears_25 (by decide) ?_
          refine aw_env [(0, .ref v0), (2, .int v2), (3, .int v3)] [0, 2, 3] rfl ?_
          exact L1_X9_needYears_29 hl0 N  v0 v2 v3 1 v0 S h

theorem dX9_nextSeed_0 : decode cX9_nextSeed 0 = .ok (.iload_n 0, 1) := by decide +kernel
theorem dX9_nextSeed_1 : decode cX9_nextSeed 1 = .ok (.ldc_w 425, 3) := by decide +kernel
theorem dX9_nextSeed_4 : decode cX9_nextSeed 4 = .ok (.imul, 1) := by decide +kernel
theorem dX9_nextSeed_5 : decode cX9_nextSeed 5 = .ok (.sipush 12345, 3) := by decide +kernel
theorem dX9_nextSeed_8 : decode cX9_nextSeed 8 = .ok (.iadd, 1) := by decide +kernel
theorem dX9_nextSeed_9 : decode cX9_nextSeed 9 = .ok (.ireturn, 1) := by decide +kernel
abbrev mt_X9_nextSeed : AxM := (RX9, cX9_nextSeed, 1, (some .int), false, [])
theorem L1_X9_nextSeed {g : AxG} {l : Launch} (N : Nat) {v0 : Int32} {S : AxS} {r9 : Int32} {S9 : AxS} (h : F_X9_nextSeed N v0 S = some ((r9, S9))) : AxMet g l yX9_nextSeed cX9_nextSeed 1 (some .int) (0) 0 0 [.int v0] S ((.inl (some (.int r9)), S9)) := by
  refine ax_met (own := RX9) (ini := false) (by decide +kernel) rfl (fun h => nomatch h) rfl ?_
  show AW g l (axRm (0) 0 0) mt_X9_nextSeed (axMQ g 0 0 (.inl (some (.int r9)), S9)) 0 0 S 0 [(0, .int v0)] []
  unfold F_X9_nextSeed at h
  refine aw_iload_n 0 dX9_nextSeed_0 rfl rfl ?_
  refine aw_ldcwI wd_1252 dX9_nextSeed_1 ?_
  refine aw_imul dX9_nextSeed_4 ?_
  refine aw_sipush 12345 dX9_nextSeed_5 (by decide) ?_
  refine aw_iadd dX9_nextSeed_8 ?_
  exact aw_iret dX9_nextSeed_9 rfl (Nat.le_refl _) (Nat.le_refl _) h

theorem dX9_sixteenth_0 : decode cX9_sixteenth 0 = .ok (.iload_n 0, 1) := by decide +kernel
theorem dX9_sixteenth_1 : decode cX9_sixteenth 1 = .ok (.bipush 16, 2) := by decide +kernel
theorem dX9_sixteenth_3 : decode cX9_sixteenth 3 = .ok (.iushr, 1) := by decide +kernel
theorem dX9_sixteenth_4 : decode cX9_sixteenth 4 = .ok (.sipush 32767, 3) := by decide +kernel
theorem dX9_sixteenth_7 : decode cX9_sixteenth 7 = .ok (.iand, 1) := by decide +kernel
theorem dX9_sixteenth_8 : decode cX9_sixteenth 8 = .ok (.bipush 16, 2) := by decide +kernel
theorem dX9_sixteenth_10 : decode cX9_sixteenth 10 = .ok (.irem, 1) := by decide +kernel
theorem dX9_sixteenth_11 : decode cX9_sixteenth 11 = .ok (.ireturn, 1) := by decide +kernel
abbrev mt_X9_sixteenth : AxM := (RX9, cX9_sixteenth, 1, (some .int), false, [])
theorem L1_X9_sixteenth {g : AxG} {l : Launch} (N : Nat) {v0 : Int32} {S : AxS} {r9 : Int32} {S9 : AxS} (h : F_X9_sixteenth N v0 S = some ((r9, S9))) : AxMet g l yX9_sixteenth cX9_sixteenth 1 (some .int) (0) 0 0 [.int v0] S ((.inl (some (.int r9)), S9)) := by
  refine ax_met (own := RX9) (ini := false) (by decide +kernel) rfl (fun h => nomatch h) rfl ?_
  show AW g l (axRm (0) 0 0) mt_X9_sixteenth (axMQ g 0 0 (.inl (some (.int r9)), S9)) 0 0 S 0 [(0, .int v0)] []
  unfold F_X9_sixteenth at h
  refine aw_iload_n 0 dX9_sixteenth_0 rfl rfl ?_
  refine aw_bipush 16 dX9_sixteenth_1 (by decide) ?_
  refine aw_iushr dX9_sixteenth_3 ?_
  refine aw_sipush 32767 dX9_sixteenth_4 (by decide) ?_
  refine aw_iand dX9_sixteenth_7 ?_
  refine aw_bipush 16 dX9_sixteenth_8 (by decide) ?_
  refine aw_irem dX9_sixteenth_10 h (fun h => ?_)
  exact aw_iret dX9_sixteenth_11 rfl (Nat.le_refl _) (Nat.le_refl _) h

theorem dX9_runYears_0 : decode cX9_runYears 0 = .ok (.aload_n 0, 1) := by decide +kernel
theorem dX9_runYears_1 : decode cX9_runYears 1 = .ok (.getfield 60, 3) := by decide +kernel
theorem dX9_runYears_4 : decode cX9_runYears 4 = .ok (.aload_n 0, 1) := by decide +kernel
theorem dX9_runYears_5 : decode cX9_runYears 5 = .ok (.getfield 56, 3) := by decide +kernel
theorem dX9_runYears_8 : decode cX9_runYears 8 = .ok (.invokevirtual 262, 3) := by decide +kernel
theorem dX9_runYears_11 : decode cX9_runYears 11 = .ok (.iload_n 1, 1) := by decide +kernel
theorem dX9_runYears_12 : decode cX9_runYears 12 = .ok (.istore 6, 2) := by decide +kernel
theorem dX9_runYears_14 : decode cX9_runYears 14 = .ok (.iconst 0, 1) := by decide +kernel
theorem dX9_runYears_15 : decode cX9_runYears 15 = .ok (.istore 7, 2) := by decide +kernel
theorem dX9_runYears_17 : decode cX9_runYears 17 = .ok (.iconst 0, 1) := by decide +kernel
theorem dX9_runYears_18 : decode cX9_runYears 18 = .ok (.istore 8, 2) := by decide +kernel
theorem dX9_runYears_20 : decode cX9_runYears 20 = .ok (.iload 8, 2) := by decide +kernel
theorem dX9_runYears_22 : decode cX9_runYears 22 = .ok (.iload_n 2, 1) := by decide +kernel
theorem dX9_runYears_23 : decode cX9_runYears 23 = .ok (.if_icmp .ge 140, 3) := by decide +kernel
theorem dX9_runYears_26 : decode cX9_runYears 26 = .ok (.iload 6, 2) := by decide +kernel
theorem dX9_runYears_28 : decode cX9_runYears 28 = .ok (.invokestatic 419, 3) := by decide +kernel
theorem dX9_runYears_31 : decode cX9_runYears 31 = .ok (.istore 6, 2) := by decide +kernel
theorem dX9_runYears_33 : decode cX9_runYears 33 = .ok (.iload 6, 2) := by decide +kernel
theorem dX9_runYears_35 : decode cX9_runYears 35 = .ok (.invokestatic 422, 3) := by decide +kernel
theorem dX9_runYears_38 : decode cX9_runYears 38 = .ok (.iload_n 3, 1) := by decide +kernel
theorem dX9_runYears_39 : decode cX9_runYears 39 = .ok (.if_icmp .ge 7, 3) := by decide +kernel
theorem dX9_runYears_42 : decode cX9_runYears 42 = .ok (.iconst 1, 1) := by decide +kernel
theorem dX9_runYears_43 : decode cX9_runYears 43 = .ok (.goto 4, 3) := by decide +kernel
theorem dX9_runYears_46 : decode cX9_runYears 46 = .ok (.iconst 0, 1) := by decide +kernel
theorem dX9_runYears_47 : decode cX9_runYears 47 = .ok (.istore 9, 2) := by decide +kernel
theorem dX9_runYears_49 : decode cX9_runYears 49 = .ok (.iload 7, 2) := by decide +kernel
theorem dX9_runYears_51 : decode cX9_runYears 51 = .ok (.iload 9, 2) := by decide +kernel
theorem dX9_runYears_53 : decode cX9_runYears 53 = .ok (.iadd, 1) := by decide +kernel
theorem dX9_runYears_54 : decode cX9_runYears 54 = .ok (.istore 7, 2) := by decide +kernel
theorem dX9_runYears_56 : decode cX9_runYears 56 = .ok (.iload 6, 2) := by decide +kernel
theorem dX9_runYears_58 : decode cX9_runYears 58 = .ok (.invokestatic 419, 3) := by decide +kernel
theorem dX9_runYears_61 : decode cX9_runYears 61 = .ok (.istore 6, 2) := by decide +kernel
theorem dX9_runYears_63 : decode cX9_runYears 63 = .ok (.iload 6, 2) := by decide +kernel
theorem dX9_runYears_65 : decode cX9_runYears 65 = .ok (.invokestatic 422, 3) := by decide +kernel
theorem dX9_runYears_68 : decode cX9_runYears 68 = .ok (.iload 4, 2) := by decide +kernel
theorem dX9_runYears_70 : decode cX9_runYears 70 = .ok (.if_icmp .lt 46, 3) := by decide +kernel
theorem dX9_runYears_73 : decode cX9_runYears 73 = .ok (.iconst 0, 1) := by decide +kernel
theorem dX9_runYears_74 : decode cX9_runYears 74 = .ok (.istore 10, 2) := by decide +kernel
theorem dX9_runYears_76 : decode cX9_runYears 76 = .ok (.iload 10, 2) := by decide +kernel
theorem dX9_runYears_78 : decode cX9_runYears 78 = .ok (.aload_n 0, 1) := by decide +kernel
theorem dX9_runYears_79 : decode cX9_runYears 79 = .ok (.getfield 19, 3) := by decide +kernel
theorem dX9_runYears_82 : decode cX9_runYears 82 = .ok (.getfield 207, 3) := by decide +kernel
theorem dX9_runYears_85 : decode cX9_runYears 85 = .ok (.if_icmp .ge 31, 3) := by decide +kernel
theorem dX9_runYears_88 : decode cX9_runYears 88 = .ok (.aload_n 0, 1) := by decide +kernel
theorem dX9_runYears_89 : decode cX9_runYears 89 = .ok (.getfield 60, 3) := by decide +kernel
theorem dX9_runYears_92 : decode cX9_runYears 92 = .ok (.iload 10, 2) := by decide +kernel
theorem dX9_runYears_94 : decode cX9_runYears 94 = .ok (.aload_n 0, 1) := by decide +kernel
theorem dX9_runYears_95 : decode cX9_runYears 95 = .ok (.getfield 19, 3) := by decide +kernel
theorem dX9_runYears_98 : decode cX9_runYears 98 = .ok (.getfield 241, 3) := by decide +kernel
theorem dX9_runYears_101 : decode cX9_runYears 101 = .ok (.iload 10, 2) := by decide +kernel
theorem dX9_runYears_103 : decode cX9_runYears 103 = .ok (.invokestatic 223, 3) := by decide +kernel
theorem dX9_runYears_106 : decode cX9_runYears 106 = .ok (.invokevirtual 406, 3) := by decide +kernel
theorem dX9_runYears_109 : decode cX9_runYears 109 = .ok (.pop, 1) := by decide +kernel
theorem dX9_runYears_110 : decode cX9_runYears 110 = .ok (.iinc 10 1, 3) := by decide +kernel
theorem dX9_runYears_113 : decode cX9_runYears 113 = .ok (.goto (-37), 3) := by decide +kernel
theorem dX9_runYears_116 : decode cX9_runYears 116 = .ok (.aload_n 0, 1) := by decide +kernel
theorem dX9_runYears_117 : decode cX9_runYears 117 = .ok (.getfield 60, 3) := by decide +kernel
theorem dX9_runYears_120 : decode cX9_runYears 120 = .ok (.iload 5, 2) := by decide +kernel
theorem dX9_runYears_122 : decode cX9_runYears 122 = .ok (.aload_n 0, 1) := by decide +kernel
theorem dX9_runYears_123 : decode cX9_runYears 123 = .ok (.getfield 60, 3) := by decide +kernel
theorem dX9_runYears_126 : decode cX9_runYears 126 = .ok (.getfield 177, 3) := by decide +kernel
theorem dX9_runYears_129 : decode cX9_runYears 129 = .ok (.aload_n 0, 1) := by decide +kernel
theorem dX9_runYears_130 : decode cX9_runYears 130 = .ok (.getfield 60, 3) := by decide +kernel
theorem dX9_runYears_133 : decode cX9_runYears 133 = .ok (.getfield 174, 3) := by decide +kernel
theorem dX9_runYears_136 : decode cX9_runYears 136 = .ok (.invokestatic 290, 3) := by decide +kernel
theorem dX9_runYears_139 : decode cX9_runYears 139 = .ok (.invokestatic 290, 3) := by decide +kernel
theorem dX9_runYears_142 : decode cX9_runYears 142 = .ok (.invokevirtual 268, 3) := by decide +kernel
theorem dX9_runYears_145 : decode cX9_runYears 145 = .ok (.pop, 1) := by decide +kernel
theorem dX9_runYears_146 : decode cX9_runYears 146 = .ok (.aload_n 0, 1) := by decide +kernel
theorem dX9_runYears_147 : decode cX9_runYears 147 = .ok (.aload_n 0, 1) := by decide +kernel
theorem dX9_runYears_148 : decode cX9_runYears 148 = .ok (.getfield 60, 3) := by decide +kernel
theorem dX9_runYears_151 : decode cX9_runYears 151 = .ok (.iload 9, 2) := by decide +kernel
theorem dX9_runYears_153 : decode cX9_runYears 153 = .ok (.invokevirtual 265, 3) := by decide +kernel
theorem dX9_runYears_156 : decode cX9_runYears 156 = .ok (.pop, 1) := by decide +kernel
theorem dX9_runYears_157 : decode cX9_runYears 157 = .ok (.iinc 8 1, 3) := by decide +kernel
theorem dX9_runYears_160 : decode cX9_runYears 160 = .ok (.goto (-140), 3) := by decide +kernel
theorem dX9_runYears_163 : decode cX9_runYears 163 = .ok (.iload 7, 2) := by decide +kernel
theorem dX9_runYears_165 : decode cX9_runYears 165 = .ok (.ireturn, 1) := by decide +kernel
abbrev mt_X9_runYears : AxM := (RX9, cX9_runYears, 11, (some .int), false, [])
theorem L1_X9_runYears_116 {g : AxG} {l : Launch} {r9 : Int32} {S9 : AxS} (N : Nat) (K20 : Nat → Int32 → Int32 → Int32 → Int32 → Int32 → Int32 → Int32 → AxS → Option (Int32 × AxS)) (hK20 : ∀ (v0 : Nat) (v2 : Int32) (v3 : Int32) (v4 : Int32) (v5 : Int32) (v6 : Int32) (v7 : Int32) (v8 : Int32) (S : AxS), K20 v0 v2 v3 v4 v5 v6 v7 v8 S = some ((r9, S9)) → AW g l (axRm (5) 0 0) mt_X9_runYears (axMQ g 0 0 (.inl (some (.int r9)), S9)) 0 0 S 20 [(0, .ref v0), (2, .int v2), (3, .int v3), (4, .int v4), (5, .int v5), (6, .int v6), (7, .int v7), (8, .int v8)] []) (v0 : Nat) (v2 : Int32) (v3 : Int32) (v4 : Int32) (v5 : Int32) (v6 : Int32) (v7 : Int32) (v8 : Int32) (v9 : Int32) (S : AxS) (h : F_X9_runYears_116 N K20 v0 v2 v3 v4 v5 v6 v7 v8 v9 S = some ((r9, S9))) : AW g l (axRm (5) 0 0) mt_X9_runYears (axMQ g 0 0 (.inl (some (.int r9)), S9)) 0 0 S 116 [(0, .ref v0), (2, .int v2), (3, .int v3), (4, .int v4), (5, .int v5), (6, .int v6), (7, .int v7), (8, .int v8), (9, .int v9)] [] := by
  unfold F_X9_runYears_116 at h
  refine aw_aload_n 0 dX9_runYears_116 rfl rfl ?_
  refine aw_getR axc9 9 rfl rfl wd_462 dX9_runYears_117 h (fun a1 h => ?_)
  refine aw_iload 4 dX9_runYears_120 rfl ?_
  refine aw_aload_n 0 dX9_runYears_122 rfl rfl ?_
  refine aw_getR axc9 9 rfl rfl wd_462 dX9_runYears_123 h (fun a2 h => ?_)
  refine aw_getI axc5 1 rfl rfl wd_295 dX9_runYears_126 h (fun x3 h => ?_)
  refine aw_aload_n 0 dX9_runYears_129 rfl rfl ?_
  refine aw_getR axc9 9 rfl rfl wd_462 dX9_runYears_130 h (fun a4 h => ?_)
  refine aw_getI axc5 0 rfl rfl wd_293 dX9_runYears_133 h (fun x5 h => ?_)
  refine aw_doneI (rest := [.int v5, .ref a1]) h (fun r9 S9 hF => aw_runS (As := [.int x3, .int x5]) (rest := [.int v5, .ref a1]) (L1_J9_min_7cf53 N hF) wd_563 wd_565 wd_562 wd_106 pd_J9_min_7cf53.2 rfl (ax_rm (by omega) rfl) ax_hf0 (Nat.le_of_ble_eq_true rfl) rfl dX9_runYears_136) (fun x7 T6 h => ?_)
  refine aw_doneI (rest := [.ref a1]) h (fun r9 S9 hF => aw_runS (As := [.int v5, .int x7]) (rest := [.ref a1]) (L1_J9_min_7cf53 N hF) wd_563 wd_565 wd_562 wd_106 pd_J9_min_7cf53.2 rfl (ax_rm (by omega) rfl) ax_hf0 (Nat.le_of_ble_eq_true rfl) rfl dX9_runYears_139) (fun x9 T8 h => ?_)
  obtain ⟨hL10, h⟩ := ax_is_spec h
  refine aw_doneI (rest := []) h (fun r9 S9 hF => aw_runV (As := [.int x9]) (rest := []) (L1_X5_pays N hF) axc5 hL10 wd_887 wd_884 wd_885 wd_886 wd_93 pd_X5_pays rfl (ax_rm (by omega) rfl) ax_hf0 (Nat.le_of_ble_eq_true rfl) rfl dX9_runYears_142) (fun x12 T11 h => ?_)
  refine aw_pop rfl dX9_runYears_145 ?_
  refine aw_aload_n 0 dX9_runYears_146 rfl rfl ?_
  refine aw_aload_n 0 dX9_runYears_147 rfl rfl ?_
  refine aw_getR axc9 9 rfl rfl wd_462 dX9_runYears_148 h (fun a13 h => ?_)
  refine aw_iload 8 dX9_runYears_151 rfl ?_
  obtain ⟨hL14, h⟩ := ax_is_spec h
  refine aw_doneI (rest := []) h (fun r9 S9 hF => aw_runV (As := [.ref a13, .int v9]) (rest := []) (L1_X9_passNight N hF) axc9 hL14 wd_908 wd_905 wd_907 wd_16 wd_87 pd_X9_passNight rfl (ax_rm (by omega) rfl) ax_hf0 (Nat.le_of_ble_eq_true rfl) rfl dX9_runYears_153) (fun x16 T15 h => ?_)
  refine aw_pop rfl dX9_runYears_156 ?_
  refine aw_iinc 7 [(8, .int (v8 + 1)), (0, .ref v0), (2, .int v2), (3, .int v3), (4, .int v4), (5, .int v5), (6, .int v6), (7, .int v7), (9, .int v9)] (v8 + 1) dX9_runYears_157 rfl rfl rfl rfl ?_
  refine aw_goto 20 dX9_runYears_160 (by decide) ?_
  refine aw_env [(0, .ref v0), (2, .int v2), (3, .int v3), (4, .int v4), (5, .int v5), (6, .int v6), (7, .int v7), (8, .int (v8 + 1))] [1, 2, 3, 4, 5, 6, 7, 0] rfl ?_
  exact hK20 v0 v2 v3 v4 v5 v6 v7 (v8 + 1) T15 h
theorem L1_X9_runYears_76b {g : AxG} {l : Launch} {r9 : Int32} {S9 : AxS} (N : Nat) (K20 : Nat → Int32 → Int32 → Int32 → Int32 → Int32 → Int32 → Int32 → AxS → Option (Int32 × AxS)) (hK20 : ∀ (v0 : Nat) (v2 : Int32) (v3 : Int32) (v4 : Int32) (v5 : Int32) (v6 : Int32) (v7 : Int32) (v8 : Int32) (S : AxS), K20 v0 v2 v3 v4 v5 v6 v7 v8 S = some ((r9, S9)) → AW g l (axRm (5) 0 0) mt_X9_runYears (axMQ g 0 0 (.inl (some (.int r9)), S9)) 0 0 S 20 [(0, .ref v0), (2, .int v2), (3, .int v3), (4, .int v4), (5, .int v5), (6, .int v6), (7, .int v7), (8, .int v8)] []) (K76 : Nat → Int32 → Int32 → Int32 → Int32 → Int32 → Int32 → Int32 → Int32 → Int32 → AxS → Option (Int32 × AxS)) (hK76 : ∀ (v0 : Nat) (v2 : Int32) (v3 : Int32) (v4 : Int32) (v5 : Int32) (v6 : Int32) (v7 : Int32) (v8 : Int32) (v9 : Int32) (v10 : Int32) (S : AxS), K76 v0 v2 v3 v4 v5 v6 v7 v8 v9 v10 S = some ((r9, S9)) → AW g l (axRm (5) 0 0) mt_X9_runYears (axMQ g 0 0 (.inl (some (.int r9)), S9)) 0 0 S 76 [(0, .ref v0), (2, .int v2), (3, .int v3), (4, .int v4), (5, .int v5), (6, .int v6), (7, .int v7), (8, .int v8), (9, .int v9), (10, .int v10)] []) (v0 : Nat) (v2 : Int32) (v3 : Int32) (v4 : Int32) (v5 : Int32) (v6 : Int32) (v7 : Int32) (v8 : Int32) (v9 : Int32) (v10 : Int32) (S : AxS) (h : F_X9_runYears_76b N K20 K76 v0 v2 v3 v4 v5 v6 v7 v8 v9 v10 S = some ((r9, S9))) : AW g l (axRm (5) 0 0) mt_X9_runYears (axMQ g 0 0 (.inl (some (.int r9)), S9)) 0 0 S 76 [(0, .ref v0), (2, .int v2), (3, .int v3), (4, .int v4), (5, .int v5), (6, .int v6), (7, .int v7), (8, .int v8), (9, .int v9), (10, .int v10)] [] := by
  unfold F_X9_runYears_76b at h
  refine aw_iload 9 dX9_runYears_76 rfl ?_
  refine aw_aload_n 0 dX9_runYears_78 rfl rfl ?_
  refine aw_getR axc9 1 rfl rfl wd_454 dX9_runYears_79 h (fun a1 h => ?_)
  refine aw_getI axc1 3 rfl rfl wd_179 dX9_runYears_82 h (fun x2 h => ?_)
  refine aw_icmp_ge 116 dX9_runYears_85 (by decide) h (fun h => ?_) (fun h => ?_)
  · refine aw_env [(0, .ref v0), (2, .int v2), (3, .int v3), (4, .int v4), (5, .int v5), (6, .int v6), (7, .int v7), (8, .int v8), (9, .int v9)] [0, 1, 2, 3, 4, 5, 6, 7, 8] rfl ?_
    exact L1_X9_runYears_116 N K20 hK20 v0 v2 v3 v4 v5 v6 v7 v8 v9 S h
  · refine aw_aload_n 0 dX9_runYears_88 rfl rfl ?_
    refine aw_getR axc9 9 rfl rfl wd_462 dX9_runYears_89 h (fun a3 h => ?_)
    refine aw_iload 9 dX9_runYears_92 rfl ?_
    refine aw_aload_n 0 dX9_runYears_94 rfl rfl ?_
    refine aw_getR axc9 1 rfl rfl wd_454 dX9_runYears_95 h (fun a4 h => ?_)
    refine aw_getR axc1 8 rfl rfl wd_190 dX9_runYears_98 h (fun a5 h => ?_)
    refine aw_iload 9 dX9_runYears_101 rfl ?_
    refine aw_doneI (rest := [.int v10, .ref a3]) h (fun r9 S9 hF => aw_runS (As := [.ref a5, .int v10]) (rest := [.int v10, .ref a3]) (L1_X9_at N hF) wd_541 wd_874 wd_540 wd_87 pd_X9_at.2 rfl (ax_rm (by omega) rfl) ax_hf0 (Nat.le_of_ble_eq_true rfl) rfl dX9_runYears_103) (fun x7 T6 h => ?_)
    obtain ⟨hL8, h⟩ := ax_is_spec h
    refine aw_doneI (rest := []) h (fun r9 S9 hF => aw_runV (As := [.int v10, .int x7]) (rest := []) (L1_X5_gives N hF) axc5 hL8 wd_891 wd_888 wd_889 wd_890 wd_93 pd_X5_gives rfl (ax_rm (by omega) rfl) ax_hf0 (Nat.le_of_ble_eq_true rfl) rfl dX9_runYears_106) (fun x10 T9 h => ?_)
    refine aw_pop rfl dX9_runYears_109 ?_
    refine aw_iinc 9 [(10, .int (v10 + 1)), (0, .ref v0), (2, .int v2), (3, .int v3), (4, .int v4), (5, .int v5), (6, .int v6), (7, .int v7), (8, .int v8), (9, .int v9)] (v10 + 1) dX9_runYears_110 rfl rfl rfl rfl ?_
    refine aw_goto 76 dX9_runYears_113 (by decide) ?_
    refine aw_env [(0, .ref v0), (2, .int v2), (3, .int v3), (4, .int v4), (5, .int v5), (6, .int v6), (7, .int v7), (8, .int v8), (9, .int v9), (10, .int (v10 + 1))] [1, 2, 3, 4, 5, 6, 7, 8, 9, 0] rfl ?_
    exact hK76 v0 v2 v3 v4 v5 v6 v7 v8 v9 (v10 + 1) T9 h
theorem L1_X9_runYears_76 {g : AxG} {l : Launch} {r9 : Int32} {S9 : AxS} (N : Nat) (K20 : Nat → Int32 → Int32 → Int32 → Int32 → Int32 → Int32 → Int32 → AxS → Option (Int32 × AxS)) (hK20 : ∀ (v0 : Nat) (v2 : Int32) (v3 : Int32) (v4 : Int32) (v5 : Int32) (v6 : Int32) (v7 : Int32) (v8 : Int32) (S : AxS), K20 v0 v2 v3 v4 v5 v6 v7 v8 S = some ((r9, S9)) → AW g l (axRm (5) 0 0) mt_X9_runYears (axMQ g 0 0 (.inl (some (.int r9)), S9)) 0 0 S 20 [(0, .ref v0), (2, .int v2), (3, .int v3), (4, .int v4), (5, .int v5), (6, .int v6), (7, .int v7), (8, .int v8)] []) : ∀ (n : Nat) (v0 : Nat) (v2 : Int32) (v3 : Int32) (v4 : Int32) (v5 : Int32) (v6 : Int32) (v7 : Int32) (v8 : Int32) (v9 : Int32) (v10 : Int32) (S : AxS), F_X9_runYears_76 N K20 n v0 v2 v3 v4 v5 v6 v7 v8 v9 v10 S = some ((r9, S9)) → AW g l (axRm (5) 0 0) mt_X9_runYears (axMQ g 0 0 (.inl (some (.int r9)), S9)) 0 0 S 76 [(0, .ref v0), (2, .int v2), (3, .int v3), (4, .int v4), (5, .int v5), (6, .int v6), (7, .int v7), (8, .int v8), (9, .int v9), (10, .int v10)] [] := by
  intro n
  induction n with
  | zero => intro v0 v2 v3 v4 v5 v6 v7 v8 v9 v10 S h; cases h
  | succ n ih => intro v0 v2 v3 v4 v5 v6 v7 v8 v9 v10 S h; exact L1_X9_runYears_76b N K20 hK20 (F_X9_runYears_76 N K20 n) ih v0 v2 v3 v4 v5 v6 v7 v8 v9 v10 S h
theorem L1_X9_runYears_47 {g : AxG} {l : Launch} {r9 : Int32} {S9 : AxS} (N : Nat) (K20 : Nat → Int32 → Int32 → Int32 → Int32 → Int32 → Int32 → Int32 → AxS → Option (Int32 × AxS)) (hK20 : ∀ (v0 : Nat) (v2 : Int32) (v3 : Int32) (v4 : Int32) (v5 : Int32) (v6 : Int32) (v7 : Int32) (v8 : Int32) (S : AxS), K20 v0 v2 v3 v4 v5 v6 v7 v8 S = some ((r9, S9)) → AW g l (axRm (5) 0 0) mt_X9_runYears (axMQ g 0 0 (.inl (some (.int r9)), S9)) 0 0 S 20 [(0, .ref v0), (2, .int v2), (3, .int v3), (4, .int v4), (5, .int v5), (6, .int v6), (7, .int v7), (8, .int v8)] []) (v0 : Nat) (v2 : Int32) (v3 : Int32) (v4 : Int32) (v5 : Int32) (v6 : Int32) (v7 : Int32) (v8 : Int32) (w0 : Int32) (S : AxS) (h : F_X9_runYears_47 N K20 v0 v2 v3 v4 v5 v6 v7 v8 w0 S = some ((r9, S9))) : AW g l (axRm (5) 0 0) mt_X9_runYears (axMQ g 0 0 (.inl (some (.int r9)), S9)) 0 0 S 47 [(0, .ref v0), (2, .int v2), (3, .int v3), (4, .int v4), (5, .int v5), (6, .int v6), (7, .int v7), (8, .int v8)] [.int w0] := by
  unfold F_X9_runYears_47 at h
  refine aw_istore [(9, .int w0), (0, .ref v0), (2, .int v2), (3, .int v3), (4, .int v4), (5, .int v5), (6, .int v6), (7, .int v7), (8, .int v8)] dX9_runYears_47 rfl rfl ?_
  refine aw_iload 7 dX9_runYears_49 rfl ?_
  refine aw_iload 0 dX9_runYears_51 rfl ?_
  refine aw_iadd dX9_runYears_53 ?_
  refine aw_istore [(7, .int (v7 + w0)), (9, .int w0), (0, .ref v0), (2, .int v2), (3, .int v3), (4, .int v4), (5, .int v5), (6, .int v6), (8, .int v8)] dX9_runYears_54 rfl rfl ?_
  refine aw_iload 7 dX9_runYears_56 rfl ?_
  refine aw_doneI (rest := []) h (fun r9 S9 hF => aw_runS (As := [.int v6]) (rest := []) (L1_X9_nextSeed N hF) wd_1251 wd_1249 wd_1250 wd_87 pd_X9_nextSeed.2 rfl (ax_rm (by omega) rfl) ax_hf0 (Nat.le_of_ble_eq_true rfl) rfl dX9_runYears_58) (fun x2 T1 h => ?_)
  refine aw_istore [(6, .int x2), (7, .int (v7 + w0)), (9, .int w0), (0, .ref v0), (2, .int v2), (3, .int v3), (4, .int v4), (5, .int v5), (8, .int v8)] dX9_runYears_61 rfl rfl ?_
  refine aw_iload 0 dX9_runYears_63 rfl ?_
  refine aw_doneI (rest := []) h (fun r9 S9 hF => aw_runS (As := [.int x2]) (rest := []) (L1_X9_sixteenth N hF) wd_1255 wd_1253 wd_1254 wd_87 pd_X9_sixteenth.2 rfl (ax_rm (by omega) rfl) ax_hf0 (Nat.le_of_ble_eq_true rfl) rfl dX9_runYears_65) (fun x4 T3 h => ?_)
  refine aw_iload 6 dX9_runYears_68 rfl ?_
  refine aw_icmp_lt 116 dX9_runYears_70 (by decide) h (fun h => ?_) (fun h => ?_)
  · refine aw_env [(0, .ref v0), (2, .int v2), (3, .int v3), (4, .int v4), (5, .int v5), (6, .int x2), (7, .int (v7 + w0)), (8, .int v8), (9, .int w0)] [3, 4, 5, 6, 7, 0, 1, 8, 2] rfl ?_
    exact L1_X9_runYears_116 N K20 hK20 v0 v2 v3 v4 v5 x2 (v7 + w0) v8 w0 T3 h
  · refine aw_iconst 0 dX9_runYears_73 rfl ?_
    refine aw_istore [(10, .int 0), (6, .int x2), (7, .int (v7 + w0)), (9, .int w0), (0, .ref v0), (2, .int v2), (3, .int v3), (4, .int v4), (5, .int v5), (8, .int v8)] dX9_runYears_74 rfl rfl ?_
    refine aw_env [(0, .ref v0), (2, .int v2), (3, .int v3), (4, .int v4), (5, .int v5), (6, .int x2), (7, .int (v7 + w0)), (8, .int v8), (9, .int w0), (10, .int 0)] [4, 5, 6, 7, 8, 1, 2, 9, 3, 0] rfl ?_
    exact L1_X9_runYears_76 N K20 hK20 N v0 v2 v3 v4 v5 x2 (v7 + w0) v8 w0 0 T3 h
theorem L1_X9_runYears_20b {g : AxG} {l : Launch} {r9 : Int32} {S9 : AxS} (N : Nat) (K20 : Nat → Int32 → Int32 → Int32 → Int32 → Int32 → Int32 → Int32 → AxS → Option (Int32 × AxS)) (hK20 : ∀ (v0 : Nat) (v2 : Int32) (v3 : Int32) (v4 : Int32) (v5 : Int32) (v6 : Int32) (v7 : Int32) (v8 : Int32) (S : AxS), K20 v0 v2 v3 v4 v5 v6 v7 v8 S = some ((r9, S9)) → AW g l (axRm (5) 0 0) mt_X9_runYears (axMQ g 0 0 (.inl (some (.int r9)), S9)) 0 0 S 20 [(0, .ref v0), (2, .int v2), (3, .int v3), (4, .int v4), (5, .int v5), (6, .int v6), (7, .int v7), (8, .int v8)] []) (v0 : Nat) (v2 : Int32) (v3 : Int32) (v4 : Int32) (v5 : Int32) (v6 : Int32) (v7 : Int32) (v8 : Int32) (S : AxS) (h : F_X9_runYears_20b N K20 v0 v2 v3 v4 v5 v6 v7 v8 S = some ((r9, S9))) : AW g l (axRm (5) 0 0) mt_X9_runYears (axMQ g 0 0 (.inl (some (.int r9)), S9)) 0 0 S 20 [(0, .ref v0), (2, .int v2), (3, .int v3), (4, .int v4), (5, .int v5), (6, .int v6), (7, .int v7), (8, .int v8)] [] := by
  unfold F_X9_runYears_20b at h
  refine aw_iload 7 dX9_runYears_20 rfl ?_
  refine aw_iload_n 1 dX9_runYears_22 rfl rfl ?_
  refine aw_icmp_ge 163 dX9_runYears_23 (by decide) h (fun h => ?_) (fun h => ?_)
  · refine aw_iload 6 dX9_runYears_163 rfl ?_
    exact aw_iret dX9_runYears_165 rfl (Nat.le_refl _) (Nat.le_refl _) h
  · refine aw_iload 5 dX9_runYears_26 rfl ?_
    refine aw_doneI (rest := []) h (fun r9 S9 hF => aw_runS (As := [.int v6]) (rest := []) (L1_X9_nextSeed N hF) wd_1251 wd_1249 wd_1250 wd_87 pd_X9_nextSeed.2 rfl (ax_rm (by omega) rfl) ax_hf0 (Nat.le_of_ble_eq_true rfl) rfl dX9_runYears_28) (fun x2 T1 h => ?_)
    refine aw_istore [(6, .int x2), (0, .ref v0), (2, .int v2), (3, .int v3), (4, .int v4), (5, .int v5), (7, .int v7), (8, .int v8)] dX9_runYears_31 rfl rfl ?_
    refine aw_iload 0 dX9_runYears_33 rfl ?_
    refine aw_doneI (rest := []) h (fun r9 S9 hF => aw_runS (As := [.int x2]) (rest := []) (L1_X9_sixteenth N hF) wd_1255 wd_1253 wd_1254 wd_87 pd_X9_sixteenth.2 rfl (ax_rm (by omega) rfl) ax_hf0 (Nat.le_of_ble_eq_true rfl) rfl dX9_runYears_35) (fun x4 T3 h => ?_)
    refine aw_iload_n 3 dX9_runYears_38 rfl rfl ?_
    refine aw_icmp_ge 46 dX9_runYears_39 (by decide) h (fun h => ?_) (fun h => ?_)
    · refine aw_iconst 0 dX9_runYears_46 rfl ?_
      refine aw_env [(0, .ref v0), (2, .int v2), (3, .int v3), (4, .int v4), (5, .int v5), (6, .int x2), (7, .int v7), (8, .int v8)] [1, 2, 3, 4, 5, 0, 6, 7] rfl ?_
      exact L1_X9_runYears_47 N K20 hK20 v0 v2 v3 v4 v5 x2 v7 v8 0 T3 h
    · refine aw_iconst 1 dX9_runYears_42 rfl ?_
      refine aw_goto 47 dX9_runYears_43 (by decide) ?_
      refine aw_env [(0, .ref v0), (2, .int v2), (3, .int v3), (4, .int v4), (5, .int v5), (6, .int x2), (7, .int v7), (8, .int v8)] [1, 2, 3, 4, 5, 0, 6, 7] rfl ?_
      exact L1_X9_runYears_47 N K20 hK20 v0 v2 v3 v4 v5 x2 v7 v8 1 T3 h
theorem L1_X9_runYears_20 {g : AxG} {l : Launch} {r9 : Int32} {S9 : AxS} (N : Nat)  : ∀ (n : Nat) (v0 : Nat) (v2 : Int32) (v3 : Int32) (v4 : Int32) (v5 : Int32) (v6 : Int32) (v7 : Int32) (v8 : Int32) (S : AxS), F_X9_runYears_20 N  n v0 v2 v3 v4 v5 v6 v7 v8 S = some ((r9, S9)) → AW g l (axRm (5) 0 0) mt_X9_runYears (axMQ g 0 0 (.inl (some (.int r9)), S9)) 0 0 S 20 [(0, .ref v0), (2, .int v2), (3, .int v3), (4, .int v4), (5, .int v5), (6, .int v6), (7, .int v7), (8, .int v8)] [] := by
  intro n
  induction n with
  | zero => intro v0 v2 v3 v4 v5 v6 v7 v8 S h; cases h
  | succ n ih => intro v0 v2 v3 v4 v5 v6 v7 v8 S h; exact L1_X9_runYears_20b N (F_X9_runYears_20 N  n) ih v0 v2 v3 v4 v5 v6 v7 v8 S h
theorem L1_X9_runYears {g : AxG} {l : Launch} (N : Nat) {v0 : Nat} {v1 : Int32} {v2 : Int32} {v3 : Int32} {v4 : Int32} {v5 : Int32} {S : AxS} {r9 : Int32} {S9 : AxS} (h : F_X9_runYears N v0 v1 v2 v3 v4 v5 S = some ((r9, S9))) : AxMet g l yX9_runYears cX9_runYears 11 (some .int) (5) 0 0 [.ref v0, .int v1, .int v2, .int v3, .int v4, .int v5] S ((.inl (some (.int r9)), S9)) := by
  refine ax_met (own := RX9) (ini := false) (by decide +kernel) rfl (fun h => nomatch h) rfl ?_
  show AW g l (axRm (5) 0 0) mt_X9_runYears (axMQ g 0 0 (.inl (some (.int r9)), S9)) 0 0 S 0 [(0, .ref v0), (1, .int v1), (2, .int v2), (3, .int v3), (4, .int v4), (5, .int v5)] []
  unfold F_X9_runYears at h
  refine aw_aload_n 0 dX9_runYears_0 rfl rfl ?_
  refine aw_getR axc9 9 rfl rfl wd_462 dX9_runYears_1 h (fun a1 h => ?_)
  refine aw_aload_n 0 dX9_runYears_4 rfl rfl ?_
  refine aw_getR axc9 8 rfl rfl wd_461 dX9_runYears_5 h (fun a2 h => ?_)
  obtain ⟨hL3, h⟩ := ax_is_spec h
  refine aw_doneV (rest := []) h (fun S9 hF => aw_runV (As := [.ref a2]) (rest := []) (L1_X5_take N hF) axc5 hL3 wd_538 wd_583 wd_536 wd_537 wd_93 pd_X5_take rfl (ax_rm (by omega) rfl) ax_hf0 (Nat.le_of_ble_eq_true rfl) rfl dX9_runYears_8) (fun T4 h => ?_)
  refine aw_iload_n 1 dX9_runYears_11 rfl rfl ?_
  refine aw_istore [(6, .int v1), (0, .ref v0), (1, .int v1), (2, .int v2), (3, .int v3), (4, .int v4), (5, .int v5)] dX9_runYears_12 rfl rfl ?_
  refine aw_iconst 0 dX9_runYears_14 rfl ?_
  refine aw_istore [(7, .int 0), (6, .int v1), (0, .ref v0), (1, .int v1), (2, .int v2), (3, .int v3), (4, .int v4), (5, .int v5)] dX9_runYears_15 rfl rfl ?_
  refine aw_iconst 0 dX9_runYears_17 rfl ?_
  refine aw_istore [(8, .int 0), (7, .int 0), (6, .int v1), (0, .ref v0), (1, .int v1), (2, .int v2), (3, .int v3), (4, .int v4), (5, .int v5)] dX9_runYears_18 rfl rfl ?_
  refine aw_env [(0, .ref v0), (2, .int v2), (3, .int v3), (4, .int v4), (5, .int v5), (6, .int v1), (7, .int 0), (8, .int 0)] [3, 5, 6, 7, 8, 2, 1, 0] rfl ?_
  exact L1_X9_runYears_20 N  N v0 v2 v3 v4 v5 v1 0 0 T4 h

theorem dX9_years_0 : decode cX9_years 0 = .ok (.aload_n 0, 1) := by decide +kernel
theorem dX9_years_1 : decode cX9_years 1 = .ok (.iload_n 2, 1) := by decide +kernel
theorem dX9_years_2 : decode cX9_years 2 = .ok (.iload_n 3, 1) := by decide +kernel
theorem dX9_years_3 : decode cX9_years 3 = .ok (.iload 4, 2) := by decide +kernel
theorem dX9_years_5 : decode cX9_years 5 = .ok (.iload 5, 2) := by decide +kernel
theorem dX9_years_7 : decode cX9_years 7 = .ok (.invokevirtual 282, 3) := by decide +kernel
theorem dX9_years_10 : decode cX9_years 10 = .ok (.aload_n 0, 1) := by decide +kernel
theorem dX9_years_11 : decode cX9_years 11 = .ok (.iload 6, 2) := by decide +kernel
theorem dX9_years_13 : decode cX9_years 13 = .ok (.ifCond .lt 13, 3) := by decide +kernel
theorem dX9_years_16 : decode cX9_years 16 = .ok (.iload 6, 2) := by decide +kernel
theorem dX9_years_18 : decode cX9_years 18 = .ok (.iconst 3, 1) := by decide +kernel
theorem dX9_years_19 : decode cX9_years 19 = .ok (.if_icmp .gt 7, 3) := by decide +kernel
theorem dX9_years_22 : decode cX9_years 22 = .ok (.iconst 1, 1) := by decide +kernel
theorem dX9_years_23 : decode cX9_years 23 = .ok (.goto 4, 3) := by decide +kernel
theorem dX9_years_26 : decode cX9_years 26 = .ok (.iconst 0, 1) := by decide +kernel
theorem dX9_years_27 : decode cX9_years 27 = .ok (.invokevirtual 128, 3) := by decide +kernel
theorem dX9_years_30 : decode cX9_years 30 = .ok (.aload_n 0, 1) := by decide +kernel
theorem dX9_years_31 : decode cX9_years 31 = .ok (.iload_n 1, 1) := by decide +kernel
theorem dX9_years_32 : decode cX9_years 32 = .ok (.iload_n 2, 1) := by decide +kernel
theorem dX9_years_33 : decode cX9_years 33 = .ok (.iload_n 3, 1) := by decide +kernel
theorem dX9_years_34 : decode cX9_years 34 = .ok (.iload 4, 2) := by decide +kernel
theorem dX9_years_36 : decode cX9_years 36 = .ok (.iload 5, 2) := by decide +kernel
theorem dX9_years_38 : decode cX9_years 38 = .ok (.invokevirtual 286, 3) := by decide +kernel
theorem dX9_years_41 : decode cX9_years 41 = .ok (.istore 7, 2) := by decide +kernel
theorem dX9_years_43 : decode cX9_years 43 = .ok (.iload 6, 2) := by decide +kernel
theorem dX9_years_45 : decode cX9_years 45 = .ok (.tableswitch 67 0 2 #[27, 35, 51], 27) := by decide +kernel
theorem dX9_years_72 : decode cX9_years 72 = .ok (.aload_n 0, 1) := by decide +kernel
theorem dX9_years_73 : decode cX9_years 73 = .ok (.getfield 60, 3) := by decide +kernel
theorem dX9_years_76 : decode cX9_years 76 = .ok (.getfield 174, 3) := by decide +kernel
theorem dX9_years_79 : decode cX9_years 79 = .ok (.ireturn, 1) := by decide +kernel
theorem dX9_years_80 : decode cX9_years 80 = .ok (.aload_n 0, 1) := by decide +kernel
theorem dX9_years_81 : decode cX9_years 81 = .ok (.getfield 60, 3) := by decide +kernel
theorem dX9_years_84 : decode cX9_years 84 = .ok (.getfield 198, 3) := by decide +kernel
theorem dX9_years_87 : decode cX9_years 87 = .ok (.aload_n 0, 1) := by decide +kernel
theorem dX9_years_88 : decode cX9_years 88 = .ok (.getfield 56, 3) := by decide +kernel
theorem dX9_years_91 : decode cX9_years 91 = .ok (.getfield 198, 3) := by decide +kernel
theorem dX9_years_94 : decode cX9_years 94 = .ok (.isub, 1) := by decide +kernel
theorem dX9_years_95 : decode cX9_years 95 = .ok (.ireturn, 1) := by decide +kernel
theorem dX9_years_96 : decode cX9_years 96 = .ok (.aload_n 0, 1) := by decide +kernel
theorem dX9_years_97 : decode cX9_years 97 = .ok (.getfield 60, 3) := by decide +kernel
theorem dX9_years_100 : decode cX9_years 100 = .ok (.getfield 201, 3) := by decide +kernel
theorem dX9_years_103 : decode cX9_years 103 = .ok (.aload_n 0, 1) := by decide +kernel
theorem dX9_years_104 : decode cX9_years 104 = .ok (.getfield 56, 3) := by decide +kernel
theorem dX9_years_107 : decode cX9_years 107 = .ok (.getfield 201, 3) := by decide +kernel
theorem dX9_years_110 : decode cX9_years 110 = .ok (.isub, 1) := by decide +kernel
theorem dX9_years_111 : decode cX9_years 111 = .ok (.ireturn, 1) := by decide +kernel
theorem dX9_years_112 : decode cX9_years 112 = .ok (.iload 7, 2) := by decide +kernel
theorem dX9_years_114 : decode cX9_years 114 = .ok (.ireturn, 1) := by decide +kernel
abbrev mt_X9_years : AxM := (RX9, cX9_years, 8, (some .int), false, [])
theorem L1_X9_years_27 {g : AxG} {l : Launch} (hl0 : l.stackTraces = false) {res : AxT Int32} (N : Nat)  (v0 : Nat) (v1 : Int32) (v2 : Int32) (v3 : Int32) (v4 : Int32) (v5 : Int32) (v6 : Int32) (w0 : Int32) (w1 : Nat) (S : AxS) (h : F_X9_years_27 N  v0 v1 v2 v3 v4 v5 v6 w0 w1 S = some res) : AW g l (axRm (10) (axCs (axOI res)) (6 * axCs (axOI res))) mt_X9_years (axMQ g (axCs (axOI res)) (6 * axCs (axOI res)) (axOI res)) 0 0 S 27 [(0, .ref v0), (1, .int v1), (2, .int v2), (3, .int v3), (4, .int v4), (5, .int v5), (6, .int v6)] [.int w0, .ref w1] := by
  unfold F_X9_years_27 at h
  obtain ⟨hL1, h⟩ := ax_is_spec h
  refine aw_thV (ob := axOI) (rest := []) (fun _ _ => rfl) rfl h (fun u9 hF hu => aw_runV (As := [.int w0]) (rest := []) (L1_X9_needArgument hl0 N hF) axc9 hL1 wd_604 wd_601 wd_603 wd_3 wd_87 pd_X9_needArgument rfl (ax_rm (by omega) rfl) (ax_hfV (fun _ _ => rfl) hu) (Nat.le_of_ble_eq_true rfl) rfl dX9_years_27) (fun T2 h => ?_)
  refine aw_aload_n 0 dX9_years_30 rfl rfl ?_
  refine aw_iload_n 1 dX9_years_31 rfl rfl ?_
  refine aw_iload_n 2 dX9_years_32 rfl rfl ?_
  refine aw_iload_n 3 dX9_years_33 rfl rfl ?_
  refine aw_iload 4 dX9_years_34 rfl ?_
  refine aw_iload 5 dX9_years_36 rfl ?_
  obtain ⟨hL4, h⟩ := ax_is_spec h
  refine aw_doneI (rest := []) h (fun r9 S9 hF => aw_runV (As := [.int v1, .int v2, .int v3, .int v4, .int v5]) (rest := []) (L1_X9_runYears N hF) axc9 hL4 wd_1248 wd_1245 wd_1247 wd_34 wd_87 pd_X9_runYears rfl (ax_rm (by omega) rfl) ax_hf0 (Nat.le_of_ble_eq_true rfl) rfl dX9_years_38) (fun x6 T5 h => ?_)
  refine aw_istore [(7, .int x6), (0, .ref v0), (1, .int v1), (2, .int v2), (3, .int v3), (4, .int v4), (5, .int v5), (6, .int v6)] dX9_years_41 rfl rfl ?_
  refine aw_iload 7 dX9_years_43 rfl ?_
  refine aw_case 0 h (fun h => ?_) (fun c9 h => ?_)
  · refine aw_tswIn 72 (off := 27) dX9_years_45 (by decide) (by decide) (by decide) (by decide) ?_
    refine aw_aload_n 1 dX9_years_72 rfl rfl ?_
    refine aw_getR axc9 9 rfl rfl wd_462 dX9_years_73 h (fun a7 h => ?_)
    refine aw_getI axc5 0 rfl rfl wd_293 dX9_years_76 h (fun x8 h => ?_)
    exact aw_iretT dX9_years_79 rfl h
  refine aw_case 1 h (fun h => ?_) (fun c14 h => ?_)
  · refine aw_tswIn 80 (off := 35) dX9_years_45 (by decide) (by decide) (by decide) (by decide) ?_
    refine aw_aload_n 1 dX9_years_80 rfl rfl ?_
    refine aw_getR axc9 9 rfl rfl wd_462 dX9_years_81 h (fun a10 h => ?_)
    refine aw_getI axc5 10 rfl rfl wd_313 dX9_years_84 h (fun x11 h => ?_)
    refine aw_aload_n 1 dX9_years_87 rfl rfl ?_
    refine aw_getR axc9 8 rfl rfl wd_461 dX9_years_88 h (fun a12 h => ?_)
    refine aw_getI axc5 10 rfl rfl wd_313 dX9_years_91 h (fun x13 h => ?_)
    refine aw_isub dX9_years_94 ?_
    exact aw_iretT dX9_years_95 rfl h
  refine aw_case 2 h (fun h => ?_) (fun c19 h => ?_)
  · refine aw_tswIn 96 (off := 51) dX9_years_45 (by decide) (by decide) (by decide) (by decide) ?_
    refine aw_aload_n 1 dX9_years_96 rfl rfl ?_
    refine aw_getR axc9 9 rfl rfl wd_462 dX9_years_97 h (fun a15 h => ?_)
    refine aw_getI axc5 11 rfl rfl wd_315 dX9_years_100 h (fun x16 h => ?_)
    refine aw_aload_n 1 dX9_years_103 rfl rfl ?_
    refine aw_getR axc9 8 rfl rfl wd_461 dX9_years_104 h (fun a17 h => ?_)
    refine aw_getI axc5 11 rfl rfl wd_315 dX9_years_107 h (fun x18 h => ?_)
    refine aw_isub dX9_years_110 ?_
    exact aw_iretT dX9_years_111 rfl h
  refine aw_tswOut 112 dX9_years_45 (by have q0 := ax_i32ne c9 (v := 0) (i := 0) (by decide); have q1 := ax_i32ne c14 (v := 1) (i := 1) (by decide); have q2 := ax_i32ne c19 (v := 2) (i := 2) (by decide); omega) (by decide) ?_
  refine aw_iload 0 dX9_years_112 rfl ?_
  exact aw_iretT dX9_years_114 rfl h
theorem L1_X9_years_26 {g : AxG} {l : Launch} (hl0 : l.stackTraces = false) {res : AxT Int32} (N : Nat)  (v0 : Nat) (v1 : Int32) (v2 : Int32) (v3 : Int32) (v4 : Int32) (v5 : Int32) (v6 : Int32) (w0 : Nat) (S : AxS) (h : F_X9_years_26 N  v0 v1 v2 v3 v4 v5 v6 w0 S = some res) : AW g l (axRm (10) (axCs (axOI res)) (6 * axCs (axOI res))) mt_X9_years (axMQ g (axCs (axOI res)) (6 * axCs (axOI res)) (axOI res)) 0 0 S 26 [(0, .ref v0), (1, .int v1), (2, .int v2), (3, .int v3), (4, .int v4), (5, .int v5), (6, .int v6)] [.ref w0] := by
  unfold F_X9_years_26 at h
  refine aw_iconst 0 dX9_years_26 rfl ?_
  refine aw_env [(0, .ref v0), (1, .int v1), (2, .int v2), (3, .int v3), (4, .int v4), (5, .int v5), (6, .int v6)] [0, 1, 2, 3, 4, 5, 6] rfl ?_
  exact L1_X9_years_27 hl0 N  v0 v1 v2 v3 v4 v5 v6 0 w0 S h
theorem L1_X9_years {g : AxG} {l : Launch} (hl0 : l.stackTraces = false) (N : Nat) {v0 : Nat} {v1 : Int32} {v2 : Int32} {v3 : Int32} {v4 : Int32} {v5 : Int32} {v6 : Int32} {S : AxS} {res : AxT Int32} (h : F_X9_years N v0 v1 v2 v3 v4 v5 v6 S = some res) : AxMet g l yX9_years cX9_years 8 (some .int) (10) (axCs (axOI res)) (6 * axCs (axOI res)) [.ref v0, .int v1, .int v2, .int v3, .int v4, .int v5, .int v6] S (axOI res) := by
  refine ax_met (own := RX9) (ini := false) (by decide +kernel) rfl (fun h => nomatch h) rfl ?_
  show AW g l (axRm (10) (axCs (axOI res)) (6 * axCs (axOI res))) mt_X9_years (axMQ g (axCs (axOI res)) (6 * axCs (axOI res)) (axOI res)) 0 0 S 0 [(0, .ref v0), (1, .int v1), (2, .int v2), (3, .int v3), (4, .int v4), (5, .int v5), (6, .int v6)] []
  unfold F_X9_years at h
  refine aw_aload_n 0 dX9_years_0 rfl rfl ?_
  refine aw_iload_n 2 dX9_years_1 rfl rfl ?_
  refine aw_iload_n 3 dX9_years_2 rfl rfl ?_
  refine aw_iload 4 dX9_years_3 rfl ?_
  refine aw_iload 5 dX9_years_5 rfl ?_
  obtain ⟨hL1, h⟩ := ax_is_spec h
  refine aw_thV (ob := axOI) (rest := []) (fun _ _ => rfl) rfl h (fun u9 hF hu => aw_runV (As := [.int v2, .int v3, .int v4, .int v5]) (rest := []) (L1_X9_needYears hl0 N hF) axc9 hL1 wd_1244 wd_1241 wd_1243 wd_33 wd_87 pd_X9_needYears rfl (ax_rm (by omega) rfl) (ax_hfV (fun _ _ => rfl) hu) (Nat.le_of_ble_eq_true rfl) rfl dX9_years_7) (fun T2 h => ?_)
  refine aw_aload_n 0 dX9_years_10 rfl rfl ?_
  refine aw_iload 6 dX9_years_11 rfl ?_
  refine aw_if_lt 26 dX9_years_13 (by decide) h (fun h => ?_) (fun h => ?_)
  · refine aw_env [(0, .ref v0), (1, .int v1), (2, .int v2), (3, .int v3), (4, .int v4), (5, .int v5), (6, .int v6)] [0, 1, 2, 3, 4, 5, 6] rfl ?_
    exact L1_X9_years_26 hl0 N  v0 v1 v2 v3 v4 v5 v6 v0 T2 h
  · refine aw_iload 6 dX9_years_16 rfl ?_
    refine aw_iconst 3 dX9_years_18 rfl ?_
    refine aw_icmp_gt 26 dX9_years_19 (by decide) h (fun h => ?_) (fun h => ?_)
    · refine aw_env [(0, .ref v0), (1, .int v1), (2, .int v2), (3, .int v3), (4, .int v4), (5, .int v5), (6, .int v6)] [0, 1, 2, 3, 4, 5, 6] rfl ?_
      exact L1_X9_years_26 hl0 N  v0 v1 v2 v3 v4 v5 v6 v0 T2 h
    · refine aw_iconst 1 dX9_years_22 rfl ?_
      refine aw_goto 27 dX9_years_23 (by decide) ?_
      refine aw_env [(0, .ref v0), (1, .int v1), (2, .int v2), (3, .int v3), (4, .int v4), (5, .int v5), (6, .int v6)] [0, 1, 2, 3, 4, 5, 6] rfl ?_
      exact L1_X9_years_27 hl0 N  v0 v1 v2 v3 v4 v5 v6 1 v0 T2 h
