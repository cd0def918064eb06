theorem dX6_readNumbers_0 : decode cX6_readNumbers 0 = .ok (.iload 4, 2) := by decide +kernel
theorem dX6_readNumbers_2 : decode cX6_readNumbers 2 = .ok (.tableswitch 142 1 7 #[42, 61, 142, 42, 83, 142, 124], 42) := by decide +kernel
theorem dX6_readNumbers_44 : decode cX6_readNumbers 44 = .ok (.aload_n 0, 1) := by decide +kernel
theorem dX6_readNumbers_45 : decode cX6_readNumbers 45 = .ok (.getfield 15, 3) := by decide +kernel
theorem dX6_readNumbers_48 : decode cX6_readNumbers 48 = .ok (.iload_n 3, 1) := by decide +kernel
theorem dX6_readNumbers_49 : decode cX6_readNumbers 49 = .ok (.aload_n 1, 1) := by decide +kernel
theorem dX6_readNumbers_50 : decode cX6_readNumbers 50 = .ok (.iconst 1, 1) := by decide +kernel
theorem dX6_readNumbers_51 : decode cX6_readNumbers 51 = .ok (.sipush 999, 3) := by decide +kernel
theorem dX6_readNumbers_54 : decode cX6_readNumbers 54 = .ok (.invokevirtual 67, 3) := by decide +kernel
theorem dX6_readNumbers_57 : decode cX6_readNumbers 57 = .ok (.invokestatic 55, 3) := by decide +kernel
theorem dX6_readNumbers_60 : decode cX6_readNumbers 60 = .ok (.goto 84, 3) := by decide +kernel
theorem dX6_readNumbers_63 : decode cX6_readNumbers 63 = .ok (.aload_n 0, 1) := by decide +kernel
theorem dX6_readNumbers_64 : decode cX6_readNumbers 64 = .ok (.getfield 15, 3) := by decide +kernel
theorem dX6_readNumbers_67 : decode cX6_readNumbers 67 = .ok (.iload_n 3, 1) := by decide +kernel
theorem dX6_readNumbers_68 : decode cX6_readNumbers 68 = .ok (.aload_n 1, 1) := by decide +kernel
theorem dX6_readNumbers_69 : decode cX6_readNumbers 69 = .ok (.iconst 0, 1) := by decide +kernel
theorem dX6_readNumbers_70 : decode cX6_readNumbers 70 = .ok (.aload_n 2, 1) := by decide +kernel
theorem dX6_readNumbers_71 : decode cX6_readNumbers 71 = .ok (.getfield 71, 3) := by decide +kernel
theorem dX6_readNumbers_74 : decode cX6_readNumbers 74 = .ok (.iconst 1, 1) := by decide +kernel
theorem dX6_readNumbers_75 : decode cX6_readNumbers 75 = .ok (.isub, 1) := by decide +kernel
theorem dX6_readNumbers_76 : decode cX6_readNumbers 76 = .ok (.invokevirtual 67, 3) := by decide +kernel
theorem dX6_readNumbers_79 : decode cX6_readNumbers 79 = .ok (.invokestatic 55, 3) := by decide +kernel
theorem dX6_readNumbers_82 : decode cX6_readNumbers 82 = .ok (.goto 62, 3) := by decide +kernel
theorem dX6_readNumbers_85 : decode cX6_readNumbers 85 = .ok (.aload_n 0, 1) := by decide +kernel
theorem dX6_readNumbers_86 : decode cX6_readNumbers 86 = .ok (.getfield 15, 3) := by decide +kernel
theorem dX6_readNumbers_89 : decode cX6_readNumbers 89 = .ok (.iload_n 3, 1) := by decide +kernel
theorem dX6_readNumbers_90 : decode cX6_readNumbers 90 = .ok (.aload_n 1, 1) := by decide +kernel
theorem dX6_readNumbers_91 : decode cX6_readNumbers 91 = .ok (.iconst 0, 1) := by decide +kernel
theorem dX6_readNumbers_92 : decode cX6_readNumbers 92 = .ok (.aload_n 2, 1) := by decide +kernel
theorem dX6_readNumbers_93 : decode cX6_readNumbers 93 = .ok (.getfield 76, 3) := by decide +kernel
theorem dX6_readNumbers_96 : decode cX6_readNumbers 96 = .ok (.iconst 1, 1) := by decide +kernel
theorem dX6_readNumbers_97 : decode cX6_readNumbers 97 = .ok (.isub, 1) := by decide +kernel
theorem dX6_readNumbers_98 : decode cX6_readNumbers 98 = .ok (.invokevirtual 67, 3) := by decide +kernel
theorem dX6_readNumbers_101 : decode cX6_readNumbers 101 = .ok (.invokestatic 55, 3) := by decide +kernel
theorem dX6_readNumbers_104 : decode cX6_readNumbers 104 = .ok (.aload_n 0, 1) := by decide +kernel
theorem dX6_readNumbers_105 : decode cX6_readNumbers 105 = .ok (.getfield 18, 3) := by decide +kernel
theorem dX6_readNumbers_108 : decode cX6_readNumbers 108 = .ok (.iload_n 3, 1) := by decide +kernel
theorem dX6_readNumbers_109 : decode cX6_readNumbers 109 = .ok (.aload_n 1, 1) := by decide +kernel
theorem dX6_readNumbers_110 : decode cX6_readNumbers 110 = .ok (.iconst 0, 1) := by decide +kernel
theorem dX6_readNumbers_111 : decode cX6_readNumbers 111 = .ok (.aload_n 2, 1) := by decide +kernel
theorem dX6_readNumbers_112 : decode cX6_readNumbers 112 = .ok (.getfield 76, 3) := by decide +kernel
theorem dX6_readNumbers_115 : decode cX6_readNumbers 115 = .ok (.iconst 1, 1) := by decide +kernel
theorem dX6_readNumbers_116 : decode cX6_readNumbers 116 = .ok (.isub, 1) := by decide +kernel
theorem dX6_readNumbers_117 : decode cX6_readNumbers 117 = .ok (.invokevirtual 67, 3) := by decide +kernel
theorem dX6_readNumbers_120 : decode cX6_readNumbers 120 = .ok (.invokestatic 55, 3) := by decide +kernel
theorem dX6_readNumbers_123 : decode cX6_readNumbers 123 = .ok (.goto 21, 3) := by decide +kernel
theorem dX6_readNumbers_126 : decode cX6_readNumbers 126 = .ok (.aload_n 0, 1) := by decide +kernel
theorem dX6_readNumbers_127 : decode cX6_readNumbers 127 = .ok (.getfield 15, 3) := by decide +kernel
theorem dX6_readNumbers_130 : decode cX6_readNumbers 130 = .ok (.iload_n 3, 1) := by decide +kernel
theorem dX6_readNumbers_131 : decode cX6_readNumbers 131 = .ok (.aload_n 1, 1) := by decide +kernel
theorem dX6_readNumbers_132 : decode cX6_readNumbers 132 = .ok (.iconst 0, 1) := by decide +kernel
theorem dX6_readNumbers_133 : decode cX6_readNumbers 133 = .ok (.bipush 30, 2) := by decide +kernel
theorem dX6_readNumbers_135 : decode cX6_readNumbers 135 = .ok (.invokevirtual 67, 3) := by decide +kernel
theorem dX6_readNumbers_138 : decode cX6_readNumbers 138 = .ok (.invokestatic 55, 3) := by decide +kernel
theorem dX6_readNumbers_141 : decode cX6_readNumbers 141 = .ok (.goto 3, 3) := by decide +kernel
theorem dX6_readNumbers_144 : decode cX6_readNumbers 144 = .ok (.return_, 1) := by decide +kernel
abbrev mt_X6_readNumbers : AxM := (RX6, cX6_readNumbers, 5, none, false, [])
theorem L1_X6_readNumbers_44 {g : AxG} {l : Launch} {S9 : AxS} (N : Nat)  (v0 : Nat) (v1 : Nat) (v3 : Int32) (S : AxS) (h : F_X6_readNumbers_44 N  v0 v1 v3 S = some S9) : AW g l (axRm (3) 0 0) mt_X6_readNumbers (axMQ g 0 0 (.inl none, S9)) 0 0 S 44 [(0, .ref v0), (1, .ref v1), (3, .int v3)] [] := by
  unfold F_X6_readNumbers_44 at h
  refine aw_aload_n 0 dX6_readNumbers_44 rfl rfl ?_
  refine aw_getR axc6 1 rfl rfl wd_265 dX6_readNumbers_45 h (fun a1 h => ?_)
  refine aw_iload_n 2 dX6_readNumbers_48 rfl rfl ?_
  refine aw_aload_n 1 dX6_readNumbers_49 rfl rfl ?_
  refine aw_iconst 1 dX6_readNumbers_50 rfl ?_
  refine aw_sipush 999 dX6_readNumbers_51 (by decide) ?_
  obtain ⟨hL2, h⟩ := ax_is_spec h
  refine aw_doneI (rest := [.int v3, .ref a1]) h (fun r9 S9 hF => aw_runV (As := [.int 1, .int 999]) (rest := [.int v3, .ref a1]) (L1_X7_number N hF) axc7 hL2 wd_772 wd_864 wd_770 wd_771 wd_88 pd_X7_number rfl (ax_rm (by omega) rfl) ax_hf0 (Nat.le_of_ble_eq_true rfl) rfl dX6_readNumbers_54) (fun x4 T3 h => ?_)
  refine aw_doneV (rest := []) h (fun S9 hF => aw_runSN (As := [.ref a1, .int v3, .int x4]) (rest := []) (L1_X9_put N hF) wd_443 wd_859 wd_442 wd_87 pd_X9_put.2 rfl (ax_rm (by omega) rfl) ax_hf0 (Nat.le_of_ble_eq_true rfl) rfl dX6_readNumbers_57) (fun T5 h => ?_)
  refine aw_goto 144 dX6_readNumbers_60 (by decide) ?_
  exact aw_vret dX6_readNumbers_144 rfl (Nat.le_refl _) (Nat.le_refl _) h
theorem L1_X6_readNumbers {g : AxG} {l : Launch} (N : Nat) {v0 : Nat} {v1 : Nat} {v2 : Nat} {v3 : Int32} {v4 : Int32} {S : AxS} {S9 : AxS} (h : F_X6_readNumbers N v0 v1 v2 v3 v4 S = some S9) : AxMet g l yX6_readNumbers cX6_readNumbers 5 none (3) 0 0 [.ref v0, .ref v1, .ref v2, .int v3, .int v4] S ((.inl none, S9)) := by
  refine ax_met (own := RX6) (ini := false) (by decide +kernel) rfl (fun h => nomatch h) rfl ?_
  show AW g l (axRm (3) 0 0) mt_X6_readNumbers (axMQ g 0 0 (.inl none, S9)) 0 0 S 0 [(0, .ref v0), (1, .ref v1), (2, .ref v2), (3, .int v3), (4, .int v4)] []
  unfold F_X6_readNumbers at h
  refine aw_iload 4 dX6_readNumbers_0 rfl ?_
  refine aw_case 1 h (fun h => ?_) (fun c1 h => ?_)
  · refine aw_tswIn 44 (off := 42) dX6_readNumbers_2 (by decide) (by decide) (by decide) (by decide) ?_
    refine aw_env [(0, .ref v0), (1, .ref v1), (3, .int v3)] [0, 1, 3] rfl ?_
    exact L1_X6_readNumbers_44 N  v0 v1 v3 S h
  refine aw_case 2 h (fun h => ?_) (fun c9 h => ?_)
  · refine aw_tswIn 63 (off := 61) dX6_readNumbers_2 (by decide) (by decide) (by decide) (by decide) ?_
    refine aw_aload_n 0 dX6_readNumbers_63 rfl rfl ?_
    refine aw_getR axc6 1 rfl rfl wd_265 dX6_readNumbers_64 h (fun a2 h => ?_)
    refine aw_iload_n 3 dX6_readNumbers_67 rfl rfl ?_
    refine aw_aload_n 1 dX6_readNumbers_68 rfl rfl ?_
    refine aw_iconst 0 dX6_readNumbers_69 rfl ?_
    refine aw_aload_n 2 dX6_readNumbers_70 rfl rfl ?_
    refine aw_getI axc1 3 rfl rfl wd_178 dX6_readNumbers_71 h (fun x3 h => ?_)
    refine aw_iconst 1 dX6_readNumbers_74 rfl ?_
    refine aw_isub dX6_readNumbers_75 ?_
    obtain ⟨hL4, h⟩ := ax_is_spec h
    refine aw_doneI (rest := [.int v3, .ref a2]) h (fun r9 S9 hF => aw_runV (As := [.int 0, .int (x3 - 1)]) (rest := [.int v3, .ref a2]) (L1_X7_number N hF) axc7 hL4 wd_772 wd_864 wd_770 wd_771 wd_88 pd_X7_number rfl (ax_rm (by omega) rfl) ax_hf0 (Nat.le_of_ble_eq_true rfl) rfl dX6_readNumbers_76) (fun x6 T5 h => ?_)
    refine aw_doneV (rest := []) h (fun S9 hF => aw_runSN (As := [.ref a2, .int v3, .int x6]) (rest := []) (L1_X9_put N hF) wd_443 wd_859 wd_442 wd_87 pd_X9_put.2 rfl (ax_rm (by omega) rfl) ax_hf0 (Nat.le_of_ble_eq_true rfl) rfl dX6_readNumbers_79) (fun T7 h => ?_)
    refine aw_goto 144 dX6_readNumbers_82 (by decide) ?_
    exact aw_vret dX6_readNumbers_144 rfl (Nat.le_refl _) (Nat.le_refl _) h
  refine aw_case 3 h (fun h => ?_) (fun c10 h => ?_)
  · refine aw_tswIn 144 (off := 142) dX6_readNumbers_2 (by decide) (by decide) (by decide) (by decide) ?_
    exact aw_vret dX6_readNumbers_144 rfl (Nat.le_refl _) (Nat.le_refl _) h
  refine aw_case 4 h (fun h => ?_) (fun c11 h => ?_)
  · refine aw_tswIn 44 (off := 42) dX6_readNumbers_2 (by decide) (by decide) (by decide) (by decide) ?_
    refine aw_env [(0, .ref v0), (1, .ref v1), (3, .int v3)] [0, 1, 3] rfl ?_
    exact L1_X6_readNumbers_44 N  v0 v1 v3 S h
  refine aw_case 5 h (fun h => ?_) (fun c26 h => ?_)
  · refine aw_tswIn 85 (off := 83) dX6_readNumbers_2 (by decide) (by decide) (by decide) (by decide) ?_
    refine aw_aload_n 0 dX6_readNumbers_85 rfl rfl ?_
    refine aw_getR axc6 1 rfl rfl wd_265 dX6_readNumbers_86 h (fun a12 h => ?_)
    refine aw_iload_n 3 dX6_readNumbers_89 rfl rfl ?_
    refine aw_aload_n 1 dX6_readNumbers_90 rfl rfl ?_
    refine aw_iconst 0 dX6_readNumbers_91 rfl ?_
    refine aw_aload_n 2 dX6_readNumbers_92 rfl rfl ?_
    refine aw_getI axc1 5 rfl rfl wd_184 dX6_readNumbers_93 h (fun x13 h => ?_)
    refine aw_iconst 1 dX6_readNumbers_96 rfl ?_
    refine aw_isub dX6_readNumbers_97 ?_
    obtain ⟨hL14, h⟩ := ax_is_spec h
    refine aw_doneI (rest := [.int v3, .ref a12]) h (fun r9 S9 hF => aw_runV (As := [.int 0, .int (x13 - 1)]) (rest := [.int v3, .ref a12]) (L1_X7_number N hF) axc7 hL14 wd_772 wd_864 wd_770 wd_771 wd_88 pd_X7_number rfl (ax_rm (by omega) rfl) ax_hf0 (Nat.le_of_ble_eq_true rfl) rfl dX6_readNumbers_98) (fun x16 T15 h => ?_)
    refine aw_doneV (rest := []) h (fun S9 hF => aw_runSN (As := [.ref a12, .int v3, .int x16]) (rest := []) (L1_X9_put N hF) wd_443 wd_859 wd_442 wd_87 pd_X9_put.2 rfl (ax_rm (by omega) rfl) ax_hf0 (Nat.le_of_ble_eq_true rfl) rfl dX6_readNumbers_101) (fun T17 h => ?_)
    refine aw_aload_n 0 dX6_readNumbers_104 rfl rfl ?_
    refine aw_getR axc6 2 rfl rfl wd_267 dX6_readNumbers_105 h (fun a19 h => ?_)
    refine aw_iload_n 3 dX6_readNumbers_108 rfl rfl ?_
    refine aw_aload_n 1 dX6_readNumbers_109 rfl rfl ?_
    refine aw_iconst 0 dX6_readNumbers_110 rfl ?_
    refine aw_aload_n 2 dX6_readNumbers_111 rfl rfl ?_
    refine aw_getI axc1 5 rfl rfl wd_184 dX6_readNumbers_112 h (fun x20 h => ?_)
    refine aw_iconst 1 dX6_readNumbers_115 rfl ?_
    refine aw_isub dX6_readNumbers_116 ?_
    obtain ⟨hL21, h⟩ := ax_is_spec h
    refine aw_doneI (rest := [.int v3, .ref a19]) h (fun r9 S9 hF => aw_runV (As := [.int 0, .int (x20 - 1)]) (rest := [.int v3, .ref a19]) (L1_X7_number N hF) axc7 hL21 wd_772 wd_864 wd_770 wd_771 wd_88 pd_X7_number rfl (ax_rm (by omega) rfl) ax_hf0 (Nat.le_of_ble_eq_true rfl) rfl dX6_readNumbers_117) (fun x23 T22 h => ?_)
    refine aw_doneV (rest := []) h (fun S9 hF => aw_runSN (As := [.ref a19, .int v3, .int x23]) (rest := []) (L1_X9_put N hF) wd_443 wd_859 wd_442 wd_87 pd_X9_put.2 rfl (ax_rm (by omega) rfl) ax_hf0 (Nat.le_of_ble_eq_true rfl) rfl dX6_readNumbers_120) (fun T24 h => ?_)
    refine aw_goto 144 dX6_readNumbers_123 (by decide) ?_
    exact aw_vret dX6_readNumbers_144 rfl (Nat.le_refl _) (Nat.le_refl _) h
  refine aw_case 6 h (fun h => ?_) (fun c27 h => ?_)
  · refine aw_tswIn 144 (off := 142) dX6_readNumbers_2 (by decide) (by decide) (by decide) (by decide) ?_
    exact aw_vret dX6_readNumbers_144 rfl (Nat.le_refl _) (Nat.le_refl _) h
  refine aw_case 7 h (fun h => ?_) (fun c34 h => ?_)
  · refine aw_tswIn 126 (off := 124) dX6_readNumbers_2 (by decide) (by decide) (by decide) (by decide) ?_
    refine aw_aload_n 0 dX6_readNumbers_126 rfl rfl ?_
    refine aw_getR axc6 1 rfl rfl wd_265 dX6_readNumbers_127 h (fun a28 h => ?_)
    refine aw_iload_n 3 dX6_readNumbers_130 rfl rfl ?_
    refine aw_aload_n 1 dX6_readNumbers_131 rfl rfl ?_
    refine aw_iconst 0 dX6_readNumbers_132 rfl ?_
    refine aw_bipush 30 dX6_readNumbers_133 (by decide) ?_
    obtain ⟨hL29, h⟩ := ax_is_spec h
    refine aw_doneI (rest := [.int v3, .ref a28]) h (fun r9 S9 hF => aw_runV (As := [.int 0, .int 30]) (rest := [.int v3, .ref a28]) (L1_X7_number N hF) axc7 hL29 wd_772 wd_864 wd_770 wd_771 wd_88 pd_X7_number rfl (ax_rm (by omega) rfl) ax_hf0 (Nat.le_of_ble_eq_true rfl) rfl dX6_readNumbers_135) (fun x31 T30 h => ?_)
    refine aw_doneV (rest := []) h (fun S9 hF => aw_runSN (As := [.ref a28, .int v3, .int x31]) (rest := []) (L1_X9_put N hF) wd_443 wd_859 wd_442 wd_87 pd_X9_put.2 rfl (ax_rm (by omega) rfl) ax_hf0 (Nat.le_of_ble_eq_true rfl) rfl dX6_readNumbers_138) (fun T32 h => ?_)
    refine aw_goto 144 dX6_readNumbers_141 (by decide) ?_
    exact aw_vret dX6_readNumbers_144 rfl (Nat.le_refl _) (Nat.le_refl _) h
  refine aw_tswOut 144 dX6_readNumbers_2 (by have q0 := ax_i32ne c1 (v := 1) (i := 1) (by decide); have q1 := ax_i32ne c9 (v := 2) (i := 2) (by decide); have q2 := ax_i32ne c10 (v := 3) (i := 3) (by decide); have q3 := ax_i32ne c11 (v := 4) (i := 4) (by decide); have q4 := ax_i32ne c26 (v := 5) (i := 5) (by decide); have q5 := ax_i32ne c27 (v := 6) (i := 6) (by decide); have q6 := ax_i32ne c34 (v := 7) (i := 7) (by decide); omega) (by decide) ?_
  exact aw_vret dX6_readNumbers_144 rfl (Nat.le_refl _) (Nat.le_refl _) h

theorem dX6_behind_0 : decode cX6_behind 0 = .ok (.aload_n 0, 1) := by decide +kernel
theorem dX6_behind_1 : decode cX6_behind 1 = .ok (.getfield 9, 3) := by decide +kernel
theorem dX6_behind_4 : decode cX6_behind 4 = .ok (.iload_n 1, 1) := by decide +kernel
theorem dX6_behind_5 : decode cX6_behind 5 = .ok (.invokestatic 97, 3) := by decide +kernel
theorem dX6_behind_8 : decode cX6_behind 8 = .ok (.bipush 7, 2) := by decide +kernel
theorem dX6_behind_10 : decode cX6_behind 10 = .ok (.if_icmp .ne 14, 3) := by decide +kernel
theorem dX6_behind_13 : decode cX6_behind 13 = .ok (.aload_n 0, 1) := by decide +kernel
theorem dX6_behind_14 : decode cX6_behind 14 = .ok (.getfield 18, 3) := by decide +kernel
theorem dX6_behind_17 : decode cX6_behind 17 = .ok (.iload_n 1, 1) := by decide +kernel
theorem dX6_behind_18 : decode cX6_behind 18 = .ok (.invokestatic 97, 3) := by decide +kernel
theorem dX6_behind_21 : decode cX6_behind 21 = .ok (.goto 6, 3) := by decide +kernel
theorem dX6_behind_24 : decode cX6_behind 24 = .ok (.iload_n 1, 1) := by decide +kernel
theorem dX6_behind_25 : decode cX6_behind 25 = .ok (.iconst 1, 1) := by decide +kernel
theorem dX6_behind_26 : decode cX6_behind 26 = .ok (.iadd, 1) := by decide +kernel
theorem dX6_behind_27 : decode cX6_behind 27 = .ok (.ireturn, 1) := by decide +kernel
abbrev mt_X6_behind : AxM := (RX6, cX6_behind, 2, (some .int), false, [])
theorem L1_X6_behind {g : AxG} {l : Launch} (N : Nat) {v0 : Nat} {v1 : Int32} {S : AxS} {r9 : Int32} {S9 : AxS} (h : F_X6_behind N v0 v1 S = some ((r9, S9))) : AxMet g l yX6_behind cX6_behind 2 (some .int) (1) 0 0 [.ref v0, .int v1] S ((.inl (some (.int r9)), S9)) := by
  refine ax_met (own := RX6) (ini := false) (by decide +kernel) rfl (fun h => nomatch h) rfl ?_
  show AW g l (axRm (1) 0 0) mt_X6_behind (axMQ g 0 0 (.inl (some (.int r9)), S9)) 0 0 S 0 [(0, .ref v0), (1, .int v1)] []
  unfold F_X6_behind at h
  refine aw_aload_n 0 dX6_behind_0 rfl rfl ?_
  refine aw_getR axc6 0 rfl rfl wd_263 dX6_behind_1 h (fun a1 h => ?_)
  refine aw_iload_n 1 dX6_behind_4 rfl rfl ?_
  refine aw_doneI (rest := []) h (fun r9 S9 hF => aw_runSN (As := [.ref a1, .int v1]) (rest := []) (L1_X9_at N hF) wd_541 wd_879 wd_540 wd_87 pd_X9_at.2 rfl (ax_rm (by omega) rfl) ax_hf0 (Nat.le_of_ble_eq_true rfl) rfl dX6_behind_5) (fun x3 T2 h => ?_)
  refine aw_bipush 7 dX6_behind_8 (by decide) ?_
  refine aw_icmp_ne 24 dX6_behind_10 (by decide) h (fun h => ?_) (fun h => ?_)
  · refine aw_iload_n 1 dX6_behind_24 rfl rfl ?_
    refine aw_iconst 1 dX6_behind_25 rfl ?_
    refine aw_iadd dX6_behind_26 ?_
    exact aw_iret dX6_behind_27 rfl (Nat.le_refl _) (Nat.le_refl _) h
  · refine aw_aload_n 0 dX6_behind_13 rfl rfl ?_
    refine aw_getR axc6 2 rfl rfl wd_267 dX6_behind_14 h (fun a4 h => ?_)
    refine aw_iload_n 1 dX6_behind_17 rfl rfl ?_
    refine aw_doneI (rest := []) h (fun r9 S9 hF => aw_runSN (As := [.ref a4, .int v1]) (rest := []) (L1_X9_at N hF) wd_541 wd_879 wd_540 wd_87 pd_X9_at.2 rfl (ax_rm (by omega) rfl) ax_hf0 (Nat.le_of_ble_eq_true rfl) rfl dX6_behind_18) (fun x6 T5 h => ?_)
    refine aw_goto 27 dX6_behind_21 (by decide) ?_
    exact aw_iret dX6_behind_27 rfl (Nat.le_refl _) (Nat.le_refl _) h

theorem dX7_append_0 : decode cX7_append 0 = .ok (.bipush 24, 2) := by decide +kernel
theorem dX7_append_2 : decode cX7_append 2 = .ok (.istore_n 2, 1) := by decide +kernel
theorem dX7_append_3 : decode cX7_append 3 = .ok (.iload_n 2, 1) := by decide +kernel
theorem dX7_append_4 : decode cX7_append 4 = .ok (.ifCond .lt 37, 3) := by decide +kernel
theorem dX7_append_7 : decode cX7_append 7 = .ok (.aload_n 0, 1) := by decide +kernel
theorem dX7_append_8 : decode cX7_append 8 = .ok (.getfield 9, 3) := by decide +kernel
theorem dX7_append_11 : decode cX7_append 11 = .ok (.aload_n 0, 1) := by decide +kernel
theorem dX7_append_12 : decode cX7_append 12 = .ok (.getfield 19, 3) := by decide +kernel
theorem dX7_append_15 : decode cX7_append 15 = .ok (.iload_n 1, 1) := by decide +kernel
theorem dX7_append_16 : decode cX7_append 16 = .ok (.iload_n 2, 1) := by decide +kernel
theorem dX7_append_17 : decode cX7_append 17 = .ok (.iushr, 1) := by decide +kernel
theorem dX7_append_18 : decode cX7_append 18 = .ok (.sipush 255, 3) := by decide +kernel
theorem dX7_append_21 : decode cX7_append 21 = .ok (.iand, 1) := by decide +kernel
theorem dX7_append_22 : decode cX7_append 22 = .ok (.invokestatic 22, 3) := by decide +kernel
theorem dX7_append_25 : decode cX7_append 25 = .ok (.aload_n 0, 1) := by decide +kernel
theorem dX7_append_26 : decode cX7_append 26 = .ok (.dup, 1) := by decide +kernel
theorem dX7_append_27 : decode cX7_append 27 = .ok (.getfield 19, 3) := by decide +kernel
theorem dX7_append_30 : decode cX7_append 30 = .ok (.iconst 1, 1) := by decide +kernel
theorem dX7_append_31 : decode cX7_append 31 = .ok (.iadd, 1) := by decide +kernel
theorem dX7_append_32 : decode cX7_append 32 = .ok (.putfield 19, 3) := by decide +kernel
theorem dX7_append_35 : decode cX7_append 35 = .ok (.iinc 2 (-8), 3) := by decide +kernel
theorem dX7_append_38 : decode cX7_append 38 = .ok (.goto (-35), 3) := by decide +kernel
theorem dX7_append_41 : decode cX7_append 41 = .ok (.return_, 1) := by decide +kernel
abbrev mt_X7_append : AxM := (RX7, cX7_append, 3, none, false, [])
theorem L1_X7_append_3b {g : AxG} {l : Launch} {S9 : AxS} (N : Nat) (K3 : Nat → Int32 → Int32 → AxS → Option (AxS)) (hK3 : ∀ (v0 : Nat) (v1 : Int32) (v2 : Int32) (S : AxS), K3 v0 v1 v2 S = some S9 → AW g l (axRm (1) 0 0) mt_X7_append (axMQ g 0 0 (.inl none, S9)) 0 0 S 3 [(0, .ref v0), (1, .int v1), (2, .int v2)] []) (v0 : Nat) (v1 : Int32) (v2 : Int32) (S : AxS) (h : F_X7_append_3b N K3 v0 v1 v2 S = some S9) : AW g l (axRm (1) 0 0) mt_X7_append (axMQ g 0 0 (.inl none, S9)) 0 0 S 3 [(0, .ref v0), (1, .int v1), (2, .int v2)] [] := by
  unfold F_X7_append_3b at h
  refine aw_iload_n 2 dX7_append_3 rfl rfl ?_
  refine aw_if_lt 41 dX7_append_4 (by decide) h (fun h => ?_) (fun h => ?_)
  · exact aw_vret dX7_append_41 rfl (Nat.le_refl _) (Nat.le_refl _) h
  · refine aw_aload_n 0 dX7_append_7 rfl rfl ?_
    refine aw_getR axc7 0 rfl rfl wd_123 dX7_append_8 h (fun a1 h => ?_)
    refine aw_aload_n 0 dX7_append_11 rfl rfl ?_
    refine aw_getI axc7 1 rfl rfl wd_124 dX7_append_12 h (fun x2 h => ?_)
    refine aw_iload_n 1 dX7_append_15 rfl rfl ?_
    refine aw_iload_n 2 dX7_append_16 rfl rfl ?_
    refine aw_iushr dX7_append_17 ?_
    refine aw_sipush 255 dX7_append_18 (by decide) ?_
    refine aw_iand dX7_append_21 ?_
    refine aw_doneV (rest := []) h (fun S9 hF => aw_runSN (As := [.ref a1, .int x2, .int ((axUshr v1 v2) &&& 255)]) (rest := []) (L1_X9_put N hF) wd_443 wd_522 wd_442 wd_87 pd_X9_put.2 rfl (ax_rm (by omega) rfl) ax_hf0 (Nat.le_of_ble_eq_true rfl) rfl dX7_append_22) (fun T3 h => ?_)
    refine aw_aload_n 0 dX7_append_25 rfl rfl ?_
    refine aw_dup rfl dX7_append_26 ?_
    refine aw_getI axc7 1 rfl rfl wd_124 dX7_append_27 h (fun x5 h => ?_)
    refine aw_iconst 1 dX7_append_30 rfl ?_
    refine aw_iadd dX7_append_31 ?_
    refine aw_putI axc7 1 rfl rfl wd_124 rfl rfl rfl dX7_append_32 h (fun T6 h => ?_)
    refine aw_iinc 2 [(2, .int (v2 + (-8))), (0, .ref v0), (1, .int v1)] (v2 + (-8)) dX7_append_35 rfl rfl rfl rfl ?_
    refine aw_goto 3 dX7_append_38 (by decide) ?_
    refine aw_env [(0, .ref v0), (1, .int v1), (2, .int (v2 + (-8)))] [1, 2, 0] rfl ?_
    exact hK3 v0 v1 (v2 + (-8)) T6 h
theorem L1_X7_append_3 {g : AxG} {l : Launch} {S9 : AxS} (N : Nat)  : ∀ (n : Nat) (v0 : Nat) (v1 : Int32) (v2 : Int32) (S : AxS), F_X7_append_3 N  n v0 v1 v2 S = some S9 → AW g l (axRm (1) 0 0) mt_X7_append (axMQ g 0 0 (.inl none, S9)) 0 0 S 3 [(0, .ref v0), (1, .int v1), (2, .int v2)] [] := by
  intro n
  induction n with
  | zero => intro v0 v1 v2 S h; cases h
  | succ n ih => intro v0 v1 v2 S h; exact L1_X7_append_3b N (F_X7_append_3 N  n) ih v0 v1 v2 S h
theorem L1_X7_append {g : AxG} {l : Launch} (N : Nat) {v0 : Nat} {v1 : Int32} {S : AxS} {S9 : AxS} (h : F_X7_append N v0 v1 S = some S9) : AxMet g l yX7_append cX7_append 3 none (1) 0 0 [.ref v0, .int v1] S ((.inl none, S9)) := by
  refine ax_met (own := RX7) (ini := false) (by decide +kernel) rfl (fun h => nomatch h) rfl ?_
  show AW g l (axRm (1) 0 0) mt_X7_append (axMQ g 0 0 (.inl none, S9)) 0 0 S 0 [(0, .ref v0), (1, .int v1)] []
  unfold F_X7_append at h
  refine aw_bipush 24 dX7_append_0 (by decide) ?_
  refine aw_istore_n 2 [(2, .int 24), (0, .ref v0), (1, .int v1)] dX7_append_2 rfl rfl rfl ?_
  refine aw_env [(0, .ref v0), (1, .int v1), (2, .int 24)] [1, 2, 0] rfl ?_
  exact L1_X7_append_3 N  N v0 v1 24 S h

theorem dX7_open_0 : decode cX7_open 0 = .ok (.aload_n 0, 1) := by decide +kernel
theorem dX7_open_1 : decode cX7_open 1 = .ok (.iload_n 1, 1) := by decide +kernel
theorem dX7_open_2 : decode cX7_open 2 = .ok (.putfield 26, 3) := by decide +kernel
theorem dX7_open_5 : decode cX7_open 5 = .ok (.aload_n 0, 1) := by decide +kernel
theorem dX7_open_6 : decode cX7_open 6 = .ok (.iconst 0, 1) := by decide +kernel
theorem dX7_open_7 : decode cX7_open 7 = .ok (.putfield 29, 3) := by decide +kernel
theorem dX7_open_10 : decode cX7_open 10 = .ok (.aload_n 0, 1) := by decide +kernel
theorem dX7_open_11 : decode cX7_open 11 = .ok (.iconst 0, 1) := by decide +kernel
theorem dX7_open_12 : decode cX7_open 12 = .ok (.putfield 32, 3) := by decide +kernel
theorem dX7_open_15 : decode cX7_open 15 = .ok (.aload_n 0, 1) := by decide +kernel
theorem dX7_open_16 : decode cX7_open 16 = .ok (.iconst (-1), 1) := by decide +kernel
theorem dX7_open_17 : decode cX7_open 17 = .ok (.putfield 15, 3) := by decide +kernel
theorem dX7_open_20 : decode cX7_open 20 = .ok (.aload_n 0, 1) := by decide +kernel
theorem dX7_open_21 : decode cX7_open 21 = .ok (.iconst 0, 1) := by decide +kernel
theorem dX7_open_22 : decode cX7_open 22 = .ok (.putfield 19, 3) := by decide +kernel
theorem dX7_open_25 : decode cX7_open 25 = .ok (.return_, 1) := by decide +kernel
abbrev mt_X7_open : AxM := (RX7, cX7_open, 2, none, false, [])
theorem L1_X7_open {g : AxG} {l : Launch} (N : Nat) {v0 : Nat} {v1 : Int32} {S : AxS} {S9 : AxS} (h : F_X7_open N v0 v1 S = some S9) : AxMet g l yX7_open cX7_open 2 none (0) 0 0 [.ref v0, .int v1] S ((.inl none, S9)) := by
  refine ax_met (own := RX7) (ini := false) (by decide +kernel) rfl (fun h => nomatch h) rfl ?_
  show AW g l (axRm (0) 0 0) mt_X7_open (axMQ g 0 0 (.inl none, S9)) 0 0 S 0 [(0, .ref v0), (1, .int v1)] []
  unfold F_X7_open at h
  refine aw_aload_n 0 dX7_open_0 rfl rfl ?_
  refine aw_iload_n 1 dX7_open_1 rfl rfl ?_
  refine aw_putI axc7 2 rfl rfl wd_126 rfl rfl rfl dX7_open_2 h (fun T1 h => ?_)
  refine aw_aload_n 0 dX7_open_5 rfl rfl ?_
  refine aw_iconst 0 dX7_open_6 rfl ?_
  refine aw_putI axc7 3 rfl rfl wd_127 rfl rfl rfl dX7_open_7 h (fun T2 h => ?_)
  refine aw_aload_n 0 dX7_open_10 rfl rfl ?_
  refine aw_iconst 0 dX7_open_11 rfl ?_
  refine aw_putI axc7 4 rfl rfl wd_129 rfl rfl rfl dX7_open_12 h (fun T3 h => ?_)
  refine aw_aload_n 0 dX7_open_15 rfl rfl ?_
  refine aw_iconst (-1) dX7_open_16 rfl ?_
  refine aw_putI axc7 5 rfl rfl wd_135 rfl rfl rfl dX7_open_17 h (fun T4 h => ?_)
  refine aw_aload_n 0 dX7_open_20 rfl rfl ?_
  refine aw_iconst 0 dX7_open_21 rfl ?_
  refine aw_putI axc7 1 rfl rfl wd_124 rfl rfl rfl dX7_open_22 h (fun T5 h => ?_)
  exact aw_vret dX7_open_25 rfl (Nat.le_refl _) (Nat.le_refl _) h

theorem dX7_word_0 : decode cX7_word 0 = .ok (.aload_n 0, 1) := by decide +kernel
theorem dX7_word_1 : decode cX7_word 1 = .ok (.invokevirtual 39, 3) := by decide +kernel
theorem dX7_word_4 : decode cX7_word 4 = .ok (.pop, 1) := by decide +kernel
theorem dX7_word_5 : decode cX7_word 5 = .ok (.aload_n 0, 1) := by decide +kernel
theorem dX7_word_6 : decode cX7_word 6 = .ok (.aload_n 0, 1) := by decide +kernel
theorem dX7_word_7 : decode cX7_word 7 = .ok (.getfield 29, 3) := by decide +kernel
theorem dX7_word_10 : decode cX7_word 10 = .ok (.putfield 61, 3) := by decide +kernel
theorem dX7_word_13 : decode cX7_word 13 = .ok (.aload_n 0, 1) := by decide +kernel
theorem dX7_word_14 : decode cX7_word 14 = .ok (.getfield 29, 3) := by decide +kernel
theorem dX7_word_17 : decode cX7_word 17 = .ok (.aload_n 0, 1) := by decide +kernel
theorem dX7_word_18 : decode cX7_word 18 = .ok (.getfield 26, 3) := by decide +kernel
theorem dX7_word_21 : decode cX7_word 21 = .ok (.if_icmp .ge 48, 3) := by decide +kernel
theorem dX7_word_24 : decode cX7_word 24 = .ok (.aload_n 0, 1) := by decide +kernel
theorem dX7_word_25 : decode cX7_word 25 = .ok (.getfield 9, 3) := by decide +kernel
theorem dX7_word_28 : decode cX7_word 28 = .ok (.aload_n 0, 1) := by decide +kernel
theorem dX7_word_29 : decode cX7_word 29 = .ok (.getfield 29, 3) := by decide +kernel
theorem dX7_word_32 : decode cX7_word 32 = .ok (.invokestatic 35, 3) := by decide +kernel
theorem dX7_word_35 : decode cX7_word 35 = .ok (.bipush 97, 2) := by decide +kernel
theorem dX7_word_37 : decode cX7_word 37 = .ok (.if_icmp .lt 32, 3) := by decide +kernel
theorem dX7_word_40 : decode cX7_word 40 = .ok (.aload_n 0, 1) := by decide +kernel
theorem dX7_word_41 : decode cX7_word 41 = .ok (.getfield 9, 3) := by decide +kernel
theorem dX7_word_44 : decode cX7_word 44 = .ok (.aload_n 0, 1) := by decide +kernel
theorem dX7_word_45 : decode cX7_word 45 = .ok (.getfield 29, 3) := by decide +kernel
theorem dX7_word_48 : decode cX7_word 48 = .ok (.invokestatic 35, 3) := by decide +kernel
theorem dX7_word_51 : decode cX7_word 51 = .ok (.bipush 122, 2) := by decide +kernel
theorem dX7_word_53 : decode cX7_word 53 = .ok (.if_icmp .gt 16, 3) := by decide +kernel
theorem dX7_word_56 : decode cX7_word 56 = .ok (.aload_n 0, 1) := by decide +kernel
theorem dX7_word_57 : decode cX7_word 57 = .ok (.dup, 1) := by decide +kernel
theorem dX7_word_58 : decode cX7_word 58 = .ok (.getfield 29, 3) := by decide +kernel
theorem dX7_word_61 : decode cX7_word 61 = .ok (.iconst 1, 1) := by decide +kernel
theorem dX7_word_62 : decode cX7_word 62 = .ok (.iadd, 1) := by decide +kernel
theorem dX7_word_63 : decode cX7_word 63 = .ok (.putfield 29, 3) := by decide +kernel
theorem dX7_word_66 : decode cX7_word 66 = .ok (.goto (-53), 3) := by decide +kernel
theorem dX7_word_69 : decode cX7_word 69 = .ok (.return_, 1) := by decide +kernel
abbrev mt_X7_word : AxM := (RX7, cX7_word, 1, none, false, [])
theorem L1_X7_word_13b {g : AxG} {l : Launch} {S9 : AxS} (N : Nat) (K13 : Nat → AxS → Option (AxS)) (hK13 : ∀ (v0 : Nat) (S : AxS), K13 v0 S = some S9 → AW g l (axRm (2) 0 0) mt_X7_word (axMQ g 0 0 (.inl none, S9)) 0 0 S 13 [(0, .ref v0)] []) (v0 : Nat) (S : AxS) (h : F_X7_word_13b N K13 v0 S = some S9) : AW g l (axRm (2) 0 0) mt_X7_word (axMQ g 0 0 (.inl none, S9)) 0 0 S 13 [(0, .ref v0)] [] := by
  unfold F_X7_word_13b at h
  refine aw_aload_n 0 dX7_word_13 rfl rfl ?_
  refine aw_getI axc7 3 rfl rfl wd_127 dX7_word_14 h (fun x1 h => ?_)
  refine aw_aload_n 0 dX7_word_17 rfl rfl ?_
  refine aw_getI axc7 2 rfl rfl wd_126 dX7_word_18 h (fun x2 h => ?_)
  refine aw_icmp_ge 69 dX7_word_21 (by decide) h (fun h => ?_) (fun h => ?_)
  · exact aw_vret dX7_word_69 rfl (Nat.le_refl _) (Nat.le_refl _) h
  · refine aw_aload_n 0 dX7_word_24 rfl rfl ?_
    refine aw_getR axc7 0 rfl rfl wd_123 dX7_word_25 h (fun a3 h => ?_)
    refine aw_aload_n 0 dX7_word_28 rfl rfl ?_
    refine aw_getI axc7 3 rfl rfl wd_127 dX7_word_29 h (fun x4 h => ?_)
    refine aw_doneI (rest := []) h (fun r9 S9 hF => aw_runSN (As := [.ref a3, .int x4]) (rest := []) (L1_X9_at N hF) wd_541 wd_684 wd_540 wd_87 pd_X9_at.2 rfl (ax_rm (by omega) rfl) ax_hf0 (Nat.le_of_ble_eq_true rfl) rfl dX7_word_32) (fun x6 T5 h => ?_)
    refine aw_bipush 97 dX7_word_35 (by decide) ?_
    refine aw_icmp_lt 69 dX7_word_37 (by decide) h (fun h => ?_) (fun h => ?_)
    · exact aw_vret dX7_word_69 rfl (Nat.le_refl _) (Nat.le_refl _) h
    · refine aw_aload_n 0 dX7_word_40 rfl rfl ?_
      refine aw_getR axc7 0 rfl rfl wd_123 dX7_word_41 h (fun a7 h => ?_)
      refine aw_aload_n 0 dX7_word_44 rfl rfl ?_
      refine aw_getI axc7 3 rfl rfl wd_127 dX7_word_45 h (fun x8 h => ?_)
      refine aw_doneI (rest := []) h (fun r9 S9 hF => aw_runSN (As := [.ref a7, .int x8]) (rest := []) (L1_X9_at N hF) wd_541 wd_684 wd_540 wd_87 pd_X9_at.2 rfl (ax_rm (by omega) rfl) ax_hf0 (Nat.le_of_ble_eq_true rfl) rfl dX7_word_48) (fun x10 T9 h => ?_)
      refine aw_bipush 122 dX7_word_51 (by decide) ?_
      refine aw_icmp_gt 69 dX7_word_53 (by decide) h (fun h => ?_) (fun h => ?_)
      · exact aw_vret dX7_word_69 rfl (Nat.le_refl _) (Nat.le_refl _) h
      · refine aw_aload_n 0 dX7_word_56 rfl rfl ?_
        refine aw_dup rfl dX7_word_57 ?_
        refine aw_getI axc7 3 rfl rfl wd_127 dX7_word_58 h (fun x11 h => ?_)
        refine aw_iconst 1 dX7_word_61 rfl ?_
        refine aw_iadd dX7_word_62 ?_
        refine aw_putI axc7 3 rfl rfl wd_127 rfl rfl rfl dX7_word_63 h (fun T12 h => ?_)
        refine aw_goto 13 dX7_word_66 (by decide) ?_
        refine aw_env [(0, .ref v0)] [0] rfl ?_
        exact hK13 v0 T12 h
theorem L1_X7_word_13 {g : AxG} {l : Launch} {S9 : AxS} (N : Nat)  : ∀ (n : Nat) (v0 : Nat) (S : AxS), F_X7_word_13 N  n v0 S = some S9 → AW g l (axRm (2) 0 0) mt_X7_word (axMQ g 0 0 (.inl none, S9)) 0 0 S 13 [(0, .ref v0)] [] := by
  intro n
  induction n with
  | zero => intro v0 S h; cases h
  | succ n ih => intro v0 S h; exact L1_X7_word_13b N (F_X7_word_13 N  n) ih v0 S h
theorem L1_X7_word {g : AxG} {l : Launch} (N : Nat) {v0 : Nat} {S : AxS} {S9 : AxS} (h : F_X7_word N v0 S = some S9) : AxMet g l yX7_word cX7_word 1 none (2) 0 0 [.ref v0] S ((.inl none, S9)) := by
  refine ax_met (own := RX7) (ini := false) (by decide +kernel) rfl (fun h => nomatch h) rfl ?_
  show AW g l (axRm (2) 0 0) mt_X7_word (axMQ g 0 0 (.inl none, S9)) 0 0 S 0 [(0, .ref v0)] []
  unfold F_X7_word at h
  refine aw_aload_n 0 dX7_word_0 rfl rfl ?_
  obtain ⟨hL1, h⟩ := ax_is_spec h
  refine aw_doneI (rest := []) h (fun r9 S9 hF => aw_runV (As := []) (rest := []) (L1_X7_sign N hF) axc7 hL1 wd_683 wd_693 wd_681 wd_682 wd_88 pd_X7_sign rfl (ax_rm (by omega) rfl) ax_hf0 (Nat.le_of_ble_eq_true rfl) rfl dX7_word_1) (fun x3 T2 h => ?_)
  refine aw_pop rfl dX7_word_4 ?_
  refine aw_aload_n 0 dX7_word_5 rfl rfl ?_
  refine aw_aload_n 0 dX7_word_6 rfl rfl ?_
  refine aw_getI axc7 3 rfl rfl wd_127 dX7_word_7 h (fun x4 h => ?_)
  refine aw_putI axc7 6 rfl rfl wd_140 rfl rfl rfl dX7_word_10 h (fun T5 h => ?_)
  refine aw_env [(0, .ref v0)] [0] rfl ?_
  exact L1_X7_word_13 N  N v0 T5 h

theorem dX8_push_0 : decode cX8_push 0 = .ok (.aload_n 0, 1) := by decide +kernel
theorem dX8_push_1 : decode cX8_push 1 = .ok (.getfield 18, 3) := by decide +kernel
theorem dX8_push_4 : decode cX8_push 4 = .ok (.ifCond .lt 38, 3) := by decide +kernel
theorem dX8_push_7 : decode cX8_push 7 = .ok (.aload_n 0, 1) := by decide +kernel
theorem dX8_push_8 : decode cX8_push 8 = .ok (.getfield 18, 3) := by decide +kernel
theorem dX8_push_11 : decode cX8_push 11 = .ok (.aload_n 0, 1) := by decide +kernel
theorem dX8_push_12 : decode cX8_push 12 = .ok (.getfield 11, 3) := by decide +kernel
theorem dX8_push_15 : decode cX8_push 15 = .ok (.arraylength, 1) := by decide +kernel
theorem dX8_push_16 : decode cX8_push 16 = .ok (.if_icmp .ge 26, 3) := by decide +kernel
theorem dX8_push_19 : decode cX8_push 19 = .ok (.aload_n 0, 1) := by decide +kernel
theorem dX8_push_20 : decode cX8_push 20 = .ok (.getfield 11, 3) := by decide +kernel
theorem dX8_push_23 : decode cX8_push 23 = .ok (.aload_n 0, 1) := by decide +kernel
theorem dX8_push_24 : decode cX8_push 24 = .ok (.getfield 18, 3) := by decide +kernel
theorem dX8_push_27 : decode cX8_push 27 = .ok (.aaload, 1) := by decide +kernel
theorem dX8_push_28 : decode cX8_push 28 = .ok (.aload_n 1, 1) := by decide +kernel
theorem dX8_push_29 : decode cX8_push 29 = .ok (.invokevirtual 22, 3) := by decide +kernel
theorem dX8_push_32 : decode cX8_push 32 = .ok (.aload_n 0, 1) := by decide +kernel
theorem dX8_push_33 : decode cX8_push 33 = .ok (.dup, 1) := by decide +kernel
theorem dX8_push_34 : decode cX8_push 34 = .ok (.getfield 18, 3) := by decide +kernel
theorem dX8_push_37 : decode cX8_push 37 = .ok (.iconst 1, 1) := by decide +kernel
theorem dX8_push_38 : decode cX8_push 38 = .ok (.iadd, 1) := by decide +kernel
theorem dX8_push_39 : decode cX8_push 39 = .ok (.putfield 18, 3) := by decide +kernel
theorem dX8_push_42 : decode cX8_push 42 = .ok (.return_, 1) := by decide +kernel
abbrev mt_X8_push : AxM := (RX8, cX8_push, 2, none, false, [])
theorem L1_X8_push {g : AxG} {l : Launch} (N : Nat) {v0 : Nat} {v1 : Nat} {S : AxS} {S9 : AxS} (h : F_X8_push N v0 v1 S = some S9) : AxMet g l yX8_push cX8_push 2 none (2) 0 0 [.ref v0, .ref v1] S ((.inl none, S9)) := by
  refine ax_met (own := RX8) (ini := false) (by decide +kernel) rfl (fun h => nomatch h) rfl ?_
  show AW g l (axRm (2) 0 0) mt_X8_push (axMQ g 0 0 (.inl none, S9)) 0 0 S 0 [(0, .ref v0), (1, .ref v1)] []
  unfold F_X8_push at h
  refine aw_aload_n 0 dX8_push_0 rfl rfl ?_
  refine aw_getI axc8 1 rfl rfl wd_359 dX8_push_1 h (fun x1 h => ?_)
  refine aw_if_lt 42 dX8_push_4 (by decide) h (fun h => ?_) (fun h => ?_)
  · exact aw_vret dX8_push_42 rfl (Nat.le_refl _) (Nat.le_refl _) h
  · refine aw_aload_n 0 dX8_push_7 rfl rfl ?_
    refine aw_getI axc8 1 rfl rfl wd_359 dX8_push_8 h (fun x2 h => ?_)
    refine aw_aload_n 0 dX8_push_11 rfl rfl ?_
    refine aw_getR axc8 0 rfl rfl wd_358 dX8_push_12 h (fun a3 h => ?_)
    refine aw_alen dX8_push_15 h (fun x4 h => ?_)
    refine aw_icmp_ge 42 dX8_push_16 (by decide) h (fun h => ?_) (fun h => ?_)
    · exact aw_vret dX8_push_42 rfl (Nat.le_refl _) (Nat.le_refl _) h
    · refine aw_aload_n 0 dX8_push_19 rfl rfl ?_
      refine aw_getR axc8 0 rfl rfl wd_358 dX8_push_20 h (fun a5 h => ?_)
      refine aw_aload_n 0 dX8_push_23 rfl rfl ?_
      refine aw_getI axc8 1 rfl rfl wd_359 dX8_push_24 h (fun x6 h => ?_)
      refine aw_aald dX8_push_27 h (fun a7 h => ?_)
      refine aw_aload_n 1 dX8_push_28 rfl rfl ?_
      obtain ⟨hL8, h⟩ := ax_is_spec h
      refine aw_doneV (rest := []) h (fun S9 hF => aw_runV (As := [.ref v1]) (rest := []) (L1_X5_take N hF) axc5 hL8 wd_538 wd_535 wd_536 wd_537 wd_93 pd_X5_take rfl (ax_rm (by omega) rfl) ax_hf0 (Nat.le_of_ble_eq_true rfl) rfl dX8_push_29) (fun T9 h => ?_)
      refine aw_aload_n 0 dX8_push_32 rfl rfl ?_
      refine aw_dup rfl dX8_push_33 ?_
      refine aw_getI axc8 1 rfl rfl wd_359 dX8_push_34 h (fun x11 h => ?_)
      refine aw_iconst 1 dX8_push_37 rfl ?_
      refine aw_iadd dX8_push_38 ?_
      refine aw_putI axc8 1 rfl rfl wd_359 rfl rfl rfl dX8_push_39 h (fun T12 h => ?_)
      exact aw_vret dX8_push_42 rfl (Nat.le_refl _) (Nat.le_refl _) h

theorem dX8_pop_0 : decode cX8_pop 0 = .ok (.aload_n 0, 1) := by decide +kernel
theorem dX8_pop_1 : decode cX8_pop 1 = .ok (.getfield 18, 3) := by decide +kernel
theorem dX8_pop_4 : decode cX8_pop 4 = .ok (.ifCond .le 38, 3) := by decide +kernel
theorem dX8_pop_7 : decode cX8_pop 7 = .ok (.aload_n 0, 1) := by decide +kernel
theorem dX8_pop_8 : decode cX8_pop 8 = .ok (.getfield 18, 3) := by decide +kernel
theorem dX8_pop_11 : decode cX8_pop 11 = .ok (.aload_n 0, 1) := by decide +kernel
theorem dX8_pop_12 : decode cX8_pop 12 = .ok (.getfield 11, 3) := by decide +kernel
theorem dX8_pop_15 : decode cX8_pop 15 = .ok (.arraylength, 1) := by decide +kernel
theorem dX8_pop_16 : decode cX8_pop 16 = .ok (.if_icmp .gt 26, 3) := by decide +kernel
theorem dX8_pop_19 : decode cX8_pop 19 = .ok (.aload_n 0, 1) := by decide +kernel
theorem dX8_pop_20 : decode cX8_pop 20 = .ok (.dup, 1) := by decide +kernel
theorem dX8_pop_21 : decode cX8_pop 21 = .ok (.getfield 18, 3) := by decide +kernel
theorem dX8_pop_24 : decode cX8_pop 24 = .ok (.iconst 1, 1) := by decide +kernel
theorem dX8_pop_25 : decode cX8_pop 25 = .ok (.isub, 1) := by decide +kernel
theorem dX8_pop_26 : decode cX8_pop 26 = .ok (.putfield 18, 3) := by decide +kernel
theorem dX8_pop_29 : decode cX8_pop 29 = .ok (.aload_n 1, 1) := by decide +kernel
theorem dX8_pop_30 : decode cX8_pop 30 = .ok (.aload_n 0, 1) := by decide +kernel
theorem dX8_pop_31 : decode cX8_pop 31 = .ok (.getfield 11, 3) := by decide +kernel
theorem dX8_pop_34 : decode cX8_pop 34 = .ok (.aload_n 0, 1) := by decide +kernel
theorem dX8_pop_35 : decode cX8_pop 35 = .ok (.getfield 18, 3) := by decide +kernel
theorem dX8_pop_38 : decode cX8_pop 38 = .ok (.aaload, 1) := by decide +kernel
theorem dX8_pop_39 : decode cX8_pop 39 = .ok (.invokevirtual 22, 3) := by decide +kernel
theorem dX8_pop_42 : decode cX8_pop 42 = .ok (.return_, 1) := by decide +kernel
abbrev mt_X8_pop : AxM := (RX8, cX8_pop, 2, none, false, [])
theorem L1_X8_pop {g : AxG} {l : Launch} (N : Nat) {v0 : Nat} {v1 : Nat} {S : AxS} {S9 : AxS} (h : F_X8_pop N v0 v1 S = some S9) : AxMet g l yX8_pop cX8_pop 2 none (2) 0 0 [.ref v0, .ref v1] S ((.inl none, S9)) := by
  refine ax_met (own := RX8) (ini := false) (by decide +kernel) rfl (fun h => nomatch h) rfl ?_
  show AW g l (axRm (2) 0 0) mt_X8_pop (axMQ g 0 0 (.inl none, S9)) 0 0 S 0 [(0, .ref v0), (1, .ref v1)] []
  unfold F_X8_pop at h
  refine aw_aload_n 0 dX8_pop_0 rfl rfl ?_
  refine aw_getI axc8 1 rfl rfl wd_359 dX8_pop_1 h (fun x1 h => ?_)
  refine aw_if_le 42 dX8_pop_4 (by decide) h (fun h => ?_) (fun h => ?_)
  · exact aw_vret dX8_pop_42 rfl (Nat.le_refl _) (Nat.le_refl _) h
  · refine aw_aload_n 0 dX8_pop_7 rfl rfl ?_
    refine aw_getI axc8 1 rfl rfl wd_359 dX8_pop_8 h (fun x2 h => ?_)
    refine aw_aload_n 0 dX8_pop_11 rfl rfl ?_
    refine aw_getR axc8 0 rfl rfl wd_358 dX8_pop_12 h (fun a3 h => ?_)
    refine aw_alen dX8_pop_15 h (fun x4 h => ?_)
    refine aw_icmp_gt 42 dX8_pop_16 (by decide) h (fun h => ?_) (fun h => ?_)
    · exact aw_vret dX8_pop_42 rfl (Nat.le_refl _) (Nat.le_refl _) h
    · refine aw_aload_n 0 dX8_pop_19 rfl rfl ?_
      refine aw_dup rfl dX8_pop_20 ?_
      refine aw_getI axc8 1 rfl rfl wd_359 dX8_pop_21 h (fun x5 h => ?_)
      refine aw_iconst 1 dX8_pop_24 rfl ?_
      refine aw_isub dX8_pop_25 ?_
      refine aw_putI axc8 1 rfl rfl wd_359 rfl rfl rfl dX8_pop_26 h (fun T6 h => ?_)
      refine aw_aload_n 1 dX8_pop_29 rfl rfl ?_
      refine aw_aload_n 0 dX8_pop_30 rfl rfl ?_
      refine aw_getR axc8 0 rfl rfl wd_358 dX8_pop_31 h (fun a7 h => ?_)
      refine aw_aload_n 0 dX8_pop_34 rfl rfl ?_
      refine aw_getI axc8 1 rfl rfl wd_359 dX8_pop_35 h (fun x8 h => ?_)
      refine aw_aald dX8_pop_38 h (fun a9 h => ?_)
      obtain ⟨hL10, h⟩ := ax_is_spec h
      refine aw_doneV (rest := []) h (fun S9 hF => aw_runV (As := [.ref a9]) (rest := []) (L1_X5_take N hF) axc5 hL10 wd_538 wd_535 wd_536 wd_537 wd_93 pd_X5_take rfl (ax_rm (by omega) rfl) ax_hf0 (Nat.le_of_ble_eq_true rfl) rfl dX8_pop_39) (fun T11 h => ?_)
      exact aw_vret dX8_pop_42 rfl (Nat.le_refl _) (Nat.le_refl _) h

theorem dX9_beginAnew_0 : decode cX9_beginAnew 0 = .ok (.aload_n 0, 1) := by decide +kernel
theorem dX9_beginAnew_1 : decode cX9_beginAnew 1 = .ok (.getfield 29, 3) := by decide +kernel
theorem dX9_beginAnew_4 : decode cX9_beginAnew 4 = .ok (.invokevirtual 97, 3) := by decide +kernel
theorem dX9_beginAnew_7 : decode cX9_beginAnew 7 = .ok (.aload_n 0, 1) := by decide +kernel
theorem dX9_beginAnew_8 : decode cX9_beginAnew 8 = .ok (.getfield 39, 3) := by decide +kernel
theorem dX9_beginAnew_11 : decode cX9_beginAnew 11 = .ok (.invokevirtual 100, 3) := by decide +kernel
theorem dX9_beginAnew_14 : decode cX9_beginAnew 14 = .ok (.aload_n 0, 1) := by decide +kernel
theorem dX9_beginAnew_15 : decode cX9_beginAnew 15 = .ok (.getfield 79, 3) := by decide +kernel
theorem dX9_beginAnew_18 : decode cX9_beginAnew 18 = .ok (.iconst 0, 1) := by decide +kernel
theorem dX9_beginAnew_19 : decode cX9_beginAnew 19 = .ok (.putfield 103, 3) := by decide +kernel
theorem dX9_beginAnew_22 : decode cX9_beginAnew 22 = .ok (.aload_n 0, 1) := by decide +kernel
theorem dX9_beginAnew_23 : decode cX9_beginAnew 23 = .ok (.getfield 56, 3) := by decide +kernel
theorem dX9_beginAnew_26 : decode cX9_beginAnew 26 = .ok (.aload_n 0, 1) := by decide +kernel
theorem dX9_beginAnew_27 : decode cX9_beginAnew 27 = .ok (.getfield 19, 3) := by decide +kernel
theorem dX9_beginAnew_30 : decode cX9_beginAnew 30 = .ok (.invokevirtual 107, 3) := by decide +kernel
theorem dX9_beginAnew_33 : decode cX9_beginAnew 33 = .ok (.aload_n 0, 1) := by decide +kernel
theorem dX9_beginAnew_34 : decode cX9_beginAnew 34 = .ok (.getfield 66, 3) := by decide +kernel
theorem dX9_beginAnew_37 : decode cX9_beginAnew 37 = .ok (.iconst 0, 1) := by decide +kernel
theorem dX9_beginAnew_38 : decode cX9_beginAnew 38 = .ok (.putfield 111, 3) := by decide +kernel
theorem dX9_beginAnew_41 : decode cX9_beginAnew 41 = .ok (.aload_n 0, 1) := by decide +kernel
theorem dX9_beginAnew_42 : decode cX9_beginAnew 42 = .ok (.iconst 0, 1) := by decide +kernel
theorem dX9_beginAnew_43 : decode cX9_beginAnew 43 = .ok (.putfield 115, 3) := by decide +kernel
theorem dX9_beginAnew_46 : decode cX9_beginAnew 46 = .ok (.aload_n 0, 1) := by decide +kernel
theorem dX9_beginAnew_47 : decode cX9_beginAnew 47 = .ok (.iconst 0, 1) := by decide +kernel
theorem dX9_beginAnew_48 : decode cX9_beginAnew 48 = .ok (.putfield 118, 3) := by decide +kernel
theorem dX9_beginAnew_51 : decode cX9_beginAnew 51 = .ok (.return_, 1) := by decide +kernel
abbrev mt_X9_beginAnew : AxM := (RX9, cX9_beginAnew, 1, none, false, [])
theorem L1_X9_beginAnew {g : AxG} {l : Launch} (N : Nat) {v0 : Nat} {S : AxS} {S9 : AxS} (h : F_X9_beginAnew N v0 S = some S9) : AxMet g l yX9_beginAnew cX9_beginAnew 1 none (3) 0 0 [.ref v0] S ((.inl none, S9)) := by
  refine ax_met (own := RX9) (ini := false) (by decide +kernel) rfl (fun h => nomatch h) rfl ?_
  show AW g l (axRm (3) 0 0) mt_X9_beginAnew (axMQ g 0 0 (.inl none, S9)) 0 0 S 0 [(0, .ref v0)] []
  unfold F_X9_beginAnew at h
  refine aw_aload_n 0 dX9_beginAnew_0 rfl rfl ?_
  refine aw_getR axc9 3 rfl rfl wd_456 dX9_beginAnew_1 h (fun a1 h => ?_)
  obtain ⟨hL2, h⟩ := ax_is_spec h
  refine aw_doneV (rest := []) h (fun S9 hF => aw_runV (As := []) (rest := []) (L1_X4_tenth N hF) axc4 hL2 wd_436 wd_433 wd_434 wd_435 wd_90 pd_X4_tenth rfl (ax_rm (by omega) rfl) ax_hf0 (Nat.le_of_ble_eq_true rfl) rfl dX9_beginAnew_4) (fun T3 h => ?_)
  refine aw_aload_n 0 dX9_beginAnew_7 rfl rfl ?_
  refine aw_getR axc9 5 rfl rfl wd_458 dX9_beginAnew_8 h (fun a5 h => ?_)
  obtain ⟨hL6, h⟩ := ax_is_spec h
  refine aw_doneV (rest := []) h (fun S9 hF => aw_runV (As := []) (rest := []) (L1_X0_clear N hF) axc0 hL6 wd_447 wd_444 wd_445 wd_446 wd_91 pd_X0_clear rfl (ax_rm (by omega) rfl) ax_hf0 (Nat.le_of_ble_eq_true rfl) rfl dX9_beginAnew_11) (fun T7 h => ?_)
  refine aw_aload_n 0 dX9_beginAnew_14 rfl rfl ?_
  refine aw_getR axc9 16 rfl rfl wd_469 dX9_beginAnew_15 h (fun a9 h => ?_)
  refine aw_iconst 0 dX9_beginAnew_18 rfl ?_
  refine aw_putI axc2 0 rfl rfl wd_376 rfl rfl rfl dX9_beginAnew_19 h (fun T10 h => ?_)
  refine aw_aload_n 0 dX9_beginAnew_22 rfl rfl ?_
  refine aw_getR axc9 8 rfl rfl wd_461 dX9_beginAnew_23 h (fun a11 h => ?_)
  refine aw_aload_n 0 dX9_beginAnew_26 rfl rfl ?_
  refine aw_getR axc9 1 rfl rfl wd_454 dX9_beginAnew_27 h (fun a12 h => ?_)
  obtain ⟨hL13, h⟩ := ax_is_spec h
  refine aw_doneV (rest := []) h (fun S9 hF => aw_runV (As := [.ref a12]) (rest := []) (L1_X5_begin N hF) axc5 hL13 wd_451 wd_448 wd_449 wd_450 wd_93 pd_X5_begin rfl (ax_rm (by omega) rfl) ax_hf0 (Nat.le_of_ble_eq_true rfl) rfl dX9_beginAnew_30) (fun T14 h => ?_)
  refine aw_aload_n 0 dX9_beginAnew_33 rfl rfl ?_
  refine aw_getR axc9 10 rfl rfl wd_463 dX9_beginAnew_34 h (fun a16 h => ?_)
  refine aw_iconst 0 dX9_beginAnew_37 rfl ?_
  refine aw_putI axc8 1 rfl rfl wd_360 rfl rfl rfl dX9_beginAnew_38 h (fun T17 h => ?_)
  refine aw_aload_n 0 dX9_beginAnew_41 rfl rfl ?_
  refine aw_iconst 0 dX9_beginAnew_42 rfl ?_
  refine aw_putI axc9 12 rfl rfl wd_465 rfl rfl rfl dX9_beginAnew_43 h (fun T18 h => ?_)
  refine aw_aload_n 0 dX9_beginAnew_46 rfl rfl ?_
  refine aw_iconst 0 dX9_beginAnew_47 rfl ?_
  refine aw_putI axc9 13 rfl rfl wd_466 rfl rfl rfl dX9_beginAnew_48 h (fun T19 h => ?_)
  exact aw_vret dX9_beginAnew_51 rfl (Nat.le_refl _) (Nat.le_refl _) h

theorem dX9_feed_0 : decode cX9_feed 0 = .ok (.aload_n 0, 1) := by decide +kernel
theorem dX9_feed_1 : decode cX9_feed 1 = .ok (.getfield 10, 3) := by decide +kernel
theorem dX9_feed_4 : decode cX9_feed 4 = .ok (.getfield 121, 3) := by decide +kernel
theorem dX9_feed_7 : decode cX9_feed 7 = .ok (.bipush 20, 2) := by decide +kernel
theorem dX9_feed_9 : decode cX9_feed 9 = .ok (.iadd, 1) := by decide +kernel
theorem dX9_feed_10 : decode cX9_feed 10 = .ok (.sipush 600, 3) := by decide +kernel
theorem dX9_feed_13 : decode cX9_feed 13 = .ok (.if_icmp .le 5, 3) := by decide +kernel
theorem dX9_feed_16 : decode cX9_feed 16 = .ok (.iconst (-1), 1) := by decide +kernel
theorem dX9_feed_17 : decode cX9_feed 17 = .ok (.ireturn, 1) := by decide +kernel
theorem dX9_feed_18 : decode cX9_feed 18 = .ok (.aload_n 0, 1) := by decide +kernel
theorem dX9_feed_19 : decode cX9_feed 19 = .ok (.getfield 10, 3) := by decide +kernel
theorem dX9_feed_22 : decode cX9_feed 22 = .ok (.iload_n 1, 1) := by decide +kernel
theorem dX9_feed_23 : decode cX9_feed 23 = .ok (.invokevirtual 124, 3) := by decide +kernel
theorem dX9_feed_26 : decode cX9_feed 26 = .ok (.aload_n 0, 1) := by decide +kernel
theorem dX9_feed_27 : decode cX9_feed 27 = .ok (.getfield 10, 3) := by decide +kernel
theorem dX9_feed_30 : decode cX9_feed 30 = .ok (.iload_n 2, 1) := by decide +kernel
theorem dX9_feed_31 : decode cX9_feed 31 = .ok (.invokevirtual 124, 3) := by decide +kernel
theorem dX9_feed_34 : decode cX9_feed 34 = .ok (.aload_n 0, 1) := by decide +kernel
theorem dX9_feed_35 : decode cX9_feed 35 = .ok (.getfield 10, 3) := by decide +kernel
theorem dX9_feed_38 : decode cX9_feed 38 = .ok (.iload_n 3, 1) := by decide +kernel
theorem dX9_feed_39 : decode cX9_feed 39 = .ok (.invokevirtual 124, 3) := by decide +kernel
theorem dX9_feed_42 : decode cX9_feed 42 = .ok (.aload_n 0, 1) := by decide +kernel
theorem dX9_feed_43 : decode cX9_feed 43 = .ok (.getfield 10, 3) := by decide +kernel
theorem dX9_feed_46 : decode cX9_feed 46 = .ok (.iload 4, 2) := by decide +kernel
theorem dX9_feed_48 : decode cX9_feed 48 = .ok (.invokevirtual 124, 3) := by decide +kernel
theorem dX9_feed_51 : decode cX9_feed 51 = .ok (.aload_n 0, 1) := by decide +kernel
theorem dX9_feed_52 : decode cX9_feed 52 = .ok (.getfield 10, 3) := by decide +kernel
theorem dX9_feed_55 : decode cX9_feed 55 = .ok (.iload 5, 2) := by decide +kernel
theorem dX9_feed_57 : decode cX9_feed 57 = .ok (.invokevirtual 124, 3) := by decide +kernel
theorem dX9_feed_60 : decode cX9_feed 60 = .ok (.aload_n 0, 1) := by decide +kernel
theorem dX9_feed_61 : decode cX9_feed 61 = .ok (.getfield 10, 3) := by decide +kernel
theorem dX9_feed_64 : decode cX9_feed 64 = .ok (.getfield 121, 3) := by decide +kernel
theorem dX9_feed_67 : decode cX9_feed 67 = .ok (.ireturn, 1) := by decide +kernel
abbrev mt_X9_feed : AxM := (RX9, cX9_feed, 6, (some .int), false, [])
theorem L1_X9_feed {g : AxG} {l : Launch} (N : Nat) {v0 : Nat} {v1 : Int32} {v2 : Int32} {v3 : Int32} {v4 : Int32} {v5 : Int32} {S : AxS} {r9 : Int32} {S9 : AxS} (h : F_X9_feed N v0 v1 v2 v3 v4 v5 S = some ((r9, S9))) : AxMet g l yX9_feed cX9_feed 6 (some .int) (2) 0 0 [.ref v0, .int v1, .int v2, .int v3, .int v4, .int v5] S ((.inl (some (.int r9)), S9)) := by
  refine ax_met (own := RX9) (ini := false) (by decide +kernel) rfl (fun h => nomatch h) rfl ?_
  show AW g l (axRm (2) 0 0) mt_X9_feed (axMQ g 0 0 (.inl (some (.int r9)), S9)) 0 0 S 0 [(0, .ref v0), (1, .int v1), (2, .int v2), (3, .int v3), (4, .int v4), (5, .int v5)] []
  unfold F_X9_feed at h
  refine aw_aload_n 0 dX9_feed_0 rfl rfl ?_
  refine aw_getR axc9 0 rfl rfl wd_453 dX9_feed_1 h (fun a1 h => ?_)
  refine aw_getI axc7 1 rfl rfl wd_125 dX9_feed_4 h (fun x2 h => ?_)
  refine aw_bipush 20 dX9_feed_7 (by decide) ?_
  refine aw_iadd dX9_feed_9 ?_
  refine aw_sipush 600 dX9_feed_10 (by decide) ?_
  refine aw_icmp_le 18 dX9_feed_13 (by decide) h (fun h => ?_) (fun h => ?_)
  · refine aw_aload_n 0 dX9_feed_18 rfl rfl ?_
    refine aw_getR axc9 0 rfl rfl wd_453 dX9_feed_19 h (fun a3 h => ?_)
    refine aw_iload_n 1 dX9_feed_22 rfl rfl ?_
    obtain ⟨hL4, h⟩ := ax_is_spec h
    refine aw_doneV (rest := []) h (fun S9 hF => aw_runV (As := [.int v1]) (rest := []) (L1_X7_append N hF) axc7 hL4 wd_521 wd_518 wd_519 wd_520 wd_88 pd_X7_append rfl (ax_rm (by omega) rfl) ax_hf0 (Nat.le_of_ble_eq_true rfl) rfl dX9_feed_23) (fun T5 h => ?_)
    refine aw_aload_n 0 dX9_feed_26 rfl rfl ?_
    refine aw_getR axc9 0 rfl rfl wd_453 dX9_feed_27 h (fun a7 h => ?_)
    refine aw_iload_n 2 dX9_feed_30 rfl rfl ?_
    obtain ⟨hL8, h⟩ := ax_is_spec h
    refine aw_doneV (rest := []) h (fun S9 hF => aw_runV (As := [.int v2]) (rest := []) (L1_X7_append N hF) axc7 hL8 wd_521 wd_518 wd_519 wd_520 wd_88 pd_X7_append rfl (ax_rm (by omega) rfl) ax_hf0 (Nat.le_of_ble_eq_true rfl) rfl dX9_feed_31) (fun T9 h => ?_)
    refine aw_aload_n 0 dX9_feed_34 rfl rfl ?_
    refine aw_getR axc9 0 rfl rfl wd_453 dX9_feed_35 h (fun a11 h => ?_)
    refine aw_iload_n 3 dX9_feed_38 rfl rfl ?_
    obtain ⟨hL12, h⟩ := ax_is_spec h
    refine aw_doneV (rest := []) h (fun S9 hF => aw_runV (As := [.int v3]) (rest := []) (L1_X7_append N hF) axc7 hL12 wd_521 wd_518 wd_519 wd_520 wd_88 pd_X7_append rfl (ax_rm (by omega) rfl) ax_hf0 (Nat.le_of_ble_eq_true rfl) rfl dX9_feed_39) (fun T13 h => ?_)
    refine aw_aload_n 0 dX9_feed_42 rfl rfl ?_
    refine aw_getR axc9 0 rfl rfl wd_453 dX9_feed_43 h (fun a15 h => ?_)
    refine aw_iload 4 dX9_feed_46 rfl ?_
    obtain ⟨hL16, h⟩ := ax_is_spec h
    refine aw_doneV (rest := []) h (fun S9 hF => aw_runV (As := [.int v4]) (rest := []) (L1_X7_append N hF) axc7 hL16 wd_521 wd_518 wd_519 wd_520 wd_88 pd_X7_append rfl (ax_rm (by omega) rfl) ax_hf0 (Nat.le_of_ble_eq_true rfl) rfl dX9_feed_48) (fun T17 h => ?_)
    refine aw_aload_n 0 dX9_feed_51 rfl rfl ?_
    refine aw_getR axc9 0 rfl rfl wd_453 dX9_feed_52 h (fun a19 h => ?_)
    refine aw_iload 5 dX9_feed_55 rfl ?_
    obtain ⟨hL20, h⟩ := ax_is_spec h
    refine aw_doneV (rest := []) h (fun S9 hF => aw_runV (As := [.int v5]) (rest := []) (L1_X7_append N hF) axc7 hL20 wd_521 wd_518 wd_519 wd_520 wd_88 pd_X7_append rfl (ax_rm (by omega) rfl) ax_hf0 (Nat.le_of_ble_eq_true rfl) rfl dX9_feed_57) (fun T21 h => ?_)
    refine aw_aload_n 0 dX9_feed_60 rfl rfl ?_
    refine aw_getR axc9 0 rfl rfl wd_453 dX9_feed_61 h (fun a23 h => ?_)
    refine aw_getI axc7 1 rfl rfl wd_125 dX9_feed_64 h (fun x24 h => ?_)
    exact aw_iret dX9_feed_67 rfl (Nat.le_refl _) (Nat.le_refl _) h
  · refine aw_iconst (-1) dX9_feed_16 rfl ?_
    exact aw_iret dX9_feed_17 rfl (Nat.le_refl _) (Nat.le_refl _) h

theorem dX9_needArgument_0 : decode cX9_needArgument 0 = .ok (.iload_n 1, 1) := by decide +kernel
theorem dX9_needArgument_1 : decode cX9_needArgument 1 = .ok (.ifCond .ne 24, 3) := by decide +kernel
theorem dX9_needArgument_4 : decode cX9_needArgument 4 = .ok (.aload_n 0, 1) := by decide +kernel
theorem dX9_needArgument_5 : decode cX9_needArgument 5 = .ok (.dup, 1) := by decide +kernel
theorem dX9_needArgument_6 : decode cX9_needArgument 6 = .ok (.getfield 365, 3) := by decide +kernel
theorem dX9_needArgument_9 : decode cX9_needArgument 9 = .ok (.iconst 1, 1) := by decide +kernel
theorem dX9_needArgument_10 : decode cX9_needArgument 10 = .ok (.iadd, 1) := by decide +kernel
theorem dX9_needArgument_11 : decode cX9_needArgument 11 = .ok (.putfield 365, 3) := by decide +kernel
theorem dX9_needArgument_14 : decode cX9_needArgument 14 = .ok (.new 368, 3) := by decide +kernel
theorem dX9_needArgument_17 : decode cX9_needArgument 17 = .ok (.dup, 1) := by decide +kernel
theorem dX9_needArgument_18 : decode cX9_needArgument 18 = .ok (.ldc_w 370, 3) := by decide +kernel
theorem dX9_needArgument_21 : decode cX9_needArgument 21 = .ok (.invokespecial 372, 3) := by decide +kernel
theorem dX9_needArgument_24 : decode cX9_needArgument 24 = .ok (.athrow, 1) := by decide +kernel
theorem dX9_needArgument_25 : decode cX9_needArgument 25 = .ok (.return_, 1) := by decide +kernel
abbrev mt_X9_needArgument : AxM := (RX9, cX9_needArgument, 2, none, false, [])
theorem tk_X9_needArgument : Cond.classLink RX9 368 "java/lang/IllegalArgumentException" ∈ ax_tbl := ax_in (i := 605) (by decide +kernel) rfl
theorem ti_X9_needArgument : Cond.initialized "java/lang/IllegalArgumentException" ∈ ax_tbl := ax_in (i := 101) (by decide +kernel) rfl
theorem tf_X9_needArgument : ∀ w ∈ (vx_atS RX9 372 "java/lang/IllegalArgumentException" ["java/lang/RuntimeException", "java/lang/Exception"]).filter goodWord, w ∈ lw_tbl := by decide +kernel
theorem tg_X9_needArgument : ∀ w ∈ (vx_atS RX9 372 "java/lang/IllegalArgumentException" ["java/lang/RuntimeException", "java/lang/Exception"]).filter goodWord, w ∈ ax_tbl := fun w hw => List.mem_filter.mpr ⟨tf_X9_needArgument w hw, (List.mem_filter.mp hw).2⟩
theorem tb_X9_needArgument : ∀ w ∈ (vx_atS RX9 372 "java/lang/IllegalArgumentException" ["java/lang/RuntimeException", "java/lang/Exception"]).filter (fun w => !goodWord w), w ∈ lw_tbl.filter ax_nw := by decide +kernel
theorem to_X9_needArgument : ∀ w ∈ Cond.classLink RX9 368 "java/lang/IllegalArgumentException" :: Cond.initialized "java/lang/IllegalArgumentException" :: (vx_atS RX9 372 "java/lang/IllegalArgumentException" ["java/lang/RuntimeException", "java/lang/Exception"]), vx_ot w = true := by decide +kernel
theorem aw_throwX9_needArgument {g : AxG} {l : Launch} {S : AxS} {env : List (Nat × Value)} {res : AxT Unit} (hl0 : l.stackTraces = false) (h : some (.inr "java/lang/IllegalArgumentException", axS0 S) = some res) : AW g l (axRm (8) (axCs (axOV res)) (6 * axCs (axOV res))) mt_X9_needArgument (axMQ g (axCs (axOV res)) (6 * axCs (axOV res)) (axOV res)) 0 0 S 14 env [] := aw_throwSW (M := mt_X9_needArgument) (names := ["java/lang/RuntimeException", "java/lang/Exception"]) (j := 0) (tx := "an argument that is none such") hl0 (by decide +kernel) (by decide +kernel) tk_X9_needArgument ti_X9_needArgument rfl tg_X9_needArgument tb_X9_needArgument to_X9_needArgument dX9_needArgument_14 dX9_needArgument_17 dX9_needArgument_18 dX9_needArgument_21 dX9_needArgument_24 rfl (by decide) rfl h
theorem L1_X9_needArgument {g : AxG} {l : Launch} (hl0 : l.stackTraces = false) (N : Nat) {v0 : Nat} {v1 : Int32} {S : AxS} {res : AxT Unit} (h : F_X9_needArgument N v0 v1 S = some res) : AxMet g l yX9_needArgument cX9_needArgument 2 none (8) (axCs (axOV res)) (6 * axCs (axOV res)) [.ref v0, .int v1] S (axOV res) := by
  refine ax_met (own := RX9) (ini := false) (by decide +kernel) rfl (fun h => nomatch h) rfl ?_
  show AW g l (axRm (8) (axCs (axOV res)) (6 * axCs (axOV res))) mt_X9_needArgument (axMQ g (axCs (axOV res)) (6 * axCs (axOV res)) (axOV res)) 0 0 S 0 [(0, .ref v0), (1, .int v1)] []
  unfold F_X9_needArgument at h
  refine aw_iload_n 1 dX9_needArgument_0 rfl rfl ?_
  refine aw_if_ne 25 dX9_needArgument_1 (by decide) h (fun h => ?_) (fun h => ?_)
  · exact aw_vretT dX9_needArgument_25 rfl h
  · refine aw_aload_n 0 dX9_needArgument_4 rfl rfl ?_
    refine aw_dup rfl dX9_needArgument_5 ?_
    refine aw_getI axc9 15 rfl rfl wd_468 dX9_needArgument_6 h (fun x1 h => ?_)
    refine aw_iconst 1 dX9_needArgument_9 rfl ?_
    refine aw_iadd dX9_needArgument_10 ?_
    refine aw_putI axc9 15 rfl rfl wd_468 rfl rfl rfl dX9_needArgument_11 h (fun T2 h => ?_)
    exact aw_throwX9_needArgument hl0 h

theorem dX9_book_0 : decode cX9_book 0 = .ok (.aload_n 0, 1) := by decide +kernel
theorem dX9_book_1 : decode cX9_book 1 = .ok (.iload_n 1, 1) := by decide +kernel
theorem dX9_book_2 : decode cX9_book 2 = .ok (.ifCond .lt 24, 3) := by decide +kernel
theorem dX9_book_5 : decode cX9_book 5 = .ok (.iload_n 1, 1) := by decide +kernel
theorem dX9_book_6 : decode cX9_book 6 = .ok (.bipush 100, 2) := by decide +kernel
theorem dX9_book_8 : decode cX9_book 8 = .ok (.if_icmp .gt 18, 3) := by decide +kernel
theorem dX9_book_11 : decode cX9_book 11 = .ok (.iload_n 1, 1) := by decide +kernel
theorem dX9_book_12 : decode cX9_book 12 = .ok (.aload_n 0, 1) := by decide +kernel
theorem dX9_book_13 : decode cX9_book 13 = .ok (.getfield 10, 3) := by decide +kernel
theorem dX9_book_16 : decode cX9_book 16 = .ok (.getfield 121, 3) := by decide +kernel
theorem dX9_book_19 : decode cX9_book 19 = .ok (.if_icmp .gt 7, 3) := by decide +kernel
theorem dX9_book_22 : decode cX9_book 22 = .ok (.iconst 1, 1) := by decide +kernel
theorem dX9_book_23 : decode cX9_book 23 = .ok (.goto 4, 3) := by decide +kernel
theorem dX9_book_26 : decode cX9_book 26 = .ok (.iconst 0, 1) := by decide +kernel
theorem dX9_book_27 : decode cX9_book 27 = .ok (.invokevirtual 128, 3) := by decide +kernel
theorem dX9_book_30 : decode cX9_book 30 = .ok (.aload_n 0, 1) := by decide +kernel
theorem dX9_book_31 : decode cX9_book 31 = .ok (.getfield 10, 3) := by decide +kernel
theorem dX9_book_34 : decode cX9_book 34 = .ok (.iload_n 1, 1) := by decide +kernel
theorem dX9_book_35 : decode cX9_book 35 = .ok (.invokevirtual 132, 3) := by decide +kernel
theorem dX9_book_38 : decode cX9_book 38 = .ok (.aload_n 0, 1) := by decide +kernel
theorem dX9_book_39 : decode cX9_book 39 = .ok (.getfield 43, 3) := by decide +kernel
theorem dX9_book_42 : decode cX9_book 42 = .ok (.aload_n 0, 1) := by decide +kernel
theorem dX9_book_43 : decode cX9_book 43 = .ok (.getfield 10, 3) := by decide +kernel
theorem dX9_book_46 : decode cX9_book 46 = .ok (.invokevirtual 166, 3) := by decide +kernel
theorem dX9_book_49 : decode cX9_book 49 = .ok (.ifCond .ne 14, 3) := by decide +kernel
theorem dX9_book_52 : decode cX9_book 52 = .ok (.aload_n 0, 1) := by decide +kernel
theorem dX9_book_53 : decode cX9_book 53 = .ok (.getfield 10, 3) := by decide +kernel
theorem dX9_book_56 : decode cX9_book 56 = .ok (.getfield 139, 3) := by decide +kernel
theorem dX9_book_59 : decode cX9_book 59 = .ok (.bipush 10, 2) := by decide +kernel
theorem dX9_book_61 : decode cX9_book 61 = .ok (.isub, 1) := by decide +kernel
theorem dX9_book_62 : decode cX9_book 62 = .ok (.ireturn, 1) := by decide +kernel
theorem dX9_book_63 : decode cX9_book 63 = .ok (.aload_n 0, 1) := by decide +kernel
theorem dX9_book_64 : decode cX9_book 64 = .ok (.getfield 43, 3) := by decide +kernel
theorem dX9_book_67 : decode cX9_book 67 = .ok (.astore_n 2, 1) := by decide +kernel
theorem dX9_book_68 : decode cX9_book 68 = .ok (.aload_n 0, 1) := by decide +kernel
theorem dX9_book_69 : decode cX9_book 69 = .ok (.aload_n 0, 1) := by decide +kernel
theorem dX9_book_70 : decode cX9_book 70 = .ok (.getfield 39, 3) := by decide +kernel
theorem dX9_book_73 : decode cX9_book 73 = .ok (.putfield 43, 3) := by decide +kernel
theorem dX9_book_76 : decode cX9_book 76 = .ok (.aload_n 0, 1) := by decide +kernel
theorem dX9_book_77 : decode cX9_book 77 = .ok (.aload_n 2, 1) := by decide +kernel
theorem dX9_book_78 : decode cX9_book 78 = .ok (.putfield 39, 3) := by decide +kernel
theorem dX9_book_81 : decode cX9_book 81 = .ok (.aload_n 0, 1) := by decide +kernel
theorem dX9_book_82 : decode cX9_book 82 = .ok (.getfield 79, 3) := by decide +kernel
theorem dX9_book_85 : decode cX9_book 85 = .ok (.iconst 0, 1) := by decide +kernel
theorem dX9_book_86 : decode cX9_book 86 = .ok (.putfield 103, 3) := by decide +kernel
theorem dX9_book_89 : decode cX9_book 89 = .ok (.aload_n 0, 1) := by decide +kernel
theorem dX9_book_90 : decode cX9_book 90 = .ok (.getfield 39, 3) := by decide +kernel
theorem dX9_book_93 : decode cX9_book 93 = .ok (.getfield 167, 3) := by decide +kernel
theorem dX9_book_96 : decode cX9_book 96 = .ok (.ireturn, 1) := by decide +kernel
abbrev mt_X9_book : AxM := (RX9, cX9_book, 3, (some .int), false, [])
theorem L1_X9_book_27 {g : AxG} {l : Launch} (hl0 : l.stackTraces = false) {res : AxT Int32} (N : Nat)  (v0 : Nat) (v1 : Int32) (w0 : Int32) (w1 : Nat) (S : AxS) (h : F_X9_book_27 N  v0 v1 w0 w1 S = some res) : AW g l (axRm (9) (axCs (axOI res)) (6 * axCs (axOI res))) mt_X9_book (axMQ g (axCs (axOI res)) (6 * axCs (axOI res)) (axOI res)) 0 0 S 27 [(0, .ref v0), (1, .int v1)] [.int w0, .ref w1] := by
  unfold F_X9_book_27 at h
  obtain ⟨hL1, h⟩ := ax_is_spec h
  refine aw_thV (ob := axOI) (rest := []) (fun _ _ => rfl) rfl h (fun u9 hF hu => aw_runV (As := [.int w0]) (rest := []) (L1_X9_needArgument hl0 N hF) axc9 hL1 wd_604 wd_601 wd_603 wd_3 wd_87 pd_X9_needArgument rfl (ax_rm (by omega) rfl) (ax_hfV (fun _ _ => rfl) hu) (Nat.le_of_ble_eq_true rfl) rfl dX9_book_27) (fun T2 h => ?_)
  refine aw_aload_n 0 dX9_book_30 rfl rfl ?_
  refine aw_getR axc9 0 rfl rfl wd_453 dX9_book_31 h (fun a4 h => ?_)
  refine aw_iload_n 1 dX9_book_34 rfl rfl ?_
  obtain ⟨hL5, h⟩ := ax_is_spec h
  refine aw_doneV (rest := []) h (fun S9 hF => aw_runV (As := [.int v1]) (rest := []) (L1_X7_open N hF) axc7 hL5 wd_675 wd_672 wd_673 wd_674 wd_88 pd_X7_open rfl (ax_rm (by omega) rfl) ax_hf0 (Nat.le_of_ble_eq_true rfl) rfl dX9_book_35) (fun T6 h => ?_)
  refine aw_aload_n 0 dX9_book_38 rfl rfl ?_
  refine aw_getR axc9 6 rfl rfl wd_459 dX9_book_39 h (fun a8 h => ?_)
  refine aw_aload_n 0 dX9_book_42 rfl rfl ?_
  refine aw_getR axc9 0 rfl rfl wd_453 dX9_book_43 h (fun a9 h => ?_)
  obtain ⟨hL10, h⟩ := ax_is_spec h
  refine aw_doneI (rest := []) h (fun r9 S9 hF => aw_runV (As := [.ref a9]) (rest := []) (L1_X0_readFrom N hF) axc0 hL10 wd_938 wd_935 wd_936 wd_937 wd_91 pd_X0_readFrom rfl (ax_rm (by omega) rfl) ax_hf0 (Nat.le_of_ble_eq_true rfl) rfl dX9_book_46) (fun x12 T11 h => ?_)
  refine aw_if_ne 63 dX9_book_49 (by decide) h (fun h => ?_) (fun h => ?_)
  · refine aw_aload_n 0 dX9_book_63 rfl rfl ?_
    refine aw_getR axc9 6 rfl rfl wd_459 dX9_book_64 h (fun a13 h => ?_)
    refine aw_astore_n 2 [(2, .ref a13), (0, .ref v0), (1, .int v1)] dX9_book_67 rfl rfl rfl ?_
    refine aw_aload_n 1 dX9_book_68 rfl rfl ?_
    refine aw_aload_n 1 dX9_book_69 rfl rfl ?_
    refine aw_getR axc9 5 rfl rfl wd_458 dX9_book_70 h (fun a14 h => ?_)
    refine aw_putR axc9 6 rfl rfl wd_459 (Or.inl rfl) rfl rfl dX9_book_73 h (fun T15 h => ?_)
    refine aw_aload_n 1 dX9_book_76 rfl rfl ?_
    refine aw_aload_n 0 dX9_book_77 rfl rfl ?_
    refine aw_putR axc9 5 rfl rfl wd_458 (Or.inl rfl) rfl rfl dX9_book_78 h (fun T16 h => ?_)
    refine aw_aload_n 1 dX9_book_81 rfl rfl ?_
    refine aw_getR axc9 16 rfl rfl wd_469 dX9_book_82 h (fun a17 h => ?_)
    refine aw_iconst 0 dX9_book_85 rfl ?_
    refine aw_putI axc2 0 rfl rfl wd_376 rfl rfl rfl dX9_book_86 h (fun T18 h => ?_)
    refine aw_aload_n 1 dX9_book_89 rfl rfl ?_
    refine aw_getR axc9 5 rfl rfl wd_458 dX9_book_90 h (fun a19 h => ?_)
    refine aw_getI axc0 1 rfl rfl wd_251 dX9_book_93 h (fun x20 h => ?_)
    exact aw_iretT dX9_book_96 rfl h
  · refine aw_aload_n 0 dX9_book_52 rfl rfl ?_
    refine aw_getR axc9 0 rfl rfl wd_453 dX9_book_53 h (fun a21 h => ?_)
    refine aw_getI axc7 4 rfl rfl wd_133 dX9_book_56 h (fun x22 h => ?_)
    refine aw_bipush 10 dX9_book_59 (by decide) ?_
    refine aw_isub dX9_book_61 ?_
    exact aw_iretT dX9_book_62 rfl h
theorem L1_X9_book_26 {g : AxG} {l : Launch} (hl0 : l.stackTraces = false) {res : AxT Int32} (N : Nat)  (v0 : Nat) (v1 : Int32) (w0 : Nat) (S : AxS) (h : F_X9_book_26 N  v0 v1 w0 S = some res) : AW g l (axRm (9) (axCs (axOI res)) (6 * axCs (axOI res))) mt_X9_book (axMQ g (axCs (axOI res)) (6 * axCs (axOI res)) (axOI res)) 0 0 S 26 [(0, .ref v0), (1, .int v1)] [.ref w0] := by
  unfold F_X9_book_26 at h
  refine aw_iconst 0 dX9_book_26 rfl ?_
  refine aw_env [(0, .ref v0), (1, .int v1)] [0, 1] rfl ?_
  exact L1_X9_book_27 hl0 N  v0 v1 0 w0 S h
theorem L1_X9_book {g : AxG} {l : Launch} (hl0 : l.stackTraces = false) (N : Nat) {v0 : Nat} {v1 : Int32} {S : AxS} {res : AxT Int32} (h : F_X9_book N v0 v1 S = some res) : AxMet g l yX9_book cX9_book 3 (some .int) (9) (axCs (axOI res)) (6 * axCs (axOI res)) [.ref v0, .int v1] S (axOI res) := by
  refine ax_met (own := RX9) (ini := false) (by decide +kernel) rfl (fun h => nomatch h) rfl ?_
  show AW g l (axRm (9) (axCs (axOI res)) (6 * axCs (axOI res))) mt_X9_book (axMQ g (axCs (axOI res)) (6 * axCs (axOI res)) (axOI res)) 0 0 S 0 [(0, .ref v0), (1, .int v1)] []
  unfold F_X9_book at h
  refine aw_aload_n 0 dX9_book_0 rfl rfl ?_
  refine aw_iload_n 1 dX9_book_1 rfl rfl ?_
  refine aw_if_lt 26 dX9_book_2 (by decide) h (fun h => ?_) (fun h => ?_)
  · refine aw_env [(0, .ref v0), (1, .int v1)] [0, 1] rfl ?_
    exact L1_X9_book_26 hl0 N  v0 v1 v0 S h
  · refine aw_iload_n 1 dX9_book_5 rfl rfl ?_
    refine aw_bipush 100 dX9_book_6 (by decide) ?_
    refine aw_icmp_gt 26 dX9_book_8 (by decide) h (fun h => ?_) (fun h => ?_)
    · refine aw_env [(0, .ref v0), (1, .int v1)] [0, 1] rfl ?_
      exact L1_X9_book_26 hl0 N  v0 v1 v0 S h
    · refine aw_iload_n 1 dX9_book_11 rfl rfl ?_
      refine aw_aload_n 0 dX9_book_12 rfl rfl ?_
      refine aw_getR axc9 0 rfl rfl wd_453 dX9_book_13 h (fun a1 h => ?_)
      refine aw_getI axc7 1 rfl rfl wd_125 dX9_book_16 h (fun x2 h => ?_)
      refine aw_icmp_gt 26 dX9_book_19 (by decide) h (fun h => ?_) (fun h => ?_)
      · refine aw_env [(0, .ref v0), (1, .int v1)] [0, 1] rfl ?_
        exact L1_X9_book_26 hl0 N  v0 v1 v0 S h
      · refine aw_iconst 1 dX9_book_22 rfl ?_
        refine aw_goto 27 dX9_book_23 (by decide) ?_
        refine aw_env [(0, .ref v0), (1, .int v1)] [0, 1] rfl ?_
        exact L1_X9_book_27 hl0 N  v0 v1 1 v0 S h

theorem dX9_fault_0 : decode cX9_fault 0 = .ok (.aload_n 0, 1) := by decide +kernel
theorem dX9_fault_1 : decode cX9_fault 1 = .ok (.getfield 10, 3) := by decide +kernel
theorem dX9_fault_4 : decode cX9_fault 4 = .ok (.getfield 168, 3) := by decide +kernel
theorem dX9_fault_7 : decode cX9_fault 7 = .ok (.ireturn, 1) := by decide +kernel
abbrev mt_X9_fault : AxM := (RX9, cX9_fault, 1, (some .int), false, [])
theorem L1_X9_fault {g : AxG} {l : Launch} (N : Nat) {v0 : Nat} {S : AxS} {r9 : Int32} {S9 : AxS} (h : F_X9_fault N v0 S = some ((r9, S9))) : AxMet g l yX9_fault cX9_fault 1 (some .int) (0) 0 0 [.ref v0] S ((.inl (some (.int r9)), S9)) := by
  refine ax_met (own := RX9) (ini := false) (by decide +kernel) rfl (fun h => nomatch h) rfl ?_
  show AW g l (axRm (0) 0 0) mt_X9_fault (axMQ g 0 0 (.inl (some (.int r9)), S9)) 0 0 S 0 [(0, .ref v0)] []
  unfold F_X9_fault at h
  refine aw_aload_n 0 dX9_fault_0 rfl rfl ?_
  refine aw_getR axc9 0 rfl rfl wd_453 dX9_fault_1 h (fun a1 h => ?_)
  refine aw_getI axc7 5 rfl rfl wd_136 dX9_fault_4 h (fun x2 h => ?_)
  exact aw_iret dX9_fault_7 rfl (Nat.le_refl _) (Nat.le_refl _) h

theorem dX9_undo_0 : decode cX9_undo 0 = .ok (.aload_n 0, 1) := by decide +kernel
theorem dX9_undo_1 : decode cX9_undo 1 = .ok (.getfield 66, 3) := by decide +kernel
theorem dX9_undo_4 : decode cX9_undo 4 = .ok (.getfield 111, 3) := by decide +kernel
theorem dX9_undo_7 : decode cX9_undo 7 = .ok (.ifCond .gt 5, 3) := by decide +kernel
theorem dX9_undo_10 : decode cX9_undo 10 = .ok (.iconst (-1), 1) := by decide +kernel
theorem dX9_undo_11 : decode cX9_undo 11 = .ok (.ireturn, 1) := by decide +kernel
theorem dX9_undo_12 : decode cX9_undo 12 = .ok (.aload_n 0, 1) := by decide +kernel
theorem dX9_undo_13 : decode cX9_undo 13 = .ok (.getfield 66, 3) := by decide +kernel
theorem dX9_undo_16 : decode cX9_undo 16 = .ok (.aload_n 0, 1) := by decide +kernel
theorem dX9_undo_17 : decode cX9_undo 17 = .ok (.getfield 56, 3) := by decide +kernel
theorem dX9_undo_20 : decode cX9_undo 20 = .ok (.invokevirtual 171, 3) := by decide +kernel
theorem dX9_undo_23 : decode cX9_undo 23 = .ok (.aload_n 0, 1) := by decide +kernel
theorem dX9_undo_24 : decode cX9_undo 24 = .ok (.iconst 0, 1) := by decide +kernel
theorem dX9_undo_25 : decode cX9_undo 25 = .ok (.putfield 118, 3) := by decide +kernel
theorem dX9_undo_28 : decode cX9_undo 28 = .ok (.aload_n 0, 1) := by decide +kernel
theorem dX9_undo_29 : decode cX9_undo 29 = .ok (.getfield 66, 3) := by decide +kernel
theorem dX9_undo_32 : decode cX9_undo 32 = .ok (.getfield 111, 3) := by decide +kernel
theorem dX9_undo_35 : decode cX9_undo 35 = .ok (.ireturn, 1) := by decide +kernel
abbrev mt_X9_undo : AxM := (RX9, cX9_undo, 1, (some .int), false, [])
theorem L1_X9_undo {g : AxG} {l : Launch} (N : Nat) {v0 : Nat} {S : AxS} {r9 : Int32} {S9 : AxS} (h : F_X9_undo N v0 S = some ((r9, S9))) : AxMet g l yX9_undo cX9_undo 1 (some .int) (3) 0 0 [.ref v0] S ((.inl (some (.int r9)), S9)) := by
  refine ax_met (own := RX9) (ini := false) (by decide +kernel) rfl (fun h => nomatch h) rfl ?_
  show AW g l (axRm (3) 0 0) mt_X9_undo (axMQ g 0 0 (.inl (some (.int r9)), S9)) 0 0 S 0 [(0, .ref v0)] []
  unfold F_X9_undo at h
  refine aw_aload_n 0 dX9_undo_0 rfl rfl ?_
  refine aw_getR axc9 10 rfl rfl wd_463 dX9_undo_1 h (fun a1 h => ?_)
  refine aw_getI axc8 1 rfl rfl wd_360 dX9_undo_4 h (fun x2 h => ?_)
  refine aw_if_gt 12 dX9_undo_7 (by decide) h (fun h => ?_) (fun h => ?_)
  · refine aw_aload_n 0 dX9_undo_12 rfl rfl ?_
    refine aw_getR axc9 10 rfl rfl wd_463 dX9_undo_13 h (fun a3 h => ?_)
    refine aw_aload_n 0 dX9_undo_16 rfl rfl ?_
    refine aw_getR axc9 8 rfl rfl wd_461 dX9_undo_17 h (fun a4 h => ?_)
    obtain ⟨hL5, h⟩ := ax_is_spec h
    refine aw_doneV (rest := []) h (fun S9 hF => aw_runV (As := [.ref a4]) (rest := []) (L1_X8_pop N hF) axc8 hL5 wd_534 wd_531 wd_532 wd_533 wd_94 pd_X8_pop rfl (ax_rm (by omega) rfl) ax_hf0 (Nat.le_of_ble_eq_true rfl) rfl dX9_undo_20) (fun T6 h => ?_)
    refine aw_aload_n 0 dX9_undo_23 rfl rfl ?_
    refine aw_iconst 0 dX9_undo_24 rfl ?_
    refine aw_putI axc9 13 rfl rfl wd_466 rfl rfl rfl dX9_undo_25 h (fun T8 h => ?_)
    refine aw_aload_n 0 dX9_undo_28 rfl rfl ?_
    refine aw_getR axc9 10 rfl rfl wd_463 dX9_undo_29 h (fun a9 h => ?_)
    refine aw_getI axc8 1 rfl rfl wd_360 dX9_undo_32 h (fun x10 h => ?_)
    exact aw_iret dX9_undo_35 rfl (Nat.le_refl _) (Nat.le_refl _) h
  · refine aw_iconst (-1) dX9_undo_10 rfl ?_
    exact aw_iret dX9_undo_11 rfl (Nat.le_refl _) (Nat.le_refl _) h

theorem dX9_told_0 : decode cX9_told 0 = .ok (.aload_n 0, 1) := by decide +kernel
theorem dX9_told_1 : decode cX9_told 1 = .ok (.iload_n 1, 1) := by decide +kernel
theorem dX9_told_2 : decode cX9_told 2 = .ok (.ifCond .lt 13, 3) := by decide +kernel
theorem dX9_told_5 : decode cX9_told 5 = .ok (.iload_n 1, 1) := by decide +kernel
theorem dX9_told_6 : decode cX9_told 6 = .ok (.bipush 12, 2) := by decide +kernel
theorem dX9_told_8 : decode cX9_told 8 = .ok (.if_icmp .gt 7, 3) := by decide +kernel
theorem dX9_told_11 : decode cX9_told 11 = .ok (.iconst 1, 1) := by decide +kernel
theorem dX9_told_12 : decode cX9_told 12 = .ok (.goto 4, 3) := by decide +kernel
theorem dX9_told_15 : decode cX9_told 15 = .ok (.iconst 0, 1) := by decide +kernel
theorem dX9_told_16 : decode cX9_told 16 = .ok (.invokevirtual 128, 3) := by decide +kernel
theorem dX9_told_19 : decode cX9_told 19 = .ok (.iload_n 1, 1) := by decide +kernel
theorem dX9_told_20 : decode cX9_told 20 = .ok (.tableswitch 157 0 11 #[64, 72, 80, 88, 96, 104, 112, 120, 128, 136, 144, 152], 64) := by decide +kernel
theorem dX9_told_84 : decode cX9_told 84 = .ok (.aload_n 0, 1) := by decide +kernel
theorem dX9_told_85 : decode cX9_told 85 = .ok (.getfield 56, 3) := by decide +kernel
theorem dX9_told_88 : decode cX9_told 88 = .ok (.getfield 174, 3) := by decide +kernel
theorem dX9_told_91 : decode cX9_told 91 = .ok (.ireturn, 1) := by decide +kernel
theorem dX9_told_92 : decode cX9_told 92 = .ok (.aload_n 0, 1) := by decide +kernel
theorem dX9_told_93 : decode cX9_told 93 = .ok (.getfield 56, 3) := by decide +kernel
theorem dX9_told_96 : decode cX9_told 96 = .ok (.getfield 177, 3) := by decide +kernel
theorem dX9_told_99 : decode cX9_told 99 = .ok (.ireturn, 1) := by decide +kernel
theorem dX9_told_100 : decode cX9_told 100 = .ok (.aload_n 0, 1) := by decide +kernel
theorem dX9_told_101 : decode cX9_told 101 = .ok (.getfield 56, 3) := by decide +kernel
theorem dX9_told_104 : decode cX9_told 104 = .ok (.getfield 180, 3) := by decide +kernel
theorem dX9_told_107 : decode cX9_told 107 = .ok (.ireturn, 1) := by decide +kernel
theorem dX9_told_108 : decode cX9_told 108 = .ok (.aload_n 0, 1) := by decide +kernel
theorem dX9_told_109 : decode cX9_told 109 = .ok (.getfield 56, 3) := by decide +kernel
theorem dX9_told_112 : decode cX9_told 112 = .ok (.getfield 183, 3) := by decide +kernel
theorem dX9_told_115 : decode cX9_told 115 = .ok (.ireturn, 1) := by decide +kernel
theorem dX9_told_116 : decode cX9_told 116 = .ok (.aload_n 0, 1) := by decide +kernel
theorem dX9_told_117 : decode cX9_told 117 = .ok (.getfield 56, 3) := by decide +kernel
theorem dX9_told_120 : decode cX9_told 120 = .ok (.getfield 186, 3) := by decide +kernel
theorem dX9_told_123 : decode cX9_told 123 = .ok (.ireturn, 1) := by decide +kernel
theorem dX9_told_124 : decode cX9_told 124 = .ok (.aload_n 0, 1) := by decide +kernel
theorem dX9_told_125 : decode cX9_told 125 = .ok (.getfield 56, 3) := by decide +kernel
theorem dX9_told_128 : decode cX9_told 128 = .ok (.getfield 189, 3) := by decide +kernel
theorem dX9_told_131 : decode cX9_told 131 = .ok (.ireturn, 1) := by decide +kernel
theorem dX9_told_132 : decode cX9_told 132 = .ok (.aload_n 0, 1) := by decide +kernel
theorem dX9_told_133 : decode cX9_told 133 = .ok (.getfield 56, 3) := by decide +kernel
theorem dX9_told_136 : decode cX9_told 136 = .ok (.getfield 192, 3) := by decide +kernel
theorem dX9_told_139 : decode cX9_told 139 = .ok (.ireturn, 1) := by decide +kernel
theorem dX9_told_140 : decode cX9_told 140 = .ok (.aload_n 0, 1) := by decide +kernel
theorem dX9_told_141 : decode cX9_told 141 = .ok (.getfield 56, 3) := by decide +kernel
theorem dX9_told_144 : decode cX9_told 144 = .ok (.getfield 195, 3) := by decide +kernel
theorem dX9_told_147 : decode cX9_told 147 = .ok (.ireturn, 1) := by decide +kernel
theorem dX9_told_148 : decode cX9_told 148 = .ok (.aload_n 0, 1) := by decide +kernel
theorem dX9_told_149 : decode cX9_told 149 = .ok (.getfield 56, 3) := by decide +kernel
theorem dX9_told_152 : decode cX9_told 152 = .ok (.getfield 198, 3) := by decide +kernel
theorem dX9_told_155 : decode cX9_told 155 = .ok (.ireturn, 1) := by decide +kernel
theorem dX9_told_156 : decode cX9_told 156 = .ok (.aload_n 0, 1) := by decide +kernel
theorem dX9_told_157 : decode cX9_told 157 = .ok (.getfield 56, 3) := by decide +kernel
theorem dX9_told_160 : decode cX9_told 160 = .ok (.getfield 201, 3) := by decide +kernel
theorem dX9_told_163 : decode cX9_told 163 = .ok (.ireturn, 1) := by decide +kernel
theorem dX9_told_164 : decode cX9_told 164 = .ok (.aload_n 0, 1) := by decide +kernel
theorem dX9_told_165 : decode cX9_told 165 = .ok (.getfield 39, 3) := by decide +kernel
theorem dX9_told_168 : decode cX9_told 168 = .ok (.getfield 167, 3) := by decide +kernel
theorem dX9_told_171 : decode cX9_told 171 = .ok (.ireturn, 1) := by decide +kernel
theorem dX9_told_172 : decode cX9_told 172 = .ok (.aload_n 0, 1) := by decide +kernel
theorem dX9_told_173 : decode cX9_told 173 = .ok (.getfield 118, 3) := by decide +kernel
theorem dX9_told_176 : decode cX9_told 176 = .ok (.ireturn, 1) := by decide +kernel
theorem dX9_told_177 : decode cX9_told 177 = .ok (.aload_n 0, 1) := by decide +kernel
theorem dX9_told_178 : decode cX9_told 178 = .ok (.getfield 56, 3) := by decide +kernel
theorem dX9_told_181 : decode cX9_told 181 = .ok (.getfield 204, 3) := by decide +kernel
theorem dX9_told_184 : decode cX9_told 184 = .ok (.ireturn, 1) := by decide +kernel
abbrev mt_X9_told : AxM := (RX9, cX9_told, 2, (some .int), false, [])
theorem L1_X9_told_16 {g : AxG} {l : Launch} (hl0 : l.stackTraces = false) {res : AxT Int32} (N : Nat)  (v0 : Nat) (v1 : Int32) (w0 : Int32) (w1 : Nat) (S : AxS) (h : F_X9_told_16 N  v0 v1 w0 w1 S = some res) : AW g l (axRm (9) (axCs (axOI res)) (6 * axCs (axOI res))) mt_X9_told (axMQ g (axCs (axOI res)) (6 * axCs (axOI res)) (axOI res)) 0 0 S 16 [(0, .ref v0), (1, .int v1)] [.int w0, .ref w1] := by
  unfold F_X9_told_16 at h
  obtain ⟨hL1, h⟩ := ax_is_spec h
  refine aw_thV (ob := axOI) (rest := []) (fun _ _ => rfl) rfl h (fun u9 hF hu => aw_runV (As := [.int w0]) (rest := []) (L1_X9_needArgument hl0 N hF) axc9 hL1 wd_604 wd_601 wd_603 wd_3 wd_87 pd_X9_needArgument rfl (ax_rm (by omega) rfl) (ax_hfV (fun _ _ => rfl) hu) (Nat.le_of_ble_eq_true rfl) rfl dX9_told_16) (fun T2 h => ?_)
  refine aw_iload_n 1 dX9_told_19 rfl rfl ?_
  refine aw_case 0 h (fun h => ?_) (fun c6 h => ?_)
  · refine aw_tswIn 84 (off := 64) dX9_told_20 (by decide) (by decide) (by decide) (by decide) ?_
    refine aw_aload_n 0 dX9_told_84 rfl rfl ?_
    refine aw_getR axc9 8 rfl rfl wd_461 dX9_told_85 h (fun a4 h => ?_)
    refine aw_getI axc5 0 rfl rfl wd_293 dX9_told_88 h (fun x5 h => ?_)
    exact aw_iretT dX9_told_91 rfl h
  refine aw_case 1 h (fun h => ?_) (fun c9 h => ?_)
  · refine aw_tswIn 92 (off := 72) dX9_told_20 (by decide) (by decide) (by decide) (by decide) ?_
    refine aw_aload_n 0 dX9_told_92 rfl rfl ?_
    refine aw_getR axc9 8 rfl rfl wd_461 dX9_told_93 h (fun a7 h => ?_)
    refine aw_getI axc5 1 rfl rfl wd_295 dX9_told_96 h (fun x8 h => ?_)
    exact aw_iretT dX9_told_99 rfl h
  refine aw_case 2 h (fun h => ?_) (fun c12 h => ?_)
  · refine aw_tswIn 100 (off := 80) dX9_told_20 (by decide) (by decide) (by decide) (by decide) ?_
    refine aw_aload_n 0 dX9_told_100 rfl rfl ?_
    refine aw_getR axc9 8 rfl rfl wd_461 dX9_told_101 h (fun a10 h => ?_)
    refine aw_getI axc5 2 rfl rfl wd_297 dX9_told_104 h (fun x11 h => ?_)
    exact aw_iretT dX9_told_107 rfl h
  refine aw_case 3 h (fun h => ?_) (fun c15 h => ?_)
  · refine aw_tswIn 108 (off := 88) dX9_told_20 (by decide) (by decide) (by decide) (by decide) ?_
    refine aw_aload_n 0 dX9_told_108 rfl rfl ?_
    refine aw_getR axc9 8 rfl rfl wd_461 dX9_told_109 h (fun a13 h => ?_)
    refine aw_getI axc5 3 rfl rfl wd_299 dX9_told_112 h (fun x14 h => ?_)
    exact aw_iretT dX9_told_115 rfl h
  refine aw_case 4 h (fun h => ?_) (fun c18 h => ?_)
  · refine aw_tswIn 116 (off := 96) dX9_told_20 (by decide) (by decide) (by decide) (by decide) ?_
    refine aw_aload_n 0 dX9_told_116 rfl rfl ?_
    refine aw_getR axc9 8 rfl rfl wd_461 dX9_told_117 h (fun a16 h => ?_)
    refine aw_getI axc5 4 rfl rfl wd_301 dX9_told_120 h (fun x17 h => ?_)
    exact aw_iretT dX9_told_123 rfl h
  refine aw_case 5 h (fun h => ?_) (fun c21 h => ?_)
  · refine aw_tswIn 124 (off := 104) dX9_told_20 (by decide) (by decide) (by decide) (by decide) ?_
    refine aw_aload_n 0 dX9_told_124 rfl rfl ?_
    refine aw_getR axc9 8 rfl rfl wd_461 dX9_told_125 h (fun a19 h => ?_)
    refine aw_getI axc5 5 rfl rfl wd_303 dX9_told_128 h (fun x20 h => ?_)
    exact aw_iretT dX9_told_131 rfl h
  refine aw_case 6 h (fun h => ?_) (fun c24 h => ?_)
  · refine aw_tswIn 132 (off := 112) dX9_told_20 (by decide) (by decide) (by decide) (by decide) ?_
    refine aw_aload_n 0 dX9_told_132 rfl rfl ?_
    refine aw_getR axc9 8 rfl rfl wd_461 dX9_told_133 h (fun a22 h => ?_)
    refine aw_getI axc5 6 rfl rfl wd_305 dX9_told_136 h (fun x23 h => ?_)
    exact aw_iretT dX9_told_139 rfl h
  refine aw_case 7 h (fun h => ?_) (fun c27 h => ?_)
  · refine aw_tswIn 140 (off := 120) dX9_told_20 (by decide) (by decide) (by decide) (by decide) ?_
    refine aw_aload_n 0 dX9_told_140 rfl rfl ?_
    refine aw_getR axc9 8 rfl rfl wd_461 dX9_told_141 h (fun a25 h => ?_)
    refine aw_getI axc5 7 rfl rfl wd_307 dX9_told_144 h (fun x26 h => ?_)
    exact aw_iretT dX9_told_147 rfl h
  refine aw_case 8 h (fun h => ?_) (fun c30 h => ?_)
  · refine aw_tswIn 148 (off := 128) dX9_told_20 (by decide) (by decide) (by decide) (by decide) ?_
    refine aw_aload_n 0 dX9_told_148 rfl rfl ?_
    refine aw_getR axc9 8 rfl rfl wd_461 dX9_told_149 h (fun a28 h => ?_)
    refine aw_getI axc5 10 rfl rfl wd_313 dX9_told_152 h (fun x29 h => ?_)
    exact aw_iretT dX9_told_155 rfl h
  refine aw_case 9 h (fun h => ?_) (fun c33 h => ?_)
  · refine aw_tswIn 156 (off := 136) dX9_told_20 (by decide) (by decide) (by decide) (by decide) ?_
    refine aw_aload_n 0 dX9_told_156 rfl rfl ?_
    refine aw_getR axc9 8 rfl rfl wd_461 dX9_told_157 h (fun a31 h => ?_)
    refine aw_getI axc5 11 rfl rfl wd_315 dX9_told_160 h (fun x32 h => ?_)
    exact aw_iretT dX9_told_163 rfl h
  refine aw_case 10 h (fun h => ?_) (fun c36 h => ?_)
  · refine aw_tswIn 164 (off := 144) dX9_told_20 (by decide) (by decide) (by decide) (by decide) ?_
    refine aw_aload_n 0 dX9_told_164 rfl rfl ?_
    refine aw_getR axc9 5 rfl rfl wd_458 dX9_told_165 h (fun a34 h => ?_)
    refine aw_getI axc0 1 rfl rfl wd_251 dX9_told_168 h (fun x35 h => ?_)
    exact aw_iretT dX9_told_171 rfl h
  refine aw_case 11 h (fun h => ?_) (fun c38 h => ?_)
  · refine aw_tswIn 172 (off := 152) dX9_told_20 (by decide) (by decide) (by decide) (by decide) ?_
    refine aw_aload_n 0 dX9_told_172 rfl rfl ?_
    refine aw_getI axc9 13 rfl rfl wd_466 dX9_told_173 h (fun x37 h => ?_)
    exact aw_iretT dX9_told_176 rfl h
  refine aw_tswOut 177 dX9_told_20 (by have q0 := ax_i32ne c6 (v := 0) (i := 0) (by decide); have q1 := ax_i32ne c9 (v := 1) (i := 1) (by decide); have q2 := ax_i32ne c12 (v := 2) (i := 2) (by decide); have q3 := ax_i32ne c15 (v := 3) (i := 3) (by decide); have q4 := ax_i32ne c18 (v := 4) (i := 4) (by decide); have q5 := ax_i32ne c21 (v := 5) (i := 5) (by decide); have q6 := ax_i32ne c24 (v := 6) (i := 6) (by decide); have q7 := ax_i32ne c27 (v := 7) (i := 7) (by decide); have q8 := ax_i32ne c30 (v := 8) (i := 8) (by decide); have q9 := ax_i32ne c33 (v := 9) (i := 9) (by decide); have q10 := ax_i32ne c36 (v := 10) (i := 10) (by decide); have q11 := ax_i32ne c38 (v := 11) (i := 11) (by decide); omega) (by decide) ?_
  refine aw_aload_n 0 dX9_told_177 rfl rfl ?_
  refine aw_getR axc9 8 rfl rfl wd_461 dX9_told_178 h (fun a39 h => ?_)
  refine aw_getI axc5 8 rfl rfl wd_309 dX9_told_181 h (fun x40 h => ?_)
  exact aw_iretT dX9_told_184 rfl h
theorem L1_X9_told_15 {g : AxG} {l : Launch} (hl0 : l.stackTraces = false) {res : AxT Int32} (N : Nat)  (v0 : Nat) (v1 : Int32) (w0 : Nat) (S : AxS) (h : F_X9_told_15 N  v0 v1 w0 S = some res) : AW g l (axRm (9) (axCs (axOI res)) (6 * axCs (axOI res))) mt_X9_told (axMQ g (axCs (axOI res)) (6 * axCs (axOI res)) (axOI res)) 0 0 S 15 [(0, .ref v0), (1, .int v1)] [.ref w0] := by
  unfold F_X9_told_15 at h
  refine aw_iconst 0 dX9_told_15 rfl ?_
  refine aw_env [(0, .ref v0), (1, .int v1)] [0, 1] rfl ?_
  exact L1_X9_told_16 hl0 N  v0 v1 0 w0 S h
theorem L1_X9_told {g : AxG} {l : Launch} (hl0 : l.stackTraces = false) (N : Nat) {v0 : Nat} {v1 : Int32} {S : AxS} {res : AxT Int32} (h : F_X9_told N v0 v1 S = some res) : AxMet g l yX9_told cX9_told 2 (some .int) (9) (axCs (axOI res)) (6 * axCs (axOI res)) [.ref v0, .int v1] S (axOI res) := by
  refine ax_met (own := RX9) (ini := false) (by decide +kernel) rfl (fun h => nomatch h) rfl ?_
  show AW g l (axRm (9) (axCs (axOI res)) (6 * axCs (axOI res))) mt_X9_told (axMQ g (axCs (axOI res)) (6 * axCs (axOI res)) (axOI res)) 0 0 S 0 [(0, .ref v0), (1, .int v1)] []
  unfold F_X9_told at h
  refine aw_aload_n 0 dX9_told_0 rfl rfl ?_
  refine aw_iload_n 1 dX9_told_1 rfl rfl ?_
  refine aw_if_lt 15 dX9_told_2 (by decide) h (fun h => ?_) (fun h => ?_)
  · refine aw_env [(0, .ref v0), (1, .int v1)] [0, 1] rfl ?_
    exact L1_X9_told_15 hl0 N  v0 v1 v0 S h
  · refine aw_iload_n 1 dX9_told_5 rfl rfl ?_
    refine aw_bipush 12 dX9_told_6 (by decide) ?_
    refine aw_icmp_gt 15 dX9_told_8 (by decide) h (fun h => ?_) (fun h => ?_)
    · refine aw_env [(0, .ref v0), (1, .int v1)] [0, 1] rfl ?_
      exact L1_X9_told_15 hl0 N  v0 v1 v0 S h
    · refine aw_iconst 1 dX9_told_11 rfl ?_
      refine aw_goto 16 dX9_told_12 (by decide) ?_
      refine aw_env [(0, .ref v0), (1, .int v1)] [0, 1] rfl ?_
      exact L1_X9_told_16 hl0 N  v0 v1 1 v0 S h

theorem dX9_many_0 : decode cX9_many 0 = .ok (.aload_n 0, 1) := by decide +kernel
theorem dX9_many_1 : decode cX9_many 1 = .ok (.iload_n 1, 1) := by decide +kernel
theorem dX9_many_2 : decode cX9_many 2 = .ok (.ifCond .lt 12, 3) := by decide +kernel
theorem dX9_many_5 : decode cX9_many 5 = .ok (.iload_n 1, 1) := by decide +kernel
theorem dX9_many_6 : decode cX9_many 6 = .ok (.iconst 3, 1) := by decide +kernel
theorem dX9_many_7 : decode cX9_many 7 = .ok (.if_icmp .gt 7, 3) := by decide +kernel
theorem dX9_many_10 : decode cX9_many 10 = .ok (.iconst 1, 1) := by decide +kernel
theorem dX9_many_11 : decode cX9_many 11 = .ok (.goto 4, 3) := by decide +kernel
theorem dX9_many_14 : decode cX9_many 14 = .ok (.iconst 0, 1) := by decide +kernel
theorem dX9_many_15 : decode cX9_many 15 = .ok (.invokevirtual 128, 3) := by decide +kernel
theorem dX9_many_18 : decode cX9_many 18 = .ok (.iload_n 1, 1) := by decide +kernel
theorem dX9_many_19 : decode cX9_many 19 = .ok (.tableswitch 49 0 2 #[25, 33, 41], 25) := by decide +kernel
theorem dX9_many_44 : decode cX9_many 44 = .ok (.aload_n 0, 1) := by decide +kernel
theorem dX9_many_45 : decode cX9_many 45 = .ok (.getfield 19, 3) := by decide +kernel
theorem dX9_many_48 : decode cX9_many 48 = .ok (.getfield 207, 3) := by decide +kernel
theorem dX9_many_51 : decode cX9_many 51 = .ok (.ireturn, 1) := by decide +kernel
theorem dX9_many_52 : decode cX9_many 52 = .ok (.aload_n 0, 1) := by decide +kernel
theorem dX9_many_53 : decode cX9_many 53 = .ok (.getfield 19, 3) := by decide +kernel
theorem dX9_many_56 : decode cX9_many 56 = .ok (.getfield 210, 3) := by decide +kernel
theorem dX9_many_59 : decode cX9_many 59 = .ok (.ireturn, 1) := by decide +kernel
theorem dX9_many_60 : decode cX9_many 60 = .ok (.aload_n 0, 1) := by decide +kernel
theorem dX9_many_61 : decode cX9_many 61 = .ok (.getfield 19, 3) := by decide +kernel
theorem dX9_many_64 : decode cX9_many 64 = .ok (.getfield 142, 3) := by decide +kernel
theorem dX9_many_67 : decode cX9_many 67 = .ok (.ireturn, 1) := by decide +kernel
theorem dX9_many_68 : decode cX9_many 68 = .ok (.aload_n 0, 1) := by decide +kernel
theorem dX9_many_69 : decode cX9_many 69 = .ok (.getfield 19, 3) := by decide +kernel
theorem dX9_many_72 : decode cX9_many 72 = .ok (.getfield 213, 3) := by decide +kernel
theorem dX9_many_75 : decode cX9_many 75 = .ok (.ireturn, 1) := by decide +kernel
abbrev mt_X9_many : AxM := (RX9, cX9_many, 2, (some .int), false, [])
theorem L1_X9_many_15 {g : AxG} {l : Launch} (hl0 : l.stackTraces = false) {res : AxT Int32} (N : Nat)  (v0 : Nat) (v1 : Int32) (w0 : Int32) (w1 : Nat) (S : AxS) (h : F_X9_many_15 N  v0 v1 w0 w1 S = some res) : AW g l (axRm (9) (axCs (axOI res)) (6 * axCs (axOI res))) mt_X9_many (axMQ g (axCs (axOI res)) (6 * axCs (axOI res)) (axOI res)) 0 0 S 15 [(0, .ref v0), (1, .int v1)] [.int w0, .ref w1] := by
  unfold F_X9_many_15 at h
  obtain ⟨hL1, h⟩ := ax_is_spec h
  refine aw_thV (ob := axOI) (rest := []) (fun _ _ => rfl) rfl h (fun u9 hF hu => aw_runV (As := [.int w0]) (rest := []) (L1_X9_needArgument hl0 N hF) axc9 hL1 wd_604 wd_601 wd_603 wd_3 wd_87 pd_X9_needArgument rfl (ax_rm (by omega) rfl) (ax_hfV (fun _ _ => rfl) hu) (Nat.le_of_ble_eq_true rfl) rfl dX9_many_15) (fun T2 h => ?_)
  refine aw_iload_n 1 dX9_many_18 rfl rfl ?_
  refine aw_case 0 h (fun h => ?_) (fun c6 h => ?_)
  · refine aw_tswIn 44 (off := 25) dX9_many_19 (by decide) (by decide) (by decide) (by decide) ?_
    refine aw_aload_n 0 dX9_many_44 rfl rfl ?_
    refine aw_getR axc9 1 rfl rfl wd_454 dX9_many_45 h (fun a4 h => ?_)
    refine aw_getI axc1 3 rfl rfl wd_179 dX9_many_48 h (fun x5 h => ?_)
    exact aw_iretT dX9_many_51 rfl h
  refine aw_case 1 h (fun h => ?_) (fun c9 h => ?_)
  · refine aw_tswIn 52 (off := 33) dX9_many_19 (by decide) (by decide) (by decide) (by decide) ?_
    refine aw_aload_n 0 dX9_many_52 rfl rfl ?_
    refine aw_getR axc9 1 rfl rfl wd_454 dX9_many_53 h (fun a7 h => ?_)
    refine aw_getI axc1 4 rfl rfl wd_181 dX9_many_56 h (fun x8 h => ?_)
    exact aw_iretT dX9_many_59 rfl h
  refine aw_case 2 h (fun h => ?_) (fun c12 h => ?_)
  · refine aw_tswIn 60 (off := 41) dX9_many_19 (by decide) (by decide) (by decide) (by decide) ?_
    refine aw_aload_n 0 dX9_many_60 rfl rfl ?_
    refine aw_getR axc9 1 rfl rfl wd_454 dX9_many_61 h (fun a10 h => ?_)
    refine aw_getI axc1 5 rfl rfl wd_183 dX9_many_64 h (fun x11 h => ?_)
    exact aw_iretT dX9_many_67 rfl h
  refine aw_tswOut 68 dX9_many_19 (by have q0 := ax_i32ne c6 (v := 0) (i := 0) (by decide); have q1 := ax_i32ne c9 (v := 1) (i := 1) (by decide); have q2 := ax_i32ne c12 (v := 2) (i := 2) (by decide); omega) (by decide) ?_
  refine aw_aload_n 0 dX9_many_68 rfl rfl ?_
  refine aw_getR axc9 1 rfl rfl wd_454 dX9_many_69 h (fun a13 h => ?_)
  refine aw_getI axc1 6 rfl rfl wd_186 dX9_many_72 h (fun x14 h => ?_)
  exact aw_iretT dX9_many_75 rfl h
theorem L1_X9_many_14 {g : AxG} {l : Launch} (hl0 : l.stackTraces = false) {res : AxT Int32} (N : Nat)  (v0 : Nat) (v1 : Int32) (w0 : Nat) (S : AxS) (h : F_X9_many_14 N  v0 v1 w0 S = some res) : AW g l (axRm (9) (axCs (axOI res)) (6 * axCs (axOI res))) mt_X9_many (axMQ g (axCs (axOI res)) (6 * axCs (axOI res)) (axOI res)) 0 0 S 14 [(0, .ref v0), (1, .int v1)] [.ref w0] := by
  unfold F_X9_many_14 at h
  refine aw_iconst 0 dX9_many_14 rfl ?_
  refine aw_env [(0, .ref v0), (1, .int v1)] [0, 1] rfl ?_
  exact L1_X9_many_15 hl0 N  v0 v1 0 w0 S h
theorem L1_X9_many {g : AxG} {l : Launch} (hl0 : l.stackTraces = false) (N : Nat) {v0 : Nat} {v1 : Int32} {S : AxS} {res : AxT Int32} (h : F_X9_many N v0 v1 S = some res) : AxMet g l yX9_many cX9_many 2 (some .int) (9) (axCs (axOI res)) (6 * axCs (axOI res)) [.ref v0, .int v1] S (axOI res) := by
  refine ax_met (own := RX9) (ini := false) (by decide +kernel) rfl (fun h => nomatch h) rfl ?_
  show AW g l (axRm (9) (axCs (axOI res)) (6 * axCs (axOI res))) mt_X9_many (axMQ g (axCs (axOI res)) (6 * axCs (axOI res)) (axOI res)) 0 0 S 0 [(0, .ref v0), (1, .int v1)] []
  unfold F_X9_many at h
  refine aw_aload_n 0 dX9_many_0 rfl rfl ?_
  refine aw_iload_n 1 dX9_many_1 rfl rfl ?_
  refine aw_if_lt 14 dX9_many_2 (by decide) h (fun h => ?_) (fun h => ?_)
  · refine aw_env [(0, .ref v0), (1, .int v1)] [0, 1] rfl ?_
    exact L1_X9_many_14 hl0 N  v0 v1 v0 S h
  · refine aw_iload_n 1 dX9_many_5 rfl rfl ?_
    refine aw_iconst 3 dX9_many_6 rfl ?_
    refine aw_icmp_gt 14 dX9_many_7 (by decide) h (fun h => ?_) (fun h => ?_)
    · refine aw_env [(0, .ref v0), (1, .int v1)] [0, 1] rfl ?_
      exact L1_X9_many_14 hl0 N  v0 v1 v0 S h
    · refine aw_iconst 1 dX9_many_10 rfl ?_
      refine aw_goto 15 dX9_many_11 (by decide) ?_
      refine aw_env [(0, .ref v0), (1, .int v1)] [0, 1] rfl ?_
      exact L1_X9_many_15 hl0 N  v0 v1 1 v0 S h

theorem dX9_needOne_0 : decode cX9_needOne 0 = .ok (.iload_n 1, 1) := by decide +kernel
theorem dX9_needOne_1 : decode cX9_needOne 1 = .ok (.ifCond .lt 8, 3) := by decide +kernel
theorem dX9_needOne_4 : decode cX9_needOne 4 = .ok (.iload_n 1, 1) := by decide +kernel
theorem dX9_needOne_5 : decode cX9_needOne 5 = .ok (.iload_n 2, 1) := by decide +kernel
theorem dX9_needOne_6 : decode cX9_needOne 6 = .ok (.if_icmp .lt 24, 3) := by decide +kernel
theorem dX9_needOne_9 : decode cX9_needOne 9 = .ok (.aload_n 0, 1) := by decide +kernel
theorem dX9_needOne_10 : decode cX9_needOne 10 = .ok (.dup, 1) := by decide +kernel
theorem dX9_needOne_11 : decode cX9_needOne 11 = .ok (.getfield 362, 3) := by decide +kernel
theorem dX9_needOne_14 : decode cX9_needOne 14 = .ok (.iconst 1, 1) := by decide +kernel
theorem dX9_needOne_15 : decode cX9_needOne 15 = .ok (.iadd, 1) := by decide +kernel
theorem dX9_needOne_16 : decode cX9_needOne 16 = .ok (.putfield 362, 3) := by decide +kernel
theorem dX9_needOne_19 : decode cX9_needOne 19 = .ok (.new 375, 3) := by decide +kernel
theorem dX9_needOne_22 : decode cX9_needOne 22 = .ok (.dup, 1) := by decide +kernel
theorem dX9_needOne_23 : decode cX9_needOne 23 = .ok (.ldc_w 377, 3) := by decide +kernel
theorem dX9_needOne_26 : decode cX9_needOne 26 = .ok (.invokespecial 379, 3) := by decide +kernel
theorem dX9_needOne_29 : decode cX9_needOne 29 = .ok (.athrow, 1) := by decide +kernel
theorem dX9_needOne_30 : decode cX9_needOne 30 = .ok (.return_, 1) := by decide +kernel
abbrev mt_X9_needOne : AxM := (RX9, cX9_needOne, 3, none, false, [])
theorem tk_X9_needOne : Cond.classLink RX9 375 "java/util/NoSuchElementException" ∈ ax_tbl := ax_in (i := 976) (by decide +kernel) rfl
theorem ti_X9_needOne : Cond.initialized "java/util/NoSuchElementException" ∈ ax_tbl := ax_in (i := 107) (by decide +kernel) rfl
theorem tf_X9_needOne : ∀ w ∈ ((nx_ws RX9 379 "java/util/NoSuchElementException" "java/lang/RuntimeException" 13 prog_27_method_4_code ["java/lang/Exception"]).filter vx_no).filter goodWord, w ∈ lw_tbl := by decide +kernel
theorem tg_X9_needOne : ∀ w ∈ ((nx_ws RX9 379 "java/util/NoSuchElementException" "java/lang/RuntimeException" 13 prog_27_method_4_code ["java/lang/Exception"]).filter vx_no).filter goodWord, w ∈ ax_tbl := fun w hw => List.mem_filter.mpr ⟨tf_X9_needOne w hw, (List.mem_filter.mp hw).2⟩
theorem tb_X9_needOne : ∀ w ∈ ((nx_ws RX9 379 "java/util/NoSuchElementException" "java/lang/RuntimeException" 13 prog_27_method_4_code ["java/lang/Exception"]).filter vx_no).filter (fun w => !goodWord w), w ∈ lw_tbl.filter ax_nw := by decide +kernel
theorem to_X9_needOne : ∀ w ∈ Cond.classLink RX9 375 "java/util/NoSuchElementException" :: Cond.initialized "java/util/NoSuchElementException" :: ((nx_ws RX9 379 "java/util/NoSuchElementException" "java/lang/RuntimeException" 13 prog_27_method_4_code ["java/lang/Exception"]).filter vx_no), vx_ot w = true := by decide +kernel
theorem aw_throwX9_needOne {g : AxG} {l : Launch} {S : AxS} {env : List (Nat × Value)} {res : AxT Unit} (hl0 : l.stackTraces = false) (h : some (.inr "java/util/NoSuchElementException", axS0 S) = some res) : AW g l (axRm (8) (axCs (axOV res)) (6 * axCs (axOV res))) mt_X9_needOne (axMQ g (axCs (axOV res)) (6 * axCs (axOV res)) (axOV res)) 0 0 S 19 env [] := aw_throwNX (M := mt_X9_needOne) (Y0 := "java/lang/RuntimeException") (r := ["java/lang/Exception"]) (ix := 13) (rx := prog_27_method_4_code) (j := 25) (tx := "there is no such one") hl0 (by decide +kernel) (by decide +kernel) (by decide +kernel) (by decide +kernel) (by decide +kernel) (by decide +kernel) (by decide +kernel) tk_X9_needOne ti_X9_needOne rfl tg_X9_needOne tb_X9_needOne to_X9_needOne dX9_needOne_19 dX9_needOne_22 dX9_needOne_23 dX9_needOne_26 dX9_needOne_29 rfl (by decide) rfl h
theorem L1_X9_needOne_9 {g : AxG} {l : Launch} (hl0 : l.stackTraces = false) {res : AxT Unit} (N : Nat)  (v0 : Nat) (S : AxS) (h : F_X9_needOne_9 N  v0 S = some res) : AW g l (axRm (8) (axCs (axOV res)) (6 * axCs (axOV res))) mt_X9_needOne (axMQ g (axCs (axOV res)) (6 * axCs (axOV res)) (axOV res)) 0 0 S 9 [(0, .ref v0)] [] := by
  unfold F_X9_needOne_9 at h
  refine aw_aload_n 0 dX9_needOne_9 rfl rfl ?_
  refine aw_dup rfl dX9_needOne_10 ?_
  refine aw_getI axc9 14 rfl rfl wd_467 dX9_needOne_11 h (fun x1 h => ?_)
  refine aw_iconst 1 dX9_needOne_14 rfl ?_
  refine aw_iadd dX9_needOne_15 ?_
  refine aw_putI axc9 14 rfl rfl wd_467 rfl rfl rfl dX9_needOne_16 h (fun T2 h => ?_)
  exact aw_throwX9_needOne hl0 h
theorem L1_X9_needOne {g : AxG} {l : Launch} (hl0 : l.stackTraces = false) (N : Nat) {v0 : Nat} {v1 : Int32} {v2 : Int32} {S : AxS} {res : AxT Unit} (h : F_X9_needOne N v0 v1 v2 S = some res) : AxMet g l yX9_needOne cX9_needOne 3 none (8) (axCs (axOV res)) (6 * axCs (axOV res)) [.ref v0, .int v1, .int v2] S (axOV res) := by
  refine ax_met (own := RX9) (ini := false) (by decide +kernel) rfl (fun h => nomatch h) rfl ?_
  show AW g l (axRm (8) (axCs (axOV res)) (6 * axCs (axOV res))) mt_X9_needOne (axMQ g (axCs (axOV res)) (6 * axCs (axOV res)) (axOV res)) 0 0 S 0 [(0, .ref v0), (1, .int v1), (2, .int v2)] []
  unfold F_X9_needOne at h
  refine aw_iload_n 1 dX9_needOne_0 rfl rfl ?_
  refine aw_if_lt 9 dX9_needOne_1 (by decide) h (fun h => ?_) (fun h => ?_)
  · refine aw_env [(0, .ref v0)] [0] rfl ?_
    exact L1_X9_needOne_9 hl0 N  v0 S h
  · refine aw_iload_n 1 dX9_needOne_4 rfl rfl ?_
    refine aw_iload_n 2 dX9_needOne_5 rfl rfl ?_
    refine aw_icmp_lt 30 dX9_needOne_6 (by decide) h (fun h => ?_) (fun h => ?_)
    · exact aw_vretT dX9_needOne_30 rfl h
    · refine aw_env [(0, .ref v0)] [0] rfl ?_
      exact L1_X9_needOne_9 hl0 N  v0 S h

theorem dX9_strokesOf_0 : decode cX9_strokesOf 0 = .ok (.iconst 0, 1) := by decide +kernel
theorem dX9_strokesOf_1 : decode cX9_strokesOf 1 = .ok (.aload_n 1, 1) := by decide +kernel
theorem dX9_strokesOf_2 : decode cX9_strokesOf 2 = .ok (.getfield 174, 3) := by decide +kernel
theorem dX9_strokesOf_5 : decode cX9_strokesOf 5 = .ok (.aload_n 1, 1) := by decide +kernel
theorem dX9_strokesOf_6 : decode cX9_strokesOf 6 = .ok (.getfield 192, 3) := by decide +kernel
theorem dX9_strokesOf_9 : decode cX9_strokesOf 9 = .ok (.isub, 1) := by decide +kernel
theorem dX9_strokesOf_10 : decode cX9_strokesOf 10 = .ok (.invokestatic 295, 3) := by decide +kernel
theorem dX9_strokesOf_13 : decode cX9_strokesOf 13 = .ok (.istore_n 3, 1) := by decide +kernel
theorem dX9_strokesOf_14 : decode cX9_strokesOf 14 = .ok (.aload_n 0, 1) := by decide +kernel
theorem dX9_strokesOf_15 : decode cX9_strokesOf 15 = .ok (.getfield 29, 3) := by decide +kernel
theorem dX9_strokesOf_18 : decode cX9_strokesOf 18 = .ok (.iload_n 3, 1) := by decide +kernel
theorem dX9_strokesOf_19 : decode cX9_strokesOf 19 = .ok (.aload_n 1, 1) := by decide +kernel
theorem dX9_strokesOf_20 : decode cX9_strokesOf 20 = .ok (.getfield 186, 3) := by decide +kernel
theorem dX9_strokesOf_23 : decode cX9_strokesOf 23 = .ok (.aload_n 1, 1) := by decide +kernel
theorem dX9_strokesOf_24 : decode cX9_strokesOf 24 = .ok (.getfield 180, 3) := by decide +kernel
theorem dX9_strokesOf_27 : decode cX9_strokesOf 27 = .ok (.aload_n 1, 1) := by decide +kernel
theorem dX9_strokesOf_28 : decode cX9_strokesOf 28 = .ok (.getfield 183, 3) := by decide +kernel
theorem dX9_strokesOf_31 : decode cX9_strokesOf 31 = .ok (.aload_n 1, 1) := by decide +kernel
theorem dX9_strokesOf_32 : decode cX9_strokesOf 32 = .ok (.getfield 189, 3) := by decide +kernel
theorem dX9_strokesOf_35 : decode cX9_strokesOf 35 = .ok (.iload_n 2, 1) := by decide +kernel
theorem dX9_strokesOf_36 : decode cX9_strokesOf 36 = .ok (.aload_n 1, 1) := by decide +kernel
theorem dX9_strokesOf_37 : decode cX9_strokesOf 37 = .ok (.getfield 177, 3) := by decide +kernel
theorem dX9_strokesOf_40 : decode cX9_strokesOf 40 = .ok (.invokevirtual 254, 3) := by decide +kernel
theorem dX9_strokesOf_43 : decode cX9_strokesOf 43 = .ok (.istore 4, 2) := by decide +kernel
theorem dX9_strokesOf_45 : decode cX9_strokesOf 45 = .ok (.sipush 999, 3) := by decide +kernel
theorem dX9_strokesOf_48 : decode cX9_strokesOf 48 = .ok (.iload 4, 2) := by decide +kernel
theorem dX9_strokesOf_50 : decode cX9_strokesOf 50 = .ok (.aload_n 1, 1) := by decide +kernel
theorem dX9_strokesOf_51 : decode cX9_strokesOf 51 = .ok (.getfield 204, 3) := by decide +kernel
theorem dX9_strokesOf_54 : decode cX9_strokesOf 54 = .ok (.iadd, 1) := by decide +kernel
theorem dX9_strokesOf_55 : decode cX9_strokesOf 55 = .ok (.invokestatic 290, 3) := by decide +kernel
theorem dX9_strokesOf_58 : decode cX9_strokesOf 58 = .ok (.ireturn, 1) := by decide +kernel
abbrev mt_X9_strokesOf : AxM := (RX9, cX9_strokesOf, 5, (some .int), false, [])
theorem L1_X9_strokesOf {g : AxG} {l : Launch} (N : Nat) {v0 : Nat} {v1 : Nat} {v2 : Int32} {S : AxS} {r9 : Int32} {S9 : AxS} (h : F_X9_strokesOf N v0 v1 v2 S = some ((r9, S9))) : AxMet g l yX9_strokesOf cX9_strokesOf 5 (some .int) (3) 0 0 [.ref v0, .ref v1, .int v2] S ((.inl (some (.int r9)), S9)) := by
  refine ax_met (own := RX9) (ini := false) (by decide +kernel) rfl (fun h => nomatch h) rfl ?_
  show AW g l (axRm (3) 0 0) mt_X9_strokesOf (axMQ g 0 0 (.inl (some (.int r9)), S9)) 0 0 S 0 [(0, .ref v0), (1, .ref v1), (2, .int v2)] []
  unfold F_X9_strokesOf at h
  refine aw_iconst 0 dX9_strokesOf_0 rfl ?_
  refine aw_aload_n 1 dX9_strokesOf_1 rfl rfl ?_
  refine aw_getI axc5 0 rfl rfl wd_293 dX9_strokesOf_2 h (fun x1 h => ?_)
  refine aw_aload_n 1 dX9_strokesOf_5 rfl rfl ?_
  refine aw_getI axc5 6 rfl rfl wd_305 dX9_strokesOf_6 h (fun x2 h => ?_)
  refine aw_isub dX9_strokesOf_9 ?_
  refine aw_doneI (rest := []) h (fun r9 S9 hF => aw_runS (As := [.int 0, .int (x1 - x2)]) (rest := []) (L1_J9_max_7cf53 N hF) wd_552 wd_550 wd_551 wd_106 pd_J9_max_7cf53.2 rfl (ax_rm (by omega) rfl) ax_hf0 (Nat.le_of_ble_eq_true rfl) rfl dX9_strokesOf_10) (fun x4 T3 h => ?_)
  refine aw_istore_n 3 [(3, .int x4), (0, .ref v0), (1, .ref v1), (2, .int v2)] dX9_strokesOf_13 rfl rfl rfl ?_
  refine aw_aload_n 1 dX9_strokesOf_14 rfl rfl ?_
  refine aw_getR axc9 3 rfl rfl wd_456 dX9_strokesOf_15 h (fun a5 h => ?_)
  refine aw_iload_n 0 dX9_strokesOf_18 rfl rfl ?_
  refine aw_aload_n 2 dX9_strokesOf_19 rfl rfl ?_
  refine aw_getI axc5 4 rfl rfl wd_301 dX9_strokesOf_20 h (fun x6 h => ?_)
  refine aw_aload_n 2 dX9_strokesOf_23 rfl rfl ?_
  refine aw_getI axc5 2 rfl rfl wd_297 dX9_strokesOf_24 h (fun x7 h => ?_)
  refine aw_aload_n 2 dX9_strokesOf_27 rfl rfl ?_
  refine aw_getI axc5 3 rfl rfl wd_299 dX9_strokesOf_28 h (fun x8 h => ?_)
  refine aw_aload_n 2 dX9_strokesOf_31 rfl rfl ?_
  refine aw_getI axc5 5 rfl rfl wd_303 dX9_strokesOf_32 h (fun x9 h => ?_)
  refine aw_iload_n 3 dX9_strokesOf_35 rfl rfl ?_
  refine aw_aload_n 2 dX9_strokesOf_36 rfl rfl ?_
  refine aw_getI axc5 1 rfl rfl wd_295 dX9_strokesOf_37 h (fun x10 h => ?_)
  obtain ⟨hL11, h⟩ := ax_is_spec h
  refine aw_doneI (rest := []) h (fun r9 S9 hF => aw_runV (As := [.int x4, .int x6, .int x7, .int x8, .int x9, .int v2, .int x10]) (rest := []) (L1_X4_tolls N hF) axc4 hL11 wd_556 wd_553 wd_554 wd_555 wd_90 pd_X4_tolls rfl (ax_rm (by omega) rfl) ax_hf0 (Nat.le_of_ble_eq_true rfl) rfl dX9_strokesOf_40) (fun x13 T12 h => ?_)
  refine aw_istore [(4, .int x13), (3, .int x4), (0, .ref v0), (1, .ref v1), (2, .int v2)] dX9_strokesOf_43 rfl rfl ?_
  refine aw_sipush 999 dX9_strokesOf_45 (by decide) ?_
  refine aw_iload 0 dX9_strokesOf_48 rfl ?_
  refine aw_aload_n 3 dX9_strokesOf_50 rfl rfl ?_
  refine aw_getI axc5 8 rfl rfl wd_309 dX9_strokesOf_51 h (fun x14 h => ?_)
  refine aw_iadd dX9_strokesOf_54 ?_
  refine aw_doneI (rest := []) h (fun r9 S9 hF => aw_runS (As := [.int 999, .int (x13 + x14)]) (rest := []) (L1_J9_min_7cf53 N hF) wd_563 wd_565 wd_562 wd_106 pd_J9_min_7cf53.2 rfl (ax_rm (by omega) rfl) ax_hf0 (Nat.le_of_ble_eq_true rfl) rfl dX9_strokesOf_55) (fun x16 T15 h => ?_)
  exact aw_iret dX9_strokesOf_58 rfl (Nat.le_refl _) (Nat.le_refl _) h

theorem dX9_wakes_0 : decode cX9_wakes 0 = .ok (.aload_n 0, 1) := by decide +kernel
theorem dX9_wakes_1 : decode cX9_wakes 1 = .ok (.getfield 19, 3) := by decide +kernel
theorem dX9_wakes_4 : decode cX9_wakes 4 = .ok (.aload_n 1, 1) := by decide +kernel
theorem dX9_wakes_5 : decode cX9_wakes 5 = .ok (.getfield 227, 3) := by decide +kernel
theorem dX9_wakes_8 : decode cX9_wakes 8 = .ok (.iload_n 2, 1) := by decide +kernel
theorem dX9_wakes_9 : decode cX9_wakes 9 = .ok (.invokestatic 223, 3) := by decide +kernel
theorem dX9_wakes_12 : decode cX9_wakes 12 = .ok (.iload_n 3, 1) := by decide +kernel
theorem dX9_wakes_13 : decode cX9_wakes 13 = .ok (.invokevirtual 258, 3) := by decide +kernel
theorem dX9_wakes_16 : decode cX9_wakes 16 = .ok (.istore 4, 2) := by decide +kernel
theorem dX9_wakes_18 : decode cX9_wakes 18 = .ok (.aload_n 1, 1) := by decide +kernel
theorem dX9_wakes_19 : decode cX9_wakes 19 = .ok (.getfield 189, 3) := by decide +kernel
theorem dX9_wakes_22 : decode cX9_wakes 22 = .ok (.ifCond .ne 8, 3) := by decide +kernel
theorem dX9_wakes_25 : decode cX9_wakes 25 = .ok (.iload 4, 2) := by decide +kernel
theorem dX9_wakes_27 : decode cX9_wakes 27 = .ok (.goto 7, 3) := by decide +kernel
theorem dX9_wakes_30 : decode cX9_wakes 30 = .ok (.iload 4, 2) := by decide +kernel
theorem dX9_wakes_32 : decode cX9_wakes 32 = .ok (.iconst 2, 1) := by decide +kernel
theorem dX9_wakes_33 : decode cX9_wakes 33 = .ok (.idiv, 1) := by decide +kernel
theorem dX9_wakes_34 : decode cX9_wakes 34 = .ok (.aload_n 0, 1) := by decide +kernel
theorem dX9_wakes_35 : decode cX9_wakes 35 = .ok (.getfield 19, 3) := by decide +kernel
theorem dX9_wakes_38 : decode cX9_wakes 38 = .ok (.getfield 220, 3) := by decide +kernel
theorem dX9_wakes_41 : decode cX9_wakes 41 = .ok (.iload_n 2, 1) := by decide +kernel
theorem dX9_wakes_42 : decode cX9_wakes 42 = .ok (.invokestatic 223, 3) := by decide +kernel
theorem dX9_wakes_45 : decode cX9_wakes 45 = .ok (.if_icmp .le 7, 3) := by decide +kernel
theorem dX9_wakes_48 : decode cX9_wakes 48 = .ok (.iconst 1, 1) := by decide +kernel
theorem dX9_wakes_49 : decode cX9_wakes 49 = .ok (.goto 4, 3) := by decide +kernel
theorem dX9_wakes_52 : decode cX9_wakes 52 = .ok (.iconst 0, 1) := by decide +kernel
theorem dX9_wakes_53 : decode cX9_wakes 53 = .ok (.ireturn, 1) := by decide +kernel
abbrev mt_X9_wakes : AxM := (RX9, cX9_wakes, 5, (some .boolean), false, [])
theorem L1_X9_wakes_34 {g : AxG} {l : Launch} {r9 : Int32} {S9 : AxS} (N : Nat)  (v0 : Nat) (v2 : Int32) (w0 : Int32) (S : AxS) (h : F_X9_wakes_34 N  v0 v2 w0 S = some ((r9, S9))) : AW g l (axRm (2) 0 0) mt_X9_wakes (axMQ g 0 0 (.inl (some (.int r9)), S9)) 0 0 S 34 [(0, .ref v0), (2, .int v2)] [.int w0] := by
  unfold F_X9_wakes_34 at h
  refine aw_aload_n 0 dX9_wakes_34 rfl rfl ?_
  refine aw_getR axc9 1 rfl rfl wd_454 dX9_wakes_35 h (fun a1 h => ?_)
  refine aw_getR axc1 10 rfl rfl wd_194 dX9_wakes_38 h (fun a2 h => ?_)
  refine aw_iload_n 1 dX9_wakes_41 rfl rfl ?_
  refine aw_doneI (rest := [.int w0]) h (fun r9 S9 hF => aw_runS (As := [.ref a2, .int v2]) (rest := [.int w0]) (L1_X9_at N hF) wd_541 wd_874 wd_540 wd_87 pd_X9_at.2 rfl (ax_rm (by omega) rfl) ax_hf0 (Nat.le_of_ble_eq_true rfl) rfl dX9_wakes_42) (fun x4 T3 h => ?_)
  refine aw_icmp_le 52 dX9_wakes_45 (by decide) h (fun h => ?_) (fun h => ?_)
  · refine aw_iconst 0 dX9_wakes_52 rfl ?_
    exact aw_zret dX9_wakes_53 rfl (Nat.le_refl _) (Nat.le_refl _) h
  · refine aw_iconst 1 dX9_wakes_48 rfl ?_
    refine aw_goto 53 dX9_wakes_49 (by decide) ?_
    exact aw_zret dX9_wakes_53 rfl (Nat.le_refl _) (Nat.le_refl _) h
theorem L1_X9_wakes {g : AxG} {l : Launch} (N : Nat) {v0 : Nat} {v1 : Nat} {v2 : Int32} {v3 : Int32} {S : AxS} {r9 : Int32} {S9 : AxS} (h : F_X9_wakes N v0 v1 v2 v3 S = some ((r9, S9))) : AxMet g l yX9_wakes cX9_wakes 5 (some .boolean) (2) 0 0 [.ref v0, .ref v1, .int v2, .int v3] S ((.inl (some (.int r9)), S9)) := by
  refine ax_met (own := RX9) (ini := false) (by decide +kernel) rfl (fun h => nomatch h) rfl ?_
  show AW g l (axRm (2) 0 0) mt_X9_wakes (axMQ g 0 0 (.inl (some (.int r9)), S9)) 0 0 S 0 [(0, .ref v0), (1, .ref v1), (2, .int v2), (3, .int v3)] []
  unfold F_X9_wakes at h
  refine aw_aload_n 0 dX9_wakes_0 rfl rfl ?_
  refine aw_getR axc9 1 rfl rfl wd_454 dX9_wakes_1 h (fun a1 h => ?_)
  refine aw_aload_n 1 dX9_wakes_4 rfl rfl ?_
  refine aw_getR axc5 12 rfl rfl wd_317 dX9_wakes_5 h (fun a2 h => ?_)
  refine aw_iload_n 2 dX9_wakes_8 rfl rfl ?_
  refine aw_doneI (rest := [.ref a1]) h (fun r9 S9 hF => aw_runS (As := [.ref a2, .int v2]) (rest := [.ref a1]) (L1_X9_at N hF) wd_541 wd_874 wd_540 wd_87 pd_X9_at.2 rfl (ax_rm (by omega) rfl) ax_hf0 (Nat.le_of_ble_eq_true rfl) rfl dX9_wakes_9) (fun x4 T3 h => ?_)
  refine aw_iload_n 3 dX9_wakes_12 rfl rfl ?_
  obtain ⟨hL5, h⟩ := ax_is_spec h
  refine aw_doneI (rest := []) h (fun r9 S9 hF => aw_runV (As := [.int x4, .int v3]) (rest := []) (L1_X1_loud N hF) axc1 hL5 wd_916 wd_913 wd_914 wd_915 wd_89 pd_X1_loud rfl (ax_rm (by omega) rfl) ax_hf0 (Nat.le_of_ble_eq_true rfl) rfl dX9_wakes_13) (fun x7 T6 h => ?_)
  refine aw_istore [(4, .int x7), (0, .ref v0), (1, .ref v1), (2, .int v2), (3, .int v3)] dX9_wakes_16 rfl rfl ?_
  refine aw_aload_n 2 dX9_wakes_18 rfl rfl ?_
  refine aw_getI axc5 5 rfl rfl wd_303 dX9_wakes_19 h (fun x8 h => ?_)
  refine aw_if_ne 30 dX9_wakes_22 (by decide) h (fun h => ?_) (fun h => ?_)
  · refine aw_iload 0 dX9_wakes_30 rfl ?_
    refine aw_iconst 2 dX9_wakes_32 rfl ?_
    refine aw_idiv dX9_wakes_33 h (fun h => ?_)
    refine aw_env [(0, .ref v0), (2, .int v2)] [1, 3] rfl ?_
    exact L1_X9_wakes_34 N  v0 v2 (x7 / 2) T6 h
  · refine aw_iload 0 dX9_wakes_25 rfl ?_
    refine aw_goto 34 dX9_wakes_27 (by decide) ?_
    refine aw_env [(0, .ref v0), (2, .int v2)] [1, 3] rfl ?_
    exact L1_X9_wakes_34 N  v0 v2 x7 T6 h

theorem dX9_monk_0 : decode cX9_monk 0 = .ok (.aload_n 0, 1) := by decide +kernel
theorem dX9_monk_1 : decode cX9_monk 1 = .ok (.iload_n 1, 1) := by decide +kernel
theorem dX9_monk_2 : decode cX9_monk 2 = .ok (.aload_n 0, 1) := by decide +kernel
theorem dX9_monk_3 : decode cX9_monk 3 = .ok (.getfield 19, 3) := by decide +kernel
theorem dX9_monk_6 : decode cX9_monk 6 = .ok (.getfield 142, 3) := by decide +kernel
theorem dX9_monk_9 : decode cX9_monk 9 = .ok (.invokevirtual 216, 3) := by decide +kernel
theorem dX9_monk_12 : decode cX9_monk 12 = .ok (.aload_n 0, 1) := by decide +kernel
theorem dX9_monk_13 : decode cX9_monk 13 = .ok (.iload_n 2, 1) := by decide +kernel
theorem dX9_monk_14 : decode cX9_monk 14 = .ok (.ifCond .lt 12, 3) := by decide +kernel
theorem dX9_monk_17 : decode cX9_monk 17 = .ok (.iload_n 2, 1) := by decide +kernel
theorem dX9_monk_18 : decode cX9_monk 18 = .ok (.iconst 3, 1) := by decide +kernel
theorem dX9_monk_19 : decode cX9_monk 19 = .ok (.if_icmp .gt 7, 3) := by decide +kernel
theorem dX9_monk_22 : decode cX9_monk 22 = .ok (.iconst 1, 1) := by decide +kernel
theorem dX9_monk_23 : decode cX9_monk 23 = .ok (.goto 4, 3) := by decide +kernel
theorem dX9_monk_26 : decode cX9_monk 26 = .ok (.iconst 0, 1) := by decide +kernel
theorem dX9_monk_27 : decode cX9_monk 27 = .ok (.invokevirtual 128, 3) := by decide +kernel
theorem dX9_monk_30 : decode cX9_monk 30 = .ok (.iload_n 2, 1) := by decide +kernel
theorem dX9_monk_31 : decode cX9_monk 31 = .ok (.tableswitch 76 0 2 #[25, 37, 49], 25) := by decide +kernel
theorem dX9_monk_56 : decode cX9_monk 56 = .ok (.aload_n 0, 1) := by decide +kernel
theorem dX9_monk_57 : decode cX9_monk 57 = .ok (.getfield 19, 3) := by decide +kernel
theorem dX9_monk_60 : decode cX9_monk 60 = .ok (.getfield 220, 3) := by decide +kernel
theorem dX9_monk_63 : decode cX9_monk 63 = .ok (.iload_n 1, 1) := by decide +kernel
theorem dX9_monk_64 : decode cX9_monk 64 = .ok (.invokestatic 223, 3) := by decide +kernel
theorem dX9_monk_67 : decode cX9_monk 67 = .ok (.ireturn, 1) := by decide +kernel
theorem dX9_monk_68 : decode cX9_monk 68 = .ok (.aload_n 0, 1) := by decide +kernel
theorem dX9_monk_69 : decode cX9_monk 69 = .ok (.getfield 56, 3) := by decide +kernel
theorem dX9_monk_72 : decode cX9_monk 72 = .ok (.getfield 227, 3) := by decide +kernel
theorem dX9_monk_75 : decode cX9_monk 75 = .ok (.iload_n 1, 1) := by decide +kernel
theorem dX9_monk_76 : decode cX9_monk 76 = .ok (.invokestatic 223, 3) := by decide +kernel
theorem dX9_monk_79 : decode cX9_monk 79 = .ok (.ireturn, 1) := by decide +kernel
theorem dX9_monk_80 : decode cX9_monk 80 = .ok (.aload_n 0, 1) := by decide +kernel
theorem dX9_monk_81 : decode cX9_monk 81 = .ok (.aload_n 0, 1) := by decide +kernel
theorem dX9_monk_82 : decode cX9_monk 82 = .ok (.getfield 56, 3) := by decide +kernel
theorem dX9_monk_85 : decode cX9_monk 85 = .ok (.iload_n 1, 1) := by decide +kernel
theorem dX9_monk_86 : decode cX9_monk 86 = .ok (.aload_n 0, 1) := by decide +kernel
theorem dX9_monk_87 : decode cX9_monk 87 = .ok (.aload_n 0, 1) := by decide +kernel
theorem dX9_monk_88 : decode cX9_monk 88 = .ok (.getfield 56, 3) := by decide +kernel
theorem dX9_monk_91 : decode cX9_monk 91 = .ok (.iconst 0, 1) := by decide +kernel
theorem dX9_monk_92 : decode cX9_monk 92 = .ok (.invokevirtual 230, 3) := by decide +kernel
theorem dX9_monk_95 : decode cX9_monk 95 = .ok (.invokevirtual 234, 3) := by decide +kernel
theorem dX9_monk_98 : decode cX9_monk 98 = .ok (.ifCond .eq 7, 3) := by decide +kernel
theorem dX9_monk_101 : decode cX9_monk 101 = .ok (.iconst 1, 1) := by decide +kernel
theorem dX9_monk_102 : decode cX9_monk 102 = .ok (.goto 4, 3) := by decide +kernel
theorem dX9_monk_105 : decode cX9_monk 105 = .ok (.iconst 0, 1) := by decide +kernel
theorem dX9_monk_106 : decode cX9_monk 106 = .ok (.ireturn, 1) := by decide +kernel
theorem dX9_monk_107 : decode cX9_monk 107 = .ok (.aload_n 0, 1) := by decide +kernel
theorem dX9_monk_108 : decode cX9_monk 108 = .ok (.getfield 56, 3) := by decide +kernel
theorem dX9_monk_111 : decode cX9_monk 111 = .ok (.getfield 238, 3) := by decide +kernel
theorem dX9_monk_114 : decode cX9_monk 114 = .ok (.iload_n 1, 1) := by decide +kernel
theorem dX9_monk_115 : decode cX9_monk 115 = .ok (.invokestatic 223, 3) := by decide +kernel
theorem dX9_monk_118 : decode cX9_monk 118 = .ok (.ireturn, 1) := by decide +kernel
abbrev mt_X9_monk : AxM := (RX9, cX9_monk, 3, (some .int), false, [])
theorem L1_X9_monk_27 {g : AxG} {l : Launch} (hl0 : l.stackTraces = false) {res : AxT Int32} (N : Nat)  (v0 : Nat) (v1 : Int32) (v2 : Int32) (w0 : Int32) (w1 : Nat) (S : AxS) (h : F_X9_monk_27 N  v0 v1 v2 w0 w1 S = some res) : AW g l (axRm (9) (axCs (axOI res)) (6 * axCs (axOI res))) mt_X9_monk (axMQ g (axCs (axOI res)) (6 * axCs (axOI res)) (axOI res)) 0 0 S 27 [(0, .ref v0), (1, .int v1), (2, .int v2)] [.int w0, .ref w1] := by
  unfold F_X9_monk_27 at h
  obtain ⟨hL1, h⟩ := ax_is_spec h
  refine aw_thV (ob := axOI) (rest := []) (fun _ _ => rfl) rfl h (fun u9 hF hu => aw_runV (As := [.int w0]) (rest := []) (L1_X9_needArgument hl0 N hF) axc9 hL1 wd_604 wd_601 wd_603 wd_3 wd_87 pd_X9_needArgument rfl (ax_rm (by omega) rfl) (ax_hfV (fun _ _ => rfl) hu) (Nat.le_of_ble_eq_true rfl) rfl dX9_monk_27) (fun T2 h => ?_)
  refine aw_iload_n 2 dX9_monk_30 rfl rfl ?_
  refine aw_case 0 h (fun h => ?_) (fun c8 h => ?_)
  · refine aw_tswIn 56 (off := 25) dX9_monk_31 (by decide) (by decide) (by decide) (by decide) ?_
    refine aw_aload_n 0 dX9_monk_56 rfl rfl ?_
    refine aw_getR axc9 1 rfl rfl wd_454 dX9_monk_57 h (fun a4 h => ?_)
    refine aw_getR axc1 10 rfl rfl wd_194 dX9_monk_60 h (fun a5 h => ?_)
    refine aw_iload_n 1 dX9_monk_63 rfl rfl ?_
    refine aw_doneI (rest := []) h (fun r9 S9 hF => aw_runS (As := [.ref a5, .int v1]) (rest := []) (L1_X9_at N hF) wd_541 wd_874 wd_540 wd_87 pd_X9_at.2 rfl (ax_rm (by omega) rfl) ax_hf0 (Nat.le_of_ble_eq_true rfl) rfl dX9_monk_64) (fun x7 T6 h => ?_)
    exact aw_iretT dX9_monk_67 rfl h
  refine aw_case 1 h (fun h => ?_) (fun c13 h => ?_)
  · refine aw_tswIn 68 (off := 37) dX9_monk_31 (by decide) (by decide) (by decide) (by decide) ?_
    refine aw_aload_n 0 dX9_monk_68 rfl rfl ?_
    refine aw_getR axc9 8 rfl rfl wd_461 dX9_monk_69 h (fun a9 h => ?_)
    refine aw_getR axc5 12 rfl rfl wd_317 dX9_monk_72 h (fun a10 h => ?_)
    refine aw_iload_n 1 dX9_monk_75 rfl rfl ?_
    refine aw_doneI (rest := []) h (fun r9 S9 hF => aw_runS (As := [.ref a10, .int v1]) (rest := []) (L1_X9_at N hF) wd_541 wd_874 wd_540 wd_87 pd_X9_at.2 rfl (ax_rm (by omega) rfl) ax_hf0 (Nat.le_of_ble_eq_true rfl) rfl dX9_monk_76) (fun x12 T11 h => ?_)
    exact aw_iretT dX9_monk_79 rfl h
  refine aw_case 2 h (fun h => ?_) (fun c22 h => ?_)
  · refine aw_tswIn 80 (off := 49) dX9_monk_31 (by decide) (by decide) (by decide) (by decide) ?_
    refine aw_aload_n 0 dX9_monk_80 rfl rfl ?_
    refine aw_aload_n 0 dX9_monk_81 rfl rfl ?_
    refine aw_getR axc9 8 rfl rfl wd_461 dX9_monk_82 h (fun a14 h => ?_)
    refine aw_iload_n 1 dX9_monk_85 rfl rfl ?_
    refine aw_aload_n 0 dX9_monk_86 rfl rfl ?_
    refine aw_aload_n 0 dX9_monk_87 rfl rfl ?_
    refine aw_getR axc9 8 rfl rfl wd_461 dX9_monk_88 h (fun a15 h => ?_)
    refine aw_iconst 0 dX9_monk_91 rfl ?_
    obtain ⟨hL16, h⟩ := ax_is_spec h
    refine aw_doneI (rest := [.int v1, .ref a14, .ref v0]) h (fun r9 S9 hF => aw_runV (As := [.ref a15, .int 0]) (rest := [.int v1, .ref a14, .ref v0]) (L1_X9_strokesOf N hF) axc9 hL16 wd_549 wd_546 wd_548 wd_2 wd_87 pd_X9_strokesOf rfl (ax_rm (by omega) rfl) ax_hf0 (Nat.le_of_ble_eq_true rfl) rfl dX9_monk_92) (fun x18 T17 h => ?_)
    obtain ⟨hL19, h⟩ := ax_is_spec h
    refine aw_doneI (rest := []) h (fun r9 S9 hF => aw_runV (As := [.ref a14, .int v1, .int x18]) (rest := []) (L1_X9_wakes N hF) axc9 hL19 wd_912 wd_909 wd_911 wd_17 wd_87 pd_X9_wakes rfl (ax_rm (by omega) rfl) ax_hf0 (Nat.le_of_ble_eq_true rfl) rfl dX9_monk_95) (fun x21 T20 h => ?_)
    refine aw_if_eq 105 dX9_monk_98 (by decide) h (fun h => ?_) (fun h => ?_)
    · refine aw_iconst 0 dX9_monk_105 rfl ?_
      exact aw_iretT dX9_monk_106 rfl h
    · refine aw_iconst 1 dX9_monk_101 rfl ?_
      refine aw_goto 106 dX9_monk_102 (by decide) ?_
      exact aw_iretT dX9_monk_106 rfl h
  refine aw_tswOut 107 dX9_monk_31 (by have q0 := ax_i32ne c8 (v := 0) (i := 0) (by decide); have q1 := ax_i32ne c13 (v := 1) (i := 1) (by decide); have q2 := ax_i32ne c22 (v := 2) (i := 2) (by decide); omega) (by decide) ?_
  refine aw_aload_n 0 dX9_monk_107 rfl rfl ?_
  refine aw_getR axc9 8 rfl rfl wd_461 dX9_monk_108 h (fun a23 h => ?_)
  refine aw_getR axc5 13 rfl rfl wd_319 dX9_monk_111 h (fun a24 h => ?_)
  refine aw_iload_n 1 dX9_monk_114 rfl rfl ?_
  refine aw_doneI (rest := []) h (fun r9 S9 hF => aw_runS (As := [.ref a24, .int v1]) (rest := []) (L1_X9_at N hF) wd_541 wd_874 wd_540 wd_87 pd_X9_at.2 rfl (ax_rm (by omega) rfl) ax_hf0 (Nat.le_of_ble_eq_true rfl) rfl dX9_monk_115) (fun x26 T25 h => ?_)
  exact aw_iretT dX9_monk_118 rfl h
theorem L1_X9_monk_26 {g : AxG} {l : Launch} (hl0 : l.stackTraces = false) {res : AxT Int32} (N : Nat)  (v0 : Nat) (v1 : Int32) (v2 : Int32) (w0 : Nat) (S : AxS) (h : F_X9_monk_26 N  v0 v1 v2 w0 S = some res) : AW g l (axRm (9) (axCs (axOI res)) (6 * axCs (axOI res))) mt_X9_monk (axMQ g (axCs (axOI res)) (6 * axCs (axOI res)) (axOI res)) 0 0 S 26 [(0, .ref v0), (1, .int v1), (2, .int v2)] [.ref w0] := by
  unfold F_X9_monk_26 at h
  refine aw_iconst 0 dX9_monk_26 rfl ?_
  refine aw_env [(0, .ref v0), (1, .int v1), (2, .int v2)] [0, 1, 2] rfl ?_
  exact L1_X9_monk_27 hl0 N  v0 v1 v2 0 w0 S h
theorem L1_X9_monk {g : AxG} {l : Launch} (hl0 : l.stackTraces = false) (N : Nat) {v0 : Nat} {v1 : Int32} {v2 : Int32} {S : AxS} {res : AxT Int32} (h : F_X9_monk N v0 v1 v2 S = some res) : AxMet g l yX9_monk cX9_monk 3 (some .int) (9) (axCs (axOI res)) (6 * axCs (axOI res)) [.ref v0, .int v1, .int v2] S (axOI res) := by
  refine ax_met (own := RX9) (ini := false) (by decide +kernel) rfl (fun h => nomatch h) rfl ?_
  show AW g l (axRm (9) (axCs (axOI res)) (6 * axCs (axOI res))) mt_X9_monk (axMQ g (axCs (axOI res)) (6 * axCs (axOI res)) (axOI res)) 0 0 S 0 [(0, .ref v0), (1, .int v1), (2, .int v2)] []
  unfold F_X9_monk at h
  refine aw_aload_n 0 dX9_monk_0 rfl rfl ?_
  refine aw_iload_n 1 dX9_monk_1 rfl rfl ?_
  refine aw_aload_n 0 dX9_monk_2 rfl rfl ?_
  refine aw_getR axc9 1 rfl rfl wd_454 dX9_monk_3 h (fun a1 h => ?_)
  refine aw_getI axc1 5 rfl rfl wd_183 dX9_monk_6 h (fun x2 h => ?_)
  obtain ⟨hL3, h⟩ := ax_is_spec h
  refine aw_thV (ob := axOI) (rest := []) (fun _ _ => rfl) rfl h (fun u9 hF hu => aw_runV (As := [.int v1, .int x2]) (rest := []) (L1_X9_needOne hl0 N hF) axc9 hL3 wd_975 wd_972 wd_974 wd_20 wd_87 pd_X9_needOne rfl (ax_rm (by omega) rfl) (ax_hfV (fun _ _ => rfl) hu) (Nat.le_of_ble_eq_true rfl) rfl dX9_monk_9) (fun T4 h => ?_)
  refine aw_aload_n 0 dX9_monk_12 rfl rfl ?_
  refine aw_iload_n 2 dX9_monk_13 rfl rfl ?_
  refine aw_if_lt 26 dX9_monk_14 (by decide) h (fun h => ?_) (fun h => ?_)
  · refine aw_env [(0, .ref v0), (1, .int v1), (2, .int v2)] [0, 1, 2] rfl ?_
    exact L1_X9_monk_26 hl0 N  v0 v1 v2 v0 T4 h
  · refine aw_iload_n 2 dX9_monk_17 rfl rfl ?_
    refine aw_iconst 3 dX9_monk_18 rfl ?_
    refine aw_icmp_gt 26 dX9_monk_19 (by decide) h (fun h => ?_) (fun h => ?_)
    · refine aw_env [(0, .ref v0), (1, .int v1), (2, .int v2)] [0, 1, 2] rfl ?_
      exact L1_X9_monk_26 hl0 N  v0 v1 v2 v0 T4 h
    · refine aw_iconst 1 dX9_monk_22 rfl ?_
      refine aw_goto 27 dX9_monk_23 (by decide) ?_
      refine aw_env [(0, .ref v0), (1, .int v1), (2, .int v2)] [0, 1, 2] rfl ?_
      exact L1_X9_monk_27 hl0 N  v0 v1 v2 1 v0 T4 h

theorem dX9_village_0 : decode cX9_village 0 = .ok (.aload_n 0, 1) := by decide +kernel
theorem dX9_village_1 : decode cX9_village 1 = .ok (.iload_n 1, 1) := by decide +kernel
theorem dX9_village_2 : decode cX9_village 2 = .ok (.aload_n 0, 1) := by decide +kernel
theorem dX9_village_3 : decode cX9_village 3 = .ok (.getfield 19, 3) := by decide +kernel
theorem dX9_village_6 : decode cX9_village 6 = .ok (.getfield 207, 3) := by decide +kernel
theorem dX9_village_9 : decode cX9_village 9 = .ok (.invokevirtual 216, 3) := by decide +kernel
theorem dX9_village_12 : decode cX9_village 12 = .ok (.aload_n 0, 1) := by decide +kernel
theorem dX9_village_13 : decode cX9_village 13 = .ok (.iload_n 2, 1) := by decide +kernel
theorem dX9_village_14 : decode cX9_village 14 = .ok (.ifCond .lt 12, 3) := by decide +kernel
theorem dX9_village_17 : decode cX9_village 17 = .ok (.iload_n 2, 1) := by decide +kernel
theorem dX9_village_18 : decode cX9_village 18 = .ok (.iconst 1, 1) := by decide +kernel
theorem dX9_village_19 : decode cX9_village 19 = .ok (.if_icmp .gt 7, 3) := by decide +kernel
theorem dX9_village_22 : decode cX9_village 22 = .ok (.iconst 1, 1) := by decide +kernel
theorem dX9_village_23 : decode cX9_village 23 = .ok (.goto 4, 3) := by decide +kernel
theorem dX9_village_26 : decode cX9_village 26 = .ok (.iconst 0, 1) := by decide +kernel
theorem dX9_village_27 : decode cX9_village 27 = .ok (.invokevirtual 128, 3) := by decide +kernel
theorem dX9_village_30 : decode cX9_village 30 = .ok (.iload_n 2, 1) := by decide +kernel
theorem dX9_village_31 : decode cX9_village 31 = .ok (.ifCond .ne 17, 3) := by decide +kernel
theorem dX9_village_34 : decode cX9_village 34 = .ok (.aload_n 0, 1) := by decide +kernel
theorem dX9_village_35 : decode cX9_village 35 = .ok (.getfield 19, 3) := by decide +kernel
theorem dX9_village_38 : decode cX9_village 38 = .ok (.getfield 241, 3) := by decide +kernel
theorem dX9_village_41 : decode cX9_village 41 = .ok (.iload_n 1, 1) := by decide +kernel
theorem dX9_village_42 : decode cX9_village 42 = .ok (.invokestatic 223, 3) := by decide +kernel
theorem dX9_village_45 : decode cX9_village 45 = .ok (.goto 14, 3) := by decide +kernel
theorem dX9_village_48 : decode cX9_village 48 = .ok (.aload_n 0, 1) := by decide +kernel
theorem dX9_village_49 : decode cX9_village 49 = .ok (.getfield 56, 3) := by decide +kernel
theorem dX9_village_52 : decode cX9_village 52 = .ok (.getfield 244, 3) := by decide +kernel
theorem dX9_village_55 : decode cX9_village 55 = .ok (.iload_n 1, 1) := by decide +kernel
theorem dX9_village_56 : decode cX9_village 56 = .ok (.ishr, 1) := by decide +kernel
theorem dX9_village_57 : decode cX9_village 57 = .ok (.iconst 1, 1) := by decide +kernel
theorem dX9_village_58 : decode cX9_village 58 = .ok (.iand, 1) := by decide +kernel
theorem dX9_village_59 : decode cX9_village 59 = .ok (.ireturn, 1) := by decide +kernel
abbrev mt_X9_village : AxM := (RX9, cX9_village, 3, (some .int), false, [])
theorem L1_X9_village_27 {g : AxG} {l : Launch} (hl0 : l.stackTraces = false) {res : AxT Int32} (N : Nat)  (v0 : Nat) (v1 : Int32) (v2 : Int32) (w0 : Int32) (w1 : Nat) (S : AxS) (h : F_X9_village_27 N  v0 v1 v2 w0 w1 S = some res) : AW g l (axRm (9) (axCs (axOI res)) (6 * axCs (axOI res))) mt_X9_village (axMQ g (axCs (axOI res)) (6 * axCs (axOI res)) (axOI res)) 0 0 S 27 [(0, .ref v0), (1, .int v1), (2, .int v2)] [.int w0, .ref w1] := by
  unfold F_X9_village_27 at h
  obtain ⟨hL1, h⟩ := ax_is_spec h
  refine aw_thV (ob := axOI) (rest := []) (fun _ _ => rfl) rfl h (fun u9 hF hu => aw_runV (As := [.int w0]) (rest := []) (L1_X9_needArgument hl0 N hF) axc9 hL1 wd_604 wd_601 wd_603 wd_3 wd_87 pd_X9_needArgument rfl (ax_rm (by omega) rfl) (ax_hfV (fun _ _ => rfl) hu) (Nat.le_of_ble_eq_true rfl) rfl dX9_village_27) (fun T2 h => ?_)
  refine aw_iload_n 2 dX9_village_30 rfl rfl ?_
  refine aw_if_ne 48 dX9_village_31 (by decide) h (fun h => ?_) (fun h => ?_)
  · refine aw_aload_n 0 dX9_village_48 rfl rfl ?_
    refine aw_getR axc9 8 rfl rfl wd_461 dX9_village_49 h (fun a4 h => ?_)
    refine aw_getI axc5 9 rfl rfl wd_311 dX9_village_52 h (fun x5 h => ?_)
    refine aw_iload_n 1 dX9_village_55 rfl rfl ?_
    refine aw_ishr dX9_village_56 ?_
    refine aw_iconst 1 dX9_village_57 rfl ?_
    refine aw_iand dX9_village_58 ?_
    exact aw_iretT dX9_village_59 rfl h
  · refine aw_aload_n 0 dX9_village_34 rfl rfl ?_
    refine aw_getR axc9 1 rfl rfl wd_454 dX9_village_35 h (fun a6 h => ?_)
    refine aw_getR axc1 8 rfl rfl wd_190 dX9_village_38 h (fun a7 h => ?_)
    refine aw_iload_n 1 dX9_village_41 rfl rfl ?_
    refine aw_doneI (rest := []) h (fun r9 S9 hF => aw_runS (As := [.ref a7, .int v1]) (rest := []) (L1_X9_at N hF) wd_541 wd_874 wd_540 wd_87 pd_X9_at.2 rfl (ax_rm (by omega) rfl) ax_hf0 (Nat.le_of_ble_eq_true rfl) rfl dX9_village_42) (fun x9 T8 h => ?_)
    refine aw_goto 59 dX9_village_45 (by decide) ?_
    exact aw_iretT dX9_village_59 rfl h
theorem L1_X9_village_26 {g : AxG} {l : Launch} (hl0 : l.stackTraces = false) {res : AxT Int32} (N : Nat)  (v0 : Nat) (v1 : Int32) (v2 : Int32) (w0 : Nat) (S : AxS) (h : F_X9_village_26 N  v0 v1 v2 w0 S = some res) : AW g l (axRm (9) (axCs (axOI res)) (6 * axCs (axOI res))) mt_X9_village (axMQ g (axCs (axOI res)) (6 * axCs (axOI res)) (axOI res)) 0 0 S 26 [(0, .ref v0), (1, .int v1), (2, .int v2)] [.ref w0] := by
  unfold F_X9_village_26 at h
  refine aw_iconst 0 dX9_village_26 rfl ?_
  refine aw_env [(0, .ref v0), (1, .int v1), (2, .int v2)] [0, 1, 2] rfl ?_
  exact L1_X9_village_27 hl0 N  v0 v1 v2 0 w0 S h
theorem L1_X9_village {g : AxG} {l : Launch} (hl0 : l.stackTraces = false) (N : Nat) {v0 : Nat} {v1 : Int32} {v2 : Int32} {S : AxS} {res : AxT Int32} (h : F_X9_village N v0 v1 v2 S = some res) : AxMet g l yX9_village cX9_village 3 (some .int) (9) (axCs (axOI res)) (6 * axCs (axOI res)) [.ref v0, .int v1, .int v2] S (axOI res) := by
  refine ax_met (own := RX9) (ini := false) (by decide +kernel) rfl (fun h => nomatch h) rfl ?_
  show AW g l (axRm (9) (axCs (axOI res)) (6 * axCs (axOI res))) mt_X9_village (axMQ g (axCs (axOI res)) (6 * axCs (axOI res)) (axOI res)) 0 0 S 0 [(0, .ref v0), (1, .int v1), (2, .int v2)] []
  unfold F_X9_village at h
  refine aw_aload_n 0 dX9_village_0 rfl rfl ?_
  refine aw_iload_n 1 dX9_village_1 rfl rfl ?_
  refine aw_aload_n 0 dX9_village_2 rfl rfl ?_
  refine aw_getR axc9 1 rfl rfl wd_454 dX9_village_3 h (fun a1 h => ?_)
  refine aw_getI axc1 3 rfl rfl wd_179 dX9_village_6 h (fun x2 h => ?_)
  obtain ⟨hL3, h⟩ := ax_is_spec h
  refine aw_thV (ob := axOI) (rest := []) (fun _ _ => rfl) rfl h (fun u9 hF hu => aw_runV (As := [.int v1, .int x2]) (rest := []) (L1_X9_needOne hl0 N hF) axc9 hL3 wd_975 wd_972 wd_974 wd_20 wd_87 pd_X9_needOne rfl (ax_rm (by omega) rfl) (ax_hfV (fun _ _ => rfl) hu) (Nat.le_of_ble_eq_true rfl) rfl dX9_village_9) (fun T4 h => ?_)
  refine aw_aload_n 0 dX9_village_12 rfl rfl ?_
  refine aw_iload_n 2 dX9_village_13 rfl rfl ?_
  refine aw_if_lt 26 dX9_village_14 (by decide) h (fun h => ?_) (fun h => ?_)
  · refine aw_env [(0, .ref v0), (1, .int v1), (2, .int v2)] [0, 1, 2] rfl ?_
    exact L1_X9_village_26 hl0 N  v0 v1 v2 v0 T4 h
  · refine aw_iload_n 2 dX9_village_17 rfl rfl ?_
    refine aw_iconst 1 dX9_village_18 rfl ?_
    refine aw_icmp_gt 26 dX9_village_19 (by decide) h (fun h => ?_) (fun h => ?_)
    · refine aw_env [(0, .ref v0), (1, .int v1), (2, .int v2)] [0, 1, 2] rfl ?_
      exact L1_X9_village_26 hl0 N  v0 v1 v2 v0 T4 h
    · refine aw_iconst 1 dX9_village_22 rfl ?_
      refine aw_goto 27 dX9_village_23 (by decide) ?_
      refine aw_env [(0, .ref v0), (1, .int v1), (2, .int v2)] [0, 1, 2] rfl ?_
      exact L1_X9_village_27 hl0 N  v0 v1 v2 1 v0 T4 h

theorem dX9_cell_0 : decode cX9_cell 0 = .ok (.aload_n 0, 1) := by decide +kernel
theorem dX9_cell_1 : decode cX9_cell 1 = .ok (.iload_n 1, 1) := by decide +kernel
theorem dX9_cell_2 : decode cX9_cell 2 = .ok (.aload_n 0, 1) := by decide +kernel
theorem dX9_cell_3 : decode cX9_cell 3 = .ok (.getfield 19, 3) := by decide +kernel
theorem dX9_cell_6 : decode cX9_cell 6 = .ok (.getfield 210, 3) := by decide +kernel
theorem dX9_cell_9 : decode cX9_cell 9 = .ok (.invokevirtual 216, 3) := by decide +kernel
theorem dX9_cell_12 : decode cX9_cell 12 = .ok (.aload_n 0, 1) := by decide +kernel
theorem dX9_cell_13 : decode cX9_cell 13 = .ok (.getfield 19, 3) := by decide +kernel
theorem dX9_cell_16 : decode cX9_cell 16 = .ok (.getfield 247, 3) := by decide +kernel
theorem dX9_cell_19 : decode cX9_cell 19 = .ok (.iload_n 1, 1) := by decide +kernel
theorem dX9_cell_20 : decode cX9_cell 20 = .ok (.invokestatic 223, 3) := by decide +kernel
theorem dX9_cell_23 : decode cX9_cell 23 = .ok (.ireturn, 1) := by decide +kernel
abbrev mt_X9_cell : AxM := (RX9, cX9_cell, 2, (some .int), false, [])
theorem L1_X9_cell {g : AxG} {l : Launch} (hl0 : l.stackTraces = false) (N : Nat) {v0 : Nat} {v1 : Int32} {S : AxS} {res : AxT Int32} (h : F_X9_cell N v0 v1 S = some res) : AxMet g l yX9_cell cX9_cell 2 (some .int) (9) (axCs (axOI res)) (6 * axCs (axOI res)) [.ref v0, .int v1] S (axOI res) := by
  refine ax_met (own := RX9) (ini := false) (by decide +kernel) rfl (fun h => nomatch h) rfl ?_
  show AW g l (axRm (9) (axCs (axOI res)) (6 * axCs (axOI res))) mt_X9_cell (axMQ g (axCs (axOI res)) (6 * axCs (axOI res)) (axOI res)) 0 0 S 0 [(0, .ref v0), (1, .int v1)] []
  unfold F_X9_cell at h
  refine aw_aload_n 0 dX9_cell_0 rfl rfl ?_
  refine aw_iload_n 1 dX9_cell_1 rfl rfl ?_
  refine aw_aload_n 0 dX9_cell_2 rfl rfl ?_
  refine aw_getR axc9 1 rfl rfl wd_454 dX9_cell_3 h (fun a1 h => ?_)
  refine aw_getI axc1 4 rfl rfl wd_181 dX9_cell_6 h (fun x2 h => ?_)
  obtain ⟨hL3, h⟩ := ax_is_spec h
  refine aw_thV (ob := axOI) (rest := []) (fun _ _ => rfl) rfl h (fun u9 hF hu => aw_runV (As := [.int v1, .int x2]) (rest := []) (L1_X9_needOne hl0 N hF) axc9 hL3 wd_975 wd_972 wd_974 wd_20 wd_87 pd_X9_needOne rfl (ax_rm (by omega) rfl) (ax_hfV (fun _ _ => rfl) hu) (Nat.le_of_ble_eq_true rfl) rfl dX9_cell_9) (fun T4 h => ?_)
  refine aw_aload_n 0 dX9_cell_12 rfl rfl ?_
  refine aw_getR axc9 1 rfl rfl wd_454 dX9_cell_13 h (fun a6 h => ?_)
  refine aw_getR axc1 9 rfl rfl wd_192 dX9_cell_16 h (fun a7 h => ?_)
  refine aw_iload_n 1 dX9_cell_19 rfl rfl ?_
  refine aw_doneI (rest := []) h (fun r9 S9 hF => aw_runS (As := [.ref a7, .int v1]) (rest := []) (L1_X9_at N hF) wd_541 wd_874 wd_540 wd_87 pd_X9_at.2 rfl (ax_rm (by omega) rfl) ax_hf0 (Nat.le_of_ble_eq_true rfl) rfl dX9_cell_20) (fun x9 T8 h => ?_)
  exact aw_iretT dX9_cell_23 rfl h
