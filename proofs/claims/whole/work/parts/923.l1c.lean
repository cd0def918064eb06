theorem dX6_readStep_0 : decode cX6_readStep 0 = .ok (.aload_n 1, 1) := by decide +kernel
theorem dX6_readStep_1 : decode cX6_readStep 1 = .ok (.invokevirtual 41, 3) := by decide +kernel
theorem dX6_readStep_4 : decode cX6_readStep 4 = .ok (.aload_n 1, 1) := by decide +kernel
theorem dX6_readStep_5 : decode cX6_readStep 5 = .ok (.invokestatic 44, 3) := by decide +kernel
theorem dX6_readStep_8 : decode cX6_readStep 8 = .ok (.istore 4, 2) := by decide +kernel
theorem dX6_readStep_10 : decode cX6_readStep 10 = .ok (.iload 4, 2) := by decide +kernel
theorem dX6_readStep_12 : decode cX6_readStep 12 = .ok (.ifCond .ne 13, 3) := by decide +kernel
theorem dX6_readStep_15 : decode cX6_readStep 15 = .ok (.aload_n 1, 1) := by decide +kernel
theorem dX6_readStep_16 : decode cX6_readStep 16 = .ok (.iconst 1, 1) := by decide +kernel
theorem dX6_readStep_17 : decode cX6_readStep 17 = .ok (.aload_n 1, 1) := by decide +kernel
theorem dX6_readStep_18 : decode cX6_readStep 18 = .ok (.getfield 48, 3) := by decide +kernel
theorem dX6_readStep_21 : decode cX6_readStep 21 = .ok (.invokevirtual 51, 3) := by decide +kernel
theorem dX6_readStep_24 : decode cX6_readStep 24 = .ok (.ireturn, 1) := by decide +kernel
theorem dX6_readStep_25 : decode cX6_readStep 25 = .ok (.iload 4, 2) := by decide +kernel
theorem dX6_readStep_27 : decode cX6_readStep 27 = .ok (.bipush 7, 2) := by decide +kernel
theorem dX6_readStep_29 : decode cX6_readStep 29 = .ok (.if_icmp .ne 19, 3) := by decide +kernel
theorem dX6_readStep_32 : decode cX6_readStep 32 = .ok (.iload_n 3, 1) := by decide +kernel
theorem dX6_readStep_33 : decode cX6_readStep 33 = .ok (.bipush 6, 2) := by decide +kernel
theorem dX6_readStep_35 : decode cX6_readStep 35 = .ok (.if_icmp .lt 13, 3) := by decide +kernel
theorem dX6_readStep_38 : decode cX6_readStep 38 = .ok (.aload_n 1, 1) := by decide +kernel
theorem dX6_readStep_39 : decode cX6_readStep 39 = .ok (.iconst 3, 1) := by decide +kernel
theorem dX6_readStep_40 : decode cX6_readStep 40 = .ok (.aload_n 1, 1) := by decide +kernel
theorem dX6_readStep_41 : decode cX6_readStep 41 = .ok (.getfield 48, 3) := by decide +kernel
theorem dX6_readStep_44 : decode cX6_readStep 44 = .ok (.invokevirtual 51, 3) := by decide +kernel
theorem dX6_readStep_47 : decode cX6_readStep 47 = .ok (.ireturn, 1) := by decide +kernel
theorem dX6_readStep_48 : decode cX6_readStep 48 = .ok (.aload_n 0, 1) := by decide +kernel
theorem dX6_readStep_49 : decode cX6_readStep 49 = .ok (.getfield 21, 3) := by decide +kernel
theorem dX6_readStep_52 : decode cX6_readStep 52 = .ok (.istore 5, 2) := by decide +kernel
theorem dX6_readStep_54 : decode cX6_readStep 54 = .ok (.aload_n 0, 1) := by decide +kernel
theorem dX6_readStep_55 : decode cX6_readStep 55 = .ok (.dup, 1) := by decide +kernel
theorem dX6_readStep_56 : decode cX6_readStep 56 = .ok (.getfield 21, 3) := by decide +kernel
theorem dX6_readStep_59 : decode cX6_readStep 59 = .ok (.iconst 1, 1) := by decide +kernel
theorem dX6_readStep_60 : decode cX6_readStep 60 = .ok (.iadd, 1) := by decide +kernel
theorem dX6_readStep_61 : decode cX6_readStep 61 = .ok (.putfield 21, 3) := by decide +kernel
theorem dX6_readStep_64 : decode cX6_readStep 64 = .ok (.aload_n 0, 1) := by decide +kernel
theorem dX6_readStep_65 : decode cX6_readStep 65 = .ok (.getfield 9, 3) := by decide +kernel
theorem dX6_readStep_68 : decode cX6_readStep 68 = .ok (.iload 5, 2) := by decide +kernel
theorem dX6_readStep_70 : decode cX6_readStep 70 = .ok (.iload 4, 2) := by decide +kernel
theorem dX6_readStep_72 : decode cX6_readStep 72 = .ok (.invokestatic 55, 3) := by decide +kernel
theorem dX6_readStep_75 : decode cX6_readStep 75 = .ok (.aload_n 0, 1) := by decide +kernel
theorem dX6_readStep_76 : decode cX6_readStep 76 = .ok (.aload_n 1, 1) := by decide +kernel
theorem dX6_readStep_77 : decode cX6_readStep 77 = .ok (.aload_n 2, 1) := by decide +kernel
theorem dX6_readStep_78 : decode cX6_readStep 78 = .ok (.iload 5, 2) := by decide +kernel
theorem dX6_readStep_80 : decode cX6_readStep 80 = .ok (.iload 4, 2) := by decide +kernel
theorem dX6_readStep_82 : decode cX6_readStep 82 = .ok (.invokevirtual 59, 3) := by decide +kernel
theorem dX6_readStep_85 : decode cX6_readStep 85 = .ok (.iload 4, 2) := by decide +kernel
theorem dX6_readStep_87 : decode cX6_readStep 87 = .ok (.bipush 7, 2) := by decide +kernel
theorem dX6_readStep_89 : decode cX6_readStep 89 = .ok (.if_icmp .ne 48, 3) := by decide +kernel
theorem dX6_readStep_92 : decode cX6_readStep 92 = .ok (.aload_n 1, 1) := by decide +kernel
theorem dX6_readStep_93 : decode cX6_readStep 93 = .ok (.bipush 91, 2) := by decide +kernel
theorem dX6_readStep_95 : decode cX6_readStep 95 = .ok (.invokevirtual 63, 3) := by decide +kernel
theorem dX6_readStep_98 : decode cX6_readStep 98 = .ok (.ifCond .eq 24, 3) := by decide +kernel
theorem dX6_readStep_101 : decode cX6_readStep 101 = .ok (.aload_n 0, 1) := by decide +kernel
theorem dX6_readStep_102 : decode cX6_readStep 102 = .ok (.aload_n 1, 1) := by decide +kernel
theorem dX6_readStep_103 : decode cX6_readStep 103 = .ok (.aload_n 2, 1) := by decide +kernel
theorem dX6_readStep_104 : decode cX6_readStep 104 = .ok (.iload_n 3, 1) := by decide +kernel
theorem dX6_readStep_105 : decode cX6_readStep 105 = .ok (.iconst 1, 1) := by decide +kernel
theorem dX6_readStep_106 : decode cX6_readStep 106 = .ok (.iadd, 1) := by decide +kernel
theorem dX6_readStep_107 : decode cX6_readStep 107 = .ok (.invokevirtual 25, 3) := by decide +kernel
theorem dX6_readStep_110 : decode cX6_readStep 110 = .ok (.ifCond .eq 12, 3) := by decide +kernel
theorem dX6_readStep_113 : decode cX6_readStep 113 = .ok (.aload_n 1, 1) := by decide +kernel
theorem dX6_readStep_114 : decode cX6_readStep 114 = .ok (.bipush 93, 2) := by decide +kernel
theorem dX6_readStep_116 : decode cX6_readStep 116 = .ok (.invokevirtual 63, 3) := by decide +kernel
theorem dX6_readStep_119 : decode cX6_readStep 119 = .ok (.ifCond .ne 5, 3) := by decide +kernel
theorem dX6_readStep_122 : decode cX6_readStep 122 = .ok (.iconst 0, 1) := by decide +kernel
theorem dX6_readStep_123 : decode cX6_readStep 123 = .ok (.ireturn, 1) := by decide +kernel
theorem dX6_readStep_124 : decode cX6_readStep 124 = .ok (.aload_n 0, 1) := by decide +kernel
theorem dX6_readStep_125 : decode cX6_readStep 125 = .ok (.getfield 18, 3) := by decide +kernel
theorem dX6_readStep_128 : decode cX6_readStep 128 = .ok (.iload 5, 2) := by decide +kernel
theorem dX6_readStep_130 : decode cX6_readStep 130 = .ok (.aload_n 0, 1) := by decide +kernel
theorem dX6_readStep_131 : decode cX6_readStep 131 = .ok (.getfield 21, 3) := by decide +kernel
theorem dX6_readStep_134 : decode cX6_readStep 134 = .ok (.invokestatic 55, 3) := by decide +kernel
theorem dX6_readStep_137 : decode cX6_readStep 137 = .ok (.aload_n 1, 1) := by decide +kernel
theorem dX6_readStep_138 : decode cX6_readStep 138 = .ok (.bipush 59, 2) := by decide +kernel
theorem dX6_readStep_140 : decode cX6_readStep 140 = .ok (.invokevirtual 63, 3) := by decide +kernel
theorem dX6_readStep_143 : decode cX6_readStep 143 = .ok (.ireturn, 1) := by decide +kernel
abbrev mt_X6_readStep : AxM := (RX6, cX6_readStep, 6, (some .boolean), false, [])
theorem L1_X6_readStep_137 {g : AxG} {l : Launch} {r9 : Int32} {S9 : AxS} (N : Nat) (kr : Nat → Nat → Nat → Int32 → AxS → Option (Int32 × AxS)) (d : Nat) (hkr : ∀ (a0 : Nat) (a1 : Nat) (a2 : Nat) (a3 : Int32) (S : AxS) {r9 : Int32} {S9 : AxS}, kr a0 a1 a2 a3 S = some ((r9, S9)) → AxMet g l yX6_readRow cX6_readRow 6 (some .boolean) d 0 0 [.ref a0, .ref a1, .ref a2, .int a3] S ((.inl (some (.int r9)), S9)))  (v1 : Nat) (S : AxS) (h : F_X6_readStep_137 N kr  v1 S = some ((r9, S9))) : AW g l (axRm (d + 6) 0 0) mt_X6_readStep (axMQ g 0 0 (.inl (some (.int r9)), S9)) 0 0 S 137 [(1, .ref v1)] [] := by
  unfold F_X6_readStep_137 at h
  refine aw_aload_n 0 dX6_readStep_137 rfl rfl ?_
  refine aw_bipush 59 dX6_readStep_138 (by decide) ?_
  obtain ⟨hL1, h⟩ := ax_is_spec h
  refine aw_doneI (rest := []) h (fun r9 S9 hF => aw_runV (As := [.int 59]) (rest := []) (L1_X7_takes N hF) axc7 hL1 wd_783 wd_865 wd_781 wd_782 wd_88 pd_X7_takes rfl (ax_rm (by omega) rfl) ax_hf0 (Nat.le_of_ble_eq_true rfl) rfl dX6_readStep_140) (fun x3 T2 h => ?_)
  exact aw_zret dX6_readStep_143 rfl (Nat.le_refl _) (Nat.le_refl _) h
theorem L1_X6_readStep_48 {g : AxG} {l : Launch} {r9 : Int32} {S9 : AxS} (N : Nat) (kr : Nat → Nat → Nat → Int32 → AxS → Option (Int32 × AxS)) (d : Nat) (hkr : ∀ (a0 : Nat) (a1 : Nat) (a2 : Nat) (a3 : Int32) (S : AxS) {r9 : Int32} {S9 : AxS}, kr a0 a1 a2 a3 S = some ((r9, S9)) → AxMet g l yX6_readRow cX6_readRow 6 (some .boolean) d 0 0 [.ref a0, .ref a1, .ref a2, .int a3] S ((.inl (some (.int r9)), S9)))  (v0 : Nat) (v1 : Nat) (v2 : Nat) (v3 : Int32) (v4 : Int32) (S : AxS) (h : F_X6_readStep_48 N kr  v0 v1 v2 v3 v4 S = some ((r9, S9))) : AW g l (axRm (d + 6) 0 0) mt_X6_readStep (axMQ g 0 0 (.inl (some (.int r9)), S9)) 0 0 S 48 [(0, .ref v0), (1, .ref v1), (2, .ref v2), (3, .int v3), (4, .int v4)] [] := by
  unfold F_X6_readStep_48 at h
  refine aw_aload_n 0 dX6_readStep_48 rfl rfl ?_
  refine aw_getI axc6 3 rfl rfl wd_269 dX6_readStep_49 h (fun x1 h => ?_)
  refine aw_istore [(5, .int x1), (0, .ref v0), (1, .ref v1), (2, .ref v2), (3, .int v3), (4, .int v4)] dX6_readStep_52 rfl rfl ?_
  refine aw_aload_n 1 dX6_readStep_54 rfl rfl ?_
  refine aw_dup rfl dX6_readStep_55 ?_
  refine aw_getI axc6 3 rfl rfl wd_269 dX6_readStep_56 h (fun x2 h => ?_)
  refine aw_iconst 1 dX6_readStep_59 rfl ?_
  refine aw_iadd dX6_readStep_60 ?_
  refine aw_putI axc6 3 rfl rfl wd_269 rfl rfl rfl dX6_readStep_61 h (fun T3 h => ?_)
  refine aw_aload_n 1 dX6_readStep_64 rfl rfl ?_
  refine aw_getR axc6 0 rfl rfl wd_263 dX6_readStep_65 h (fun a4 h => ?_)
  refine aw_iload 0 dX6_readStep_68 rfl ?_
  refine aw_iload 5 dX6_readStep_70 rfl ?_
  refine aw_doneV (rest := []) h (fun S9 hF => aw_runSN (As := [.ref a4, .int x1, .int v4]) (rest := []) (L1_X9_put N hF) wd_443 wd_859 wd_442 wd_87 pd_X9_put.2 rfl (ax_rm (by omega) rfl) ax_hf0 (Nat.le_of_ble_eq_true rfl) rfl dX6_readStep_72) (fun T5 h => ?_)
  refine aw_aload_n 1 dX6_readStep_75 rfl rfl ?_
  refine aw_aload_n 2 dX6_readStep_76 rfl rfl ?_
  refine aw_aload_n 3 dX6_readStep_77 rfl rfl ?_
  refine aw_iload 0 dX6_readStep_78 rfl ?_
  refine aw_iload 5 dX6_readStep_80 rfl ?_
  obtain ⟨hL7, h⟩ := ax_is_spec h
  refine aw_doneV (rest := []) h (fun S9 hF => aw_runV (As := [.ref v1, .ref v2, .int x1, .int v4]) (rest := []) (L1_X6_readNumbers N hF) axc6 hL7 wd_863 wd_860 wd_862 wd_13 wd_92 pd_X6_readNumbers rfl (ax_rm (by omega) rfl) ax_hf0 (Nat.le_of_ble_eq_true rfl) rfl dX6_readStep_82) (fun T8 h => ?_)
  refine aw_iload 5 dX6_readStep_85 rfl ?_
  refine aw_bipush 7 dX6_readStep_87 (by decide) ?_
  refine aw_icmp_ne 137 dX6_readStep_89 (by decide) h (fun h => ?_) (fun h => ?_)
  · refine aw_env [(1, .ref v1)] [2] rfl ?_
    exact L1_X6_readStep_137 N kr d hkr  v1 T8 h
  · refine aw_aload_n 2 dX6_readStep_92 rfl rfl ?_
    refine aw_bipush 91 dX6_readStep_93 (by decide) ?_
    obtain ⟨hL10, h⟩ := ax_is_spec h
    refine aw_doneI (rest := []) h (fun r9 S9 hF => aw_runV (As := [.int 91]) (rest := []) (L1_X7_takes N hF) axc7 hL10 wd_783 wd_865 wd_781 wd_782 wd_88 pd_X7_takes rfl (ax_rm (by omega) rfl) ax_hf0 (Nat.le_of_ble_eq_true rfl) rfl dX6_readStep_95) (fun x12 T11 h => ?_)
    refine aw_if_eq 122 dX6_readStep_98 (by decide) h (fun h => ?_) (fun h => ?_)
    · refine aw_iconst 0 dX6_readStep_122 rfl ?_
      exact aw_zret dX6_readStep_123 rfl (Nat.le_refl _) (Nat.le_refl _) h
    · refine aw_aload_n 1 dX6_readStep_101 rfl rfl ?_
      refine aw_aload_n 2 dX6_readStep_102 rfl rfl ?_
      refine aw_aload_n 3 dX6_readStep_103 rfl rfl ?_
      refine aw_iload_n 4 dX6_readStep_104 rfl rfl ?_
      refine aw_iconst 1 dX6_readStep_105 rfl ?_
      refine aw_iadd dX6_readStep_106 ?_
      obtain ⟨hL13, h⟩ := ax_is_spec h
      refine aw_doneI (rest := []) h (fun r9 S9 hF => aw_runV (As := [.ref v1, .ref v2, .int (v3 + 1)]) (rest := []) (hkr v0 v1 v2 (v3 + 1) T11 hF) axc6 hL13 wd_840 wd_837 wd_839 wd_11 wd_92 pd_X6_readRow rfl (ax_rm (by omega) rfl) ax_hf0 (Nat.le_of_ble_eq_true rfl) rfl dX6_readStep_107) (fun x15 T14 h => ?_)
      refine aw_if_eq 122 dX6_readStep_110 (by decide) h (fun h => ?_) (fun h => ?_)
      · refine aw_iconst 0 dX6_readStep_122 rfl ?_
        exact aw_zret dX6_readStep_123 rfl (Nat.le_refl _) (Nat.le_refl _) h
      · refine aw_aload_n 2 dX6_readStep_113 rfl rfl ?_
        refine aw_bipush 93 dX6_readStep_114 (by decide) ?_
        obtain ⟨hL16, h⟩ := ax_is_spec h
        refine aw_doneI (rest := []) h (fun r9 S9 hF => aw_runV (As := [.int 93]) (rest := []) (L1_X7_takes N hF) axc7 hL16 wd_783 wd_865 wd_781 wd_782 wd_88 pd_X7_takes rfl (ax_rm (by omega) rfl) ax_hf0 (Nat.le_of_ble_eq_true rfl) rfl dX6_readStep_116) (fun x18 T17 h => ?_)
        refine aw_if_ne 124 dX6_readStep_119 (by decide) h (fun h => ?_) (fun h => ?_)
        · refine aw_aload_n 1 dX6_readStep_124 rfl rfl ?_
          refine aw_getR axc6 2 rfl rfl wd_267 dX6_readStep_125 h (fun a19 h => ?_)
          refine aw_iload 0 dX6_readStep_128 rfl ?_
          refine aw_aload_n 1 dX6_readStep_130 rfl rfl ?_
          refine aw_getI axc6 3 rfl rfl wd_269 dX6_readStep_131 h (fun x20 h => ?_)
          refine aw_doneV (rest := []) h (fun S9 hF => aw_runSN (As := [.ref a19, .int x1, .int x20]) (rest := []) (L1_X9_put N hF) wd_443 wd_859 wd_442 wd_87 pd_X9_put.2 rfl (ax_rm (by omega) rfl) ax_hf0 (Nat.le_of_ble_eq_true rfl) rfl dX6_readStep_134) (fun T21 h => ?_)
          refine aw_env [(1, .ref v1)] [2] rfl ?_
          exact L1_X6_readStep_137 N kr d hkr  v1 T21 h
        · refine aw_iconst 0 dX6_readStep_122 rfl ?_
          exact aw_zret dX6_readStep_123 rfl (Nat.le_refl _) (Nat.le_refl _) h
theorem L1_X6_readStep {g : AxG} {l : Launch} (N : Nat) (kr : Nat → Nat → Nat → Int32 → AxS → Option (Int32 × AxS)) (d : Nat) (hkr : ∀ (a0 : Nat) (a1 : Nat) (a2 : Nat) (a3 : Int32) (S : AxS) {r9 : Int32} {S9 : AxS}, kr a0 a1 a2 a3 S = some ((r9, S9)) → AxMet g l yX6_readRow cX6_readRow 6 (some .boolean) d 0 0 [.ref a0, .ref a1, .ref a2, .int a3] S ((.inl (some (.int r9)), S9))) {v0 : Nat} {v1 : Nat} {v2 : Nat} {v3 : Int32} {S : AxS} {r9 : Int32} {S9 : AxS} (h : F_X6_readStep N kr v0 v1 v2 v3 S = some ((r9, S9))) : AxMet g l yX6_readStep cX6_readStep 6 (some .boolean) (d + 6) 0 0 [.ref v0, .ref v1, .ref v2, .int v3] S ((.inl (some (.int r9)), S9)) := by
  refine ax_met (own := RX6) (ini := false) (by decide +kernel) rfl (fun h => nomatch h) rfl ?_
  show AW g l (axRm (d + 6) 0 0) mt_X6_readStep (axMQ g 0 0 (.inl (some (.int r9)), S9)) 0 0 S 0 [(0, .ref v0), (1, .ref v1), (2, .ref v2), (3, .int v3)] []
  unfold F_X6_readStep at h
  refine aw_aload_n 1 dX6_readStep_0 rfl rfl ?_
  obtain ⟨hL1, h⟩ := ax_is_spec h
  refine aw_doneV (rest := []) h (fun S9 hF => aw_runV (As := []) (rest := []) (L1_X7_word N hF) axc7 hL1 wd_692 wd_846 wd_690 wd_691 wd_88 pd_X7_word rfl (ax_rm (by omega) rfl) ax_hf0 (Nat.le_of_ble_eq_true rfl) rfl dX6_readStep_1) (fun T2 h => ?_)
  refine aw_aload_n 1 dX6_readStep_4 rfl rfl ?_
  refine aw_doneI (rest := []) h (fun r9 S9 hF => aw_runS (As := [.ref v1]) (rest := []) (L1_X6_stepKind N hF) wd_849 wd_847 wd_848 wd_92 pd_X6_stepKind.2 rfl (ax_rm (by omega) rfl) ax_hf0 (Nat.le_of_ble_eq_true rfl) rfl dX6_readStep_5) (fun x5 T4 h => ?_)
  refine aw_istore [(4, .int x5), (0, .ref v0), (1, .ref v1), (2, .ref v2), (3, .int v3)] dX6_readStep_8 rfl rfl ?_
  refine aw_iload 0 dX6_readStep_10 rfl ?_
  refine aw_if_ne 25 dX6_readStep_12 (by decide) h (fun h => ?_) (fun h => ?_)
  · refine aw_iload 0 dX6_readStep_25 rfl ?_
    refine aw_bipush 7 dX6_readStep_27 (by decide) ?_
    refine aw_icmp_ne 48 dX6_readStep_29 (by decide) h (fun h => ?_) (fun h => ?_)
    · refine aw_env [(0, .ref v0), (1, .ref v1), (2, .ref v2), (3, .int v3), (4, .int x5)] [1, 2, 3, 4, 0] rfl ?_
      exact L1_X6_readStep_48 N kr d hkr  v0 v1 v2 v3 x5 T4 h
    · refine aw_iload_n 4 dX6_readStep_32 rfl rfl ?_
      refine aw_bipush 6 dX6_readStep_33 (by decide) ?_
      refine aw_icmp_lt 48 dX6_readStep_35 (by decide) h (fun h => ?_) (fun h => ?_)
      · refine aw_env [(0, .ref v0), (1, .ref v1), (2, .ref v2), (3, .int v3), (4, .int x5)] [1, 2, 3, 4, 0] rfl ?_
        exact L1_X6_readStep_48 N kr d hkr  v0 v1 v2 v3 x5 T4 h
      · refine aw_aload_n 2 dX6_readStep_38 rfl rfl ?_
        refine aw_iconst 3 dX6_readStep_39 rfl ?_
        refine aw_aload_n 2 dX6_readStep_40 rfl rfl ?_
        refine aw_getI axc7 6 rfl rfl wd_138 dX6_readStep_41 h (fun x6 h => ?_)
        obtain ⟨hL7, h⟩ := ax_is_spec h
        refine aw_doneI (rest := []) h (fun r9 S9 hF => aw_runV (As := [.int 3, .int x6]) (rest := []) (L1_X7_fails N hF) axc7 hL7 wd_760 wd_858 wd_758 wd_759 wd_88 pd_X7_fails rfl (ax_rm (by omega) rfl) ax_hf0 (Nat.le_of_ble_eq_true rfl) rfl dX6_readStep_44) (fun x9 T8 h => ?_)
        exact aw_zret dX6_readStep_47 rfl (Nat.le_refl _) (Nat.le_refl _) h
  · refine aw_aload_n 2 dX6_readStep_15 rfl rfl ?_
    refine aw_iconst 1 dX6_readStep_16 rfl ?_
    refine aw_aload_n 2 dX6_readStep_17 rfl rfl ?_
    refine aw_getI axc7 6 rfl rfl wd_138 dX6_readStep_18 h (fun x10 h => ?_)
    obtain ⟨hL11, h⟩ := ax_is_spec h
    refine aw_doneI (rest := []) h (fun r9 S9 hF => aw_runV (As := [.int 1, .int x10]) (rest := []) (L1_X7_fails N hF) axc7 hL11 wd_760 wd_858 wd_758 wd_759 wd_88 pd_X7_fails rfl (ax_rm (by omega) rfl) ax_hf0 (Nat.le_of_ble_eq_true rfl) rfl dX6_readStep_21) (fun x13 T12 h => ?_)
    exact aw_zret dX6_readStep_24 rfl (Nat.le_refl _) (Nat.le_refl _) h

theorem dX6_readRow_0 : decode cX6_readRow 0 = .ok (.iload_n 3, 1) := by decide +kernel
theorem dX6_readRow_1 : decode cX6_readRow 1 = .ok (.ifCond .le 8, 3) := by decide +kernel
theorem dX6_readRow_4 : decode cX6_readRow 4 = .ok (.bipush 93, 2) := by decide +kernel
theorem dX6_readRow_6 : decode cX6_readRow 6 = .ok (.goto 4, 3) := by decide +kernel
theorem dX6_readRow_9 : decode cX6_readRow 9 = .ok (.iconst (-1), 1) := by decide +kernel
theorem dX6_readRow_10 : decode cX6_readRow 10 = .ok (.istore 4, 2) := by decide +kernel
theorem dX6_readRow_12 : decode cX6_readRow 12 = .ok (.iconst 0, 1) := by decide +kernel
theorem dX6_readRow_13 : decode cX6_readRow 13 = .ok (.istore 5, 2) := by decide +kernel
theorem dX6_readRow_15 : decode cX6_readRow 15 = .ok (.iload 5, 2) := by decide +kernel
theorem dX6_readRow_17 : decode cX6_readRow 17 = .ok (.sipush 150, 3) := by decide +kernel
theorem dX6_readRow_20 : decode cX6_readRow 20 = .ok (.if_icmp .ge 30, 3) := by decide +kernel
theorem dX6_readRow_23 : decode cX6_readRow 23 = .ok (.aload_n 1, 1) := by decide +kernel
theorem dX6_readRow_24 : decode cX6_readRow 24 = .ok (.invokevirtual 29, 3) := by decide +kernel
theorem dX6_readRow_27 : decode cX6_readRow 27 = .ok (.iload 4, 2) := by decide +kernel
theorem dX6_readRow_29 : decode cX6_readRow 29 = .ok (.if_icmp .eq 21, 3) := by decide +kernel
theorem dX6_readRow_32 : decode cX6_readRow 32 = .ok (.aload_n 0, 1) := by decide +kernel
theorem dX6_readRow_33 : decode cX6_readRow 33 = .ok (.aload_n 1, 1) := by decide +kernel
theorem dX6_readRow_34 : decode cX6_readRow 34 = .ok (.aload_n 2, 1) := by decide +kernel
theorem dX6_readRow_35 : decode cX6_readRow 35 = .ok (.iload_n 3, 1) := by decide +kernel
theorem dX6_readRow_36 : decode cX6_readRow 36 = .ok (.invokevirtual 35, 3) := by decide +kernel
theorem dX6_readRow_39 : decode cX6_readRow 39 = .ok (.ifCond .ne 5, 3) := by decide +kernel
theorem dX6_readRow_42 : decode cX6_readRow 42 = .ok (.iconst 0, 1) := by decide +kernel
theorem dX6_readRow_43 : decode cX6_readRow 43 = .ok (.ireturn, 1) := by decide +kernel
theorem dX6_readRow_44 : decode cX6_readRow 44 = .ok (.iinc 5 1, 3) := by decide +kernel
theorem dX6_readRow_47 : decode cX6_readRow 47 = .ok (.goto (-32), 3) := by decide +kernel
theorem dX6_readRow_50 : decode cX6_readRow 50 = .ok (.aload_n 1, 1) := by decide +kernel
theorem dX6_readRow_51 : decode cX6_readRow 51 = .ok (.getfield 38, 3) := by decide +kernel
theorem dX6_readRow_54 : decode cX6_readRow 54 = .ok (.ifCond .ne 7, 3) := by decide +kernel
theorem dX6_readRow_57 : decode cX6_readRow 57 = .ok (.iconst 1, 1) := by decide +kernel
theorem dX6_readRow_58 : decode cX6_readRow 58 = .ok (.goto 4, 3) := by decide +kernel
theorem dX6_readRow_61 : decode cX6_readRow 61 = .ok (.iconst 0, 1) := by decide +kernel
theorem dX6_readRow_62 : decode cX6_readRow 62 = .ok (.ireturn, 1) := by decide +kernel
abbrev mt_X6_readRow : AxM := (RX6, cX6_readRow, 6, (some .boolean), false, [])
theorem L1_X6_readRow_50 {g : AxG} {l : Launch} {r9 : Int32} {S9 : AxS} (N : Nat) (kr : Nat → Nat → Nat → Int32 → AxS → Option (Int32 × AxS)) (d : Nat) (hkr : ∀ (a0 : Nat) (a1 : Nat) (a2 : Nat) (a3 : Int32) (S : AxS) {r9 : Int32} {S9 : AxS}, kr a0 a1 a2 a3 S = some ((r9, S9)) → AxMet g l yX6_readRow cX6_readRow 6 (some .boolean) d 0 0 [.ref a0, .ref a1, .ref a2, .int a3] S ((.inl (some (.int r9)), S9)))  (v1 : Nat) (S : AxS) (h : F_X6_readRow_50 N kr  v1 S = some ((r9, S9))) : AW g l (axRm (d + 7) 0 0) mt_X6_readRow (axMQ g 0 0 (.inl (some (.int r9)), S9)) 0 0 S 50 [(1, .ref v1)] [] := by
  unfold F_X6_readRow_50 at h
  refine aw_aload_n 0 dX6_readRow_50 rfl rfl ?_
  refine aw_getI axc7 4 rfl rfl wd_132 dX6_readRow_51 h (fun x1 h => ?_)
  refine aw_if_ne 61 dX6_readRow_54 (by decide) h (fun h => ?_) (fun h => ?_)
  · refine aw_iconst 0 dX6_readRow_61 rfl ?_
    exact aw_zret dX6_readRow_62 rfl (Nat.le_refl _) (Nat.le_refl _) h
  · refine aw_iconst 1 dX6_readRow_57 rfl ?_
    refine aw_goto 62 dX6_readRow_58 (by decide) ?_
    exact aw_zret dX6_readRow_62 rfl (Nat.le_refl _) (Nat.le_refl _) h
theorem L1_X6_readRow_15b {g : AxG} {l : Launch} {r9 : Int32} {S9 : AxS} (N : Nat) (kr : Nat → Nat → Nat → Int32 → AxS → Option (Int32 × AxS)) (d : Nat) (hkr : ∀ (a0 : Nat) (a1 : Nat) (a2 : Nat) (a3 : Int32) (S : AxS) {r9 : Int32} {S9 : AxS}, kr a0 a1 a2 a3 S = some ((r9, S9)) → AxMet g l yX6_readRow cX6_readRow 6 (some .boolean) d 0 0 [.ref a0, .ref a1, .ref a2, .int a3] S ((.inl (some (.int r9)), S9))) (K15 : Nat → Nat → Nat → Int32 → Int32 → Int32 → AxS → Option (Int32 × AxS)) (hK15 : ∀ (v0 : Nat) (v1 : Nat) (v2 : Nat) (v3 : Int32) (v4 : Int32) (v5 : Int32) (S : AxS), K15 v0 v1 v2 v3 v4 v5 S = some ((r9, S9)) → AW g l (axRm (d + 7) 0 0) mt_X6_readRow (axMQ g 0 0 (.inl (some (.int r9)), S9)) 0 0 S 15 [(0, .ref v0), (1, .ref v1), (2, .ref v2), (3, .int v3), (4, .int v4), (5, .int v5)] []) (v0 : Nat) (v1 : Nat) (v2 : Nat) (v3 : Int32) (v4 : Int32) (v5 : Int32) (S : AxS) (h : F_X6_readRow_15b N kr K15 v0 v1 v2 v3 v4 v5 S = some ((r9, S9))) : AW g l (axRm (d + 7) 0 0) mt_X6_readRow (axMQ g 0 0 (.inl (some (.int r9)), S9)) 0 0 S 15 [(0, .ref v0), (1, .ref v1), (2, .ref v2), (3, .int v3), (4, .int v4), (5, .int v5)] [] := by
  unfold F_X6_readRow_15b at h
  refine aw_iload 5 dX6_readRow_15 rfl ?_
  refine aw_sipush 150 dX6_readRow_17 (by decide) ?_
  refine aw_icmp_ge 50 dX6_readRow_20 (by decide) h (fun h => ?_) (fun h => ?_)
  · refine aw_env [(1, .ref v1)] [1] rfl ?_
    exact L1_X6_readRow_50 N kr d hkr  v1 S h
  · refine aw_aload_n 1 dX6_readRow_23 rfl rfl ?_
    obtain ⟨hL1, h⟩ := ax_is_spec h
    refine aw_doneI (rest := []) h (fun r9 S9 hF => aw_runV (As := []) (rest := []) (L1_X7_sign N hF) axc7 hL1 wd_683 wd_841 wd_681 wd_682 wd_88 pd_X7_sign rfl (ax_rm (by omega) rfl) ax_hf0 (Nat.le_of_ble_eq_true rfl) rfl dX6_readRow_24) (fun x3 T2 h => ?_)
    refine aw_iload 4 dX6_readRow_27 rfl ?_
    refine aw_icmp_eq 50 dX6_readRow_29 (by decide) h (fun h => ?_) (fun h => ?_)
    · refine aw_env [(1, .ref v1)] [1] rfl ?_
      exact L1_X6_readRow_50 N kr d hkr  v1 T2 h
    · refine aw_aload_n 0 dX6_readRow_32 rfl rfl ?_
      refine aw_aload_n 1 dX6_readRow_33 rfl rfl ?_
      refine aw_aload_n 2 dX6_readRow_34 rfl rfl ?_
      refine aw_iload_n 3 dX6_readRow_35 rfl rfl ?_
      obtain ⟨hL4, h⟩ := ax_is_spec h
      refine aw_doneI (rest := []) h (fun r9 S9 hF => aw_runV (As := [.ref v1, .ref v2, .int v3]) (rest := []) (L1_X6_readStep N kr d hkr hF) axc6 hL4 wd_845 wd_842 wd_844 wd_12 wd_92 pd_X6_readStep rfl (ax_rm (by omega) rfl) ax_hf0 (Nat.le_of_ble_eq_true rfl) rfl dX6_readRow_36) (fun x6 T5 h => ?_)
      refine aw_if_ne 44 dX6_readRow_39 (by decide) h (fun h => ?_) (fun h => ?_)
      · refine aw_iinc 5 [(5, .int (v5 + 1)), (0, .ref v0), (1, .ref v1), (2, .ref v2), (3, .int v3), (4, .int v4)] (v5 + 1) dX6_readRow_44 rfl rfl rfl rfl ?_
        refine aw_goto 15 dX6_readRow_47 (by decide) ?_
        refine aw_env [(0, .ref v0), (1, .ref v1), (2, .ref v2), (3, .int v3), (4, .int v4), (5, .int (v5 + 1))] [1, 2, 3, 4, 5, 0] rfl ?_
        exact hK15 v0 v1 v2 v3 v4 (v5 + 1) T5 h
      · refine aw_iconst 0 dX6_readRow_42 rfl ?_
        exact aw_zret dX6_readRow_43 rfl (Nat.le_refl _) (Nat.le_refl _) h
theorem L1_X6_readRow_15 {g : AxG} {l : Launch} {r9 : Int32} {S9 : AxS} (N : Nat) (kr : Nat → Nat → Nat → Int32 → AxS → Option (Int32 × AxS)) (d : Nat) (hkr : ∀ (a0 : Nat) (a1 : Nat) (a2 : Nat) (a3 : Int32) (S : AxS) {r9 : Int32} {S9 : AxS}, kr a0 a1 a2 a3 S = some ((r9, S9)) → AxMet g l yX6_readRow cX6_readRow 6 (some .boolean) d 0 0 [.ref a0, .ref a1, .ref a2, .int a3] S ((.inl (some (.int r9)), S9)))  : ∀ (n : Nat) (v0 : Nat) (v1 : Nat) (v2 : Nat) (v3 : Int32) (v4 : Int32) (v5 : Int32) (S : AxS), F_X6_readRow_15 N kr  n v0 v1 v2 v3 v4 v5 S = some ((r9, S9)) → AW g l (axRm (d + 7) 0 0) mt_X6_readRow (axMQ g 0 0 (.inl (some (.int r9)), S9)) 0 0 S 15 [(0, .ref v0), (1, .ref v1), (2, .ref v2), (3, .int v3), (4, .int v4), (5, .int v5)] [] := by
  intro n
  induction n with
  | zero => intro v0 v1 v2 v3 v4 v5 S h; cases h
  | succ n ih => intro v0 v1 v2 v3 v4 v5 S h; exact L1_X6_readRow_15b N kr d hkr (F_X6_readRow_15 N kr  n) ih v0 v1 v2 v3 v4 v5 S h
theorem L1_X6_readRow_10 {g : AxG} {l : Launch} {r9 : Int32} {S9 : AxS} (N : Nat) (kr : Nat → Nat → Nat → Int32 → AxS → Option (Int32 × AxS)) (d : Nat) (hkr : ∀ (a0 : Nat) (a1 : Nat) (a2 : Nat) (a3 : Int32) (S : AxS) {r9 : Int32} {S9 : AxS}, kr a0 a1 a2 a3 S = some ((r9, S9)) → AxMet g l yX6_readRow cX6_readRow 6 (some .boolean) d 0 0 [.ref a0, .ref a1, .ref a2, .int a3] S ((.inl (some (.int r9)), S9)))  (v0 : Nat) (v1 : Nat) (v2 : Nat) (v3 : Int32) (w0 : Int32) (S : AxS) (h : F_X6_readRow_10 N kr  v0 v1 v2 v3 w0 S = some ((r9, S9))) : AW g l (axRm (d + 7) 0 0) mt_X6_readRow (axMQ g 0 0 (.inl (some (.int r9)), S9)) 0 0 S 10 [(0, .ref v0), (1, .ref v1), (2, .ref v2), (3, .int v3)] [.int w0] := by
  unfold F_X6_readRow_10 at h
  refine aw_istore [(4, .int w0), (0, .ref v0), (1, .ref v1), (2, .ref v2), (3, .int v3)] dX6_readRow_10 rfl rfl ?_
  refine aw_iconst 0 dX6_readRow_12 rfl ?_
  refine aw_istore [(5, .int 0), (4, .int w0), (0, .ref v0), (1, .ref v1), (2, .ref v2), (3, .int v3)] dX6_readRow_13 rfl rfl ?_
  refine aw_env [(0, .ref v0), (1, .ref v1), (2, .ref v2), (3, .int v3), (4, .int w0), (5, .int 0)] [2, 3, 4, 5, 1, 0] rfl ?_
  exact L1_X6_readRow_15 N kr d hkr  N v0 v1 v2 v3 w0 0 S h
theorem L1_X6_readRow {g : AxG} {l : Launch} (N : Nat) (kr : Nat → Nat → Nat → Int32 → AxS → Option (Int32 × AxS)) (d : Nat) (hkr : ∀ (a0 : Nat) (a1 : Nat) (a2 : Nat) (a3 : Int32) (S : AxS) {r9 : Int32} {S9 : AxS}, kr a0 a1 a2 a3 S = some ((r9, S9)) → AxMet g l yX6_readRow cX6_readRow 6 (some .boolean) d 0 0 [.ref a0, .ref a1, .ref a2, .int a3] S ((.inl (some (.int r9)), S9))) {v0 : Nat} {v1 : Nat} {v2 : Nat} {v3 : Int32} {S : AxS} {r9 : Int32} {S9 : AxS} (h : F_X6_readRow N kr v0 v1 v2 v3 S = some ((r9, S9))) : AxMet g l yX6_readRow cX6_readRow 6 (some .boolean) (d + 7) 0 0 [.ref v0, .ref v1, .ref v2, .int v3] S ((.inl (some (.int r9)), S9)) := by
  refine ax_met (own := RX6) (ini := false) (by decide +kernel) rfl (fun h => nomatch h) rfl ?_
  show AW g l (axRm (d + 7) 0 0) mt_X6_readRow (axMQ g 0 0 (.inl (some (.int r9)), S9)) 0 0 S 0 [(0, .ref v0), (1, .ref v1), (2, .ref v2), (3, .int v3)] []
  unfold F_X6_readRow at h
  refine aw_iload_n 3 dX6_readRow_0 rfl rfl ?_
  refine aw_if_le 9 dX6_readRow_1 (by decide) h (fun h => ?_) (fun h => ?_)
  · refine aw_iconst (-1) dX6_readRow_9 rfl ?_
    refine aw_env [(0, .ref v0), (1, .ref v1), (2, .ref v2), (3, .int v3)] [0, 1, 2, 3] rfl ?_
    exact L1_X6_readRow_10 N kr d hkr  v0 v1 v2 v3 ((-1)) S h
  · refine aw_bipush 93 dX6_readRow_4 (by decide) ?_
    refine aw_goto 10 dX6_readRow_6 (by decide) ?_
    refine aw_env [(0, .ref v0), (1, .ref v1), (2, .ref v2), (3, .int v3)] [0, 1, 2, 3] rfl ?_
    exact L1_X6_readRow_10 N kr d hkr  v0 v1 v2 v3 93 S h
theorem L1GG_X6_readRow {g : AxG} {l : Launch} (N : Nat) : ∀ (n : Nat) (v0 : Nat) (v1 : Nat) (v2 : Nat) (v3 : Int32) (S : AxS) {r9 : Int32} {S9 : AxS}, GG_X6_readRow N n v0 v1 v2 v3 S = some ((r9, S9)) → AxMet g l yX6_readRow cX6_readRow 6 (some .boolean) (7 * n) 0 0 [.ref v0, .ref v1, .ref v2, .int v3] S ((.inl (some (.int r9)), S9)) := by
  intro n
  induction n with
  | zero => intro v0 v1 v2 v3 S r9 S9 h; cases h
  | succ n ih =>
    intro v0 v1 v2 v3 S r9 S9 h
    have h9 := L1_X6_readRow (g := g) (l := l) N (GG_X6_readRow N n) (7 * n) (fun a0 a1 a2 a3 S r9 S9 h => ih a0 a1 a2 a3 S h) h
    exact h9
theorem L1G_X6_readRow {g : AxG} {l : Launch} (N : Nat) {v0 : Nat} {v1 : Nat} {v2 : Nat} {v3 : Int32} {S : AxS} {r9 : Int32} {S9 : AxS} (h : G_X6_readRow N v0 v1 v2 v3 S = some ((r9, S9))) : AxMet g l yX6_readRow cX6_readRow 6 (some .boolean) (63) 0 0 [.ref v0, .ref v1, .ref v2, .int v3] S ((.inl (some (.int r9)), S9)) := L1GG_X6_readRow N 9 v0 v1 v2 v3 S h


theorem dX6_readFrom_0 : decode cX6_readFrom 0 = .ok (.aload_n 0, 1) := by decide +kernel
theorem dX6_readFrom_1 : decode cX6_readFrom 1 = .ok (.iconst 0, 1) := by decide +kernel
theorem dX6_readFrom_2 : decode cX6_readFrom 2 = .ok (.putfield 21, 3) := by decide +kernel
theorem dX6_readFrom_5 : decode cX6_readFrom 5 = .ok (.aload_n 0, 1) := by decide +kernel
theorem dX6_readFrom_6 : decode cX6_readFrom 6 = .ok (.aload_n 1, 1) := by decide +kernel
theorem dX6_readFrom_7 : decode cX6_readFrom 7 = .ok (.aload_n 2, 1) := by decide +kernel
theorem dX6_readFrom_8 : decode cX6_readFrom 8 = .ok (.iconst 0, 1) := by decide +kernel
theorem dX6_readFrom_9 : decode cX6_readFrom 9 = .ok (.invokevirtual 25, 3) := by decide +kernel
theorem dX6_readFrom_12 : decode cX6_readFrom 12 = .ok (.ireturn, 1) := by decide +kernel
abbrev mt_X6_readFrom : AxM := (RX6, cX6_readFrom, 3, (some .boolean), false, [])
theorem L1_X6_readFrom {g : AxG} {l : Launch} (N : Nat) {v0 : Nat} {v1 : Nat} {v2 : Nat} {S : AxS} {r9 : Int32} {S9 : AxS} (h : F_X6_readFrom N v0 v1 v2 S = some ((r9, S9))) : AxMet g l yX6_readFrom cX6_readFrom 3 (some .boolean) (64) 0 0 [.ref v0, .ref v1, .ref v2] S ((.inl (some (.int r9)), S9)) := by
  refine ax_met (own := RX6) (ini := false) (by decide +kernel) rfl (fun h => nomatch h) rfl ?_
  show AW g l (axRm (64) 0 0) mt_X6_readFrom (axMQ g 0 0 (.inl (some (.int r9)), S9)) 0 0 S 0 [(0, .ref v0), (1, .ref v1), (2, .ref v2)] []
  unfold F_X6_readFrom at h
  refine aw_aload_n 0 dX6_readFrom_0 rfl rfl ?_
  refine aw_iconst 0 dX6_readFrom_1 rfl ?_
  refine aw_putI axc6 3 rfl rfl wd_269 rfl rfl rfl dX6_readFrom_2 h (fun T1 h => ?_)
  refine aw_aload_n 0 dX6_readFrom_5 rfl rfl ?_
  refine aw_aload_n 1 dX6_readFrom_6 rfl rfl ?_
  refine aw_aload_n 2 dX6_readFrom_7 rfl rfl ?_
  refine aw_iconst 0 dX6_readFrom_8 rfl ?_
  obtain ⟨hL2, h⟩ := ax_is_spec h
  refine aw_doneI (rest := []) h (fun r9 S9 hF => aw_runV (As := [.ref v1, .ref v2, .int 0]) (rest := []) (L1G_X6_readRow N hF) axc6 hL2 wd_840 wd_837 wd_839 wd_11 wd_92 pd_X6_readRow rfl (ax_rm (by omega) rfl) ax_hf0 (Nat.le_of_ble_eq_true rfl) rfl dX6_readFrom_9) (fun x4 T3 h => ?_)
  exact aw_zret dX6_readFrom_12 rfl (Nat.le_refl _) (Nat.le_refl _) h

theorem dX6_behind_0 : decode cX6_behind 0 = .ok (.aload_n 0, 1) := by decide +kernel
theorem dX6_behind_1 : decode cX6_behind 1 = .ok (.getfield 9, 3) := by decide +kernel
theorem dX6_behind_4 : decode cX6_behind 4 = .ok (.iload_n 1, 1) := by decide +kernel
theorem dX6_behind_5 : decode cX6_behind 5 = .ok (.invokestatic 97, 3) := by decide +kernel
theorem dX6_behind_8 : decode cX6_behind 8 = .ok (.bipush 7, 2) := by decide +kernel
theorem dX6_behind_10 : decode cX6_behind 10 = .ok (.if_icmp .ne 14, 3) := by decide +kernel
theorem dX6_behind_13 : decode cX6_behind 13 = .ok (.aload_n 0, 1) := by decide +kernel
theorem dX6_behind_14 : decode cX6_behind 14 = .ok (.getfield 18, 3) := by decide +kernel
theorem dX6_behind_17 : decode cX6_behind 17 = .ok (.iload_n 1, 1) := by decide +kernel
theorem dX6_behind_18 : decode cX6_behind 18 = .ok (.invokestatic 97, 3) := by decide +kernel
theorem dX6_behind_21 : decode cX6_behind 21 = .ok (.goto 6, 3) := by decide +kernel
theorem dX6_behind_24 : decode cX6_behind 24 = .ok (.iload_n 1, 1) := by decide +kernel
theorem dX6_behind_25 : decode cX6_behind 25 = .ok (.iconst 1, 1) := by decide +kernel
theorem dX6_behind_26 : decode cX6_behind 26 = .ok (.iadd, 1) := by decide +kernel
theorem dX6_behind_27 : decode cX6_behind 27 = .ok (.ireturn, 1) := by decide +kernel
abbrev mt_X6_behind : AxM := (RX6, cX6_behind, 2, (some .int), false, [])
theorem L1_X6_behind {g : AxG} {l : Launch} (N : Nat) {v0 : Nat} {v1 : Int32} {S : AxS} {r9 : Int32} {S9 : AxS} (h : F_X6_behind N v0 v1 S = some ((r9, S9))) : AxMet g l yX6_behind cX6_behind 2 (some .int) (1) 0 0 [.ref v0, .int v1] S ((.inl (some (.int r9)), S9)) := by
  refine ax_met (own := RX6) (ini := false) (by decide +kernel) rfl (fun h => nomatch h) rfl ?_
  show AW g l (axRm (1) 0 0) mt_X6_behind (axMQ g 0 0 (.inl (some (.int r9)), S9)) 0 0 S 0 [(0, .ref v0), (1, .int v1)] []
  unfold F_X6_behind at h
  refine aw_aload_n 0 dX6_behind_0 rfl rfl ?_
  refine aw_getR axc6 0 rfl rfl wd_263 dX6_behind_1 h (fun a1 h => ?_)
  refine aw_iload_n 1 dX6_behind_4 rfl rfl ?_
  refine aw_doneI (rest := []) h (fun r9 S9 hF => aw_runSN (As := [.ref a1, .int v1]) (rest := []) (L1_X9_at N hF) wd_541 wd_879 wd_540 wd_87 pd_X9_at.2 rfl (ax_rm (by omega) rfl) ax_hf0 (Nat.le_of_ble_eq_true rfl) rfl dX6_behind_5) (fun x3 T2 h => ?_)
  refine aw_bipush 7 dX6_behind_8 (by decide) ?_
  refine aw_icmp_ne 24 dX6_behind_10 (by decide) h (fun h => ?_) (fun h => ?_)
  · refine aw_iload_n 1 dX6_behind_24 rfl rfl ?_
    refine aw_iconst 1 dX6_behind_25 rfl ?_
    refine aw_iadd dX6_behind_26 ?_
    exact aw_iret dX6_behind_27 rfl (Nat.le_refl _) (Nat.le_refl _) h
  · refine aw_aload_n 0 dX6_behind_13 rfl rfl ?_
    refine aw_getR axc6 2 rfl rfl wd_267 dX6_behind_14 h (fun a4 h => ?_)
    refine aw_iload_n 1 dX6_behind_17 rfl rfl ?_
    refine aw_doneI (rest := []) h (fun r9 S9 hF => aw_runSN (As := [.ref a4, .int v1]) (rest := []) (L1_X9_at N hF) wd_541 wd_879 wd_540 wd_87 pd_X9_at.2 rfl (ax_rm (by omega) rfl) ax_hf0 (Nat.le_of_ble_eq_true rfl) rfl dX6_behind_18) (fun x6 T5 h => ?_)
    refine aw_goto 27 dX6_behind_21 (by decide) ?_
    exact aw_iret dX6_behind_27 rfl (Nat.le_refl _) (Nat.le_refl _) h

theorem dX7_append_0 : decode cX7_append 0 = .ok (.bipush 24, 2) := by decide +kernel
theorem dX7_append_2 : decode cX7_append 2 = .ok (.istore_n 2, 1) := by decide +kernel
theorem dX7_append_3 : decode cX7_append 3 = .ok (.iload_n 2, 1) := by decide +kernel
theorem dX7_append_4 : decode cX7_append 4 = .ok (.ifCond .lt 37, 3) := by decide +kernel
theorem dX7_append_7 : decode cX7_append 7 = .ok (.aload_n 0, 1) := by decide +kernel
theorem dX7_append_8 : decode cX7_append 8 = .ok (.getfield 9, 3) := by decide +kernel
theorem dX7_append_11 : decode cX7_append 11 = .ok (.aload_n 0, 1) := by decide +kernel
theorem dX7_append_12 : decode cX7_append 12 = .ok (.getfield 19, 3) := by decide +kernel
theorem dX7_append_15 : decode cX7_append 15 = .ok (.iload_n 1, 1) := by decide +kernel
theorem dX7_append_16 : decode cX7_append 16 = .ok (.iload_n 2, 1) := by decide +kernel
theorem dX7_append_17 : decode cX7_append 17 = .ok (.iushr, 1) := by decide +kernel
theorem dX7_append_18 : decode cX7_append 18 = .ok (.sipush 255, 3) := by decide +kernel
theorem dX7_append_21 : decode cX7_append 21 = .ok (.iand, 1) := by decide +kernel
theorem dX7_append_22 : decode cX7_append 22 = .ok (.invokestatic 22, 3) := by decide +kernel
theorem dX7_append_25 : decode cX7_append 25 = .ok (.aload_n 0, 1) := by decide +kernel
theorem dX7_append_26 : decode cX7_append 26 = .ok (.dup, 1) := by decide +kernel
theorem dX7_append_27 : decode cX7_append 27 = .ok (.getfield 19, 3) := by decide +kernel
theorem dX7_append_30 : decode cX7_append 30 = .ok (.iconst 1, 1) := by decide +kernel
theorem dX7_append_31 : decode cX7_append 31 = .ok (.iadd, 1) := by decide +kernel
theorem dX7_append_32 : decode cX7_append 32 = .ok (.putfield 19, 3) := by decide +kernel
theorem dX7_append_35 : decode cX7_append 35 = .ok (.iinc 2 (-8), 3) := by decide +kernel
theorem dX7_append_38 : decode cX7_append 38 = .ok (.goto (-35), 3) := by decide +kernel
theorem dX7_append_41 : decode cX7_append 41 = .ok (.return_, 1) := by decide +kernel
abbrev mt_X7_append : AxM := (RX7, cX7_append, 3, none, false, [])
theorem L1_X7_append_3b {g : AxG} {l : Launch} {S9 : AxS} (N : Nat) (K3 : Nat → Int32 → Int32 → AxS → Option (AxS)) (hK3 : ∀ (v0 : Nat) (v1 : Int32) (v2 : Int32) (S : AxS), K3 v0 v1 v2 S = some S9 → AW g l (axRm (1) 0 0) mt_X7_append (axMQ g 0 0 (.inl none, S9)) 0 0 S 3 [(0, .ref v0), (1, .int v1), (2, .int v2)] []) (v0 : Nat) (v1 : Int32) (v2 : Int32) (S : AxS) (h : F_X7_append_3b N K3 v0 v1 v2 S = some S9) : AW g l (axRm (1) 0 0) mt_X7_append (axMQ g 0 0 (.inl none, S9)) 0 0 S 3 [(0, .ref v0), (1, .int v1), (2, .int v2)] [] := by
  unfold F_X7_append_3b at h
  refine aw_iload_n 2 dX7_append_3 rfl rfl ?_
  refine aw_if_lt 41 dX7_append_4 (by decide) h (fun h => ?_) (fun h => ?_)
  · exact aw_vret dX7_append_41 rfl (Nat.le_refl _) (Nat.le_refl _) h
  · refine aw_aload_n 0 dX7_append_7 rfl rfl ?_
    refine aw_getR axc7 0 rfl rfl wd_123 dX7_append_8 h (fun a1 h => ?_)
    refine aw_aload_n 0 dX7_append_11 rfl rfl ?_
    refine aw_getI axc7 1 rfl rfl wd_124 dX7_append_12 h (fun x2 h => ?_)
    refine aw_iload_n 1 dX7_append_15 rfl rfl ?_
    refine aw_iload_n 2 dX7_append_16 rfl rfl ?_
    refine aw_iushr dX7_append_17 ?_
    refine aw_sipush 255 dX7_append_18 (by decide) ?_
    refine aw_iand dX7_append_21 ?_
    refine aw_doneV (rest := []) h (fun S9 hF => aw_runSN (As := [.ref a1, .int x2, .int ((axUshr v1 v2) &&& 255)]) (rest := []) (L1_X9_put N hF) wd_443 wd_522 wd_442 wd_87 pd_X9_put.2 rfl (ax_rm (by omega) rfl) ax_hf0 (Nat.le_of_ble_eq_true rfl) rfl dX7_append_22) (fun T3 h => ?_)
    refine aw_aload_n 0 dX7_append_25 rfl rfl ?_
    refine aw_dup rfl dX7_append_26 ?_
    refine aw_getI axc7 1 rfl rfl wd_124 dX7_append_27 h (fun x5 h => ?_)
    refine aw_iconst 1 dX7_append_30 rfl ?_
    refine aw_iadd dX7_append_31 ?_
    refine aw_putI axc7 1 rfl rfl wd_124 rfl rfl rfl dX7_append_32 h (fun T6 h => ?_)
    refine aw_iinc 2 [(2, .int (v2 + (-8))), (0, .ref v0), (1, .int v1)] (v2 + (-8)) dX7_append_35 rfl rfl rfl rfl ?_
    refine aw_goto 3 dX7_append_38 (by decide) ?_
    refine aw_env [(0, .ref v0), (1, .int v1), (2, .int (v2 + (-8)))] [1, 2, 0] rfl ?_
    exact hK3 v0 v1 (v2 + (-8)) T6 h
theorem L1_X7_append_3 {g : AxG} {l : Launch} {S9 : AxS} (N : Nat)  : ∀ (n : Nat) (v0 : Nat) (v1 : Int32) (v2 : Int32) (S : AxS), F_X7_append_3 N  n v0 v1 v2 S = some S9 → AW g l (axRm (1) 0 0) mt_X7_append (axMQ g 0 0 (.inl none, S9)) 0 0 S 3 [(0, .ref v0), (1, .int v1), (2, .int v2)] [] := by
  intro n
  induction n with
  | zero => intro v0 v1 v2 S h; cases h
  | succ n ih => intro v0 v1 v2 S h; exact L1_X7_append_3b N (F_X7_append_3 N  n) ih v0 v1 v2 S h
theorem L1_X7_append {g : AxG} {l : Launch} (N : Nat) {v0 : Nat} {v1 : Int32} {S : AxS} {S9 : AxS} (h : F_X7_append N v0 v1 S = some S9) : AxMet g l yX7_append cX7_append 3 none (1) 0 0 [.ref v0, .int v1] S ((.inl none, S9)) := by
  refine ax_met (own := RX7) (ini := false) (by decide +kernel) rfl (fun h => nomatch h) rfl ?_
  show AW g l (axRm (1) 0 0) mt_X7_append (axMQ g 0 0 (.inl none, S9)) 0 0 S 0 [(0, .ref v0), (1, .int v1)] []
  unfold F_X7_append at h
  refine aw_bipush 24 dX7_append_0 (by decide) ?_
  refine aw_istore_n 2 [(2, .int 24), (0, .ref v0), (1, .int v1)] dX7_append_2 rfl rfl rfl ?_
  refine aw_env [(0, .ref v0), (1, .int v1), (2, .int 24)] [1, 2, 0] rfl ?_
  exact L1_X7_append_3 N  N v0 v1 24 S h

theorem dX7_open_0 : decode cX7_open 0 = .ok (.aload_n 0, 1) := by decide +kernel
theorem dX7_open_1 : decode cX7_open 1 = .ok (.iload_n 1, 1) := by decide +kernel
theorem dX7_open_2 : decode cX7_open 2 = .ok (.putfield 26, 3) := by decide +kernel
theorem dX7_open_5 : decode cX7_open 5 = .ok (.aload_n 0, 1) := by decide +kernel
theorem dX7_open_6 : decode cX7_open 6 = .ok (.iconst 0, 1) := by decide +kernel
theorem dX7_open_7 : decode cX7_open 7 = .ok (.putfield 29, 3) := by decide +kernel
theorem dX7_open_10 : decode cX7_open 10 = .ok (.aload_n 0, 1) := by decide +kernel
theorem dX7_open_11 : decode cX7_open 11 = .ok (.iconst 0, 1) := by decide +kernel
theorem dX7_open_12 : decode cX7_open 12 = .ok (.putfield 32, 3) := by decide +kernel
theorem dX7_open_15 : decode cX7_open 15 = .ok (.aload_n 0, 1) := by decide +kernel
theorem dX7_open_16 : decode cX7_open 16 = .ok (.iconst (-1), 1) := by decide +kernel
theorem dX7_open_17 : decode cX7_open 17 = .ok (.putfield 15, 3) := by decide +kernel
theorem dX7_open_20 : decode cX7_open 20 = .ok (.aload_n 0, 1) := by decide +kernel
theorem dX7_open_21 : decode cX7_open 21 = .ok (.iconst 0, 1) := by decide +kernel
theorem dX7_open_22 : decode cX7_open 22 = .ok (.putfield 19, 3) := by decide +kernel
theorem dX7_open_25 : decode cX7_open 25 = .ok (.return_, 1) := by decide +kernel
abbrev mt_X7_open : AxM := (RX7, cX7_open, 2, none, false, [])
theorem L1_X7_open {g : AxG} {l : Launch} (N : Nat) {v0 : Nat} {v1 : Int32} {S : AxS} {S9 : AxS} (h : F_X7_open N v0 v1 S = some S9) : AxMet g l yX7_open cX7_open 2 none (0) 0 0 [.ref v0, .int v1] S ((.inl none, S9)) := by
  refine ax_met (own := RX7) (ini := false) (by decide +kernel) rfl (fun h => nomatch h) rfl ?_
  show AW g l (axRm (0) 0 0) mt_X7_open (axMQ g 0 0 (.inl none, S9)) 0 0 S 0 [(0, .ref v0), (1, .int v1)] []
  unfold F_X7_open at h
  refine aw_aload_n 0 dX7_open_0 rfl rfl ?_
  refine aw_iload_n 1 dX7_open_1 rfl rfl ?_
  refine aw_putI axc7 2 rfl rfl wd_126 rfl rfl rfl dX7_open_2 h (fun T1 h => ?_)
  refine aw_aload_n 0 dX7_open_5 rfl rfl ?_
  refine aw_iconst 0 dX7_open_6 rfl ?_
  refine aw_putI axc7 3 rfl rfl wd_127 rfl rfl rfl dX7_open_7 h (fun T2 h => ?_)
  refine aw_aload_n 0 dX7_open_10 rfl rfl ?_
  refine aw_iconst 0 dX7_open_11 rfl ?_
  refine aw_putI axc7 4 rfl rfl wd_129 rfl rfl rfl dX7_open_12 h (fun T3 h => ?_)
  refine aw_aload_n 0 dX7_open_15 rfl rfl ?_
  refine aw_iconst (-1) dX7_open_16 rfl ?_
  refine aw_putI axc7 5 rfl rfl wd_135 rfl rfl rfl dX7_open_17 h (fun T4 h => ?_)
  refine aw_aload_n 0 dX7_open_20 rfl rfl ?_
  refine aw_iconst 0 dX7_open_21 rfl ?_
  refine aw_putI axc7 1 rfl rfl wd_124 rfl rfl rfl dX7_open_22 h (fun T5 h => ?_)
  exact aw_vret dX7_open_25 rfl (Nat.le_refl _) (Nat.le_refl _) h

theorem dX8_push_0 : decode cX8_push 0 = .ok (.aload_n 0, 1) := by decide +kernel
theorem dX8_push_1 : decode cX8_push 1 = .ok (.getfield 18, 3) := by decide +kernel
theorem dX8_push_4 : decode cX8_push 4 = .ok (.ifCond .lt 38, 3) := by decide +kernel
theorem dX8_push_7 : decode cX8_push 7 = .ok (.aload_n 0, 1) := by decide +kernel
theorem dX8_push_8 : decode cX8_push 8 = .ok (.getfield 18, 3) := by decide +kernel
theorem dX8_push_11 : decode cX8_push 11 = .ok (.aload_n 0, 1) := by decide +kernel
theorem dX8_push_12 : decode cX8_push 12 = .ok (.getfield 11, 3) := by decide +kernel
theorem dX8_push_15 : decode cX8_push 15 = .ok (.arraylength, 1) := by decide +kernel
theorem dX8_push_16 : decode cX8_push 16 = .ok (.if_icmp .ge 26, 3) := by decide +kernel
theorem dX8_push_19 : decode cX8_push 19 = .ok (.aload_n 0, 1) := by decide +kernel
theorem dX8_push_20 : decode cX8_push 20 = .ok (.getfield 11, 3) := by decide +kernel
theorem dX8_push_23 : decode cX8_push 23 = .ok (.aload_n 0, 1) := by decide +kernel
theorem dX8_push_24 : decode cX8_push 24 = .ok (.getfield 18, 3) := by decide +kernel
theorem dX8_push_27 : decode cX8_push 27 = .ok (.aaload, 1) := by decide +kernel
theorem dX8_push_28 : decode cX8_push 28 = .ok (.aload_n 1, 1) := by decide +kernel
theorem dX8_push_29 : decode cX8_push 29 = .ok (.invokevirtual 22, 3) := by decide +kernel
theorem dX8_push_32 : decode cX8_push 32 = .ok (.aload_n 0, 1) := by decide +kernel
theorem dX8_push_33 : decode cX8_push 33 = .ok (.dup, 1) := by decide +kernel
theorem dX8_push_34 : decode cX8_push 34 = .ok (.getfield 18, 3) := by decide +kernel
theorem dX8_push_37 : decode cX8_push 37 = .ok (.iconst 1, 1) := by decide +kernel
theorem dX8_push_38 : decode cX8_push 38 = .ok (.iadd, 1) := by decide +kernel
theorem dX8_push_39 : decode cX8_push 39 = .ok (.putfield 18, 3) := by decide +kernel
theorem dX8_push_42 : decode cX8_push 42 = .ok (.return_, 1) := by decide +kernel
abbrev mt_X8_push : AxM := (RX8, cX8_push, 2, none, false, [])
theorem L1_X8_push {g : AxG} {l : Launch} (N : Nat) {v0 : Nat} {v1 : Nat} {S : AxS} {S9 : AxS} (h : F_X8_push N v0 v1 S = some S9) : AxMet g l yX8_push cX8_push 2 none (2) 0 0 [.ref v0, .ref v1] S ((.inl none, S9)) := by
  refine ax_met (own := RX8) (ini := false) (by decide +kernel) rfl (fun h => nomatch h) rfl ?_
  show AW g l (axRm (2) 0 0) mt_X8_push (axMQ g 0 0 (.inl none, S9)) 0 0 S 0 [(0, .ref v0), (1, .ref v1)] []
  unfold F_X8_push at h
  refine aw_aload_n 0 dX8_push_0 rfl rfl ?_
  refine aw_getI axc8 1 rfl rfl wd_359 dX8_push_1 h (fun x1 h => ?_)
  refine aw_if_lt 42 dX8_push_4 (by decide) h (fun h => ?_) (fun h => ?_)
  · exact aw_vret dX8_push_42 rfl (Nat.le_refl _) (Nat.le_refl _) h
  · refine aw_aload_n 0 dX8_push_7 rfl rfl ?_
    refine aw_getI axc8 1 rfl rfl wd_359 dX8_push_8 h (fun x2 h => ?_)
    refine aw_aload_n 0 dX8_push_11 rfl rfl ?_
    refine aw_getR axc8 0 rfl rfl wd_358 dX8_push_12 h (fun a3 h => ?_)
    refine aw_alen dX8_push_15 h (fun x4 h => ?_)
    refine aw_icmp_ge 42 dX8_push_16 (by decide) h (fun h => ?_) (fun h => ?_)
    · exact aw_vret dX8_push_42 rfl (Nat.le_refl _) (Nat.le_refl _) h
    · refine aw_aload_n 0 dX8_push_19 rfl rfl ?_
      refine aw_getR axc8 0 rfl rfl wd_358 dX8_push_20 h (fun a5 h => ?_)
      refine aw_aload_n 0 dX8_push_23 rfl rfl ?_
      refine aw_getI axc8 1 rfl rfl wd_359 dX8_push_24 h (fun x6 h => ?_)
      refine aw_aald dX8_push_27 h (fun a7 h => ?_)
      refine aw_aload_n 1 dX8_push_28 rfl rfl ?_
      obtain ⟨hL8, h⟩ := ax_is_spec h
      refine aw_doneV (rest := []) h (fun S9 hF => aw_runV (As := [.ref v1]) (rest := []) (L1_X5_take N hF) axc5 hL8 wd_538 wd_535 wd_536 wd_537 wd_93 pd_X5_take rfl (ax_rm (by omega) rfl) ax_hf0 (Nat.le_of_ble_eq_true rfl) rfl dX8_push_29) (fun T9 h => ?_)
      refine aw_aload_n 0 dX8_push_32 rfl rfl ?_
      refine aw_dup rfl dX8_push_33 ?_
      refine aw_getI axc8 1 rfl rfl wd_359 dX8_push_34 h (fun x11 h => ?_)
      refine aw_iconst 1 dX8_push_37 rfl ?_
      refine aw_iadd dX8_push_38 ?_
      refine aw_putI axc8 1 rfl rfl wd_359 rfl rfl rfl dX8_push_39 h (fun T12 h => ?_)
      exact aw_vret dX8_push_42 rfl (Nat.le_refl _) (Nat.le_refl _) h

theorem dX8_pop_0 : decode cX8_pop 0 = .ok (.aload_n 0, 1) := by decide +kernel
theorem dX8_pop_1 : decode cX8_pop 1 = .ok (.getfield 18, 3) := by decide +kernel
theorem dX8_pop_4 : decode cX8_pop 4 = .ok (.ifCond .le 38, 3) := by decide +kernel
theorem dX8_pop_7 : decode cX8_pop 7 = .ok (.aload_n 0, 1) := by decide +kernel
theorem dX8_pop_8 : decode cX8_pop 8 = .ok (.getfield 18, 3) := by decide +kernel
theorem dX8_pop_11 : decode cX8_pop 11 = .ok (.aload_n 0, 1) := by decide +kernel
theorem dX8_pop_12 : decode cX8_pop 12 = .ok (.getfield 11, 3) := by decide +kernel
theorem dX8_pop_15 : decode cX8_pop 15 = .ok (.arraylength, 1) := by decide +kernel
theorem dX8_pop_16 : decode cX8_pop 16 = .ok (.if_icmp .gt 26, 3) := by decide +kernel
theorem dX8_pop_19 : decode cX8_pop 19 = .ok (.aload_n 0, 1) := by decide +kernel
theorem dX8_pop_20 : decode cX8_pop 20 = .ok (.dup, 1) := by decide +kernel
theorem dX8_pop_21 : decode cX8_pop 21 = .ok (.getfield 18, 3) := by decide +kernel
theorem dX8_pop_24 : decode cX8_pop 24 = .ok (.iconst 1, 1) := by decide +kernel
theorem dX8_pop_25 : decode cX8_pop 25 = .ok (.isub, 1) := by decide +kernel
theorem dX8_pop_26 : decode cX8_pop 26 = .ok (.putfield 18, 3) := by decide +kernel
theorem dX8_pop_29 : decode cX8_pop 29 = .ok (.aload_n 1, 1) := by decide +kernel
theorem dX8_pop_30 : decode cX8_pop 30 = .ok (.aload_n 0, 1) := by decide +kernel
theorem dX8_pop_31 : decode cX8_pop 31 = .ok (.getfield 11, 3) := by decide +kernel
theorem dX8_pop_34 : decode cX8_pop 34 = .ok (.aload_n 0, 1) := by decide +kernel
theorem dX8_pop_35 : decode cX8_pop 35 = .ok (.getfield 18, 3) := by decide +kernel
theorem dX8_pop_38 : decode cX8_pop 38 = .ok (.aaload, 1) := by decide +kernel
theorem dX8_pop_39 : decode cX8_pop 39 = .ok (.invokevirtual 22, 3) := by decide +kernel
theorem dX8_pop_42 : decode cX8_pop 42 = .ok (.return_, 1) := by decide +kernel
abbrev mt_X8_pop : AxM := (RX8, cX8_pop, 2, none, false, [])
theorem L1_X8_pop {g : AxG} {l : Launch} (N : Nat) {v0 : Nat} {v1 : Nat} {S : AxS} {S9 : AxS} (h : F_X8_pop N v0 v1 S = some S9) : AxMet g l yX8_pop cX8_pop 2 none (2) 0 0 [.ref v0, .ref v1] S ((.inl none, S9)) := by
  refine ax_met (own := RX8) (ini := false) (by decide +kernel) rfl (fun h => nomatch h) rfl ?_
  show AW g l (axRm (2) 0 0) mt_X8_pop (axMQ g 0 0 (.inl none, S9)) 0 0 S 0 [(0, .ref v0), (1, .ref v1)] []
  unfold F_X8_pop at h
  refine aw_aload_n 0 dX8_pop_0 rfl rfl ?_
  refine aw_getI axc8 1 rfl rfl wd_359 dX8_pop_1 h (fun x1 h => ?_)
  refine aw_if_le 42 dX8_pop_4 (by decide) h (fun h => ?_) (fun h => ?_)
  · exact aw_vret dX8_pop_42 rfl (Nat.le_refl _) (Nat.le_refl _) h
  · refine aw_aload_n 0 dX8_pop_7 rfl rfl ?_
    refine aw_getI axc8 1 rfl rfl wd_359 dX8_pop_8 h (fun x2 h => ?_)
    refine aw_aload_n 0 dX8_pop_11 rfl rfl ?_
    refine aw_getR axc8 0 rfl rfl wd_358 dX8_pop_12 h (fun a3 h => ?_)
    refine aw_alen dX8_pop_15 h (fun x4 h => ?_)
    refine aw_icmp_gt 42 dX8_pop_16 (by decide) h (fun h => ?_) (fun h => ?_)
    · exact aw_vret dX8_pop_42 rfl (Nat.le_refl _) (Nat.le_refl _) h
    · refine aw_aload_n 0 dX8_pop_19 rfl rfl ?_
      refine aw_dup rfl dX8_pop_20 ?_
      refine aw_getI axc8 1 rfl rfl wd_359 dX8_pop_21 h (fun x5 h => ?_)
      refine aw_iconst 1 dX8_pop_24 rfl ?_
      refine aw_isub dX8_pop_25 ?_
      refine aw_putI axc8 1 rfl rfl wd_359 rfl rfl rfl dX8_pop_26 h (fun T6 h => ?_)
      refine aw_aload_n 1 dX8_pop_29 rfl rfl ?_
      refine aw_aload_n 0 dX8_pop_30 rfl rfl ?_
      refine aw_getR axc8 0 rfl rfl wd_358 dX8_pop_31 h (fun a7 h => ?_)
      refine aw_aload_n 0 dX8_pop_34 rfl rfl ?_
      refine aw_getI axc8 1 rfl rfl wd_359 dX8_pop_35 h (fun x8 h => ?_)
      refine aw_aald dX8_pop_38 h (fun a9 h => ?_)
      obtain ⟨hL10, h⟩ := ax_is_spec h
      refine aw_doneV (rest := []) h (fun S9 hF => aw_runV (As := [.ref a9]) (rest := []) (L1_X5_take N hF) axc5 hL10 wd_538 wd_535 wd_536 wd_537 wd_93 pd_X5_take rfl (ax_rm (by omega) rfl) ax_hf0 (Nat.le_of_ble_eq_true rfl) rfl dX8_pop_39) (fun T11 h => ?_)
      exact aw_vret dX8_pop_42 rfl (Nat.le_refl _) (Nat.le_refl _) h

theorem dX9_beginAnew_0 : decode cX9_beginAnew 0 = .ok (.aload_n 0, 1) := by decide +kernel
theorem dX9_beginAnew_1 : decode cX9_beginAnew 1 = .ok (.getfield 29, 3) := by decide +kernel
theorem dX9_beginAnew_4 : decode cX9_beginAnew 4 = .ok (.invokevirtual 97, 3) := by decide +kernel
theorem dX9_beginAnew_7 : decode cX9_beginAnew 7 = .ok (.aload_n 0, 1) := by decide +kernel
theorem dX9_beginAnew_8 : decode cX9_beginAnew 8 = .ok (.getfield 39, 3) := by decide +kernel
theorem dX9_beginAnew_11 : decode cX9_beginAnew 11 = .ok (.invokevirtual 100, 3) := by decide +kernel
theorem dX9_beginAnew_14 : decode cX9_beginAnew 14 = .ok (.aload_n 0, 1) := by decide +kernel
theorem dX9_beginAnew_15 : decode cX9_beginAnew 15 = .ok (.getfield 79, 3) := by decide +kernel
theorem dX9_beginAnew_18 : decode cX9_beginAnew 18 = .ok (.iconst 0, 1) := by decide +kernel
theorem dX9_beginAnew_19 : decode cX9_beginAnew 19 = .ok (.putfield 103, 3) := by decide +kernel
theorem dX9_beginAnew_22 : decode cX9_beginAnew 22 = .ok (.aload_n 0, 1) := by decide +kernel
theorem dX9_beginAnew_23 : decode cX9_beginAnew 23 = .ok (.getfield 56, 3) := by decide +kernel
theorem dX9_beginAnew_26 : decode cX9_beginAnew 26 = .ok (.aload_n 0, 1) := by decide +kernel
theorem dX9_beginAnew_27 : decode cX9_beginAnew 27 = .ok (.getfield 19, 3) := by decide +kernel
theorem dX9_beginAnew_30 : decode cX9_beginAnew 30 = .ok (.invokevirtual 107, 3) := by decide +kernel
theorem dX9_beginAnew_33 : decode cX9_beginAnew 33 = .ok (.aload_n 0, 1) := by decide +kernel
theorem dX9_beginAnew_34 : decode cX9_beginAnew 34 = .ok (.getfield 66, 3) := by decide +kernel
theorem dX9_beginAnew_37 : decode cX9_beginAnew 37 = .ok (.iconst 0, 1) := by decide +kernel
theorem dX9_beginAnew_38 : decode cX9_beginAnew 38 = .ok (.putfield 111, 3) := by decide +kernel
theorem dX9_beginAnew_41 : decode cX9_beginAnew 41 = .ok (.aload_n 0, 1) := by decide +kernel
theorem dX9_beginAnew_42 : decode cX9_beginAnew 42 = .ok (.iconst 0, 1) := by decide +kernel
theorem dX9_beginAnew_43 : decode cX9_beginAnew 43 = .ok (.putfield 115, 3) := by decide +kernel
theorem dX9_beginAnew_46 : decode cX9_beginAnew 46 = .ok (.aload_n 0, 1) := by decide +kernel
theorem dX9_beginAnew_47 : decode cX9_beginAnew 47 = .ok (.iconst 0, 1) := by decide +kernel
theorem dX9_beginAnew_48 : decode cX9_beginAnew 48 = .ok (.putfield 118, 3) := by decide +kernel
theorem dX9_beginAnew_51 : decode cX9_beginAnew 51 = .ok (.return_, 1) := by decide +kernel
abbrev mt_X9_beginAnew : AxM := (RX9, cX9_beginAnew, 1, none, false, [])
theorem L1_X9_beginAnew {g : AxG} {l : Launch} (N : Nat) {v0 : Nat} {S : AxS} {S9 : AxS} (h : F_X9_beginAnew N v0 S = some S9) : AxMet g l yX9_beginAnew cX9_beginAnew 1 none (3) 0 0 [.ref v0] S ((.inl none, S9)) := by
  refine ax_met (own := RX9) (ini := false) (by decide +kernel) rfl (fun h => nomatch h) rfl ?_
  show AW g l (axRm (3) 0 0) mt_X9_beginAnew (axMQ g 0 0 (.inl none, S9)) 0 0 S 0 [(0, .ref v0)] []
  unfold F_X9_beginAnew at h
  refine aw_aload_n 0 dX9_beginAnew_0 rfl rfl ?_
  refine aw_getR axc9 3 rfl rfl wd_456 dX9_beginAnew_1 h (fun a1 h => ?_)
  obtain ⟨hL2, h⟩ := ax_is_spec h
  refine aw_doneV (rest := []) h (fun S9 hF => aw_runV (As := []) (rest := []) (L1_X4_tenth N hF) axc4 hL2 wd_436 wd_433 wd_434 wd_435 wd_90 pd_X4_tenth rfl (ax_rm (by omega) rfl) ax_hf0 (Nat.le_of_ble_eq_true rfl) rfl dX9_beginAnew_4) (fun T3 h => ?_)
  refine aw_aload_n 0 dX9_beginAnew_7 rfl rfl ?_
  refine aw_getR axc9 5 rfl rfl wd_458 dX9_beginAnew_8 h (fun a5 h => ?_)
  obtain ⟨hL6, h⟩ := ax_is_spec h
  refine aw_doneV (rest := []) h (fun S9 hF => aw_runV (As := []) (rest := []) (L1_X0_clear N hF) axc0 hL6 wd_447 wd_444 wd_445 wd_446 wd_91 pd_X0_clear rfl (ax_rm (by omega) rfl) ax_hf0 (Nat.le_of_ble_eq_true rfl) rfl dX9_beginAnew_11) (fun T7 h => ?_)
  refine aw_aload_n 0 dX9_beginAnew_14 rfl rfl ?_
  refine aw_getR axc9 16 rfl rfl wd_469 dX9_beginAnew_15 h (fun a9 h => ?_)
  refine aw_iconst 0 dX9_beginAnew_18 rfl ?_
  refine aw_putI axc2 0 rfl rfl wd_376 rfl rfl rfl dX9_beginAnew_19 h (fun T10 h => ?_)
  refine aw_aload_n 0 dX9_beginAnew_22 rfl rfl ?_
  refine aw_getR axc9 8 rfl rfl wd_461 dX9_beginAnew_23 h (fun a11 h => ?_)
  refine aw_aload_n 0 dX9_beginAnew_26 rfl rfl ?_
  refine aw_getR axc9 1 rfl rfl wd_454 dX9_beginAnew_27 h (fun a12 h => ?_)
  obtain ⟨hL13, h⟩ := ax_is_spec h
  refine aw_doneV (rest := []) h (fun S9 hF => aw_runV (As := [.ref a12]) (rest := []) (L1_X5_begin N hF) axc5 hL13 wd_451 wd_448 wd_449 wd_450 wd_93 pd_X5_begin rfl (ax_rm (by omega) rfl) ax_hf0 (Nat.le_of_ble_eq_true rfl) rfl dX9_beginAnew_30) (fun T14 h => ?_)
  refine aw_aload_n 0 dX9_beginAnew_33 rfl rfl ?_
  refine aw_getR axc9 10 rfl rfl wd_463 dX9_beginAnew_34 h (fun a16 h => ?_)
  refine aw_iconst 0 dX9_beginAnew_37 rfl ?_
  refine aw_putI axc8 1 rfl rfl wd_360 rfl rfl rfl dX9_beginAnew_38 h (fun T17 h => ?_)
  refine aw_aload_n 0 dX9_beginAnew_41 rfl rfl ?_
  refine aw_iconst 0 dX9_beginAnew_42 rfl ?_
  refine aw_putI axc9 12 rfl rfl wd_465 rfl rfl rfl dX9_beginAnew_43 h (fun T18 h => ?_)
  refine aw_aload_n 0 dX9_beginAnew_46 rfl rfl ?_
  refine aw_iconst 0 dX9_beginAnew_47 rfl ?_
  refine aw_putI axc9 13 rfl rfl wd_466 rfl rfl rfl dX9_beginAnew_48 h (fun T19 h => ?_)
  exact aw_vret dX9_beginAnew_51 rfl (Nat.le_refl _) (Nat.le_refl _) h

theorem dX9_feed_0 : decode cX9_feed 0 = .ok (.aload_n 0, 1) := by decide +kernel
theorem dX9_feed_1 : decode cX9_feed 1 = .ok (.getfield 10, 3) := by decide +kernel
theorem dX9_feed_4 : decode cX9_feed 4 = .ok (.getfield 121, 3) := by decide +kernel
theorem dX9_feed_7 : decode cX9_feed 7 = .ok (.bipush 20, 2) := by decide +kernel
theorem dX9_feed_9 : decode cX9_feed 9 = .ok (.iadd, 1) := by decide +kernel
theorem dX9_feed_10 : decode cX9_feed 10 = .ok (.sipush 600, 3) := by decide +kernel
theorem dX9_feed_13 : decode cX9_feed 13 = .ok (.if_icmp .le 5, 3) := by decide +kernel
theorem dX9_feed_16 : decode cX9_feed 16 = .ok (.iconst (-1), 1) := by decide +kernel
theorem dX9_feed_17 : decode cX9_feed 17 = .ok (.ireturn, 1) := by decide +kernel
theorem dX9_feed_18 : decode cX9_feed 18 = .ok (.aload_n 0, 1) := by decide +kernel
theorem dX9_feed_19 : decode cX9_feed 19 = .ok (.getfield 10, 3) := by decide +kernel
theorem dX9_feed_22 : decode cX9_feed 22 = .ok (.iload_n 1, 1) := by decide +kernel
theorem dX9_feed_23 : decode cX9_feed 23 = .ok (.invokevirtual 124, 3) := by decide +kernel
theorem dX9_feed_26 : decode cX9_feed 26 = .ok (.aload_n 0, 1) := by decide +kernel
theorem dX9_feed_27 : decode cX9_feed 27 = .ok (.getfield 10, 3) := by decide +kernel
theorem dX9_feed_30 : decode cX9_feed 30 = .ok (.iload_n 2, 1) := by decide +kernel
theorem dX9_feed_31 : decode cX9_feed 31 = .ok (.invokevirtual 124, 3) := by decide +kernel
theorem dX9_feed_34 : decode cX9_feed 34 = .ok (.aload_n 0, 1) := by decide +kernel
theorem dX9_feed_35 : decode cX9_feed 35 = .ok (.getfield 10, 3) := by decide +kernel
theorem dX9_feed_38 : decode cX9_feed 38 = .ok (.iload_n 3, 1) := by decide +kernel
theorem dX9_feed_39 : decode cX9_feed 39 = .ok (.invokevirtual 124, 3) := by decide +kernel
theorem dX9_feed_42 : decode cX9_feed 42 = .ok (.aload_n 0, 1) := by decide +kernel
theorem dX9_feed_43 : decode cX9_feed 43 = .ok (.getfield 10, 3) := by decide +kernel
theorem dX9_feed_46 : decode cX9_feed 46 = .ok (.iload 4, 2) := by decide +kernel
theorem dX9_feed_48 : decode cX9_feed 48 = .ok (.invokevirtual 124, 3) := by decide +kernel
theorem dX9_feed_51 : decode cX9_feed 51 = .ok (.aload_n 0, 1) := by decide +kernel
theorem dX9_feed_52 : decode cX9_feed 52 = .ok (.getfield 10, 3) := by decide +kernel
theorem dX9_feed_55 : decode cX9_feed 55 = .ok (.iload 5, 2) := by decide +kernel
theorem dX9_feed_57 : decode cX9_feed 57 = .ok (.invokevirtual 124, 3) := by decide +kernel
theorem dX9_feed_60 : decode cX9_feed 60 = .ok (.aload_n 0, 1) := by decide +kernel
theorem dX9_feed_61 : decode cX9_feed 61 = .ok (.getfield 10, 3) := by decide +kernel
theorem dX9_feed_64 : decode cX9_feed 64 = .ok (.getfield 121, 3) := by decide +kernel
theorem dX9_feed_67 : decode cX9_feed 67 = .ok (.ireturn, 1) := by decide +kernel
abbrev mt_X9_feed : AxM := (RX9, cX9_feed, 6, (some .int), false, [])
theorem L1_X9_feed {g : AxG} {l : Launch} (N : Nat) {v0 : Nat} {v1 : Int32} {v2 : Int32} {v3 : Int32} {v4 : Int32} {v5 : Int32} {S : AxS} {r9 : Int32} {S9 : AxS} (h : F_X9_feed N v0 v1 v2 v3 v4 v5 S = some ((r9, S9))) : AxMet g l yX9_feed cX9_feed 6 (some .int) (2) 0 0 [.ref v0, .int v1, .int v2, .int v3, .int v4, .int v5] S ((.inl (some (.int r9)), S9)) := by
  refine ax_met (own := RX9) (ini := false) (by decide +kernel) rfl (fun h => nomatch h) rfl ?_
  show AW g l (axRm (2) 0 0) mt_X9_feed (axMQ g 0 0 (.inl (some (.int r9)), S9)) 0 0 S 0 [(0, .ref v0), (1, .int v1), (2, .int v2), (3, .int v3), (4, .int v4), (5, .int v5)] []
  unfold F_X9_feed at h
  refine aw_aload_n 0 dX9_feed_0 rfl rfl ?_
  refine aw_getR axc9 0 rfl rfl wd_453 dX9_feed_1 h (fun a1 h => ?_)
  refine aw_getI axc7 1 rfl rfl wd_125 dX9_feed_4 h (fun x2 h => ?_)
  refine aw_bipush 20 dX9_feed_7 (by decide) ?_
  refine aw_iadd dX9_feed_9 ?_
  refine aw_sipush 600 dX9_feed_10 (by decide) ?_
  refine aw_icmp_le 18 dX9_feed_13 (by decide) h (fun h => ?_) (fun h => ?_)
  · refine aw_aload_n 0 dX9_feed_18 rfl rfl ?_
    refine aw_getR axc9 0 rfl rfl wd_453 dX9_feed_19 h (fun a3 h => ?_)
    refine aw_iload_n 1 dX9_feed_22 rfl rfl ?_
    obtain ⟨hL4, h⟩ := ax_is_spec h
    refine aw_doneV (rest := []) h (fun S9 hF => aw_runV (As := [.int v1]) (rest := []) (L1_X7_append N hF) axc7 hL4 wd_521 wd_518 wd_519 wd_520 wd_88 pd_X7_append rfl (ax_rm (by omega) rfl) ax_hf0 (Nat.le_of_ble_eq_true rfl) rfl dX9_feed_23) (fun T5 h => ?_)
    refine aw_aload_n 0 dX9_feed_26 rfl rfl ?_
    refine aw_getR axc9 0 rfl rfl wd_453 dX9_feed_27 h (fun a7 h => ?_)
    refine aw_iload_n 2 dX9_feed_30 rfl rfl ?_
    obtain ⟨hL8, h⟩ := ax_is_spec h
    refine aw_doneV (rest := []) h (fun S9 hF => aw_runV (As := [.int v2]) (rest := []) (L1_X7_append N hF) axc7 hL8 wd_521 wd_518 wd_519 wd_520 wd_88 pd_X7_append rfl (ax_rm (by omega) rfl) ax_hf0 (Nat.le_of_ble_eq_true rfl) rfl dX9_feed_31) (fun T9 h => ?_)
    refine aw_aload_n 0 dX9_feed_34 rfl rfl ?_
    refine aw_getR axc9 0 rfl rfl wd_453 dX9_feed_35 h (fun a11 h => ?_)
    refine aw_iload_n 3 dX9_feed_38 rfl rfl ?_
    obtain ⟨hL12, h⟩ := ax_is_spec h
    refine aw_doneV (rest := []) h (fun S9 hF => aw_runV (As := [.int v3]) (rest := []) (L1_X7_append N hF) axc7 hL12 wd_521 wd_518 wd_519 wd_520 wd_88 pd_X7_append rfl (ax_rm (by omega) rfl) ax_hf0 (Nat.le_of_ble_eq_true rfl) rfl dX9_feed_39) (fun T13 h => ?_)
    refine aw_aload_n 0 dX9_feed_42 rfl rfl ?_
    refine aw_getR axc9 0 rfl rfl wd_453 dX9_feed_43 h (fun a15 h => ?_)
    refine aw_iload 4 dX9_feed_46 rfl ?_
    obtain ⟨hL16, h⟩ := ax_is_spec h
    refine aw_doneV (rest := []) h (fun S9 hF => aw_runV (As := [.int v4]) (rest := []) (L1_X7_append N hF) axc7 hL16 wd_521 wd_518 wd_519 wd_520 wd_88 pd_X7_append rfl (ax_rm (by omega) rfl) ax_hf0 (Nat.le_of_ble_eq_true rfl) rfl dX9_feed_48) (fun T17 h => ?_)
    refine aw_aload_n 0 dX9_feed_51 rfl rfl ?_
    refine aw_getR axc9 0 rfl rfl wd_453 dX9_feed_52 h (fun a19 h => ?_)
    refine aw_iload 5 dX9_feed_55 rfl ?_
    obtain ⟨hL20, h⟩ := ax_is_spec h
    refine aw_doneV (rest := []) h (fun S9 hF => aw_runV (As := [.int v5]) (rest := []) (L1_X7_append N hF) axc7 hL20 wd_521 wd_518 wd_519 wd_520 wd_88 pd_X7_append rfl (ax_rm (by omega) rfl) ax_hf0 (Nat.le_of_ble_eq_true rfl) rfl dX9_feed_57) (fun T21 h => ?_)
    refine aw_aload_n 0 dX9_feed_60 rfl rfl ?_
    refine aw_getR axc9 0 rfl rfl wd_453 dX9_feed_61 h (fun a23 h => ?_)
    refine aw_getI axc7 1 rfl rfl wd_125 dX9_feed_64 h (fun x24 h => ?_)
    exact aw_iret dX9_feed_67 rfl (Nat.le_refl _) (Nat.le_refl _) h
  · refine aw_iconst (-1) dX9_feed_16 rfl ?_
    exact aw_iret dX9_feed_17 rfl (Nat.le_refl _) (Nat.le_refl _) h

theorem dX9_needArgument_0 : decode cX9_needArgument 0 = .ok (.iload_n 1, 1) := by decide +kernel
theorem dX9_needArgument_1 : decode cX9_needArgument 1 = .ok (.ifCond .ne 24, 3) := by decide +kernel
theorem dX9_needArgument_4 : decode cX9_needArgument 4 = .ok (.aload_n 0, 1) := by decide +kernel
theorem dX9_needArgument_5 : decode cX9_needArgument 5 = .ok (.dup, 1) := by decide +kernel
theorem dX9_needArgument_6 : decode cX9_needArgument 6 = .ok (.getfield 365, 3) := by decide +kernel
theorem dX9_needArgument_9 : decode cX9_needArgument 9 = .ok (.iconst 1, 1) := by decide +kernel
theorem dX9_needArgument_10 : decode cX9_needArgument 10 = .ok (.iadd, 1) := by decide +kernel
theorem dX9_needArgument_11 : decode cX9_needArgument 11 = .ok (.putfield 365, 3) := by decide +kernel
theorem dX9_needArgument_14 : decode cX9_needArgument 14 = .ok (.new 368, 3) := by decide +kernel
theorem dX9_needArgument_17 : decode cX9_needArgument 17 = .ok (.dup, 1) := by decide +kernel
theorem dX9_needArgument_18 : decode cX9_needArgument 18 = .ok (.ldc_w 370, 3) := by decide +kernel
theorem dX9_needArgument_21 : decode cX9_needArgument 21 = .ok (.invokespecial 372, 3) := by decide +kernel
theorem dX9_needArgument_24 : decode cX9_needArgument 24 = .ok (.athrow, 1) := by decide +kernel
theorem dX9_needArgument_25 : decode cX9_needArgument 25 = .ok (.return_, 1) := by decide +kernel
abbrev mt_X9_needArgument : AxM := (RX9, cX9_needArgument, 2, none, false, [])
theorem tk_X9_needArgument : Cond.classLink RX9 368 "java/lang/IllegalArgumentException" ∈ ax_tbl := ax_in (i := 605) (by decide +kernel) rfl
theorem ti_X9_needArgument : Cond.initialized "java/lang/IllegalArgumentException" ∈ ax_tbl := ax_in (i := 101) (by decide +kernel) rfl
theorem tf_X9_needArgument : ∀ w ∈ (vx_atS RX9 372 "java/lang/IllegalArgumentException" ["java/lang/RuntimeException", "java/lang/Exception"]).filter goodWord, w ∈ lw_tbl := by decide +kernel
theorem tg_X9_needArgument : ∀ w ∈ (vx_atS RX9 372 "java/lang/IllegalArgumentException" ["java/lang/RuntimeException", "java/lang/Exception"]).filter goodWord, w ∈ ax_tbl := fun w hw => List.mem_filter.mpr ⟨tf_X9_needArgument w hw, (List.mem_filter.mp hw).2⟩
theorem tb_X9_needArgument : ∀ w ∈ (vx_atS RX9 372 "java/lang/IllegalArgumentException" ["java/lang/RuntimeException", "java/lang/Exception"]).filter (fun w => !goodWord w), w ∈ lw_tbl.filter ax_nw := by decide +kernel
theorem to_X9_needArgument : ∀ w ∈ Cond.classLink RX9 368 "java/lang/IllegalArgumentException" :: Cond.initialized "java/lang/IllegalArgumentException" :: (vx_atS RX9 372 "java/lang/IllegalArgumentException" ["java/lang/RuntimeException", "java/lang/Exception"]), vx_ot w = true := by decide +kernel
theorem aw_throwX9_needArgument {g : AxG} {l : Launch} {S : AxS} {env : List (Nat × Value)} {res : AxT Unit} (hl0 : l.stackTraces = false) (h : some (.inr "java/lang/IllegalArgumentException", axS0 S) = some res) : AW g l (axRm (8) (axCs (axOV res)) (6 * axCs (axOV res))) mt_X9_needArgument (axMQ g (axCs (axOV res)) (6 * axCs (axOV res)) (axOV res)) 0 0 S 14 env [] := aw_throwSW (M := mt_X9_needArgument) (names := ["java/lang/RuntimeException", "java/lang/Exception"]) (j := 0) (tx := "an argument that is none such") hl0 (by decide +kernel) (by decide +kernel) tk_X9_needArgument ti_X9_needArgument rfl tg_X9_needArgument tb_X9_needArgument to_X9_needArgument dX9_needArgument_14 dX9_needArgument_17 dX9_needArgument_18 dX9_needArgument_21 dX9_needArgument_24 rfl (by decide) rfl h
theorem L1_X9_needArgument {g : AxG} {l : Launch} (hl0 : l.stackTraces = false) (N : Nat) {v0 : Nat} {v1 : Int32} {S : AxS} {res : AxT Unit} (h : F_X9_needArgument N v0 v1 S = some res) : AxMet g l yX9_needArgument cX9_needArgument 2 none (8) (axCs (axOV res)) (6 * axCs (axOV res)) [.ref v0, .int v1] S (axOV res) := by
  refine ax_met (own := RX9) (ini := false) (by decide +kernel) rfl (fun h => nomatch h) rfl ?_
  show AW g l (axRm (8) (axCs (axOV res)) (6 * axCs (axOV res))) mt_X9_needArgument (axMQ g (axCs (axOV res)) (6 * axCs (axOV res)) (axOV res)) 0 0 S 0 [(0, .ref v0), (1, .int v1)] []
  unfold F_X9_needArgument at h
  refine aw_iload_n 1 dX9_needArgument_0 rfl rfl ?_
  refine aw_if_ne 25 dX9_needArgument_1 (by decide) h (fun h => ?_) (fun h => ?_)
  · exact aw_vretT dX9_needArgument_25 rfl h
  · refine aw_aload_n 0 dX9_needArgument_4 rfl rfl ?_
    refine aw_dup rfl dX9_needArgument_5 ?_
    refine aw_getI axc9 15 rfl rfl wd_468 dX9_needArgument_6 h (fun x1 h => ?_)
    refine aw_iconst 1 dX9_needArgument_9 rfl ?_
    refine aw_iadd dX9_needArgument_10 ?_
    refine aw_putI axc9 15 rfl rfl wd_468 rfl rfl rfl dX9_needArgument_11 h (fun T2 h => ?_)
    exact aw_throwX9_needArgument hl0 h

theorem dX9_abbey_0 : decode cX9_abbey 0 = .ok (.aload_n 0, 1) := by decide +kernel
theorem dX9_abbey_1 : decode cX9_abbey 1 = .ok (.iload_n 1, 1) := by decide +kernel
theorem dX9_abbey_2 : decode cX9_abbey 2 = .ok (.ifCond .lt 18, 3) := by decide +kernel
theorem dX9_abbey_5 : decode cX9_abbey 5 = .ok (.iload_n 1, 1) := by decide +kernel
theorem dX9_abbey_6 : decode cX9_abbey 6 = .ok (.aload_n 0, 1) := by decide +kernel
theorem dX9_abbey_7 : decode cX9_abbey 7 = .ok (.getfield 10, 3) := by decide +kernel
theorem dX9_abbey_10 : decode cX9_abbey 10 = .ok (.getfield 121, 3) := by decide +kernel
theorem dX9_abbey_13 : decode cX9_abbey 13 = .ok (.if_icmp .gt 7, 3) := by decide +kernel
theorem dX9_abbey_16 : decode cX9_abbey 16 = .ok (.iconst 1, 1) := by decide +kernel
theorem dX9_abbey_17 : decode cX9_abbey 17 = .ok (.goto 4, 3) := by decide +kernel
theorem dX9_abbey_20 : decode cX9_abbey 20 = .ok (.iconst 0, 1) := by decide +kernel
theorem dX9_abbey_21 : decode cX9_abbey 21 = .ok (.invokevirtual 128, 3) := by decide +kernel
theorem dX9_abbey_24 : decode cX9_abbey 24 = .ok (.aload_n 0, 1) := by decide +kernel
theorem dX9_abbey_25 : decode cX9_abbey 25 = .ok (.getfield 10, 3) := by decide +kernel
theorem dX9_abbey_28 : decode cX9_abbey 28 = .ok (.iload_n 1, 1) := by decide +kernel
theorem dX9_abbey_29 : decode cX9_abbey 29 = .ok (.invokevirtual 132, 3) := by decide +kernel
theorem dX9_abbey_32 : decode cX9_abbey 32 = .ok (.aload_n 0, 1) := by decide +kernel
theorem dX9_abbey_33 : decode cX9_abbey 33 = .ok (.getfield 23, 3) := by decide +kernel
theorem dX9_abbey_36 : decode cX9_abbey 36 = .ok (.aload_n 0, 1) := by decide +kernel
theorem dX9_abbey_37 : decode cX9_abbey 37 = .ok (.getfield 10, 3) := by decide +kernel
theorem dX9_abbey_40 : decode cX9_abbey 40 = .ok (.invokevirtual 135, 3) := by decide +kernel
theorem dX9_abbey_43 : decode cX9_abbey 43 = .ok (.ifCond .ne 14, 3) := by decide +kernel
theorem dX9_abbey_46 : decode cX9_abbey 46 = .ok (.aload_n 0, 1) := by decide +kernel
theorem dX9_abbey_47 : decode cX9_abbey 47 = .ok (.getfield 10, 3) := by decide +kernel
theorem dX9_abbey_50 : decode cX9_abbey 50 = .ok (.getfield 139, 3) := by decide +kernel
theorem dX9_abbey_53 : decode cX9_abbey 53 = .ok (.bipush 10, 2) := by decide +kernel
theorem dX9_abbey_55 : decode cX9_abbey 55 = .ok (.isub, 1) := by decide +kernel
theorem dX9_abbey_56 : decode cX9_abbey 56 = .ok (.ireturn, 1) := by decide +kernel
theorem dX9_abbey_57 : decode cX9_abbey 57 = .ok (.aload_n 0, 1) := by decide +kernel
theorem dX9_abbey_58 : decode cX9_abbey 58 = .ok (.getfield 23, 3) := by decide +kernel
theorem dX9_abbey_61 : decode cX9_abbey 61 = .ok (.astore_n 2, 1) := by decide +kernel
theorem dX9_abbey_62 : decode cX9_abbey 62 = .ok (.aload_n 0, 1) := by decide +kernel
theorem dX9_abbey_63 : decode cX9_abbey 63 = .ok (.aload_n 0, 1) := by decide +kernel
theorem dX9_abbey_64 : decode cX9_abbey 64 = .ok (.getfield 19, 3) := by decide +kernel
theorem dX9_abbey_67 : decode cX9_abbey 67 = .ok (.putfield 23, 3) := by decide +kernel
theorem dX9_abbey_70 : decode cX9_abbey 70 = .ok (.aload_n 0, 1) := by decide +kernel
theorem dX9_abbey_71 : decode cX9_abbey 71 = .ok (.aload_n 2, 1) := by decide +kernel
theorem dX9_abbey_72 : decode cX9_abbey 72 = .ok (.putfield 19, 3) := by decide +kernel
theorem dX9_abbey_75 : decode cX9_abbey 75 = .ok (.aload_n 0, 1) := by decide +kernel
theorem dX9_abbey_76 : decode cX9_abbey 76 = .ok (.invokevirtual 94, 3) := by decide +kernel
theorem dX9_abbey_79 : decode cX9_abbey 79 = .ok (.aload_n 0, 1) := by decide +kernel
theorem dX9_abbey_80 : decode cX9_abbey 80 = .ok (.getfield 19, 3) := by decide +kernel
theorem dX9_abbey_83 : decode cX9_abbey 83 = .ok (.getfield 142, 3) := by decide +kernel
theorem dX9_abbey_86 : decode cX9_abbey 86 = .ok (.ireturn, 1) := by decide +kernel
abbrev mt_X9_abbey : AxM := (RX9, cX9_abbey, 3, (some .int), false, [])
theorem L1_X9_abbey_21 {g : AxG} {l : Launch} (hl0 : l.stackTraces = false) {res : AxT Int32} (N : Nat)  (v0 : Nat) (v1 : Int32) (w0 : Int32) (w1 : Nat) (S : AxS) (h : F_X9_abbey_21 N  v0 v1 w0 w1 S = some res) : AW g l (axRm (9) (axCs (axOI res)) (6 * axCs (axOI res))) mt_X9_abbey (axMQ g (axCs (axOI res)) (6 * axCs (axOI res)) (axOI res)) 0 0 S 21 [(0, .ref v0), (1, .int v1)] [.int w0, .ref w1] := by
  unfold F_X9_abbey_21 at h
  obtain ⟨hL1, h⟩ := ax_is_spec h
  refine aw_thV (ob := axOI) (rest := []) (fun _ _ => rfl) rfl h (fun u9 hF hu => aw_runV (As := [.int w0]) (rest := []) (L1_X9_needArgument hl0 N hF) axc9 hL1 wd_604 wd_601 wd_603 wd_3 wd_87 pd_X9_needArgument rfl (ax_rm (by omega) rfl) (ax_hfV (fun _ _ => rfl) hu) (Nat.le_of_ble_eq_true rfl) rfl dX9_abbey_21) (fun T2 h => ?_)
  refine aw_aload_n 0 dX9_abbey_24 rfl rfl ?_
  refine aw_getR axc9 0 rfl rfl wd_453 dX9_abbey_25 h (fun a4 h => ?_)
  refine aw_iload_n 1 dX9_abbey_28 rfl rfl ?_
  obtain ⟨hL5, h⟩ := ax_is_spec h
  refine aw_doneV (rest := []) h (fun S9 hF => aw_runV (As := [.int v1]) (rest := []) (L1_X7_open N hF) axc7 hL5 wd_675 wd_672 wd_673 wd_674 wd_88 pd_X7_open rfl (ax_rm (by omega) rfl) ax_hf0 (Nat.le_of_ble_eq_true rfl) rfl dX9_abbey_29) (fun T6 h => ?_)
  refine aw_aload_n 0 dX9_abbey_32 rfl rfl ?_
  refine aw_getR axc9 2 rfl rfl wd_455 dX9_abbey_33 h (fun a8 h => ?_)
  refine aw_aload_n 0 dX9_abbey_36 rfl rfl ?_
  refine aw_getR axc9 0 rfl rfl wd_453 dX9_abbey_37 h (fun a9 h => ?_)
  obtain ⟨hL10, h⟩ := ax_is_spec h
  refine aw_doneI (rest := []) h (fun r9 S9 hF => aw_runV (As := [.ref a9]) (rest := []) (L1_X1_readFrom N hF) axc1 hL10 wd_679 wd_676 wd_677 wd_678 wd_89 pd_X1_readFrom rfl (ax_rm (by omega) rfl) ax_hf0 (Nat.le_of_ble_eq_true rfl) rfl dX9_abbey_40) (fun x12 T11 h => ?_)
  refine aw_if_ne 57 dX9_abbey_43 (by decide) h (fun h => ?_) (fun h => ?_)
  · refine aw_aload_n 0 dX9_abbey_57 rfl rfl ?_
    refine aw_getR axc9 2 rfl rfl wd_455 dX9_abbey_58 h (fun a13 h => ?_)
    refine aw_astore_n 2 [(2, .ref a13), (0, .ref v0), (1, .int v1)] dX9_abbey_61 rfl rfl rfl ?_
    refine aw_aload_n 1 dX9_abbey_62 rfl rfl ?_
    refine aw_aload_n 1 dX9_abbey_63 rfl rfl ?_
    refine aw_getR axc9 1 rfl rfl wd_454 dX9_abbey_64 h (fun a14 h => ?_)
    refine aw_putR axc9 2 rfl rfl wd_455 (Or.inl rfl) rfl rfl dX9_abbey_67 h (fun T15 h => ?_)
    refine aw_aload_n 1 dX9_abbey_70 rfl rfl ?_
    refine aw_aload_n 0 dX9_abbey_71 rfl rfl ?_
    refine aw_putR axc9 1 rfl rfl wd_454 (Or.inl rfl) rfl rfl dX9_abbey_72 h (fun T16 h => ?_)
    refine aw_aload_n 1 dX9_abbey_75 rfl rfl ?_
    obtain ⟨hL17, h⟩ := ax_is_spec h
    refine aw_doneV (rest := []) h (fun S9 hF => aw_runV (As := []) (rest := []) (L1_X9_beginAnew N hF) axc9 hL17 wd_432 wd_429 wd_431 wd_0 wd_87 pd_X9_beginAnew rfl (ax_rm (by omega) rfl) ax_hf0 (Nat.le_of_ble_eq_true rfl) rfl dX9_abbey_76) (fun T18 h => ?_)
    refine aw_aload_n 1 dX9_abbey_79 rfl rfl ?_
    refine aw_getR axc9 1 rfl rfl wd_454 dX9_abbey_80 h (fun a20 h => ?_)
    refine aw_getI axc1 5 rfl rfl wd_183 dX9_abbey_83 h (fun x21 h => ?_)
    exact aw_iretT dX9_abbey_86 rfl h
  · refine aw_aload_n 0 dX9_abbey_46 rfl rfl ?_
    refine aw_getR axc9 0 rfl rfl wd_453 dX9_abbey_47 h (fun a22 h => ?_)
    refine aw_getI axc7 4 rfl rfl wd_133 dX9_abbey_50 h (fun x23 h => ?_)
    refine aw_bipush 10 dX9_abbey_53 (by decide) ?_
    refine aw_isub dX9_abbey_55 ?_
    exact aw_iretT dX9_abbey_56 rfl h
theorem L1_X9_abbey_20 {g : AxG} {l : Launch} (hl0 : l.stackTraces = false) {res : AxT Int32} (N : Nat)  (v0 : Nat) (v1 : Int32) (w0 : Nat) (S : AxS) (h : F_X9_abbey_20 N  v0 v1 w0 S = some res) : AW g l (axRm (9) (axCs (axOI res)) (6 * axCs (axOI res))) mt_X9_abbey (axMQ g (axCs (axOI res)) (6 * axCs (axOI res)) (axOI res)) 0 0 S 20 [(0, .ref v0), (1, .int v1)] [.ref w0] := by
  unfold F_X9_abbey_20 at h
  refine aw_iconst 0 dX9_abbey_20 rfl ?_
  refine aw_env [(0, .ref v0), (1, .int v1)] [0, 1] rfl ?_
  exact L1_X9_abbey_21 hl0 N  v0 v1 0 w0 S h
theorem L1_X9_abbey {g : AxG} {l : Launch} (hl0 : l.stackTraces = false) (N : Nat) {v0 : Nat} {v1 : Int32} {S : AxS} {res : AxT Int32} (h : F_X9_abbey N v0 v1 S = some res) : AxMet g l yX9_abbey cX9_abbey 3 (some .int) (9) (axCs (axOI res)) (6 * axCs (axOI res)) [.ref v0, .int v1] S (axOI res) := by
  refine ax_met (own := RX9) (ini := false) (by decide +kernel) rfl (fun h => nomatch h) rfl ?_
  show AW g l (axRm (9) (axCs (axOI res)) (6 * axCs (axOI res))) mt_X9_abbey (axMQ g (axCs (axOI res)) (6 * axCs (axOI res)) (axOI res)) 0 0 S 0 [(0, .ref v0), (1, .int v1)] []
  unfold F_X9_abbey at h
  refine aw_aload_n 0 dX9_abbey_0 rfl rfl ?_
  refine aw_iload_n 1 dX9_abbey_1 rfl rfl ?_
  refine aw_if_lt 20 dX9_abbey_2 (by decide) h (fun h => ?_) (fun h => ?_)
  · refine aw_env [(0, .ref v0), (1, .int v1)] [0, 1] rfl ?_
    exact L1_X9_abbey_20 hl0 N  v0 v1 v0 S h
  · refine aw_iload_n 1 dX9_abbey_5 rfl rfl ?_
    refine aw_aload_n 0 dX9_abbey_6 rfl rfl ?_
    refine aw_getR axc9 0 rfl rfl wd_453 dX9_abbey_7 h (fun a1 h => ?_)
    refine aw_getI axc7 1 rfl rfl wd_125 dX9_abbey_10 h (fun x2 h => ?_)
    refine aw_icmp_gt 20 dX9_abbey_13 (by decide) h (fun h => ?_) (fun h => ?_)
    · refine aw_env [(0, .ref v0), (1, .int v1)] [0, 1] rfl ?_
      exact L1_X9_abbey_20 hl0 N  v0 v1 v0 S h
    · refine aw_iconst 1 dX9_abbey_16 rfl ?_
      refine aw_goto 21 dX9_abbey_17 (by decide) ?_
      refine aw_env [(0, .ref v0), (1, .int v1)] [0, 1] rfl ?_
      exact L1_X9_abbey_21 hl0 N  v0 v1 1 v0 S h

theorem dX9_law_0 : decode cX9_law 0 = .ok (.aload_n 0, 1) := by decide +kernel
theorem dX9_law_1 : decode cX9_law 1 = .ok (.iload_n 1, 1) := by decide +kernel
theorem dX9_law_2 : decode cX9_law 2 = .ok (.ifCond .lt 25, 3) := by decide +kernel
theorem dX9_law_5 : decode cX9_law 5 = .ok (.iload_n 1, 1) := by decide +kernel
theorem dX9_law_6 : decode cX9_law 6 = .ok (.sipush 150, 3) := by decide +kernel
theorem dX9_law_9 : decode cX9_law 9 = .ok (.if_icmp .gt 18, 3) := by decide +kernel
theorem dX9_law_12 : decode cX9_law 12 = .ok (.iload_n 1, 1) := by decide +kernel
theorem dX9_law_13 : decode cX9_law 13 = .ok (.aload_n 0, 1) := by decide +kernel
theorem dX9_law_14 : decode cX9_law 14 = .ok (.getfield 10, 3) := by decide +kernel
theorem dX9_law_17 : decode cX9_law 17 = .ok (.getfield 121, 3) := by decide +kernel
theorem dX9_law_20 : decode cX9_law 20 = .ok (.if_icmp .gt 7, 3) := by decide +kernel
theorem dX9_law_23 : decode cX9_law 23 = .ok (.iconst 1, 1) := by decide +kernel
theorem dX9_law_24 : decode cX9_law 24 = .ok (.goto 4, 3) := by decide +kernel
theorem dX9_law_27 : decode cX9_law 27 = .ok (.iconst 0, 1) := by decide +kernel
theorem dX9_law_28 : decode cX9_law 28 = .ok (.invokevirtual 128, 3) := by decide +kernel
theorem dX9_law_31 : decode cX9_law 31 = .ok (.aload_n 0, 1) := by decide +kernel
theorem dX9_law_32 : decode cX9_law 32 = .ok (.getfield 10, 3) := by decide +kernel
theorem dX9_law_35 : decode cX9_law 35 = .ok (.iload_n 1, 1) := by decide +kernel
theorem dX9_law_36 : decode cX9_law 36 = .ok (.invokevirtual 132, 3) := by decide +kernel
theorem dX9_law_39 : decode cX9_law 39 = .ok (.aload_n 0, 1) := by decide +kernel
theorem dX9_law_40 : decode cX9_law 40 = .ok (.getfield 33, 3) := by decide +kernel
theorem dX9_law_43 : decode cX9_law 43 = .ok (.aload_n 0, 1) := by decide +kernel
theorem dX9_law_44 : decode cX9_law 44 = .ok (.getfield 10, 3) := by decide +kernel
theorem dX9_law_47 : decode cX9_law 47 = .ok (.invokevirtual 145, 3) := by decide +kernel
theorem dX9_law_50 : decode cX9_law 50 = .ok (.ifCond .ne 14, 3) := by decide +kernel
theorem dX9_law_53 : decode cX9_law 53 = .ok (.aload_n 0, 1) := by decide +kernel
theorem dX9_law_54 : decode cX9_law 54 = .ok (.getfield 10, 3) := by decide +kernel
theorem dX9_law_57 : decode cX9_law 57 = .ok (.getfield 139, 3) := by decide +kernel
theorem dX9_law_60 : decode cX9_law 60 = .ok (.bipush 10, 2) := by decide +kernel
theorem dX9_law_62 : decode cX9_law 62 = .ok (.isub, 1) := by decide +kernel
theorem dX9_law_63 : decode cX9_law 63 = .ok (.ireturn, 1) := by decide +kernel
theorem dX9_law_64 : decode cX9_law 64 = .ok (.aload_n 0, 1) := by decide +kernel
theorem dX9_law_65 : decode cX9_law 65 = .ok (.getfield 33, 3) := by decide +kernel
theorem dX9_law_68 : decode cX9_law 68 = .ok (.astore_n 2, 1) := by decide +kernel
theorem dX9_law_69 : decode cX9_law 69 = .ok (.aload_n 0, 1) := by decide +kernel
theorem dX9_law_70 : decode cX9_law 70 = .ok (.aload_n 0, 1) := by decide +kernel
theorem dX9_law_71 : decode cX9_law 71 = .ok (.getfield 29, 3) := by decide +kernel
theorem dX9_law_74 : decode cX9_law 74 = .ok (.putfield 33, 3) := by decide +kernel
theorem dX9_law_77 : decode cX9_law 77 = .ok (.aload_n 0, 1) := by decide +kernel
theorem dX9_law_78 : decode cX9_law 78 = .ok (.aload_n 2, 1) := by decide +kernel
theorem dX9_law_79 : decode cX9_law 79 = .ok (.putfield 29, 3) := by decide +kernel
theorem dX9_law_82 : decode cX9_law 82 = .ok (.aload_n 0, 1) := by decide +kernel
theorem dX9_law_83 : decode cX9_law 83 = .ok (.getfield 79, 3) := by decide +kernel
theorem dX9_law_86 : decode cX9_law 86 = .ok (.iconst 0, 1) := by decide +kernel
theorem dX9_law_87 : decode cX9_law 87 = .ok (.putfield 103, 3) := by decide +kernel
theorem dX9_law_90 : decode cX9_law 90 = .ok (.iconst 1, 1) := by decide +kernel
theorem dX9_law_91 : decode cX9_law 91 = .ok (.ireturn, 1) := by decide +kernel
abbrev mt_X9_law : AxM := (RX9, cX9_law, 3, (some .int), false, [])
theorem L1_X9_law_28 {g : AxG} {l : Launch} (hl0 : l.stackTraces = false) {res : AxT Int32} (N : Nat)  (v0 : Nat) (v1 : Int32) (w0 : Int32) (w1 : Nat) (S : AxS) (h : F_X9_law_28 N  v0 v1 w0 w1 S = some res) : AW g l (axRm (74) (axCs (axOI res)) (6 * axCs (axOI res))) mt_X9_law (axMQ g (axCs (axOI res)) (6 * axCs (axOI res)) (axOI res)) 0 0 S 28 [(0, .ref v0), (1, .int v1)] [.int w0, .ref w1] := by
  unfold F_X9_law_28 at h
  obtain ⟨hL1, h⟩ := ax_is_spec h
  refine aw_thV (ob := axOI) (rest := []) (fun _ _ => rfl) rfl h (fun u9 hF hu => aw_runV (As := [.int w0]) (rest := []) (L1_X9_needArgument hl0 N hF) axc9 hL1 wd_604 wd_601 wd_603 wd_3 wd_87 pd_X9_needArgument rfl (ax_rm (by omega) rfl) (ax_hfV (fun _ _ => rfl) hu) (Nat.le_of_ble_eq_true rfl) rfl dX9_law_28) (fun T2 h => ?_)
  refine aw_aload_n 0 dX9_law_31 rfl rfl ?_
  refine aw_getR axc9 0 rfl rfl wd_453 dX9_law_32 h (fun a4 h => ?_)
  refine aw_iload_n 1 dX9_law_35 rfl rfl ?_
  obtain ⟨hL5, h⟩ := ax_is_spec h
  refine aw_doneV (rest := []) h (fun S9 hF => aw_runV (As := [.int v1]) (rest := []) (L1_X7_open N hF) axc7 hL5 wd_675 wd_672 wd_673 wd_674 wd_88 pd_X7_open rfl (ax_rm (by omega) rfl) ax_hf0 (Nat.le_of_ble_eq_true rfl) rfl dX9_law_36) (fun T6 h => ?_)
  refine aw_aload_n 0 dX9_law_39 rfl rfl ?_
  refine aw_getR axc9 4 rfl rfl wd_457 dX9_law_40 h (fun a8 h => ?_)
  refine aw_aload_n 0 dX9_law_43 rfl rfl ?_
  refine aw_getR axc9 0 rfl rfl wd_453 dX9_law_44 h (fun a9 h => ?_)
  obtain ⟨hL10, h⟩ := ax_is_spec h
  refine aw_doneI (rest := []) h (fun r9 S9 hF => aw_runV (As := [.ref a9]) (rest := []) (L1_X4_readFrom N hF) axc4 hL10 wd_794 wd_791 wd_792 wd_793 wd_90 pd_X4_readFrom rfl (ax_rm (by omega) rfl) ax_hf0 (Nat.le_of_ble_eq_true rfl) rfl dX9_law_47) (fun x12 T11 h => ?_)
  refine aw_if_ne 64 dX9_law_50 (by decide) h (fun h => ?_) (fun h => ?_)
  · refine aw_aload_n 0 dX9_law_64 rfl rfl ?_
    refine aw_getR axc9 4 rfl rfl wd_457 dX9_law_65 h (fun a13 h => ?_)
    refine aw_astore_n 2 [(2, .ref a13), (0, .ref v0), (1, .int v1)] dX9_law_68 rfl rfl rfl ?_
    refine aw_aload_n 1 dX9_law_69 rfl rfl ?_
    refine aw_aload_n 1 dX9_law_70 rfl rfl ?_
    refine aw_getR axc9 3 rfl rfl wd_456 dX9_law_71 h (fun a14 h => ?_)
    refine aw_putR axc9 4 rfl rfl wd_457 (Or.inl rfl) rfl rfl dX9_law_74 h (fun T15 h => ?_)
    refine aw_aload_n 1 dX9_law_77 rfl rfl ?_
    refine aw_aload_n 0 dX9_law_78 rfl rfl ?_
    refine aw_putR axc9 3 rfl rfl wd_456 (Or.inl rfl) rfl rfl dX9_law_79 h (fun T16 h => ?_)
    refine aw_aload_n 1 dX9_law_82 rfl rfl ?_
    refine aw_getR axc9 16 rfl rfl wd_469 dX9_law_83 h (fun a17 h => ?_)
    refine aw_iconst 0 dX9_law_86 rfl ?_
    refine aw_putI axc2 0 rfl rfl wd_376 rfl rfl rfl dX9_law_87 h (fun T18 h => ?_)
    refine aw_iconst 1 dX9_law_90 rfl ?_
    exact aw_iretT dX9_law_91 rfl h
  · refine aw_aload_n 0 dX9_law_53 rfl rfl ?_
    refine aw_getR axc9 0 rfl rfl wd_453 dX9_law_54 h (fun a19 h => ?_)
    refine aw_getI axc7 4 rfl rfl wd_133 dX9_law_57 h (fun x20 h => ?_)
    refine aw_bipush 10 dX9_law_60 (by decide) ?_
    refine aw_isub dX9_law_62 ?_
    exact aw_iretT dX9_law_63 rfl h
theorem L1_X9_law_27 {g : AxG} {l : Launch} (hl0 : l.stackTraces = false) {res : AxT Int32} (N : Nat)  (v0 : Nat) (v1 : Int32) (w0 : Nat) (S : AxS) (h : F_X9_law_27 N  v0 v1 w0 S = some res) : AW g l (axRm (74) (axCs (axOI res)) (6 * axCs (axOI res))) mt_X9_law (axMQ g (axCs (axOI res)) (6 * axCs (axOI res)) (axOI res)) 0 0 S 27 [(0, .ref v0), (1, .int v1)] [.ref w0] := by
  unfold F_X9_law_27 at h
  refine aw_iconst 0 dX9_law_27 rfl ?_
  refine aw_env [(0, .ref v0), (1, .int v1)] [0, 1] rfl ?_
  exact L1_X9_law_28 hl0 N  v0 v1 0 w0 S h
theorem L1_X9_law {g : AxG} {l : Launch} (hl0 : l.stackTraces = false) (N : Nat) {v0 : Nat} {v1 : Int32} {S : AxS} {res : AxT Int32} (h : F_X9_law N v0 v1 S = some res) : AxMet g l yX9_law cX9_law 3 (some .int) (74) (axCs (axOI res)) (6 * axCs (axOI res)) [.ref v0, .int v1] S (axOI res) := by
  refine ax_met (own := RX9) (ini := false) (by decide +kernel) rfl (fun h => nomatch h) rfl ?_
  show AW g l (axRm (74) (axCs (axOI res)) (6 * axCs (axOI res))) mt_X9_law (axMQ g (axCs (axOI res)) (6 * axCs (axOI res)) (axOI res)) 0 0 S 0 [(0, .ref v0), (1, .int v1)] []
  unfold F_X9_law at h
  refine aw_aload_n 0 dX9_law_0 rfl rfl ?_
  refine aw_iload_n 1 dX9_law_1 rfl rfl ?_
  refine aw_if_lt 27 dX9_law_2 (by decide) h (fun h => ?_) (fun h => ?_)
  · refine aw_env [(0, .ref v0), (1, .int v1)] [0, 1] rfl ?_
    exact L1_X9_law_27 hl0 N  v0 v1 v0 S h
  · refine aw_iload_n 1 dX9_law_5 rfl rfl ?_
    refine aw_sipush 150 dX9_law_6 (by decide) ?_
    refine aw_icmp_gt 27 dX9_law_9 (by decide) h (fun h => ?_) (fun h => ?_)
    · refine aw_env [(0, .ref v0), (1, .int v1)] [0, 1] rfl ?_
      exact L1_X9_law_27 hl0 N  v0 v1 v0 S h
    · refine aw_iload_n 1 dX9_law_12 rfl rfl ?_
      refine aw_aload_n 0 dX9_law_13 rfl rfl ?_
      refine aw_getR axc9 0 rfl rfl wd_453 dX9_law_14 h (fun a1 h => ?_)
      refine aw_getI axc7 1 rfl rfl wd_125 dX9_law_17 h (fun x2 h => ?_)
      refine aw_icmp_gt 27 dX9_law_20 (by decide) h (fun h => ?_) (fun h => ?_)
      · refine aw_env [(0, .ref v0), (1, .int v1)] [0, 1] rfl ?_
        exact L1_X9_law_27 hl0 N  v0 v1 v0 S h
      · refine aw_iconst 1 dX9_law_23 rfl ?_
        refine aw_goto 28 dX9_law_24 (by decide) ?_
        refine aw_env [(0, .ref v0), (1, .int v1)] [0, 1] rfl ?_
        exact L1_X9_law_28 hl0 N  v0 v1 1 v0 S h

theorem dX9_strokesOf_0 : decode cX9_strokesOf 0 = .ok (.iconst 0, 1) := by decide +kernel
theorem dX9_strokesOf_1 : decode cX9_strokesOf 1 = .ok (.aload_n 1, 1) := by decide +kernel
theorem dX9_strokesOf_2 : decode cX9_strokesOf 2 = .ok (.getfield 174, 3) := by decide +kernel
theorem dX9_strokesOf_5 : decode cX9_strokesOf 5 = .ok (.aload_n 1, 1) := by decide +kernel
theorem dX9_strokesOf_6 : decode cX9_strokesOf 6 = .ok (.getfield 192, 3) := by decide +kernel
theorem dX9_strokesOf_9 : decode cX9_strokesOf 9 = .ok (.isub, 1) := by decide +kernel
theorem dX9_strokesOf_10 : decode cX9_strokesOf 10 = .ok (.invokestatic 295, 3) := by decide +kernel
theorem dX9_strokesOf_13 : decode cX9_strokesOf 13 = .ok (.istore_n 3, 1) := by decide +kernel
theorem dX9_strokesOf_14 : decode cX9_strokesOf 14 = .ok (.aload_n 0, 1) := by decide +kernel
theorem dX9_strokesOf_15 : decode cX9_strokesOf 15 = .ok (.getfield 29, 3) := by decide +kernel
theorem dX9_strokesOf_18 : decode cX9_strokesOf 18 = .ok (.iload_n 3, 1) := by decide +kernel
theorem dX9_strokesOf_19 : decode cX9_strokesOf 19 = .ok (.aload_n 1, 1) := by decide +kernel
theorem dX9_strokesOf_20 : decode cX9_strokesOf 20 = .ok (.getfield 186, 3) := by decide +kernel
theorem dX9_strokesOf_23 : decode cX9_strokesOf 23 = .ok (.aload_n 1, 1) := by decide +kernel
theorem dX9_strokesOf_24 : decode cX9_strokesOf 24 = .ok (.getfield 180, 3) := by decide +kernel
theorem dX9_strokesOf_27 : decode cX9_strokesOf 27 = .ok (.aload_n 1, 1) := by decide +kernel
theorem dX9_strokesOf_28 : decode cX9_strokesOf 28 = .ok (.getfield 183, 3) := by decide +kernel
theorem dX9_strokesOf_31 : decode cX9_strokesOf 31 = .ok (.aload_n 1, 1) := by decide +kernel
theorem dX9_strokesOf_32 : decode cX9_strokesOf 32 = .ok (.getfield 189, 3) := by decide +kernel
theorem dX9_strokesOf_35 : decode cX9_strokesOf 35 = .ok (.iload_n 2, 1) := by decide +kernel
theorem dX9_strokesOf_36 : decode cX9_strokesOf 36 = .ok (.aload_n 1, 1) := by decide +kernel
theorem dX9_strokesOf_37 : decode cX9_strokesOf 37 = .ok (.getfield 177, 3) := by decide +kernel
theorem dX9_strokesOf_40 : decode cX9_strokesOf 40 = .ok (.invokevirtual 254, 3) := by decide +kernel
theorem dX9_strokesOf_43 : decode cX9_strokesOf 43 = .ok (.istore 4, 2) := by decide +kernel
theorem dX9_strokesOf_45 : decode cX9_strokesOf 45 = .ok (.sipush 999, 3) := by decide +kernel
theorem dX9_strokesOf_48 : decode cX9_strokesOf 48 = .ok (.iload 4, 2) := by decide +kernel
theorem dX9_strokesOf_50 : decode cX9_strokesOf 50 = .ok (.aload_n 1, 1) := by decide +kernel
theorem dX9_strokesOf_51 : decode cX9_strokesOf 51 = .ok (.getfield 204, 3) := by decide +kernel
theorem dX9_strokesOf_54 : decode cX9_strokesOf 54 = .ok (.iadd, 1) := by decide +kernel
theorem dX9_strokesOf_55 : decode cX9_strokesOf 55 = .ok (.invokestatic 290, 3) := by decide +kernel
theorem dX9_strokesOf_58 : decode cX9_strokesOf 58 = .ok (.ireturn, 1) := by decide +kernel
abbrev mt_X9_strokesOf : AxM := (RX9, cX9_strokesOf, 5, (some .int), false, [])
theorem L1_X9_strokesOf {g : AxG} {l : Launch} (N : Nat) {v0 : Nat} {v1 : Nat} {v2 : Int32} {S : AxS} {r9 : Int32} {S9 : AxS} (h : F_X9_strokesOf N v0 v1 v2 S = some ((r9, S9))) : AxMet g l yX9_strokesOf cX9_strokesOf 5 (some .int) (3) 0 0 [.ref v0, .ref v1, .int v2] S ((.inl (some (.int r9)), S9)) := by
  refine ax_met (own := RX9) (ini := false) (by decide +kernel) rfl (fun h => nomatch h) rfl ?_
  show AW g l (axRm (3) 0 0) mt_X9_strokesOf (axMQ g 0 0 (.inl (some (.int r9)), S9)) 0 0 S 0 [(0, .ref v0), (1, .ref v1), (2, .int v2)] []
  unfold F_X9_strokesOf at h
  refine aw_iconst 0 dX9_strokesOf_0 rfl ?_
  refine aw_aload_n 1 dX9_strokesOf_1 rfl rfl ?_
  refine aw_getI axc5 0 rfl rfl wd_293 dX9_strokesOf_2 h (fun x1 h => ?_)
  refine aw_aload_n 1 dX9_strokesOf_5 rfl rfl ?_
  refine aw_getI axc5 6 rfl rfl wd_305 dX9_strokesOf_6 h (fun x2 h => ?_)
  refine aw_isub dX9_strokesOf_9 ?_
  refine aw_doneI (rest := []) h (fun r9 S9 hF => aw_runS (As := [.int 0, .int (x1 - x2)]) (rest := []) (L1_J9_max_7cf53 N hF) wd_552 wd_550 wd_551 wd_106 pd_J9_max_7cf53.2 rfl (ax_rm (by omega) rfl) ax_hf0 (Nat.le_of_ble_eq_true rfl) rfl dX9_strokesOf_10) (fun x4 T3 h => ?_)
  refine aw_istore_n 3 [(3, .int x4), (0, .ref v0), (1, .ref v1), (2, .int v2)] dX9_strokesOf_13 rfl rfl rfl ?_
  refine aw_aload_n 1 dX9_strokesOf_14 rfl rfl ?_
  refine aw_getR axc9 3 rfl rfl wd_456 dX9_strokesOf_15 h (fun a5 h => ?_)
  refine aw_iload_n 0 dX9_strokesOf_18 rfl rfl ?_
  refine aw_aload_n 2 dX9_strokesOf_19 rfl rfl ?_
  refine aw_getI axc5 4 rfl rfl wd_301 dX9_strokesOf_20 h (fun x6 h => ?_)
  refine aw_aload_n 2 dX9_strokesOf_23 rfl rfl ?_
  refine aw_getI axc5 2 rfl rfl wd_297 dX9_strokesOf_24 h (fun x7 h => ?_)
  refine aw_aload_n 2 dX9_strokesOf_27 rfl rfl ?_
  refine aw_getI axc5 3 rfl rfl wd_299 dX9_strokesOf_28 h (fun x8 h => ?_)
  refine aw_aload_n 2 dX9_strokesOf_31 rfl rfl ?_
  refine aw_getI axc5 5 rfl rfl wd_303 dX9_strokesOf_32 h (fun x9 h => ?_)
  refine aw_iload_n 3 dX9_strokesOf_35 rfl rfl ?_
  refine aw_aload_n 2 dX9_strokesOf_36 rfl rfl ?_
  refine aw_getI axc5 1 rfl rfl wd_295 dX9_strokesOf_37 h (fun x10 h => ?_)
  obtain ⟨hL11, h⟩ := ax_is_spec h
  refine aw_doneI (rest := []) h (fun r9 S9 hF => aw_runV (As := [.int x4, .int x6, .int x7, .int x8, .int x9, .int v2, .int x10]) (rest := []) (L1_X4_tolls N hF) axc4 hL11 wd_556 wd_553 wd_554 wd_555 wd_90 pd_X4_tolls rfl (ax_rm (by omega) rfl) ax_hf0 (Nat.le_of_ble_eq_true rfl) rfl dX9_strokesOf_40) (fun x13 T12 h => ?_)
  refine aw_istore [(4, .int x13), (3, .int x4), (0, .ref v0), (1, .ref v1), (2, .int v2)] dX9_strokesOf_43 rfl rfl ?_
  refine aw_sipush 999 dX9_strokesOf_45 (by decide) ?_
  refine aw_iload 0 dX9_strokesOf_48 rfl ?_
  refine aw_aload_n 3 dX9_strokesOf_50 rfl rfl ?_
  refine aw_getI axc5 8 rfl rfl wd_309 dX9_strokesOf_51 h (fun x14 h => ?_)
  refine aw_iadd dX9_strokesOf_54 ?_
  refine aw_doneI (rest := []) h (fun r9 S9 hF => aw_runS (As := [.int 999, .int (x13 + x14)]) (rest := []) (L1_J9_min_7cf53 N hF) wd_563 wd_565 wd_562 wd_106 pd_J9_min_7cf53.2 rfl (ax_rm (by omega) rfl) ax_hf0 (Nat.le_of_ble_eq_true rfl) rfl dX9_strokesOf_55) (fun x16 T15 h => ?_)
  exact aw_iret dX9_strokesOf_58 rfl (Nat.le_refl _) (Nat.le_refl _) h

theorem dX9_wakes_0 : decode cX9_wakes 0 = .ok (.aload_n 0, 1) := by decide +kernel
theorem dX9_wakes_1 : decode cX9_wakes 1 = .ok (.getfield 19, 3) := by decide +kernel
theorem dX9_wakes_4 : decode cX9_wakes 4 = .ok (.aload_n 1, 1) := by decide +kernel
theorem dX9_wakes_5 : decode cX9_wakes 5 = .ok (.getfield 227, 3) := by decide +kernel
theorem dX9_wakes_8 : decode cX9_wakes 8 = .ok (.iload_n 2, 1) := by decide +kernel
theorem dX9_wakes_9 : decode cX9_wakes 9 = .ok (.invokestatic 223, 3) := by decide +kernel
theorem dX9_wakes_12 : decode cX9_wakes 12 = .ok (.iload_n 3, 1) := by decide +kernel
theorem dX9_wakes_13 : decode cX9_wakes 13 = .ok (.invokevirtual 258, 3) := by decide +kernel
theorem dX9_wakes_16 : decode cX9_wakes 16 = .ok (.istore 4, 2) := by decide +kernel
theorem dX9_wakes_18 : decode cX9_wakes 18 = .ok (.aload_n 1, 1) := by decide +kernel
theorem dX9_wakes_19 : decode cX9_wakes 19 = .ok (.getfield 189, 3) := by decide +kernel
theorem dX9_wakes_22 : decode cX9_wakes 22 = .ok (.ifCond .ne 8, 3) := by decide +kernel
theorem dX9_wakes_25 : decode cX9_wakes 25 = .ok (.iload 4, 2) := by decide +kernel
theorem dX9_wakes_27 : decode cX9_wakes 27 = .ok (.goto 7, 3) := by decide +kernel
theorem dX9_wakes_30 : decode cX9_wakes 30 = .ok (.iload 4, 2) := by decide +kernel
theorem dX9_wakes_32 : decode cX9_wakes 32 = .ok (.iconst 2, 1) := by decide +kernel
theorem dX9_wakes_33 : decode cX9_wakes 33 = .ok (.idiv, 1) := by decide +kernel
theorem dX9_wakes_34 : decode cX9_wakes 34 = .ok (.aload_n 0, 1) := by decide +kernel
theorem dX9_wakes_35 : decode cX9_wakes 35 = .ok (.getfield 19, 3) := by decide +kernel
theorem dX9_wakes_38 : decode cX9_wakes 38 = .ok (.getfield 220, 3) := by decide +kernel
theorem dX9_wakes_41 : decode cX9_wakes 41 = .ok (.iload_n 2, 1) := by decide +kernel
theorem dX9_wakes_42 : decode cX9_wakes 42 = .ok (.invokestatic 223, 3) := by decide +kernel
theorem dX9_wakes_45 : decode cX9_wakes 45 = .ok (.if_icmp .le 7, 3) := by decide +kernel
theorem dX9_wakes_48 : decode cX9_wakes 48 = .ok (.iconst 1, 1) := by decide +kernel
theorem dX9_wakes_49 : decode cX9_wakes 49 = .ok (.goto 4, 3) := by decide +kernel
theorem dX9_wakes_52 : decode cX9_wakes 52 = .ok (.iconst 0, 1) := by decide +kernel
theorem dX9_wakes_53 : decode cX9_wakes 53 = .ok (.ireturn, 1) := by decide +kernel
abbrev mt_X9_wakes : AxM := (RX9, cX9_wakes, 5, (some .boolean), false, [])
theorem L1_X9_wakes_34 {g : AxG} {l : Launch} {r9 : Int32} {S9 : AxS} (N : Nat)  (v0 : Nat) (v2 : Int32) (w0 : Int32) (S : AxS) (h : F_X9_wakes_34 N  v0 v2 w0 S = some ((r9, S9))) : AW g l (axRm (2) 0 0) mt_X9_wakes (axMQ g 0 0 (.inl (some (.int r9)), S9)) 0 0 S 34 [(0, .ref v0), (2, .int v2)] [.int w0] := by
  unfold F_X9_wakes_34 at h
  refine aw_aload_n 0 dX9_wakes_34 rfl rfl ?_
  refine aw_getR axc9 1 rfl rfl wd_454 dX9_wakes_35 h (fun a1 h => ?_)
  refine aw_getR axc1 10 rfl rfl wd_194 dX9_wakes_38 h (fun a2 h => ?_)
  refine aw_iload_n 1 dX9_wakes_41 rfl rfl ?_
  refine aw_doneI (rest := [.int w0]) h (fun r9 S9 hF => aw_runS (As := [.ref a2, .int v2]) (rest := [.int w0]) (L1_X9_at N hF) wd_541 wd_874 wd_540 wd_87 pd_X9_at.2 rfl (ax_rm (by omega) rfl) ax_hf0 (Nat.le_of_ble_eq_true rfl) rfl dX9_wakes_42) (fun x4 T3 h => ?_)
  refine aw_icmp_le 52 dX9_wakes_45 (by decide) h (fun h => ?_) (fun h => ?_)
  · refine aw_iconst 0 dX9_wakes_52 rfl ?_
    exact aw_zret dX9_wakes_53 rfl (Nat.le_refl _) (Nat.le_refl _) h
  · refine aw_iconst 1 dX9_wakes_48 rfl ?_
    refine aw_goto 53 dX9_wakes_49 (by decide) ?_
    exact aw_zret dX9_wakes_53 rfl (Nat.le_refl _) (Nat.le_refl _) h
theorem L1_X9_wakes {g : AxG} {l : Launch} (N : Nat) {v0 : Nat} {v1 : Nat} {v2 : Int32} {v3 : Int32} {S : AxS} {r9 : Int32} {S9 : AxS} (h : F_X9_wakes N v0 v1 v2 v3 S = some ((r9, S9))) : AxMet g l yX9_wakes cX9_wakes 5 (some .boolean) (2) 0 0 [.ref v0, .ref v1, .int v2, .int v3] S ((.inl (some (.int r9)), S9)) := by
  refine ax_met (own := RX9) (ini := false) (by decide +kernel) rfl (fun h => nomatch h) rfl ?_
  show AW g l (axRm (2) 0 0) mt_X9_wakes (axMQ g 0 0 (.inl (some (.int r9)), S9)) 0 0 S 0 [(0, .ref v0), (1, .ref v1), (2, .int v2), (3, .int v3)] []
  unfold F_X9_wakes at h
  refine aw_aload_n 0 dX9_wakes_0 rfl rfl ?_
  refine aw_getR axc9 1 rfl rfl wd_454 dX9_wakes_1 h (fun a1 h => ?_)
  refine aw_aload_n 1 dX9_wakes_4 rfl rfl ?_
  refine aw_getR axc5 12 rfl rfl wd_317 dX9_wakes_5 h (fun a2 h => ?_)
  refine aw_iload_n 2 dX9_wakes_8 rfl rfl ?_
  refine aw_doneI (rest := [.ref a1]) h (fun r9 S9 hF => aw_runS (As := [.ref a2, .int v2]) (rest := [.ref a1]) (L1_X9_at N hF) wd_541 wd_874 wd_540 wd_87 pd_X9_at.2 rfl (ax_rm (by omega) rfl) ax_hf0 (Nat.le_of_ble_eq_true rfl) rfl dX9_wakes_9) (fun x4 T3 h => ?_)
  refine aw_iload_n 3 dX9_wakes_12 rfl rfl ?_
  obtain ⟨hL5, h⟩ := ax_is_spec h
  refine aw_doneI (rest := []) h (fun r9 S9 hF => aw_runV (As := [.int x4, .int v3]) (rest := []) (L1_X1_loud N hF) axc1 hL5 wd_916 wd_913 wd_914 wd_915 wd_89 pd_X1_loud rfl (ax_rm (by omega) rfl) ax_hf0 (Nat.le_of_ble_eq_true rfl) rfl dX9_wakes_13) (fun x7 T6 h => ?_)
  refine aw_istore [(4, .int x7), (0, .ref v0), (1, .ref v1), (2, .int v2), (3, .int v3)] dX9_wakes_16 rfl rfl ?_
  refine aw_aload_n 2 dX9_wakes_18 rfl rfl ?_
  refine aw_getI axc5 5 rfl rfl wd_303 dX9_wakes_19 h (fun x8 h => ?_)
  refine aw_if_ne 30 dX9_wakes_22 (by decide) h (fun h => ?_) (fun h => ?_)
  · refine aw_iload 0 dX9_wakes_30 rfl ?_
    refine aw_iconst 2 dX9_wakes_32 rfl ?_
    refine aw_idiv dX9_wakes_33 h (fun h => ?_)
    refine aw_env [(0, .ref v0), (2, .int v2)] [1, 3] rfl ?_
    exact L1_X9_wakes_34 N  v0 v2 (x7 / 2) T6 h
  · refine aw_iload 0 dX9_wakes_25 rfl ?_
    refine aw_goto 34 dX9_wakes_27 (by decide) ?_
    refine aw_env [(0, .ref v0), (2, .int v2)] [1, 3] rfl ?_
    exact L1_X9_wakes_34 N  v0 v2 x7 T6 h

theorem dX9_passNight_0 : decode cX9_passNight 0 = .ok (.aload_n 0, 1) := by decide +kernel
theorem dX9_passNight_1 : decode cX9_passNight 1 = .ok (.aload_n 1, 1) := by decide +kernel
theorem dX9_passNight_2 : decode cX9_passNight 2 = .ok (.iload_n 2, 1) := by decide +kernel
theorem dX9_passNight_3 : decode cX9_passNight 3 = .ok (.invokevirtual 230, 3) := by decide +kernel
theorem dX9_passNight_6 : decode cX9_passNight 6 = .ok (.istore_n 3, 1) := by decide +kernel
theorem dX9_passNight_7 : decode cX9_passNight 7 = .ok (.iconst 0, 1) := by decide +kernel
theorem dX9_passNight_8 : decode cX9_passNight 8 = .ok (.istore 4, 2) := by decide +kernel
theorem dX9_passNight_10 : decode cX9_passNight 10 = .ok (.iload 4, 2) := by decide +kernel
theorem dX9_passNight_12 : decode cX9_passNight 12 = .ok (.aload_n 0, 1) := by decide +kernel
theorem dX9_passNight_13 : decode cX9_passNight 13 = .ok (.getfield 19, 3) := by decide +kernel
theorem dX9_passNight_16 : decode cX9_passNight 16 = .ok (.getfield 142, 3) := by decide +kernel
theorem dX9_passNight_19 : decode cX9_passNight 19 = .ok (.if_icmp .ge 50, 3) := by decide +kernel
theorem dX9_passNight_22 : decode cX9_passNight 22 = .ok (.aload_n 0, 1) := by decide +kernel
theorem dX9_passNight_23 : decode cX9_passNight 23 = .ok (.aload_n 1, 1) := by decide +kernel
theorem dX9_passNight_24 : decode cX9_passNight 24 = .ok (.iload 4, 2) := by decide +kernel
theorem dX9_passNight_26 : decode cX9_passNight 26 = .ok (.iload_n 3, 1) := by decide +kernel
theorem dX9_passNight_27 : decode cX9_passNight 27 = .ok (.invokevirtual 234, 3) := by decide +kernel
theorem dX9_passNight_30 : decode cX9_passNight 30 = .ok (.ifCond .eq 33, 3) := by decide +kernel
theorem dX9_passNight_33 : decode cX9_passNight 33 = .ok (.aload_n 1, 1) := by decide +kernel
theorem dX9_passNight_34 : decode cX9_passNight 34 = .ok (.dup, 1) := by decide +kernel
theorem dX9_passNight_35 : decode cX9_passNight 35 = .ok (.getfield 201, 3) := by decide +kernel
theorem dX9_passNight_38 : decode cX9_passNight 38 = .ok (.iconst 1, 1) := by decide +kernel
theorem dX9_passNight_39 : decode cX9_passNight 39 = .ok (.iadd, 1) := by decide +kernel
theorem dX9_passNight_40 : decode cX9_passNight 40 = .ok (.putfield 201, 3) := by decide +kernel
theorem dX9_passNight_43 : decode cX9_passNight 43 = .ok (.aload_n 1, 1) := by decide +kernel
theorem dX9_passNight_44 : decode cX9_passNight 44 = .ok (.getfield 238, 3) := by decide +kernel
theorem dX9_passNight_47 : decode cX9_passNight 47 = .ok (.iload 4, 2) := by decide +kernel
theorem dX9_passNight_49 : decode cX9_passNight 49 = .ok (.aload_n 1, 1) := by decide +kernel
theorem dX9_passNight_50 : decode cX9_passNight 50 = .ok (.getfield 238, 3) := by decide +kernel
theorem dX9_passNight_53 : decode cX9_passNight 53 = .ok (.iload 4, 2) := by decide +kernel
theorem dX9_passNight_55 : decode cX9_passNight 55 = .ok (.invokestatic 223, 3) := by decide +kernel
theorem dX9_passNight_58 : decode cX9_passNight 58 = .ok (.iconst 1, 1) := by decide +kernel
theorem dX9_passNight_59 : decode cX9_passNight 59 = .ok (.iadd, 1) := by decide +kernel
theorem dX9_passNight_60 : decode cX9_passNight 60 = .ok (.invokestatic 380, 3) := by decide +kernel
theorem dX9_passNight_63 : decode cX9_passNight 63 = .ok (.iinc 4 1, 3) := by decide +kernel
theorem dX9_passNight_66 : decode cX9_passNight 66 = .ok (.goto (-56), 3) := by decide +kernel
theorem dX9_passNight_69 : decode cX9_passNight 69 = .ok (.aload_n 1, 1) := by decide +kernel
theorem dX9_passNight_70 : decode cX9_passNight 70 = .ok (.iload_n 3, 1) := by decide +kernel
theorem dX9_passNight_71 : decode cX9_passNight 71 = .ok (.aload_n 0, 1) := by decide +kernel
theorem dX9_passNight_72 : decode cX9_passNight 72 = .ok (.getfield 19, 3) := by decide +kernel
theorem dX9_passNight_75 : decode cX9_passNight 75 = .ok (.aload_n 0, 1) := by decide +kernel
theorem dX9_passNight_76 : decode cX9_passNight 76 = .ok (.getfield 19, 3) := by decide +kernel
theorem dX9_passNight_79 : decode cX9_passNight 79 = .ok (.getfield 384, 3) := by decide +kernel
theorem dX9_passNight_82 : decode cX9_passNight 82 = .ok (.invokevirtual 387, 3) := by decide +kernel
theorem dX9_passNight_85 : decode cX9_passNight 85 = .ok (.iload_n 3, 1) := by decide +kernel
theorem dX9_passNight_86 : decode cX9_passNight 86 = .ok (.ireturn, 1) := by decide +kernel
abbrev mt_X9_passNight : AxM := (RX9, cX9_passNight, 5, (some .int), false, [])
theorem L1_X9_passNight_63 {g : AxG} {l : Launch} {r9 : Int32} {S9 : AxS} (N : Nat) (K10 : Nat → Nat → Int32 → Int32 → AxS → Option (Int32 × AxS)) (hK10 : ∀ (v0 : Nat) (v1 : Nat) (v3 : Int32) (v4 : Int32) (S : AxS), K10 v0 v1 v3 v4 S = some ((r9, S9)) → AW g l (axRm (4) 0 0) mt_X9_passNight (axMQ g 0 0 (.inl (some (.int r9)), S9)) 0 0 S 10 [(0, .ref v0), (1, .ref v1), (3, .int v3), (4, .int v4)] []) (v0 : Nat) (v1 : Nat) (v3 : Int32) (v4 : Int32) (S : AxS) (h : F_X9_passNight_63 N K10 v0 v1 v3 v4 S = some ((r9, S9))) : AW g l (axRm (4) 0 0) mt_X9_passNight (axMQ g 0 0 (.inl (some (.int r9)), S9)) 0 0 S 63 [(0, .ref v0), (1, .ref v1), (3, .int v3), (4, .int v4)] [] := by
  unfold F_X9_passNight_63 at h
  refine aw_iinc 3 [(4, .int (v4 + 1)), (0, .ref v0), (1, .ref v1), (3, .int v3)] (v4 + 1) dX9_passNight_63 rfl rfl rfl rfl ?_
  refine aw_goto 10 dX9_passNight_66 (by decide) ?_
  refine aw_env [(0, .ref v0), (1, .ref v1), (3, .int v3), (4, .int (v4 + 1))] [1, 2, 3, 0] rfl ?_
  exact hK10 v0 v1 v3 (v4 + 1) S h
theorem L1_X9_passNight_10b {g : AxG} {l : Launch} {r9 : Int32} {S9 : AxS} (N : Nat) (K10 : Nat → Nat → Int32 → Int32 → AxS → Option (Int32 × AxS)) (hK10 : ∀ (v0 : Nat) (v1 : Nat) (v3 : Int32) (v4 : Int32) (S : AxS), K10 v0 v1 v3 v4 S = some ((r9, S9)) → AW g l (axRm (4) 0 0) mt_X9_passNight (axMQ g 0 0 (.inl (some (.int r9)), S9)) 0 0 S 10 [(0, .ref v0), (1, .ref v1), (3, .int v3), (4, .int v4)] []) (v0 : Nat) (v1 : Nat) (v3 : Int32) (v4 : Int32) (S : AxS) (h : F_X9_passNight_10b N K10 v0 v1 v3 v4 S = some ((r9, S9))) : AW g l (axRm (4) 0 0) mt_X9_passNight (axMQ g 0 0 (.inl (some (.int r9)), S9)) 0 0 S 10 [(0, .ref v0), (1, .ref v1), (3, .int v3), (4, .int v4)] [] := by
  unfold F_X9_passNight_10b at h
  refine aw_iload 3 dX9_passNight_10 rfl ?_
  refine aw_aload_n 0 dX9_passNight_12 rfl rfl ?_
  refine aw_getR axc9 1 rfl rfl wd_454 dX9_passNight_13 h (fun a1 h => ?_)
  refine aw_getI axc1 5 rfl rfl wd_183 dX9_passNight_16 h (fun x2 h => ?_)
  refine aw_icmp_ge 69 dX9_passNight_19 (by decide) h (fun h => ?_) (fun h => ?_)
  · refine aw_aload_n 1 dX9_passNight_69 rfl rfl ?_
    refine aw_iload_n 2 dX9_passNight_70 rfl rfl ?_
    refine aw_aload_n 0 dX9_passNight_71 rfl rfl ?_
    refine aw_getR axc9 1 rfl rfl wd_454 dX9_passNight_72 h (fun a3 h => ?_)
    refine aw_aload_n 0 dX9_passNight_75 rfl rfl ?_
    refine aw_getR axc9 1 rfl rfl wd_454 dX9_passNight_76 h (fun a4 h => ?_)
    refine aw_getI axc1 1 rfl rfl wd_174 dX9_passNight_79 h (fun x5 h => ?_)
    obtain ⟨hL6, h⟩ := ax_is_spec h
    refine aw_doneV (rest := []) h (fun S9 hF => aw_runV (As := [.int v3, .ref a3, .int x5]) (rest := []) (L1_X5_turn N hF) axc5 hL6 wd_922 wd_919 wd_920 wd_921 wd_93 pd_X5_turn rfl (ax_rm (by omega) rfl) ax_hf0 (Nat.le_of_ble_eq_true rfl) rfl dX9_passNight_82) (fun T7 h => ?_)
    refine aw_iload_n 2 dX9_passNight_85 rfl rfl ?_
    exact aw_iret dX9_passNight_86 rfl (Nat.le_refl _) (Nat.le_refl _) h
  · refine aw_aload_n 0 dX9_passNight_22 rfl rfl ?_
    refine aw_aload_n 1 dX9_passNight_23 rfl rfl ?_
    refine aw_iload 3 dX9_passNight_24 rfl ?_
    refine aw_iload_n 2 dX9_passNight_26 rfl rfl ?_
    obtain ⟨hL9, h⟩ := ax_is_spec h
    refine aw_doneI (rest := []) h (fun r9 S9 hF => aw_runV (As := [.ref v1, .int v4, .int v3]) (rest := []) (L1_X9_wakes N hF) axc9 hL9 wd_912 wd_909 wd_911 wd_17 wd_87 pd_X9_wakes rfl (ax_rm (by omega) rfl) ax_hf0 (Nat.le_of_ble_eq_true rfl) rfl dX9_passNight_27) (fun x11 T10 h => ?_)
    refine aw_if_eq 63 dX9_passNight_30 (by decide) h (fun h => ?_) (fun h => ?_)
    · refine aw_env [(0, .ref v0), (1, .ref v1), (3, .int v3), (4, .int v4)] [0, 1, 2, 3] rfl ?_
      exact L1_X9_passNight_63 N K10 hK10 v0 v1 v3 v4 T10 h
    · refine aw_aload_n 1 dX9_passNight_33 rfl rfl ?_
      refine aw_dup rfl dX9_passNight_34 ?_
      refine aw_getI axc5 11 rfl rfl wd_315 dX9_passNight_35 h (fun x12 h => ?_)
      refine aw_iconst 1 dX9_passNight_38 rfl ?_
      refine aw_iadd dX9_passNight_39 ?_
      refine aw_putI axc5 11 rfl rfl wd_315 rfl rfl rfl dX9_passNight_40 h (fun T13 h => ?_)
      refine aw_aload_n 1 dX9_passNight_43 rfl rfl ?_
      refine aw_getR axc5 13 rfl rfl wd_319 dX9_passNight_44 h (fun a14 h => ?_)
      refine aw_iload 3 dX9_passNight_47 rfl ?_
      refine aw_aload_n 1 dX9_passNight_49 rfl rfl ?_
      refine aw_getR axc5 13 rfl rfl wd_319 dX9_passNight_50 h (fun a15 h => ?_)
      refine aw_iload 3 dX9_passNight_53 rfl ?_
      refine aw_doneI (rest := [.int v4, .ref a14]) h (fun r9 S9 hF => aw_runS (As := [.ref a15, .int v4]) (rest := [.int v4, .ref a14]) (L1_X9_at N hF) wd_541 wd_874 wd_540 wd_87 pd_X9_at.2 rfl (ax_rm (by omega) rfl) ax_hf0 (Nat.le_of_ble_eq_true rfl) rfl dX9_passNight_55) (fun x17 T16 h => ?_)
      refine aw_iconst 1 dX9_passNight_58 rfl ?_
      refine aw_iadd dX9_passNight_59 ?_
      refine aw_doneV (rest := []) h (fun S9 hF => aw_runS (As := [.ref a14, .int v4, .int (x17 + 1)]) (rest := []) (L1_X9_put N hF) wd_443 wd_918 wd_442 wd_87 pd_X9_put.2 rfl (ax_rm (by omega) rfl) ax_hf0 (Nat.le_of_ble_eq_true rfl) rfl dX9_passNight_60) (fun T18 h => ?_)
      refine aw_env [(0, .ref v0), (1, .ref v1), (3, .int v3), (4, .int v4)] [0, 1, 2, 3] rfl ?_
      exact L1_X9_passNight_63 N K10 hK10 v0 v1 v3 v4 T18 h
theorem L1_X9_passNight_10 {g : AxG} {l : Launch} {r9 : Int32} {S9 : AxS} (N : Nat)  : ∀ (n : Nat) (v0 : Nat) (v1 : Nat) (v3 : Int32) (v4 : Int32) (S : AxS), F_X9_passNight_10 N  n v0 v1 v3 v4 S = some ((r9, S9)) → AW g l (axRm (4) 0 0) mt_X9_passNight (axMQ g 0 0 (.inl (some (.int r9)), S9)) 0 0 S 10 [(0, .ref v0), (1, .ref v1), (3, .int v3), (4, .int v4)] [] := by
  intro n
  induction n with
  | zero => intro v0 v1 v3 v4 S h; cases h
  | succ n ih => intro v0 v1 v3 v4 S h; exact L1_X9_passNight_10b N (F_X9_passNight_10 N  n) ih v0 v1 v3 v4 S h
theorem L1_X9_passNight {g : AxG} {l : Launch} (N : Nat) {v0 : Nat} {v1 : Nat} {v2 : Int32} {S : AxS} {r9 : Int32} {S9 : AxS} (h : F_X9_passNight N v0 v1 v2 S = some ((r9, S9))) : AxMet g l yX9_passNight cX9_passNight 5 (some .int) (4) 0 0 [.ref v0, .ref v1, .int v2] S ((.inl (some (.int r9)), S9)) := by
  refine ax_met (own := RX9) (ini := false) (by decide +kernel) rfl (fun h => nomatch h) rfl ?_
  show AW g l (axRm (4) 0 0) mt_X9_passNight (axMQ g 0 0 (.inl (some (.int r9)), S9)) 0 0 S 0 [(0, .ref v0), (1, .ref v1), (2, .int v2)] []
  unfold F_X9_passNight at h
  refine aw_aload_n 0 dX9_passNight_0 rfl rfl ?_
  refine aw_aload_n 1 dX9_passNight_1 rfl rfl ?_
  refine aw_iload_n 2 dX9_passNight_2 rfl rfl ?_
  obtain ⟨hL1, h⟩ := ax_is_spec h
  refine aw_doneI (rest := []) h (fun r9 S9 hF => aw_runV (As := [.ref v1, .int v2]) (rest := []) (L1_X9_strokesOf N hF) axc9 hL1 wd_549 wd_546 wd_548 wd_2 wd_87 pd_X9_strokesOf rfl (ax_rm (by omega) rfl) ax_hf0 (Nat.le_of_ble_eq_true rfl) rfl dX9_passNight_3) (fun x3 T2 h => ?_)
  refine aw_istore_n 3 [(3, .int x3), (0, .ref v0), (1, .ref v1), (2, .int v2)] dX9_passNight_6 rfl rfl rfl ?_
  refine aw_iconst 0 dX9_passNight_7 rfl ?_
  refine aw_istore [(4, .int 0), (3, .int x3), (0, .ref v0), (1, .ref v1), (2, .int v2)] dX9_passNight_8 rfl rfl ?_
  refine aw_env [(0, .ref v0), (1, .ref v1), (3, .int x3), (4, .int 0)] [2, 3, 1, 0] rfl ?_
  exact L1_X9_passNight_10 N  N v0 v1 x3 0 T2 h

theorem dX9_doStep_0 : decode cX9_doStep 0 = .ok (.iload_n 1, 1) := by decide +kernel
theorem dX9_doStep_1 : decode cX9_doStep 1 = .ok (.tableswitch 91 1 5 #[35, 44, 64, 72, 81], 35) := by decide +kernel
theorem dX9_doStep_36 : decode cX9_doStep 36 = .ok (.aload_n 0, 1) := by decide +kernel
theorem dX9_doStep_37 : decode cX9_doStep 37 = .ok (.getfield 56, 3) := by decide +kernel
theorem dX9_doStep_40 : decode cX9_doStep 40 = .ok (.iload_n 2, 1) := by decide +kernel
theorem dX9_doStep_41 : decode cX9_doStep 41 = .ok (.invokevirtual 268, 3) := by decide +kernel
theorem dX9_doStep_44 : decode cX9_doStep 44 = .ok (.ireturn, 1) := by decide +kernel
theorem dX9_doStep_45 : decode cX9_doStep 45 = .ok (.aload_n 0, 1) := by decide +kernel
theorem dX9_doStep_46 : decode cX9_doStep 46 = .ok (.getfield 56, 3) := by decide +kernel
theorem dX9_doStep_49 : decode cX9_doStep 49 = .ok (.iload_n 2, 1) := by decide +kernel
theorem dX9_doStep_50 : decode cX9_doStep 50 = .ok (.aload_n 0, 1) := by decide +kernel
theorem dX9_doStep_51 : decode cX9_doStep 51 = .ok (.getfield 19, 3) := by decide +kernel
theorem dX9_doStep_54 : decode cX9_doStep 54 = .ok (.getfield 241, 3) := by decide +kernel
theorem dX9_doStep_57 : decode cX9_doStep 57 = .ok (.iload_n 2, 1) := by decide +kernel
theorem dX9_doStep_58 : decode cX9_doStep 58 = .ok (.invokestatic 223, 3) := by decide +kernel
theorem dX9_doStep_61 : decode cX9_doStep 61 = .ok (.invokevirtual 406, 3) := by decide +kernel
theorem dX9_doStep_64 : decode cX9_doStep 64 = .ok (.ireturn, 1) := by decide +kernel
theorem dX9_doStep_65 : decode cX9_doStep 65 = .ok (.aload_n 0, 1) := by decide +kernel
theorem dX9_doStep_66 : decode cX9_doStep 66 = .ok (.getfield 56, 3) := by decide +kernel
theorem dX9_doStep_69 : decode cX9_doStep 69 = .ok (.invokevirtual 409, 3) := by decide +kernel
theorem dX9_doStep_72 : decode cX9_doStep 72 = .ok (.ireturn, 1) := by decide +kernel
theorem dX9_doStep_73 : decode cX9_doStep 73 = .ok (.aload_n 0, 1) := by decide +kernel
theorem dX9_doStep_74 : decode cX9_doStep 74 = .ok (.getfield 56, 3) := by decide +kernel
theorem dX9_doStep_77 : decode cX9_doStep 77 = .ok (.iload_n 2, 1) := by decide +kernel
theorem dX9_doStep_78 : decode cX9_doStep 78 = .ok (.invokevirtual 413, 3) := by decide +kernel
theorem dX9_doStep_81 : decode cX9_doStep 81 = .ok (.ireturn, 1) := by decide +kernel
theorem dX9_doStep_82 : decode cX9_doStep 82 = .ok (.aload_n 0, 1) := by decide +kernel
theorem dX9_doStep_83 : decode cX9_doStep 83 = .ok (.getfield 56, 3) := by decide +kernel
theorem dX9_doStep_86 : decode cX9_doStep 86 = .ok (.iload_n 2, 1) := by decide +kernel
theorem dX9_doStep_87 : decode cX9_doStep 87 = .ok (.iload_n 3, 1) := by decide +kernel
theorem dX9_doStep_88 : decode cX9_doStep 88 = .ok (.invokevirtual 416, 3) := by decide +kernel
theorem dX9_doStep_91 : decode cX9_doStep 91 = .ok (.ireturn, 1) := by decide +kernel
theorem dX9_doStep_92 : decode cX9_doStep 92 = .ok (.iload_n 1, 1) := by decide +kernel
theorem dX9_doStep_93 : decode cX9_doStep 93 = .ok (.bipush 6, 2) := by decide +kernel
theorem dX9_doStep_95 : decode cX9_doStep 95 = .ok (.if_icmp .ne 16, 3) := by decide +kernel
theorem dX9_doStep_98 : decode cX9_doStep 98 = .ok (.aload_n 0, 1) := by decide +kernel
theorem dX9_doStep_99 : decode cX9_doStep 99 = .ok (.getfield 56, 3) := by decide +kernel
theorem dX9_doStep_102 : decode cX9_doStep 102 = .ok (.getfield 180, 3) := by decide +kernel
theorem dX9_doStep_105 : decode cX9_doStep 105 = .ok (.sipush 999, 3) := by decide +kernel
theorem dX9_doStep_108 : decode cX9_doStep 108 = .ok (.if_icmp .lt 5, 3) := by decide +kernel
theorem dX9_doStep_111 : decode cX9_doStep 111 = .ok (.iconst 0, 1) := by decide +kernel
theorem dX9_doStep_112 : decode cX9_doStep 112 = .ok (.ireturn, 1) := by decide +kernel
theorem dX9_doStep_113 : decode cX9_doStep 113 = .ok (.aload_n 0, 1) := by decide +kernel
theorem dX9_doStep_114 : decode cX9_doStep 114 = .ok (.aload_n 0, 1) := by decide +kernel
theorem dX9_doStep_115 : decode cX9_doStep 115 = .ok (.getfield 56, 3) := by decide +kernel
theorem dX9_doStep_118 : decode cX9_doStep 118 = .ok (.iconst 0, 1) := by decide +kernel
theorem dX9_doStep_119 : decode cX9_doStep 119 = .ok (.invokevirtual 265, 3) := by decide +kernel
theorem dX9_doStep_122 : decode cX9_doStep 122 = .ok (.pop, 1) := by decide +kernel
theorem dX9_doStep_123 : decode cX9_doStep 123 = .ok (.iconst 1, 1) := by decide +kernel
theorem dX9_doStep_124 : decode cX9_doStep 124 = .ok (.ireturn, 1) := by decide +kernel
abbrev mt_X9_doStep : AxM := (RX9, cX9_doStep, 4, (some .boolean), false, [])
theorem L1_X9_doStep {g : AxG} {l : Launch} (N : Nat) {v0 : Nat} {v1 : Int32} {v2 : Int32} {v3 : Int32} {S : AxS} {r9 : Int32} {S9 : AxS} (h : F_X9_doStep N v0 v1 v2 v3 S = some ((r9, S9))) : AxMet g l yX9_doStep cX9_doStep 4 (some .boolean) (5) 0 0 [.ref v0, .int v1, .int v2, .int v3] S ((.inl (some (.int r9)), S9)) := by
  refine ax_met (own := RX9) (ini := false) (by decide +kernel) rfl (fun h => nomatch h) rfl ?_
  show AW g l (axRm (5) 0 0) mt_X9_doStep (axMQ g 0 0 (.inl (some (.int r9)), S9)) 0 0 S 0 [(0, .ref v0), (1, .int v1), (2, .int v2), (3, .int v3)] []
  unfold F_X9_doStep at h
  refine aw_iload_n 1 dX9_doStep_0 rfl rfl ?_
  refine aw_case 1 h (fun h => ?_) (fun c5 h => ?_)
  · refine aw_tswIn 36 (off := 35) dX9_doStep_1 (by decide) (by decide) (by decide) (by decide) ?_
    refine aw_aload_n 0 dX9_doStep_36 rfl rfl ?_
    refine aw_getR axc9 8 rfl rfl wd_461 dX9_doStep_37 h (fun a1 h => ?_)
    refine aw_iload_n 2 dX9_doStep_40 rfl rfl ?_
    obtain ⟨hL2, h⟩ := ax_is_spec h
    refine aw_doneI (rest := []) h (fun r9 S9 hF => aw_runV (As := [.int v2]) (rest := []) (L1_X5_pays N hF) axc5 hL2 wd_887 wd_884 wd_885 wd_886 wd_93 pd_X5_pays rfl (ax_rm (by omega) rfl) ax_hf0 (Nat.le_of_ble_eq_true rfl) rfl dX9_doStep_41) (fun x4 T3 h => ?_)
    exact aw_zret dX9_doStep_44 rfl (Nat.le_refl _) (Nat.le_refl _) h
  refine aw_case 2 h (fun h => ?_) (fun c14 h => ?_)
  · refine aw_tswIn 45 (off := 44) dX9_doStep_1 (by decide) (by decide) (by decide) (by decide) ?_
    refine aw_aload_n 0 dX9_doStep_45 rfl rfl ?_
    refine aw_getR axc9 8 rfl rfl wd_461 dX9_doStep_46 h (fun a6 h => ?_)
    refine aw_iload_n 2 dX9_doStep_49 rfl rfl ?_
    refine aw_aload_n 0 dX9_doStep_50 rfl rfl ?_
    refine aw_getR axc9 1 rfl rfl wd_454 dX9_doStep_51 h (fun a7 h => ?_)
    refine aw_getR axc1 8 rfl rfl wd_190 dX9_doStep_54 h (fun a8 h => ?_)
    refine aw_iload_n 2 dX9_doStep_57 rfl rfl ?_
    refine aw_doneI (rest := [.int v2, .ref a6]) h (fun r9 S9 hF => aw_runS (As := [.ref a8, .int v2]) (rest := [.int v2, .ref a6]) (L1_X9_at N hF) wd_541 wd_874 wd_540 wd_87 pd_X9_at.2 rfl (ax_rm (by omega) rfl) ax_hf0 (Nat.le_of_ble_eq_true rfl) rfl dX9_doStep_58) (fun x10 T9 h => ?_)
    obtain ⟨hL11, h⟩ := ax_is_spec h
    refine aw_doneI (rest := []) h (fun r9 S9 hF => aw_runV (As := [.int v2, .int x10]) (rest := []) (L1_X5_gives N hF) axc5 hL11 wd_891 wd_888 wd_889 wd_890 wd_93 pd_X5_gives rfl (ax_rm (by omega) rfl) ax_hf0 (Nat.le_of_ble_eq_true rfl) rfl dX9_doStep_61) (fun x13 T12 h => ?_)
    exact aw_zret dX9_doStep_64 rfl (Nat.le_refl _) (Nat.le_refl _) h
  refine aw_case 3 h (fun h => ?_) (fun c19 h => ?_)
  · refine aw_tswIn 65 (off := 64) dX9_doStep_1 (by decide) (by decide) (by decide) (by decide) ?_
    refine aw_aload_n 0 dX9_doStep_65 rfl rfl ?_
    refine aw_getR axc9 8 rfl rfl wd_461 dX9_doStep_66 h (fun a15 h => ?_)
    obtain ⟨hL16, h⟩ := ax_is_spec h
    refine aw_doneI (rest := []) h (fun r9 S9 hF => aw_runV (As := []) (rest := []) (L1_X5_waxes N hF) axc5 hL16 wd_896 wd_893 wd_894 wd_895 wd_93 pd_X5_waxes rfl (ax_rm (by omega) rfl) ax_hf0 (Nat.le_of_ble_eq_true rfl) rfl dX9_doStep_69) (fun x18 T17 h => ?_)
    exact aw_zret dX9_doStep_72 rfl (Nat.le_refl _) (Nat.le_refl _) h
  refine aw_case 4 h (fun h => ?_) (fun c24 h => ?_)
  · refine aw_tswIn 73 (off := 72) dX9_doStep_1 (by decide) (by decide) (by decide) (by decide) ?_
    refine aw_aload_n 0 dX9_doStep_73 rfl rfl ?_
    refine aw_getR axc9 8 rfl rfl wd_461 dX9_doStep_74 h (fun a20 h => ?_)
    refine aw_iload_n 2 dX9_doStep_77 rfl rfl ?_
    obtain ⟨hL21, h⟩ := ax_is_spec h
    refine aw_doneI (rest := []) h (fun r9 S9 hF => aw_runV (As := [.int v2]) (rest := []) (L1_X5_hangUp N hF) axc5 hL21 wd_900 wd_897 wd_898 wd_899 wd_93 pd_X5_hangUp rfl (ax_rm (by omega) rfl) ax_hf0 (Nat.le_of_ble_eq_true rfl) rfl dX9_doStep_78) (fun x23 T22 h => ?_)
    exact aw_zret dX9_doStep_81 rfl (Nat.le_refl _) (Nat.le_refl _) h
  refine aw_case 5 h (fun h => ?_) (fun c29 h => ?_)
  · refine aw_tswIn 82 (off := 81) dX9_doStep_1 (by decide) (by decide) (by decide) (by decide) ?_
    refine aw_aload_n 0 dX9_doStep_82 rfl rfl ?_
    refine aw_getR axc9 8 rfl rfl wd_461 dX9_doStep_83 h (fun a25 h => ?_)
    refine aw_iload_n 2 dX9_doStep_86 rfl rfl ?_
    refine aw_iload_n 3 dX9_doStep_87 rfl rfl ?_
    obtain ⟨hL26, h⟩ := ax_is_spec h
    refine aw_doneI (rest := []) h (fun r9 S9 hF => aw_runV (As := [.int v2, .int v3]) (rest := []) (L1_X5_swaps N hF) axc5 hL26 wd_904 wd_901 wd_902 wd_903 wd_93 pd_X5_swaps rfl (ax_rm (by omega) rfl) ax_hf0 (Nat.le_of_ble_eq_true rfl) rfl dX9_doStep_88) (fun x28 T27 h => ?_)
    exact aw_zret dX9_doStep_91 rfl (Nat.le_refl _) (Nat.le_refl _) h
  refine aw_tswOut 92 dX9_doStep_1 (by have q0 := ax_i32ne c5 (v := 1) (i := 1) (by decide); have q1 := ax_i32ne c14 (v := 2) (i := 2) (by decide); have q2 := ax_i32ne c19 (v := 3) (i := 3) (by decide); have q3 := ax_i32ne c24 (v := 4) (i := 4) (by decide); have q4 := ax_i32ne c29 (v := 5) (i := 5) (by decide); omega) (by decide) ?_
  refine aw_iload_n 1 dX9_doStep_92 rfl rfl ?_
  refine aw_bipush 6 dX9_doStep_93 (by decide) ?_
  refine aw_icmp_ne 111 dX9_doStep_95 (by decide) h (fun h => ?_) (fun h => ?_)
  · refine aw_iconst 0 dX9_doStep_111 rfl ?_
    exact aw_zret dX9_doStep_112 rfl (Nat.le_refl _) (Nat.le_refl _) h
  · refine aw_aload_n 0 dX9_doStep_98 rfl rfl ?_
    refine aw_getR axc9 8 rfl rfl wd_461 dX9_doStep_99 h (fun a30 h => ?_)
    refine aw_getI axc5 2 rfl rfl wd_297 dX9_doStep_102 h (fun x31 h => ?_)
    refine aw_sipush 999 dX9_doStep_105 (by decide) ?_
    refine aw_icmp_lt 113 dX9_doStep_108 (by decide) h (fun h => ?_) (fun h => ?_)
    · refine aw_aload_n 0 dX9_doStep_113 rfl rfl ?_
      refine aw_aload_n 0 dX9_doStep_114 rfl rfl ?_
      refine aw_getR axc9 8 rfl rfl wd_461 dX9_doStep_115 h (fun a32 h => ?_)
      refine aw_iconst 0 dX9_doStep_118 rfl ?_
      obtain ⟨hL33, h⟩ := ax_is_spec h
      refine aw_doneI (rest := []) h (fun r9 S9 hF => aw_runV (As := [.ref a32, .int 0]) (rest := []) (L1_X9_passNight N hF) axc9 hL33 wd_908 wd_905 wd_907 wd_16 wd_87 pd_X9_passNight rfl (ax_rm (by omega) rfl) ax_hf0 (Nat.le_of_ble_eq_true rfl) rfl dX9_doStep_119) (fun x35 T34 h => ?_)
      refine aw_pop rfl dX9_doStep_122 ?_
      refine aw_iconst 1 dX9_doStep_123 rfl ?_
      exact aw_zret dX9_doStep_124 rfl (Nat.le_refl _) (Nat.le_refl _) h
    · refine aw_iconst 0 dX9_doStep_111 rfl ?_
      exact aw_zret dX9_doStep_112 rfl (Nat.le_refl _) (Nat.le_refl _) h
