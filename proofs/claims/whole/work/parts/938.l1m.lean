theorem dX10_restore_0 : decode cX10_restore 0 = .ok (.aload_n 0, 1) := by decide +kernel
theorem dX10_restore_1 : decode cX10_restore 1 = .ok (.iconst 0, 1) := by decide +kernel
theorem dX10_restore_2 : decode cX10_restore 2 = .ok (.putfield 104, 3) := by decide +kernel
theorem dX10_restore_5 : decode cX10_restore 5 = .ok (.aload_n 0, 1) := by decide +kernel
theorem dX10_restore_6 : decode cX10_restore 6 = .ok (.getfield 226, 3) := by decide +kernel
theorem dX10_restore_9 : decode cX10_restore 9 = .ok (.ifCond .ne 5, 3) := by decide +kernel
theorem dX10_restore_12 : decode cX10_restore 12 = .ok (.iconst (-1), 1) := by decide +kernel
theorem dX10_restore_13 : decode cX10_restore 13 = .ok (.ireturn, 1) := by decide +kernel
theorem dX10_restore_14 : decode cX10_restore 14 = .ok (.aload_n 0, 1) := by decide +kernel
theorem dX10_restore_15 : decode cX10_restore 15 = .ok (.dup, 1) := by decide +kernel
theorem dX10_restore_16 : decode cX10_restore 16 = .ok (.getfield 226, 3) := by decide +kernel
theorem dX10_restore_19 : decode cX10_restore 19 = .ok (.iconst 1, 1) := by decide +kernel
theorem dX10_restore_20 : decode cX10_restore 20 = .ok (.isub, 1) := by decide +kernel
theorem dX10_restore_21 : decode cX10_restore 21 = .ok (.putfield 226, 3) := by decide +kernel
theorem dX10_restore_24 : decode cX10_restore 24 = .ok (.aload_n 0, 1) := by decide +kernel
theorem dX10_restore_25 : decode cX10_restore 25 = .ok (.aload_n 0, 1) := by decide +kernel
theorem dX10_restore_26 : decode cX10_restore 26 = .ok (.getfield 70, 3) := by decide +kernel
theorem dX10_restore_29 : decode cX10_restore 29 = .ok (.aload_n 0, 1) := by decide +kernel
theorem dX10_restore_30 : decode cX10_restore 30 = .ok (.getfield 226, 3) := by decide +kernel
theorem dX10_restore_33 : decode cX10_restore 33 = .ok (.aaload, 1) := by decide +kernel
theorem dX10_restore_34 : decode cX10_restore 34 = .ok (.iconst 1, 1) := by decide +kernel
theorem dX10_restore_35 : decode cX10_restore 35 = .ok (.invokevirtual 402, 3) := by decide +kernel
theorem dX10_restore_38 : decode cX10_restore 38 = .ok (.aload_n 0, 1) := by decide +kernel
theorem dX10_restore_39 : decode cX10_restore 39 = .ok (.iconst 0, 1) := by decide +kernel
theorem dX10_restore_40 : decode cX10_restore 40 = .ok (.putfield 223, 3) := by decide +kernel
theorem dX10_restore_43 : decode cX10_restore 43 = .ok (.aload_n 0, 1) := by decide +kernel
theorem dX10_restore_44 : decode cX10_restore 44 = .ok (.getfield 226, 3) := by decide +kernel
theorem dX10_restore_47 : decode cX10_restore 47 = .ok (.ireturn, 1) := by decide +kernel
abbrev mt_X10_restore : AxM := (RX10, cX10_restore, 1, (some .int), false, [])
theorem L1_X10_restore {g : AxG} {l : Launch} (N : Nat) {v0 : Nat} {S : AxS} {r9 : Int32} {S9 : AxS} (h : F_X10_restore N v0 S = some ((r9, S9))) : AxMet g l yX10_restore cX10_restore 1 (some .int) (2) 0 0 [.ref v0] S ((.inl (some (.int r9)), S9)) := by
  refine ax_met (own := RX10) (ini := false) (by decide +kernel) rfl (fun h => nomatch h) rfl ?_
  show AW g l (axRm (2) 0 0) mt_X10_restore (axMQ g 0 0 (.inl (some (.int r9)), S9)) 0 0 S 0 [(0, .ref v0)] []
  unfold F_X10_restore at h
  refine aw_aload_n 0 dX10_restore_0 rfl rfl ?_
  refine aw_iconst 0 dX10_restore_1 rfl ?_
  refine aw_putI axc10 0 rfl rfl wd_1285 rfl rfl rfl dX10_restore_2 h (fun T1 h => ?_)
  refine aw_aload_n 0 dX10_restore_5 rfl rfl ?_
  refine aw_getI axc10 34 rfl rfl wd_1319 dX10_restore_6 h (fun x2 h => ?_)
  refine aw_if_ne 14 dX10_restore_9 (by decide) h (fun h => ?_) (fun h => ?_)
  · refine aw_aload_n 0 dX10_restore_14 rfl rfl ?_
    refine aw_dup rfl dX10_restore_15 ?_
    refine aw_getI axc10 34 rfl rfl wd_1319 dX10_restore_16 h (fun x3 h => ?_)
    refine aw_iconst 1 dX10_restore_19 rfl ?_
    refine aw_isub dX10_restore_20 ?_
    refine aw_putI axc10 34 rfl rfl wd_1319 rfl rfl rfl dX10_restore_21 h (fun T4 h => ?_)
    refine aw_aload_n 0 dX10_restore_24 rfl rfl ?_
    refine aw_aload_n 0 dX10_restore_25 rfl rfl ?_
    refine aw_getR axc10 30 rfl rfl wd_1315 dX10_restore_26 h (fun a5 h => ?_)
    refine aw_aload_n 0 dX10_restore_29 rfl rfl ?_
    refine aw_getI axc10 34 rfl rfl wd_1319 dX10_restore_30 h (fun x6 h => ?_)
    refine aw_aald dX10_restore_33 h (fun a7 h => ?_)
    refine aw_iconst 1 dX10_restore_34 rfl ?_
    obtain ⟨hL8, h⟩ := ax_is_spec h
    refine aw_doneV (rest := []) h (fun S9 hF => aw_runV (As := [.ref a7, .int 1]) (rest := []) (L1_X10_putsAll N hF) axc10 hL8 wd_1822 wd_1819 wd_1821 wd_84 wd_97 pd_X10_putsAll rfl (ax_rm (by omega) rfl) ax_hf0 (Nat.le_of_ble_eq_true rfl) rfl dX10_restore_35) (fun T9 h => ?_)
    refine aw_aload_n 0 dX10_restore_38 rfl rfl ?_
    refine aw_iconst 0 dX10_restore_39 rfl ?_
    refine aw_putI axc10 33 rfl rfl wd_1318 rfl rfl rfl dX10_restore_40 h (fun T11 h => ?_)
    refine aw_aload_n 0 dX10_restore_43 rfl rfl ?_
    refine aw_getI axc10 34 rfl rfl wd_1319 dX10_restore_44 h (fun x12 h => ?_)
    exact aw_iret dX10_restore_47 rfl (Nat.le_refl _) (Nat.le_refl _) h
  · refine aw_iconst (-1) dX10_restore_12 rfl ?_
    exact aw_iret dX10_restore_13 rfl (Nat.le_refl _) (Nat.le_refl _) h

theorem dX10_status_0 : decode cX10_status 0 = .ok (.aload_n 0, 1) := by decide +kernel
theorem dX10_status_1 : decode cX10_status 1 = .ok (.iconst 0, 1) := by decide +kernel
theorem dX10_status_2 : decode cX10_status 2 = .ok (.putfield 104, 3) := by decide +kernel
theorem dX10_status_5 : decode cX10_status 5 = .ok (.iload_n 1, 1) := by decide +kernel
theorem dX10_status_6 : decode cX10_status 6 = .ok (.iconst 0, 1) := by decide +kernel
theorem dX10_status_7 : decode cX10_status 7 = .ok (.iconst 1, 1) := by decide +kernel
theorem dX10_status_8 : decode cX10_status 8 = .ok (.invokestatic 138, 3) := by decide +kernel
theorem dX10_status_11 : decode cX10_status 11 = .ok (.ifCond .eq 12, 3) := by decide +kernel
theorem dX10_status_14 : decode cX10_status 14 = .ok (.aload_n 0, 1) := by decide +kernel
theorem dX10_status_15 : decode cX10_status 15 = .ok (.getfield 17, 3) := by decide +kernel
theorem dX10_status_18 : decode cX10_status 18 = .ok (.iload_n 1, 1) := by decide +kernel
theorem dX10_status_19 : decode cX10_status 19 = .ok (.iaload, 1) := by decide +kernel
theorem dX10_status_20 : decode cX10_status 20 = .ok (.goto 4, 3) := by decide +kernel
theorem dX10_status_23 : decode cX10_status 23 = .ok (.iconst (-1), 1) := by decide +kernel
theorem dX10_status_24 : decode cX10_status 24 = .ok (.ireturn, 1) := by decide +kernel
abbrev mt_X10_status : AxM := (RX10, cX10_status, 2, (some .int), false, [])
theorem L1_X10_status {g : AxG} {l : Launch} (N : Nat) {v0 : Nat} {v1 : Int32} {S : AxS} {r9 : Int32} {S9 : AxS} (h : F_X10_status N v0 v1 S = some ((r9, S9))) : AxMet g l yX10_status cX10_status 2 (some .int) (1) 0 0 [.ref v0, .int v1] S ((.inl (some (.int r9)), S9)) := by
  refine ax_met (own := RX10) (ini := false) (by decide +kernel) rfl (fun h => nomatch h) rfl ?_
  show AW g l (axRm (1) 0 0) mt_X10_status (axMQ g 0 0 (.inl (some (.int r9)), S9)) 0 0 S 0 [(0, .ref v0), (1, .int v1)] []
  unfold F_X10_status at h
  refine aw_aload_n 0 dX10_status_0 rfl rfl ?_
  refine aw_iconst 0 dX10_status_1 rfl ?_
  refine aw_putI axc10 0 rfl rfl wd_1285 rfl rfl rfl dX10_status_2 h (fun T1 h => ?_)
  refine aw_iload_n 1 dX10_status_5 rfl rfl ?_
  refine aw_iconst 0 dX10_status_6 rfl ?_
  refine aw_iconst 1 dX10_status_7 rfl ?_
  refine aw_doneI (rest := []) h (fun r9 S9 hF => aw_runS (As := [.int v1, .int 0, .int 1]) (rest := []) (L1_X10_in N hF) wd_1448 wd_1446 wd_1447 wd_97 pd_X10_in.2 rfl (ax_rm (by omega) rfl) ax_hf0 (Nat.le_of_ble_eq_true rfl) rfl dX10_status_8) (fun x3 T2 h => ?_)
  refine aw_if_eq 23 dX10_status_11 (by decide) h (fun h => ?_) (fun h => ?_)
  · refine aw_iconst (-1) dX10_status_23 rfl ?_
    exact aw_iret dX10_status_24 rfl (Nat.le_refl _) (Nat.le_refl _) h
  · refine aw_aload_n 0 dX10_status_14 rfl rfl ?_
    refine aw_getR axc10 10 rfl rfl wd_1295 dX10_status_15 h (fun a4 h => ?_)
    refine aw_iload_n 1 dX10_status_18 rfl rfl ?_
    refine aw_iald dX10_status_19 h (fun x5 h => ?_)
    refine aw_goto 24 dX10_status_20 (by decide) ?_
    exact aw_iret dX10_status_24 rfl (Nat.le_refl _) (Nat.le_refl _) h

theorem dX10_kept_0 : decode cX10_kept 0 = .ok (.aload_n 0, 1) := by decide +kernel
theorem dX10_kept_1 : decode cX10_kept 1 = .ok (.iconst 0, 1) := by decide +kernel
theorem dX10_kept_2 : decode cX10_kept 2 = .ok (.putfield 104, 3) := by decide +kernel
theorem dX10_kept_5 : decode cX10_kept 5 = .ok (.iload_n 1, 1) := by decide +kernel
theorem dX10_kept_6 : decode cX10_kept 6 = .ok (.ifCond .ne 10, 3) := by decide +kernel
theorem dX10_kept_9 : decode cX10_kept 9 = .ok (.aload_n 0, 1) := by decide +kernel
theorem dX10_kept_10 : decode cX10_kept 10 = .ok (.getfield 226, 3) := by decide +kernel
theorem dX10_kept_13 : decode cX10_kept 13 = .ok (.goto 28, 3) := by decide +kernel
theorem dX10_kept_16 : decode cX10_kept 16 = .ok (.iload_n 1, 1) := by decide +kernel
theorem dX10_kept_17 : decode cX10_kept 17 = .ok (.iconst 1, 1) := by decide +kernel
theorem dX10_kept_18 : decode cX10_kept 18 = .ok (.if_icmp .ne 10, 3) := by decide +kernel
theorem dX10_kept_21 : decode cX10_kept 21 = .ok (.aload_n 0, 1) := by decide +kernel
theorem dX10_kept_22 : decode cX10_kept 22 = .ok (.getfield 107, 3) := by decide +kernel
theorem dX10_kept_25 : decode cX10_kept 25 = .ok (.goto 16, 3) := by decide +kernel
theorem dX10_kept_28 : decode cX10_kept 28 = .ok (.iload_n 1, 1) := by decide +kernel
theorem dX10_kept_29 : decode cX10_kept 29 = .ok (.iconst 2, 1) := by decide +kernel
theorem dX10_kept_30 : decode cX10_kept 30 = .ok (.if_icmp .ne 10, 3) := by decide +kernel
theorem dX10_kept_33 : decode cX10_kept 33 = .ok (.aload_n 0, 1) := by decide +kernel
theorem dX10_kept_34 : decode cX10_kept 34 = .ok (.getfield 220, 3) := by decide +kernel
theorem dX10_kept_37 : decode cX10_kept 37 = .ok (.goto 4, 3) := by decide +kernel
theorem dX10_kept_40 : decode cX10_kept 40 = .ok (.iconst (-1), 1) := by decide +kernel
theorem dX10_kept_41 : decode cX10_kept 41 = .ok (.ireturn, 1) := by decide +kernel
abbrev mt_X10_kept : AxM := (RX10, cX10_kept, 2, (some .int), false, [])
theorem L1_X10_kept {g : AxG} {l : Launch} (N : Nat) {v0 : Nat} {v1 : Int32} {S : AxS} {r9 : Int32} {S9 : AxS} (h : F_X10_kept N v0 v1 S = some ((r9, S9))) : AxMet g l yX10_kept cX10_kept 2 (some .int) (0) 0 0 [.ref v0, .int v1] S ((.inl (some (.int r9)), S9)) := by
  refine ax_met (own := RX10) (ini := false) (by decide +kernel) rfl (fun h => nomatch h) rfl ?_
  show AW g l (axRm (0) 0 0) mt_X10_kept (axMQ g 0 0 (.inl (some (.int r9)), S9)) 0 0 S 0 [(0, .ref v0), (1, .int v1)] []
  unfold F_X10_kept at h
  refine aw_aload_n 0 dX10_kept_0 rfl rfl ?_
  refine aw_iconst 0 dX10_kept_1 rfl ?_
  refine aw_putI axc10 0 rfl rfl wd_1285 rfl rfl rfl dX10_kept_2 h (fun T1 h => ?_)
  refine aw_iload_n 1 dX10_kept_5 rfl rfl ?_
  refine aw_if_ne 16 dX10_kept_6 (by decide) h (fun h => ?_) (fun h => ?_)
  · refine aw_iload_n 1 dX10_kept_16 rfl rfl ?_
    refine aw_iconst 1 dX10_kept_17 rfl ?_
    refine aw_icmp_ne 28 dX10_kept_18 (by decide) h (fun h => ?_) (fun h => ?_)
    · refine aw_iload_n 1 dX10_kept_28 rfl rfl ?_
      refine aw_iconst 2 dX10_kept_29 rfl ?_
      refine aw_icmp_ne 40 dX10_kept_30 (by decide) h (fun h => ?_) (fun h => ?_)
      · refine aw_iconst (-1) dX10_kept_40 rfl ?_
        exact aw_iret dX10_kept_41 rfl (Nat.le_refl _) (Nat.le_refl _) h
      · refine aw_aload_n 0 dX10_kept_33 rfl rfl ?_
        refine aw_getI axc10 32 rfl rfl wd_1317 dX10_kept_34 h (fun x2 h => ?_)
        refine aw_goto 41 dX10_kept_37 (by decide) ?_
        exact aw_iret dX10_kept_41 rfl (Nat.le_refl _) (Nat.le_refl _) h
    · refine aw_aload_n 0 dX10_kept_21 rfl rfl ?_
      refine aw_getI axc10 1 rfl rfl wd_1286 dX10_kept_22 h (fun x3 h => ?_)
      refine aw_goto 41 dX10_kept_25 (by decide) ?_
      exact aw_iret dX10_kept_41 rfl (Nat.le_refl _) (Nat.le_refl _) h
  · refine aw_aload_n 0 dX10_kept_9 rfl rfl ?_
    refine aw_getI axc10 34 rfl rfl wd_1319 dX10_kept_10 h (fun x4 h => ?_)
    refine aw_goto 41 dX10_kept_13 (by decide) ?_
    exact aw_iret dX10_kept_41 rfl (Nat.le_refl _) (Nat.le_refl _) h
