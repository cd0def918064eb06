theorem dX9_restore_0 : decode cX9_restore 0 = .ok (.aload_n 0, 1) := by decide +kernel
theorem dX9_restore_1 : decode cX9_restore 1 = .ok (.getfield 115, 3) := by decide +kernel
theorem dX9_restore_4 : decode cX9_restore 4 = .ok (.ifCond .le 15, 3) := by decide +kernel
theorem dX9_restore_7 : decode cX9_restore 7 = .ok (.aload_n 0, 1) := by decide +kernel
theorem dX9_restore_8 : decode cX9_restore 8 = .ok (.getfield 115, 3) := by decide +kernel
theorem dX9_restore_11 : decode cX9_restore 11 = .ok (.aload_n 0, 1) := by decide +kernel
theorem dX9_restore_12 : decode cX9_restore 12 = .ok (.getfield 72, 3) := by decide +kernel
theorem dX9_restore_15 : decode cX9_restore 15 = .ok (.arraylength, 1) := by decide +kernel
theorem dX9_restore_16 : decode cX9_restore 16 = .ok (.if_icmp .le 5, 3) := by decide +kernel
theorem dX9_restore_19 : decode cX9_restore 19 = .ok (.iconst (-1), 1) := by decide +kernel
theorem dX9_restore_20 : decode cX9_restore 20 = .ok (.ireturn, 1) := by decide +kernel
theorem dX9_restore_21 : decode cX9_restore 21 = .ok (.aload_n 0, 1) := by decide +kernel
theorem dX9_restore_22 : decode cX9_restore 22 = .ok (.dup, 1) := by decide +kernel
theorem dX9_restore_23 : decode cX9_restore 23 = .ok (.getfield 115, 3) := by decide +kernel
theorem dX9_restore_26 : decode cX9_restore 26 = .ok (.iconst 1, 1) := by decide +kernel
theorem dX9_restore_27 : decode cX9_restore 27 = .ok (.isub, 1) := by decide +kernel
theorem dX9_restore_28 : decode cX9_restore 28 = .ok (.putfield 115, 3) := by decide +kernel
theorem dX9_restore_31 : decode cX9_restore 31 = .ok (.aload_n 0, 1) := by decide +kernel
theorem dX9_restore_32 : decode cX9_restore 32 = .ok (.getfield 56, 3) := by decide +kernel
theorem dX9_restore_35 : decode cX9_restore 35 = .ok (.aload_n 0, 1) := by decide +kernel
theorem dX9_restore_36 : decode cX9_restore 36 = .ok (.getfield 72, 3) := by decide +kernel
theorem dX9_restore_39 : decode cX9_restore 39 = .ok (.aload_n 0, 1) := by decide +kernel
theorem dX9_restore_40 : decode cX9_restore 40 = .ok (.getfield 115, 3) := by decide +kernel
theorem dX9_restore_43 : decode cX9_restore 43 = .ok (.aaload, 1) := by decide +kernel
theorem dX9_restore_44 : decode cX9_restore 44 = .ok (.getfield 355, 3) := by decide +kernel
theorem dX9_restore_47 : decode cX9_restore 47 = .ok (.invokevirtual 262, 3) := by decide +kernel
theorem dX9_restore_50 : decode cX9_restore 50 = .ok (.aload_n 0, 1) := by decide +kernel
theorem dX9_restore_51 : decode cX9_restore 51 = .ok (.getfield 66, 3) := by decide +kernel
theorem dX9_restore_54 : decode cX9_restore 54 = .ok (.aload_n 0, 1) := by decide +kernel
theorem dX9_restore_55 : decode cX9_restore 55 = .ok (.getfield 72, 3) := by decide +kernel
theorem dX9_restore_58 : decode cX9_restore 58 = .ok (.aload_n 0, 1) := by decide +kernel
theorem dX9_restore_59 : decode cX9_restore 59 = .ok (.getfield 115, 3) := by decide +kernel
theorem dX9_restore_62 : decode cX9_restore 62 = .ok (.aaload, 1) := by decide +kernel
theorem dX9_restore_63 : decode cX9_restore 63 = .ok (.getfield 358, 3) := by decide +kernel
theorem dX9_restore_66 : decode cX9_restore 66 = .ok (.invokevirtual 359, 3) := by decide +kernel
theorem dX9_restore_69 : decode cX9_restore 69 = .ok (.aload_n 0, 1) := by decide +kernel
theorem dX9_restore_70 : decode cX9_restore 70 = .ok (.iconst 0, 1) := by decide +kernel
theorem dX9_restore_71 : decode cX9_restore 71 = .ok (.putfield 118, 3) := by decide +kernel
theorem dX9_restore_74 : decode cX9_restore 74 = .ok (.aload_n 0, 1) := by decide +kernel
theorem dX9_restore_75 : decode cX9_restore 75 = .ok (.getfield 115, 3) := by decide +kernel
theorem dX9_restore_78 : decode cX9_restore 78 = .ok (.ireturn, 1) := by decide +kernel
abbrev mt_X9_restore : AxM := (RX9, cX9_restore, 1, (some .int), false, [])
theorem L1_X9_restore {g : AxG} {l : Launch} (N : Nat) {v0 : Nat} {S : AxS} {r9 : Int32} {S9 : AxS} (h : F_X9_restore N v0 S = some ((r9, S9))) : AxMet g l yX9_restore cX9_restore 1 (some .int) (3) 0 0 [.ref v0] S ((.inl (some (.int r9)), S9)) := by
  refine ax_met (own := RX9) (ini := false) (by decide +kernel) rfl (fun h => nomatch h) rfl ?_
  show AW g l (axRm (3) 0 0) mt_X9_restore (axMQ g 0 0 (.inl (some (.int r9)), S9)) 0 0 S 0 [(0, .ref v0)] []
  unfold F_X9_restore at h
  refine aw_aload_n 0 dX9_restore_0 rfl rfl ?_
  refine aw_getI axc9 12 rfl rfl wd_465 dX9_restore_1 h (fun x1 h => ?_)
  refine aw_if_le 19 dX9_restore_4 (by decide) h (fun h => ?_) (fun h => ?_)
  · refine aw_iconst (-1) dX9_restore_19 rfl ?_
    exact aw_iret dX9_restore_20 rfl (Nat.le_refl _) (Nat.le_refl _) h
  · refine aw_aload_n 0 dX9_restore_7 rfl rfl ?_
    refine aw_getI axc9 12 rfl rfl wd_465 dX9_restore_8 h (fun x2 h => ?_)
    refine aw_aload_n 0 dX9_restore_11 rfl rfl ?_
    refine aw_getR axc9 11 rfl rfl wd_464 dX9_restore_12 h (fun a3 h => ?_)
    refine aw_alen dX9_restore_15 h (fun x4 h => ?_)
    refine aw_icmp_le 21 dX9_restore_16 (by decide) h (fun h => ?_) (fun h => ?_)
    · refine aw_aload_n 0 dX9_restore_21 rfl rfl ?_
      refine aw_dup rfl dX9_restore_22 ?_
      refine aw_getI axc9 12 rfl rfl wd_465 dX9_restore_23 h (fun x5 h => ?_)
      refine aw_iconst 1 dX9_restore_26 rfl ?_
      refine aw_isub dX9_restore_27 ?_
      refine aw_putI axc9 12 rfl rfl wd_465 rfl rfl rfl dX9_restore_28 h (fun T6 h => ?_)
      refine aw_aload_n 0 dX9_restore_31 rfl rfl ?_
      refine aw_getR axc9 8 rfl rfl wd_461 dX9_restore_32 h (fun a7 h => ?_)
      refine aw_aload_n 0 dX9_restore_35 rfl rfl ?_
      refine aw_getR axc9 11 rfl rfl wd_464 dX9_restore_36 h (fun a8 h => ?_)
      refine aw_aload_n 0 dX9_restore_39 rfl rfl ?_
      refine aw_getI axc9 12 rfl rfl wd_465 dX9_restore_40 h (fun x9 h => ?_)
      refine aw_aald dX9_restore_43 h (fun a10 h => ?_)
      refine aw_getR axc3 0 rfl rfl wd_421 dX9_restore_44 h (fun a11 h => ?_)
      obtain ⟨hL12, h⟩ := ax_is_spec h
      refine aw_doneV (rest := []) h (fun S9 hF => aw_runV (As := [.ref a11]) (rest := []) (L1_X5_take N hF) axc5 hL12 wd_538 wd_583 wd_536 wd_537 wd_93 pd_X5_take rfl (ax_rm (by omega) rfl) ax_hf0 (Nat.le_of_ble_eq_true rfl) rfl dX9_restore_47) (fun T13 h => ?_)
      refine aw_aload_n 0 dX9_restore_50 rfl rfl ?_
      refine aw_getR axc9 10 rfl rfl wd_463 dX9_restore_51 h (fun a15 h => ?_)
      refine aw_aload_n 0 dX9_restore_54 rfl rfl ?_
      refine aw_getR axc9 11 rfl rfl wd_464 dX9_restore_55 h (fun a16 h => ?_)
      refine aw_aload_n 0 dX9_restore_58 rfl rfl ?_
      refine aw_getI axc9 12 rfl rfl wd_465 dX9_restore_59 h (fun x17 h => ?_)
      refine aw_aald dX9_restore_62 h (fun a18 h => ?_)
      refine aw_getR axc3 1 rfl rfl wd_423 dX9_restore_63 h (fun a19 h => ?_)
      obtain ⟨hL20, h⟩ := ax_is_spec h
      refine aw_doneV (rest := []) h (fun S9 hF => aw_runV (As := [.ref a19]) (rest := []) (L1_X8_take N hF) axc8 hL20 wd_578 wd_584 wd_576 wd_577 wd_94 pd_X8_take rfl (ax_rm (by omega) rfl) ax_hf0 (Nat.le_of_ble_eq_true rfl) rfl dX9_restore_66) (fun T21 h => ?_)
      refine aw_aload_n 0 dX9_restore_69 rfl rfl ?_
      refine aw_iconst 0 dX9_restore_70 rfl ?_
      refine aw_putI axc9 13 rfl rfl wd_466 rfl rfl rfl dX9_restore_71 h (fun T23 h => ?_)
      refine aw_aload_n 0 dX9_restore_74 rfl rfl ?_
      refine aw_getI axc9 12 rfl rfl wd_465 dX9_restore_75 h (fun x24 h => ?_)
      exact aw_iret dX9_restore_78 rfl (Nat.le_refl _) (Nat.le_refl _) h
    · refine aw_iconst (-1) dX9_restore_19 rfl ?_
      exact aw_iret dX9_restore_20 rfl (Nat.le_refl _) (Nat.le_refl _) h

theorem dX9_status_0 : decode cX9_status 0 = .ok (.iload_n 1, 1) := by decide +kernel
theorem dX9_status_1 : decode cX9_status 1 = .ok (.lookupswitch 37 #[(0, 27), (1, 32)], 27) := by decide +kernel
theorem dX9_status_28 : decode cX9_status 28 = .ok (.aload_n 0, 1) := by decide +kernel
theorem dX9_status_29 : decode cX9_status 29 = .ok (.getfield 362, 3) := by decide +kernel
theorem dX9_status_32 : decode cX9_status 32 = .ok (.ireturn, 1) := by decide +kernel
theorem dX9_status_33 : decode cX9_status 33 = .ok (.aload_n 0, 1) := by decide +kernel
theorem dX9_status_34 : decode cX9_status 34 = .ok (.getfield 365, 3) := by decide +kernel
theorem dX9_status_37 : decode cX9_status 37 = .ok (.ireturn, 1) := by decide +kernel
theorem dX9_status_38 : decode cX9_status 38 = .ok (.iconst (-1), 1) := by decide +kernel
theorem dX9_status_39 : decode cX9_status 39 = .ok (.ireturn, 1) := by decide +kernel
abbrev mt_X9_status : AxM := (RX9, cX9_status, 2, (some .int), false, [])
theorem L1_X9_status {g : AxG} {l : Launch} (N : Nat) {v0 : Nat} {v1 : Int32} {S : AxS} {r9 : Int32} {S9 : AxS} (h : F_X9_status N v0 v1 S = some ((r9, S9))) : AxMet g l yX9_status cX9_status 2 (some .int) (0) 0 0 [.ref v0, .int v1] S ((.inl (some (.int r9)), S9)) := by
  refine ax_met (own := RX9) (ini := false) (by decide +kernel) rfl (fun h => nomatch h) rfl ?_
  show AW g l (axRm (0) 0 0) mt_X9_status (axMQ g 0 0 (.inl (some (.int r9)), S9)) 0 0 S 0 [(0, .ref v0), (1, .int v1)] []
  unfold F_X9_status at h
  refine aw_iload_n 1 dX9_status_0 rfl rfl ?_
  refine aw_case 0 h (fun h => ?_) (fun c2 h => ?_)
  · refine aw_lsw 28 (off := 27) dX9_status_1 (by decide) (by decide) (by decide) ?_
    refine aw_aload_n 0 dX9_status_28 rfl rfl ?_
    refine aw_getI axc9 14 rfl rfl wd_467 dX9_status_29 h (fun x1 h => ?_)
    exact aw_iret dX9_status_32 rfl (Nat.le_refl _) (Nat.le_refl _) h
  refine aw_case 1 h (fun h => ?_) (fun c4 h => ?_)
  · refine aw_lsw 33 (off := 32) dX9_status_1 (by decide) (by decide) (by decide) ?_
    refine aw_aload_n 0 dX9_status_33 rfl rfl ?_
    refine aw_getI axc9 15 rfl rfl wd_468 dX9_status_34 h (fun x3 h => ?_)
    exact aw_iret dX9_status_37 rfl (Nat.le_refl _) (Nat.le_refl _) h
  refine aw_lsw 38 (off := 37) dX9_status_1 (by decide) (by show Op.lookupswitch.offset [(0, 27), (1, 32)] 37 _ = _; rw [lv_osw c2 (by decide), lv_osw c4 (by decide)]; rfl) (by decide) ?_
  refine aw_iconst (-1) dX9_status_38 rfl ?_
  exact aw_iret dX9_status_39 rfl (Nat.le_refl _) (Nat.le_refl _) h

theorem dX9_kept_0 : decode cX9_kept 0 = .ok (.iload_n 1, 1) := by decide +kernel
theorem dX9_kept_1 : decode cX9_kept 1 = .ok (.tableswitch 48 0 2 #[27, 32, 40], 27) := by decide +kernel
theorem dX9_kept_28 : decode cX9_kept 28 = .ok (.aload_n 0, 1) := by decide +kernel
theorem dX9_kept_29 : decode cX9_kept 29 = .ok (.getfield 115, 3) := by decide +kernel
theorem dX9_kept_32 : decode cX9_kept 32 = .ok (.ireturn, 1) := by decide +kernel
theorem dX9_kept_33 : decode cX9_kept 33 = .ok (.aload_n 0, 1) := by decide +kernel
theorem dX9_kept_34 : decode cX9_kept 34 = .ok (.getfield 10, 3) := by decide +kernel
theorem dX9_kept_37 : decode cX9_kept 37 = .ok (.getfield 121, 3) := by decide +kernel
theorem dX9_kept_40 : decode cX9_kept 40 = .ok (.ireturn, 1) := by decide +kernel
theorem dX9_kept_41 : decode cX9_kept 41 = .ok (.aload_n 0, 1) := by decide +kernel
theorem dX9_kept_42 : decode cX9_kept 42 = .ok (.getfield 66, 3) := by decide +kernel
theorem dX9_kept_45 : decode cX9_kept 45 = .ok (.getfield 111, 3) := by decide +kernel
theorem dX9_kept_48 : decode cX9_kept 48 = .ok (.ireturn, 1) := by decide +kernel
theorem dX9_kept_49 : decode cX9_kept 49 = .ok (.iconst (-1), 1) := by decide +kernel
theorem dX9_kept_50 : decode cX9_kept 50 = .ok (.ireturn, 1) := by decide +kernel
abbrev mt_X9_kept : AxM := (RX9, cX9_kept, 2, (some .int), false, [])
theorem L1_X9_kept {g : AxG} {l : Launch} (N : Nat) {v0 : Nat} {v1 : Int32} {S : AxS} {r9 : Int32} {S9 : AxS} (h : F_X9_kept N v0 v1 S = some ((r9, S9))) : AxMet g l yX9_kept cX9_kept 2 (some .int) (0) 0 0 [.ref v0, .int v1] S ((.inl (some (.int r9)), S9)) := by
  refine ax_met (own := RX9) (ini := false) (by decide +kernel) rfl (fun h => nomatch h) rfl ?_
  show AW g l (axRm (0) 0 0) mt_X9_kept (axMQ g 0 0 (.inl (some (.int r9)), S9)) 0 0 S 0 [(0, .ref v0), (1, .int v1)] []
  unfold F_X9_kept at h
  refine aw_iload_n 1 dX9_kept_0 rfl rfl ?_
  refine aw_case 0 h (fun h => ?_) (fun c2 h => ?_)
  · refine aw_tswIn 28 (off := 27) dX9_kept_1 (by decide) (by decide) (by decide) (by decide) ?_
    refine aw_aload_n 0 dX9_kept_28 rfl rfl ?_
    refine aw_getI axc9 12 rfl rfl wd_465 dX9_kept_29 h (fun x1 h => ?_)
    exact aw_iret dX9_kept_32 rfl (Nat.le_refl _) (Nat.le_refl _) h
  refine aw_case 1 h (fun h => ?_) (fun c5 h => ?_)
  · refine aw_tswIn 33 (off := 32) dX9_kept_1 (by decide) (by decide) (by decide) (by decide) ?_
    refine aw_aload_n 0 dX9_kept_33 rfl rfl ?_
    refine aw_getR axc9 0 rfl rfl wd_453 dX9_kept_34 h (fun a3 h => ?_)
    refine aw_getI axc7 1 rfl rfl wd_125 dX9_kept_37 h (fun x4 h => ?_)
    exact aw_iret dX9_kept_40 rfl (Nat.le_refl _) (Nat.le_refl _) h
  refine aw_case 2 h (fun h => ?_) (fun c8 h => ?_)
  · refine aw_tswIn 41 (off := 40) dX9_kept_1 (by decide) (by decide) (by decide) (by decide) ?_
    refine aw_aload_n 0 dX9_kept_41 rfl rfl ?_
    refine aw_getR axc9 10 rfl rfl wd_463 dX9_kept_42 h (fun a6 h => ?_)
    refine aw_getI axc8 1 rfl rfl wd_360 dX9_kept_45 h (fun x7 h => ?_)
    exact aw_iret dX9_kept_48 rfl (Nat.le_refl _) (Nat.le_refl _) h
  refine aw_tswOut 49 dX9_kept_1 (by have q0 := ax_i32ne c2 (v := 0) (i := 0) (by decide); have q1 := ax_i32ne c5 (v := 1) (i := 1) (by decide); have q2 := ax_i32ne c8 (v := 2) (i := 2) (by decide); omega) (by decide) ?_
  refine aw_iconst (-1) dX9_kept_49 rfl ?_
  exact aw_iret dX9_kept_50 rfl (Nat.le_refl _) (Nat.le_refl _) h
