theorem dL_abbey_0 : decode cL_abbey 0 = .ok (.aload_n 2, 1) := by decide +kernel
theorem dL_abbey_1 : decode cL_abbey 1 = .ok (.iconst 0, 1) := by decide +kernel
theorem dL_abbey_2 : decode cL_abbey 2 = .ok (.aload_n 0, 1) := by decide +kernel
theorem dL_abbey_3 : decode cL_abbey 3 = .ok (.iload_n 1, 1) := by decide +kernel
theorem dL_abbey_4 : decode cL_abbey 4 = .ok (.invokevirtual 7, 3) := by decide +kernel
theorem dL_abbey_7 : decode cL_abbey 7 = .ok (.i2l, 1) := by decide +kernel
theorem dL_abbey_8 : decode cL_abbey 8 = .ok (.lastore, 1) := by decide +kernel
theorem dL_abbey_9 : decode cL_abbey 9 = .ok (.goto 6, 3) := by decide +kernel
theorem dL_abbey_12 : decode cL_abbey 12 = .ok (.astore_n 3, 1) := by decide +kernel
theorem dL_abbey_13 : decode cL_abbey 13 = .ok (.iconst 1, 1) := by decide +kernel
theorem dL_abbey_14 : decode cL_abbey 14 = .ok (.ireturn, 1) := by decide +kernel
theorem dL_abbey_15 : decode cL_abbey 15 = .ok (.iconst 0, 1) := by decide +kernel
theorem dL_abbey_16 : decode cL_abbey 16 = .ok (.ireturn, 1) := by decide +kernel
abbrev mt_L_abbey : AxM := (RL, cL_abbey, 4, (some .int), false, [(0, 9, 12, 13)])
theorem L1_L_abbey {g : AxG} {l : Launch} (hl0 : l.stackTraces = false) (N : Nat) {v0 : Nat} {v1 : Int32} {v2 : Nat} {S : AxS} {r9 : Int32} {S9 : AxS} (h : F_L_abbey N v0 v1 v2 S = some ((r9, S9))) : AxMetH g l yL_abbey cL_abbey 4 (some .int) [(0, 9, 12, 13)] (10) 1 6 [.ref v0, .int v1, .ref v2] S ((.inl (some (.int r9)), S9)) := by
  refine ax_metH (own := RL) (by decide +kernel) rfl rfl ?_
  show AW g l (axRm (10) 1 6) mt_L_abbey (axMQ g 1 6 (.inl (some (.int r9)), S9)) 0 0 S 0 [(0, .ref v0), (1, .int v1), (2, .ref v2)] []
  unfold F_L_abbey at h
  refine aw_aload_n 2 dL_abbey_0 rfl rfl ?_
  refine aw_iconst 0 dL_abbey_1 rfl ?_
  refine aw_aload_n 0 dL_abbey_2 rfl rfl ?_
  refine aw_iload_n 1 dL_abbey_3 rfl rfl ?_
  obtain ⟨hL1, h⟩ := ax_is_spec h
  refine aw_tryI (rest := [.int 0, .ref v2]) h (fun u9 hF => aw_runV (As := [.int v1]) (rest := [.int 0, .ref v2]) (L1_X9_abbey hl0 N hF) axc9 hL1 wd_600 wd_597 wd_598 wd_599 wd_87 pd_X9_abbey rfl (ax_rm (by omega) rfl) ax_hfX (Nat.le_of_ble_eq_true rfl) rfl dL_abbey_4) (fun x3 T2 h => ?_) (fun E9 T2 h => ?_)
  · refine aw_i2l dL_abbey_7 ?_
    refine aw_last dL_abbey_8 h (fun T4 h => ?_)
    refine aw_goto 15 dL_abbey_9 (by decide) ?_
    refine aw_iconst 0 dL_abbey_15 rfl ?_
    exact aw_iret dL_abbey_16 rfl (Nat.le_of_ble_eq_true rfl) (Nat.le_of_ble_eq_true rfl) h
  · by_cases e0 : E9 = "java/lang/IllegalArgumentException"
    · rw [if_pos e0] at h
      refine aw_caught (name := "java/lang/IllegalArgumentException") [] ⟨0, 9, 12, 13⟩ [] rfl (fun z hz => nomatch hz) rfl (by decide) wd_596 (by rw [e0]; exact cast_iae) (fun q => ?_)
      refine aw_astore_n 3 [(3, .ref q), (0, .ref v0), (1, .int v1), (2, .ref v2)] dL_abbey_12 rfl rfl rfl ?_
      refine aw_iconst 1 dL_abbey_13 rfl ?_
      exact aw_iret dL_abbey_14 rfl (Nat.le_of_ble_eq_true rfl) (Nat.le_of_ble_eq_true rfl) h
    · rw [if_neg e0] at h
      cases h

theorem dL_law_0 : decode cL_law 0 = .ok (.aload_n 2, 1) := by decide +kernel
theorem dL_law_1 : decode cL_law 1 = .ok (.iconst 0, 1) := by decide +kernel
theorem dL_law_2 : decode cL_law 2 = .ok (.aload_n 0, 1) := by decide +kernel
theorem dL_law_3 : decode cL_law 3 = .ok (.iload_n 1, 1) := by decide +kernel
theorem dL_law_4 : decode cL_law 4 = .ok (.invokevirtual 15, 3) := by decide +kernel
theorem dL_law_7 : decode cL_law 7 = .ok (.i2l, 1) := by decide +kernel
theorem dL_law_8 : decode cL_law 8 = .ok (.lastore, 1) := by decide +kernel
theorem dL_law_9 : decode cL_law 9 = .ok (.goto 6, 3) := by decide +kernel
theorem dL_law_12 : decode cL_law 12 = .ok (.astore_n 3, 1) := by decide +kernel
theorem dL_law_13 : decode cL_law 13 = .ok (.iconst 1, 1) := by decide +kernel
theorem dL_law_14 : decode cL_law 14 = .ok (.ireturn, 1) := by decide +kernel
theorem dL_law_15 : decode cL_law 15 = .ok (.iconst 0, 1) := by decide +kernel
theorem dL_law_16 : decode cL_law 16 = .ok (.ireturn, 1) := by decide +kernel
abbrev mt_L_law : AxM := (RL, cL_law, 4, (some .int), false, [(0, 9, 12, 13)])
theorem L1_L_law {g : AxG} {l : Launch} (hl0 : l.stackTraces = false) (N : Nat) {v0 : Nat} {v1 : Int32} {v2 : Nat} {S : AxS} {r9 : Int32} {S9 : AxS} (h : F_L_law N v0 v1 v2 S = some ((r9, S9))) : AxMetH g l yL_law cL_law 4 (some .int) [(0, 9, 12, 13)] (75) 1 6 [.ref v0, .int v1, .ref v2] S ((.inl (some (.int r9)), S9)) := by
  refine ax_metH (own := RL) (by decide +kernel) rfl rfl ?_
  show AW g l (axRm (75) 1 6) mt_L_law (axMQ g 1 6 (.inl (some (.int r9)), S9)) 0 0 S 0 [(0, .ref v0), (1, .int v1), (2, .ref v2)] []
  unfold F_L_law at h
  refine aw_aload_n 2 dL_law_0 rfl rfl ?_
  refine aw_iconst 0 dL_law_1 rfl ?_
  refine aw_aload_n 0 dL_law_2 rfl rfl ?_
  refine aw_iload_n 1 dL_law_3 rfl rfl ?_
  obtain ⟨hL1, h⟩ := ax_is_spec h
  refine aw_tryI (rest := [.int 0, .ref v2]) h (fun u9 hF => aw_runV (As := [.int v1]) (rest := [.int 0, .ref v2]) (L1_X9_law hl0 N hF) axc9 hL1 wd_790 wd_787 wd_788 wd_789 wd_87 pd_X9_law rfl (ax_rm (by omega) rfl) ax_hfX (Nat.le_of_ble_eq_true rfl) rfl dL_law_4) (fun x3 T2 h => ?_) (fun E9 T2 h => ?_)
  · refine aw_i2l dL_law_7 ?_
    refine aw_last dL_law_8 h (fun T4 h => ?_)
    refine aw_goto 15 dL_law_9 (by decide) ?_
    refine aw_iconst 0 dL_law_15 rfl ?_
    exact aw_iret dL_law_16 rfl (Nat.le_of_ble_eq_true rfl) (Nat.le_of_ble_eq_true rfl) h
  · by_cases e0 : E9 = "java/lang/IllegalArgumentException"
    · rw [if_pos e0] at h
      refine aw_caught (name := "java/lang/IllegalArgumentException") [] ⟨0, 9, 12, 13⟩ [] rfl (fun z hz => nomatch hz) rfl (by decide) wd_596 (by rw [e0]; exact cast_iae) (fun q => ?_)
      refine aw_astore_n 3 [(3, .ref q), (0, .ref v0), (1, .int v1), (2, .ref v2)] dL_law_12 rfl rfl rfl ?_
      refine aw_iconst 1 dL_law_13 rfl ?_
      exact aw_iret dL_law_14 rfl (Nat.le_of_ble_eq_true rfl) (Nat.le_of_ble_eq_true rfl) h
    · rw [if_neg e0] at h
      cases h

theorem dL_work_0 : decode cL_work 0 = .ok (.aload_n 2, 1) := by decide +kernel
theorem dL_work_1 : decode cL_work 1 = .ok (.iconst 0, 1) := by decide +kernel
theorem dL_work_2 : decode cL_work 2 = .ok (.aload_n 0, 1) := by decide +kernel
theorem dL_work_3 : decode cL_work 3 = .ok (.iload_n 1, 1) := by decide +kernel
theorem dL_work_4 : decode cL_work 4 = .ok (.invokevirtual 18, 3) := by decide +kernel
theorem dL_work_7 : decode cL_work 7 = .ok (.i2l, 1) := by decide +kernel
theorem dL_work_8 : decode cL_work 8 = .ok (.lastore, 1) := by decide +kernel
theorem dL_work_9 : decode cL_work 9 = .ok (.goto 6, 3) := by decide +kernel
theorem dL_work_12 : decode cL_work 12 = .ok (.astore_n 3, 1) := by decide +kernel
theorem dL_work_13 : decode cL_work 13 = .ok (.iconst 1, 1) := by decide +kernel
theorem dL_work_14 : decode cL_work 14 = .ok (.ireturn, 1) := by decide +kernel
theorem dL_work_15 : decode cL_work 15 = .ok (.iconst 0, 1) := by decide +kernel
theorem dL_work_16 : decode cL_work 16 = .ok (.ireturn, 1) := by decide +kernel
abbrev mt_L_work : AxM := (RL, cL_work, 4, (some .int), false, [(0, 9, 12, 13)])
theorem L1_L_work {g : AxG} {l : Launch} (hl0 : l.stackTraces = false) (N : Nat) {v0 : Nat} {v1 : Int32} {v2 : Nat} {S : AxS} {r9 : Int32} {S9 : AxS} (h : F_L_work N v0 v1 v2 S = some ((r9, S9))) : AxMetH g l yL_work cL_work 4 (some .int) [(0, 9, 12, 13)] (66) 1 6 [.ref v0, .int v1, .ref v2] S ((.inl (some (.int r9)), S9)) := by
  refine ax_metH (own := RL) (by decide +kernel) rfl rfl ?_
  show AW g l (axRm (66) 1 6) mt_L_work (axMQ g 1 6 (.inl (some (.int r9)), S9)) 0 0 S 0 [(0, .ref v0), (1, .int v1), (2, .ref v2)] []
  unfold F_L_work at h
  refine aw_aload_n 2 dL_work_0 rfl rfl ?_
  refine aw_iconst 0 dL_work_1 rfl ?_
  refine aw_aload_n 0 dL_work_2 rfl rfl ?_
  refine aw_iload_n 1 dL_work_3 rfl rfl ?_
  obtain ⟨hL1, h⟩ := ax_is_spec h
  refine aw_tryI (rest := [.int 0, .ref v2]) h (fun u9 hF => aw_runV (As := [.int v1]) (rest := [.int 0, .ref v2]) (L1_X9_work hl0 N hF) axc9 hL1 wd_832 wd_829 wd_830 wd_831 wd_87 pd_X9_work rfl (ax_rm (by omega) rfl) ax_hfX (Nat.le_of_ble_eq_true rfl) rfl dL_work_4) (fun x3 T2 h => ?_) (fun E9 T2 h => ?_)
  · refine aw_i2l dL_work_7 ?_
    refine aw_last dL_work_8 h (fun T4 h => ?_)
    refine aw_goto 15 dL_work_9 (by decide) ?_
    refine aw_iconst 0 dL_work_15 rfl ?_
    exact aw_iret dL_work_16 rfl (Nat.le_of_ble_eq_true rfl) (Nat.le_of_ble_eq_true rfl) h
  · by_cases e0 : E9 = "java/lang/IllegalArgumentException"
    · rw [if_pos e0] at h
      refine aw_caught (name := "java/lang/IllegalArgumentException") [] ⟨0, 9, 12, 13⟩ [] rfl (fun z hz => nomatch hz) rfl (by decide) wd_596 (by rw [e0]; exact cast_iae) (fun q => ?_)
      refine aw_astore_n 3 [(3, .ref q), (0, .ref v0), (1, .int v1), (2, .ref v2)] dL_work_12 rfl rfl rfl ?_
      refine aw_iconst 1 dL_work_13 rfl ?_
      exact aw_iret dL_work_14 rfl (Nat.le_of_ble_eq_true rfl) (Nat.le_of_ble_eq_true rfl) h
    · rw [if_neg e0] at h
      cases h

theorem dL_book_0 : decode cL_book 0 = .ok (.aload_n 2, 1) := by decide +kernel
theorem dL_book_1 : decode cL_book 1 = .ok (.iconst 0, 1) := by decide +kernel
theorem dL_book_2 : decode cL_book 2 = .ok (.aload_n 0, 1) := by decide +kernel
theorem dL_book_3 : decode cL_book 3 = .ok (.iload_n 1, 1) := by decide +kernel
theorem dL_book_4 : decode cL_book 4 = .ok (.invokevirtual 21, 3) := by decide +kernel
theorem dL_book_7 : decode cL_book 7 = .ok (.i2l, 1) := by decide +kernel
theorem dL_book_8 : decode cL_book 8 = .ok (.lastore, 1) := by decide +kernel
theorem dL_book_9 : decode cL_book 9 = .ok (.goto 6, 3) := by decide +kernel
theorem dL_book_12 : decode cL_book 12 = .ok (.astore_n 3, 1) := by decide +kernel
theorem dL_book_13 : decode cL_book 13 = .ok (.iconst 1, 1) := by decide +kernel
theorem dL_book_14 : decode cL_book 14 = .ok (.ireturn, 1) := by decide +kernel
theorem dL_book_15 : decode cL_book 15 = .ok (.iconst 0, 1) := by decide +kernel
theorem dL_book_16 : decode cL_book 16 = .ok (.ireturn, 1) := by decide +kernel
abbrev mt_L_book : AxM := (RL, cL_book, 4, (some .int), false, [(0, 9, 12, 13)])
theorem L1_L_book {g : AxG} {l : Launch} (hl0 : l.stackTraces = false) (N : Nat) {v0 : Nat} {v1 : Int32} {v2 : Nat} {S : AxS} {r9 : Int32} {S9 : AxS} (h : F_L_book N v0 v1 v2 S = some ((r9, S9))) : AxMetH g l yL_book cL_book 4 (some .int) [(0, 9, 12, 13)] (10) 1 6 [.ref v0, .int v1, .ref v2] S ((.inl (some (.int r9)), S9)) := by
  refine ax_metH (own := RL) (by decide +kernel) rfl rfl ?_
  show AW g l (axRm (10) 1 6) mt_L_book (axMQ g 1 6 (.inl (some (.int r9)), S9)) 0 0 S 0 [(0, .ref v0), (1, .int v1), (2, .ref v2)] []
  unfold F_L_book at h
  refine aw_aload_n 2 dL_book_0 rfl rfl ?_
  refine aw_iconst 0 dL_book_1 rfl ?_
  refine aw_aload_n 0 dL_book_2 rfl rfl ?_
  refine aw_iload_n 1 dL_book_3 rfl rfl ?_
  obtain ⟨hL1, h⟩ := ax_is_spec h
  refine aw_tryI (rest := [.int 0, .ref v2]) h (fun u9 hF => aw_runV (As := [.int v1]) (rest := [.int 0, .ref v2]) (L1_X9_book hl0 N hF) axc9 hL1 wd_934 wd_931 wd_932 wd_933 wd_87 pd_X9_book rfl (ax_rm (by omega) rfl) ax_hfX (Nat.le_of_ble_eq_true rfl) rfl dL_book_4) (fun x3 T2 h => ?_) (fun E9 T2 h => ?_)
  · refine aw_i2l dL_book_7 ?_
    refine aw_last dL_book_8 h (fun T4 h => ?_)
    refine aw_goto 15 dL_book_9 (by decide) ?_
    refine aw_iconst 0 dL_book_15 rfl ?_
    exact aw_iret dL_book_16 rfl (Nat.le_of_ble_eq_true rfl) (Nat.le_of_ble_eq_true rfl) h
  · by_cases e0 : E9 = "java/lang/IllegalArgumentException"
    · rw [if_pos e0] at h
      refine aw_caught (name := "java/lang/IllegalArgumentException") [] ⟨0, 9, 12, 13⟩ [] rfl (fun z hz => nomatch hz) rfl (by decide) wd_596 (by rw [e0]; exact cast_iae) (fun q => ?_)
      refine aw_astore_n 3 [(3, .ref q), (0, .ref v0), (1, .int v1), (2, .ref v2)] dL_book_12 rfl rfl rfl ?_
      refine aw_iconst 1 dL_book_13 rfl ?_
      exact aw_iret dL_book_14 rfl (Nat.le_of_ble_eq_true rfl) (Nat.le_of_ble_eq_true rfl) h
    · rw [if_neg e0] at h
      cases h

theorem dL_told_0 : decode cL_told 0 = .ok (.aload_n 2, 1) := by decide +kernel
theorem dL_told_1 : decode cL_told 1 = .ok (.iconst 0, 1) := by decide +kernel
theorem dL_told_2 : decode cL_told 2 = .ok (.aload_n 0, 1) := by decide +kernel
theorem dL_told_3 : decode cL_told 3 = .ok (.iload_n 1, 1) := by decide +kernel
theorem dL_told_4 : decode cL_told 4 = .ok (.invokevirtual 24, 3) := by decide +kernel
theorem dL_told_7 : decode cL_told 7 = .ok (.i2l, 1) := by decide +kernel
theorem dL_told_8 : decode cL_told 8 = .ok (.lastore, 1) := by decide +kernel
theorem dL_told_9 : decode cL_told 9 = .ok (.goto 6, 3) := by decide +kernel
theorem dL_told_12 : decode cL_told 12 = .ok (.astore_n 3, 1) := by decide +kernel
theorem dL_told_13 : decode cL_told 13 = .ok (.iconst 1, 1) := by decide +kernel
theorem dL_told_14 : decode cL_told 14 = .ok (.ireturn, 1) := by decide +kernel
theorem dL_told_15 : decode cL_told 15 = .ok (.iconst 0, 1) := by decide +kernel
theorem dL_told_16 : decode cL_told 16 = .ok (.ireturn, 1) := by decide +kernel
abbrev mt_L_told : AxM := (RL, cL_told, 4, (some .int), false, [(0, 9, 12, 13)])
theorem L1_L_told {g : AxG} {l : Launch} (hl0 : l.stackTraces = false) (N : Nat) {v0 : Nat} {v1 : Int32} {v2 : Nat} {S : AxS} {r9 : Int32} {S9 : AxS} (h : F_L_told N v0 v1 v2 S = some ((r9, S9))) : AxMetH g l yL_told cL_told 4 (some .int) [(0, 9, 12, 13)] (10) 1 6 [.ref v0, .int v1, .ref v2] S ((.inl (some (.int r9)), S9)) := by
  refine ax_metH (own := RL) (by decide +kernel) rfl rfl ?_
  show AW g l (axRm (10) 1 6) mt_L_told (axMQ g 1 6 (.inl (some (.int r9)), S9)) 0 0 S 0 [(0, .ref v0), (1, .int v1), (2, .ref v2)] []
  unfold F_L_told at h
  refine aw_aload_n 2 dL_told_0 rfl rfl ?_
  refine aw_iconst 0 dL_told_1 rfl ?_
  refine aw_aload_n 0 dL_told_2 rfl rfl ?_
  refine aw_iload_n 1 dL_told_3 rfl rfl ?_
  obtain ⟨hL1, h⟩ := ax_is_spec h
  refine aw_tryI (rest := [.int 0, .ref v2]) h (fun u9 hF => aw_runV (As := [.int v1]) (rest := [.int 0, .ref v2]) (L1_X9_told hl0 N hF) axc9 hL1 wd_956 wd_953 wd_954 wd_955 wd_87 pd_X9_told rfl (ax_rm (by omega) rfl) ax_hfX (Nat.le_of_ble_eq_true rfl) rfl dL_told_4) (fun x3 T2 h => ?_) (fun E9 T2 h => ?_)
  · refine aw_i2l dL_told_7 ?_
    refine aw_last dL_told_8 h (fun T4 h => ?_)
    refine aw_goto 15 dL_told_9 (by decide) ?_
    refine aw_iconst 0 dL_told_15 rfl ?_
    exact aw_iret dL_told_16 rfl (Nat.le_of_ble_eq_true rfl) (Nat.le_of_ble_eq_true rfl) h
  · by_cases e0 : E9 = "java/lang/IllegalArgumentException"
    · rw [if_pos e0] at h
      refine aw_caught (name := "java/lang/IllegalArgumentException") [] ⟨0, 9, 12, 13⟩ [] rfl (fun z hz => nomatch hz) rfl (by decide) wd_596 (by rw [e0]; exact cast_iae) (fun q => ?_)
      refine aw_astore_n 3 [(3, .ref q), (0, .ref v0), (1, .int v1), (2, .ref v2)] dL_told_12 rfl rfl rfl ?_
      refine aw_iconst 1 dL_told_13 rfl ?_
      exact aw_iret dL_told_14 rfl (Nat.le_of_ble_eq_true rfl) (Nat.le_of_ble_eq_true rfl) h
    · rw [if_neg e0] at h
      cases h

theorem dL_many_0 : decode cL_many 0 = .ok (.aload_n 2, 1) := by decide +kernel
theorem dL_many_1 : decode cL_many 1 = .ok (.iconst 0, 1) := by decide +kernel
theorem dL_many_2 : decode cL_many 2 = .ok (.aload_n 0, 1) := by decide +kernel
theorem dL_many_3 : decode cL_many 3 = .ok (.iload_n 1, 1) := by decide +kernel
theorem dL_many_4 : decode cL_many 4 = .ok (.invokevirtual 27, 3) := by decide +kernel
theorem dL_many_7 : decode cL_many 7 = .ok (.i2l, 1) := by decide +kernel
theorem dL_many_8 : decode cL_many 8 = .ok (.lastore, 1) := by decide +kernel
theorem dL_many_9 : decode cL_many 9 = .ok (.goto 6, 3) := by decide +kernel
theorem dL_many_12 : decode cL_many 12 = .ok (.astore_n 3, 1) := by decide +kernel
theorem dL_many_13 : decode cL_many 13 = .ok (.iconst 1, 1) := by decide +kernel
theorem dL_many_14 : decode cL_many 14 = .ok (.ireturn, 1) := by decide +kernel
theorem dL_many_15 : decode cL_many 15 = .ok (.iconst 0, 1) := by decide +kernel
theorem dL_many_16 : decode cL_many 16 = .ok (.ireturn, 1) := by decide +kernel
abbrev mt_L_many : AxM := (RL, cL_many, 4, (some .int), false, [(0, 9, 12, 13)])
theorem L1_L_many {g : AxG} {l : Launch} (hl0 : l.stackTraces = false) (N : Nat) {v0 : Nat} {v1 : Int32} {v2 : Nat} {S : AxS} {r9 : Int32} {S9 : AxS} (h : F_L_many N v0 v1 v2 S = some ((r9, S9))) : AxMetH g l yL_many cL_many 4 (some .int) [(0, 9, 12, 13)] (10) 1 6 [.ref v0, .int v1, .ref v2] S ((.inl (some (.int r9)), S9)) := by
  refine ax_metH (own := RL) (by decide +kernel) rfl rfl ?_
  show AW g l (axRm (10) 1 6) mt_L_many (axMQ g 1 6 (.inl (some (.int r9)), S9)) 0 0 S 0 [(0, .ref v0), (1, .int v1), (2, .ref v2)] []
  unfold F_L_many at h
  refine aw_aload_n 2 dL_many_0 rfl rfl ?_
  refine aw_iconst 0 dL_many_1 rfl ?_
  refine aw_aload_n 0 dL_many_2 rfl rfl ?_
  refine aw_iload_n 1 dL_many_3 rfl rfl ?_
  obtain ⟨hL1, h⟩ := ax_is_spec h
  refine aw_tryI (rest := [.int 0, .ref v2]) h (fun u9 hF => aw_runV (As := [.int v1]) (rest := [.int 0, .ref v2]) (L1_X9_many hl0 N hF) axc9 hL1 wd_963 wd_960 wd_961 wd_962 wd_87 pd_X9_many rfl (ax_rm (by omega) rfl) ax_hfX (Nat.le_of_ble_eq_true rfl) rfl dL_many_4) (fun x3 T2 h => ?_) (fun E9 T2 h => ?_)
  · refine aw_i2l dL_many_7 ?_
    refine aw_last dL_many_8 h (fun T4 h => ?_)
    refine aw_goto 15 dL_many_9 (by decide) ?_
    refine aw_iconst 0 dL_many_15 rfl ?_
    exact aw_iret dL_many_16 rfl (Nat.le_of_ble_eq_true rfl) (Nat.le_of_ble_eq_true rfl) h
  · by_cases e0 : E9 = "java/lang/IllegalArgumentException"
    · rw [if_pos e0] at h
      refine aw_caught (name := "java/lang/IllegalArgumentException") [] ⟨0, 9, 12, 13⟩ [] rfl (fun z hz => nomatch hz) rfl (by decide) wd_596 (by rw [e0]; exact cast_iae) (fun q => ?_)
      refine aw_astore_n 3 [(3, .ref q), (0, .ref v0), (1, .int v1), (2, .ref v2)] dL_many_12 rfl rfl rfl ?_
      refine aw_iconst 1 dL_many_13 rfl ?_
      exact aw_iret dL_many_14 rfl (Nat.le_of_ble_eq_true rfl) (Nat.le_of_ble_eq_true rfl) h
    · rw [if_neg e0] at h
      cases h

theorem dL_monk_0 : decode cL_monk 0 = .ok (.aload_n 3, 1) := by decide +kernel
theorem dL_monk_1 : decode cL_monk 1 = .ok (.iconst 0, 1) := by decide +kernel
theorem dL_monk_2 : decode cL_monk 2 = .ok (.aload_n 0, 1) := by decide +kernel
theorem dL_monk_3 : decode cL_monk 3 = .ok (.iload_n 1, 1) := by decide +kernel
theorem dL_monk_4 : decode cL_monk 4 = .ok (.iload_n 2, 1) := by decide +kernel
theorem dL_monk_5 : decode cL_monk 5 = .ok (.invokevirtual 30, 3) := by decide +kernel
theorem dL_monk_8 : decode cL_monk 8 = .ok (.i2l, 1) := by decide +kernel
theorem dL_monk_9 : decode cL_monk 9 = .ok (.lastore, 1) := by decide +kernel
theorem dL_monk_10 : decode cL_monk 10 = .ok (.goto 11, 3) := by decide +kernel
theorem dL_monk_13 : decode cL_monk 13 = .ok (.astore 4, 2) := by decide +kernel
theorem dL_monk_15 : decode cL_monk 15 = .ok (.iconst 1, 1) := by decide +kernel
theorem dL_monk_16 : decode cL_monk 16 = .ok (.ireturn, 1) := by decide +kernel
theorem dL_monk_17 : decode cL_monk 17 = .ok (.astore 4, 2) := by decide +kernel
theorem dL_monk_19 : decode cL_monk 19 = .ok (.iconst 2, 1) := by decide +kernel
theorem dL_monk_20 : decode cL_monk 20 = .ok (.ireturn, 1) := by decide +kernel
theorem dL_monk_21 : decode cL_monk 21 = .ok (.iconst 0, 1) := by decide +kernel
theorem dL_monk_22 : decode cL_monk 22 = .ok (.ireturn, 1) := by decide +kernel
abbrev mt_L_monk : AxM := (RL, cL_monk, 5, (some .int), false, [(0, 10, 13, 34), (0, 10, 17, 13)])
theorem L1_L_monk {g : AxG} {l : Launch} (hl0 : l.stackTraces = false) (N : Nat) {v0 : Nat} {v1 : Int32} {v2 : Int32} {v3 : Nat} {S : AxS} {r9 : Int32} {S9 : AxS} (h : F_L_monk N v0 v1 v2 v3 S = some ((r9, S9))) : AxMetH g l yL_monk cL_monk 5 (some .int) [(0, 10, 13, 34), (0, 10, 17, 13)] (10) 1 6 [.ref v0, .int v1, .int v2, .ref v3] S ((.inl (some (.int r9)), S9)) := by
  refine ax_metH (own := RL) (by decide +kernel) rfl rfl ?_
  show AW g l (axRm (10) 1 6) mt_L_monk (axMQ g 1 6 (.inl (some (.int r9)), S9)) 0 0 S 0 [(0, .ref v0), (1, .int v1), (2, .int v2), (3, .ref v3)] []
  unfold F_L_monk at h
  refine aw_aload_n 3 dL_monk_0 rfl rfl ?_
  refine aw_iconst 0 dL_monk_1 rfl ?_
  refine aw_aload_n 0 dL_monk_2 rfl rfl ?_
  refine aw_iload_n 1 dL_monk_3 rfl rfl ?_
  refine aw_iload_n 2 dL_monk_4 rfl rfl ?_
  obtain ⟨hL1, h⟩ := ax_is_spec h
  refine aw_tryI (rest := [.int 0, .ref v3]) h (fun u9 hF => aw_runV (As := [.int v1, .int v2]) (rest := [.int 0, .ref v3]) (L1_X9_monk hl0 N hF) axc9 hL1 wd_971 wd_968 wd_969 wd_970 wd_87 pd_X9_monk rfl (ax_rm (by omega) rfl) ax_hfX (Nat.le_of_ble_eq_true rfl) rfl dL_monk_5) (fun x3 T2 h => ?_) (fun E9 T2 h => ?_)
  · refine aw_i2l dL_monk_8 ?_
    refine aw_last dL_monk_9 h (fun T4 h => ?_)
    refine aw_goto 21 dL_monk_10 (by decide) ?_
    refine aw_iconst 0 dL_monk_21 rfl ?_
    exact aw_iret dL_monk_22 rfl (Nat.le_of_ble_eq_true rfl) (Nat.le_of_ble_eq_true rfl) h
  · by_cases e0 : E9 = "java/util/NoSuchElementException"
    · rw [if_pos e0] at h
      refine aw_caught (name := "java/util/NoSuchElementException") [] ⟨0, 10, 13, 34⟩ [⟨0, 10, 17, 13⟩] rfl (fun z hz => nomatch hz) rfl (by decide) wd_967 (by rw [e0]; exact cast_nse) (fun q => ?_)
      refine aw_astore [(4, .ref q), (0, .ref v0), (1, .int v1), (2, .int v2), (3, .ref v3)] dL_monk_13 rfl rfl ?_
      refine aw_iconst 1 dL_monk_15 rfl ?_
      exact aw_iret dL_monk_16 rfl (Nat.le_of_ble_eq_true rfl) (Nat.le_of_ble_eq_true rfl) h
    · rw [if_neg e0] at h
      by_cases e1 : E9 = "java/lang/IllegalArgumentException"
      · rw [if_pos e1] at h
        refine aw_caught (name := "java/lang/IllegalArgumentException") [⟨0, 10, 13, 34⟩] ⟨0, 10, 17, 13⟩ [] rfl (fun z hz => by rw [List.mem_singleton.mp hz]; exact ⟨by decide, wd_967, e1⟩) rfl (by decide) wd_596 (by rw [e1]; exact cast_iae) (fun q => ?_)
        refine aw_astore [(4, .ref q), (0, .ref v0), (1, .int v1), (2, .int v2), (3, .ref v3)] dL_monk_17 rfl rfl ?_
        refine aw_iconst 2 dL_monk_19 rfl ?_
        exact aw_iret dL_monk_20 rfl (Nat.le_of_ble_eq_true rfl) (Nat.le_of_ble_eq_true rfl) h
      · rw [if_neg e1] at h
        cases h

theorem dL_village_0 : decode cL_village 0 = .ok (.aload_n 3, 1) := by decide +kernel
theorem dL_village_1 : decode cL_village 1 = .ok (.iconst 0, 1) := by decide +kernel
theorem dL_village_2 : decode cL_village 2 = .ok (.aload_n 0, 1) := by decide +kernel
theorem dL_village_3 : decode cL_village 3 = .ok (.iload_n 1, 1) := by decide +kernel
theorem dL_village_4 : decode cL_village 4 = .ok (.iload_n 2, 1) := by decide +kernel
theorem dL_village_5 : decode cL_village 5 = .ok (.invokevirtual 36, 3) := by decide +kernel
theorem dL_village_8 : decode cL_village 8 = .ok (.i2l, 1) := by decide +kernel
theorem dL_village_9 : decode cL_village 9 = .ok (.lastore, 1) := by decide +kernel
theorem dL_village_10 : decode cL_village 10 = .ok (.goto 11, 3) := by decide +kernel
theorem dL_village_13 : decode cL_village 13 = .ok (.astore 4, 2) := by decide +kernel
theorem dL_village_15 : decode cL_village 15 = .ok (.iconst 1, 1) := by decide +kernel
theorem dL_village_16 : decode cL_village 16 = .ok (.ireturn, 1) := by decide +kernel
theorem dL_village_17 : decode cL_village 17 = .ok (.astore 4, 2) := by decide +kernel
theorem dL_village_19 : decode cL_village 19 = .ok (.iconst 2, 1) := by decide +kernel
theorem dL_village_20 : decode cL_village 20 = .ok (.ireturn, 1) := by decide +kernel
theorem dL_village_21 : decode cL_village 21 = .ok (.iconst 0, 1) := by decide +kernel
theorem dL_village_22 : decode cL_village 22 = .ok (.ireturn, 1) := by decide +kernel
abbrev mt_L_village : AxM := (RL, cL_village, 5, (some .int), false, [(0, 10, 13, 34), (0, 10, 17, 13)])
theorem L1_L_village {g : AxG} {l : Launch} (hl0 : l.stackTraces = false) (N : Nat) {v0 : Nat} {v1 : Int32} {v2 : Int32} {v3 : Nat} {S : AxS} {r9 : Int32} {S9 : AxS} (h : F_L_village N v0 v1 v2 v3 S = some ((r9, S9))) : AxMetH g l yL_village cL_village 5 (some .int) [(0, 10, 13, 34), (0, 10, 17, 13)] (10) 1 6 [.ref v0, .int v1, .int v2, .ref v3] S ((.inl (some (.int r9)), S9)) := by
  refine ax_metH (own := RL) (by decide +kernel) rfl rfl ?_
  show AW g l (axRm (10) 1 6) mt_L_village (axMQ g 1 6 (.inl (some (.int r9)), S9)) 0 0 S 0 [(0, .ref v0), (1, .int v1), (2, .int v2), (3, .ref v3)] []
  unfold F_L_village at h
  refine aw_aload_n 3 dL_village_0 rfl rfl ?_
  refine aw_iconst 0 dL_village_1 rfl ?_
  refine aw_aload_n 0 dL_village_2 rfl rfl ?_
  refine aw_iload_n 1 dL_village_3 rfl rfl ?_
  refine aw_iload_n 2 dL_village_4 rfl rfl ?_
  obtain ⟨hL1, h⟩ := ax_is_spec h
  refine aw_tryI (rest := [.int 0, .ref v3]) h (fun u9 hF => aw_runV (As := [.int v1, .int v2]) (rest := [.int 0, .ref v3]) (L1_X9_village hl0 N hF) axc9 hL1 wd_998 wd_995 wd_996 wd_997 wd_87 pd_X9_village rfl (ax_rm (by omega) rfl) ax_hfX (Nat.le_of_ble_eq_true rfl) rfl dL_village_5) (fun x3 T2 h => ?_) (fun E9 T2 h => ?_)
  · refine aw_i2l dL_village_8 ?_
    refine aw_last dL_village_9 h (fun T4 h => ?_)
    refine aw_goto 21 dL_village_10 (by decide) ?_
    refine aw_iconst 0 dL_village_21 rfl ?_
    exact aw_iret dL_village_22 rfl (Nat.le_of_ble_eq_true rfl) (Nat.le_of_ble_eq_true rfl) h
  · by_cases e0 : E9 = "java/util/NoSuchElementException"
    · rw [if_pos e0] at h
      refine aw_caught (name := "java/util/NoSuchElementException") [] ⟨0, 10, 13, 34⟩ [⟨0, 10, 17, 13⟩] rfl (fun z hz => nomatch hz) rfl (by decide) wd_967 (by rw [e0]; exact cast_nse) (fun q => ?_)
      refine aw_astore [(4, .ref q), (0, .ref v0), (1, .int v1), (2, .int v2), (3, .ref v3)] dL_village_13 rfl rfl ?_
      refine aw_iconst 1 dL_village_15 rfl ?_
      exact aw_iret dL_village_16 rfl (Nat.le_of_ble_eq_true rfl) (Nat.le_of_ble_eq_true rfl) h
    · rw [if_neg e0] at h
      by_cases e1 : E9 = "java/lang/IllegalArgumentException"
      · rw [if_pos e1] at h
        refine aw_caught (name := "java/lang/IllegalArgumentException") [⟨0, 10, 13, 34⟩] ⟨0, 10, 17, 13⟩ [] rfl (fun z hz => by rw [List.mem_singleton.mp hz]; exact ⟨by decide, wd_967, e1⟩) rfl (by decide) wd_596 (by rw [e1]; exact cast_iae) (fun q => ?_)
        refine aw_astore [(4, .ref q), (0, .ref v0), (1, .int v1), (2, .int v2), (3, .ref v3)] dL_village_17 rfl rfl ?_
        refine aw_iconst 2 dL_village_19 rfl ?_
        exact aw_iret dL_village_20 rfl (Nat.le_of_ble_eq_true rfl) (Nat.le_of_ble_eq_true rfl) h
      · rw [if_neg e1] at h
        cases h

theorem dL_cell_0 : decode cL_cell 0 = .ok (.aload_n 2, 1) := by decide +kernel
theorem dL_cell_1 : decode cL_cell 1 = .ok (.iconst 0, 1) := by decide +kernel
theorem dL_cell_2 : decode cL_cell 2 = .ok (.aload_n 0, 1) := by decide +kernel
theorem dL_cell_3 : decode cL_cell 3 = .ok (.iload_n 1, 1) := by decide +kernel
theorem dL_cell_4 : decode cL_cell 4 = .ok (.invokevirtual 39, 3) := by decide +kernel
theorem dL_cell_7 : decode cL_cell 7 = .ok (.i2l, 1) := by decide +kernel
theorem dL_cell_8 : decode cL_cell 8 = .ok (.lastore, 1) := by decide +kernel
theorem dL_cell_9 : decode cL_cell 9 = .ok (.goto 6, 3) := by decide +kernel
theorem dL_cell_12 : decode cL_cell 12 = .ok (.astore_n 3, 1) := by decide +kernel
theorem dL_cell_13 : decode cL_cell 13 = .ok (.iconst 1, 1) := by decide +kernel
theorem dL_cell_14 : decode cL_cell 14 = .ok (.ireturn, 1) := by decide +kernel
theorem dL_cell_15 : decode cL_cell 15 = .ok (.iconst 0, 1) := by decide +kernel
theorem dL_cell_16 : decode cL_cell 16 = .ok (.ireturn, 1) := by decide +kernel
abbrev mt_L_cell : AxM := (RL, cL_cell, 4, (some .int), false, [(0, 9, 12, 34)])
theorem L1_L_cell {g : AxG} {l : Launch} (hl0 : l.stackTraces = false) (N : Nat) {v0 : Nat} {v1 : Int32} {v2 : Nat} {S : AxS} {r9 : Int32} {S9 : AxS} (h : F_L_cell N v0 v1 v2 S = some ((r9, S9))) : AxMetH g l yL_cell cL_cell 4 (some .int) [(0, 9, 12, 34)] (10) 1 6 [.ref v0, .int v1, .ref v2] S ((.inl (some (.int r9)), S9)) := by
  refine ax_metH (own := RL) (by decide +kernel) rfl rfl ?_
  show AW g l (axRm (10) 1 6) mt_L_cell (axMQ g 1 6 (.inl (some (.int r9)), S9)) 0 0 S 0 [(0, .ref v0), (1, .int v1), (2, .ref v2)] []
  unfold F_L_cell at h
  refine aw_aload_n 2 dL_cell_0 rfl rfl ?_
  refine aw_iconst 0 dL_cell_1 rfl ?_
  refine aw_aload_n 0 dL_cell_2 rfl rfl ?_
  refine aw_iload_n 1 dL_cell_3 rfl rfl ?_
  obtain ⟨hL1, h⟩ := ax_is_spec h
  refine aw_tryI (rest := [.int 0, .ref v2]) h (fun u9 hF => aw_runV (As := [.int v1]) (rest := [.int 0, .ref v2]) (L1_X9_cell hl0 N hF) axc9 hL1 wd_1005 wd_1002 wd_1003 wd_1004 wd_87 pd_X9_cell rfl (ax_rm (by omega) rfl) ax_hfX (Nat.le_of_ble_eq_true rfl) rfl dL_cell_4) (fun x3 T2 h => ?_) (fun E9 T2 h => ?_)
  · refine aw_i2l dL_cell_7 ?_
    refine aw_last dL_cell_8 h (fun T4 h => ?_)
    refine aw_goto 15 dL_cell_9 (by decide) ?_
    refine aw_iconst 0 dL_cell_15 rfl ?_
    exact aw_iret dL_cell_16 rfl (Nat.le_of_ble_eq_true rfl) (Nat.le_of_ble_eq_true rfl) h
  · by_cases e0 : E9 = "java/util/NoSuchElementException"
    · rw [if_pos e0] at h
      refine aw_caught (name := "java/util/NoSuchElementException") [] ⟨0, 9, 12, 34⟩ [] rfl (fun z hz => nomatch hz) rfl (by decide) wd_967 (by rw [e0]; exact cast_nse) (fun q => ?_)
      refine aw_astore_n 3 [(3, .ref q), (0, .ref v0), (1, .int v1), (2, .ref v2)] dL_cell_12 rfl rfl rfl ?_
      refine aw_iconst 1 dL_cell_13 rfl ?_
      exact aw_iret dL_cell_14 rfl (Nat.le_of_ble_eq_true rfl) (Nat.le_of_ble_eq_true rfl) h
    · rw [if_neg e0] at h
      cases h

theorem dL_heir_0 : decode cL_heir 0 = .ok (.aload_n 2, 1) := by decide +kernel
theorem dL_heir_1 : decode cL_heir 1 = .ok (.iconst 0, 1) := by decide +kernel
theorem dL_heir_2 : decode cL_heir 2 = .ok (.aload_n 0, 1) := by decide +kernel
theorem dL_heir_3 : decode cL_heir 3 = .ok (.iload_n 1, 1) := by decide +kernel
theorem dL_heir_4 : decode cL_heir 4 = .ok (.invokevirtual 42, 3) := by decide +kernel
theorem dL_heir_7 : decode cL_heir 7 = .ok (.i2l, 1) := by decide +kernel
theorem dL_heir_8 : decode cL_heir 8 = .ok (.lastore, 1) := by decide +kernel
theorem dL_heir_9 : decode cL_heir 9 = .ok (.goto 6, 3) := by decide +kernel
theorem dL_heir_12 : decode cL_heir 12 = .ok (.astore_n 3, 1) := by decide +kernel
theorem dL_heir_13 : decode cL_heir 13 = .ok (.iconst 1, 1) := by decide +kernel
theorem dL_heir_14 : decode cL_heir 14 = .ok (.ireturn, 1) := by decide +kernel
theorem dL_heir_15 : decode cL_heir 15 = .ok (.iconst 0, 1) := by decide +kernel
theorem dL_heir_16 : decode cL_heir 16 = .ok (.ireturn, 1) := by decide +kernel
abbrev mt_L_heir : AxM := (RL, cL_heir, 4, (some .int), false, [(0, 9, 12, 34)])
theorem L1_L_heir {g : AxG} {l : Launch} (hl0 : l.stackTraces = false) (N : Nat) {v0 : Nat} {v1 : Int32} {v2 : Nat} {S : AxS} {r9 : Int32} {S9 : AxS} (h : F_L_heir N v0 v1 v2 S = some ((r9, S9))) : AxMetH g l yL_heir cL_heir 4 (some .int) [(0, 9, 12, 34)] (10) 1 6 [.ref v0, .int v1, .ref v2] S ((.inl (some (.int r9)), S9)) := by
  refine ax_metH (own := RL) (by decide +kernel) rfl rfl ?_
  show AW g l (axRm (10) 1 6) mt_L_heir (axMQ g 1 6 (.inl (some (.int r9)), S9)) 0 0 S 0 [(0, .ref v0), (1, .int v1), (2, .ref v2)] []
  unfold F_L_heir at h
  refine aw_aload_n 2 dL_heir_0 rfl rfl ?_
  refine aw_iconst 0 dL_heir_1 rfl ?_
  refine aw_aload_n 0 dL_heir_2 rfl rfl ?_
  refine aw_iload_n 1 dL_heir_3 rfl rfl ?_
  obtain ⟨hL1, h⟩ := ax_is_spec h
  refine aw_tryI (rest := [.int 0, .ref v2]) h (fun u9 hF => aw_runV (As := [.int v1]) (rest := [.int 0, .ref v2]) (L1_X9_heir hl0 N hF) axc9 hL1 wd_1012 wd_1009 wd_1010 wd_1011 wd_87 pd_X9_heir rfl (ax_rm (by omega) rfl) ax_hfX (Nat.le_of_ble_eq_true rfl) rfl dL_heir_4) (fun x3 T2 h => ?_) (fun E9 T2 h => ?_)
  · refine aw_i2l dL_heir_7 ?_
    refine aw_last dL_heir_8 h (fun T4 h => ?_)
    refine aw_goto 15 dL_heir_9 (by decide) ?_
    refine aw_iconst 0 dL_heir_15 rfl ?_
    exact aw_iret dL_heir_16 rfl (Nat.le_of_ble_eq_true rfl) (Nat.le_of_ble_eq_true rfl) h
  · by_cases e0 : E9 = "java/util/NoSuchElementException"
    · rw [if_pos e0] at h
      refine aw_caught (name := "java/util/NoSuchElementException") [] ⟨0, 9, 12, 34⟩ [] rfl (fun z hz => nomatch hz) rfl (by decide) wd_967 (by rw [e0]; exact cast_nse) (fun q => ?_)
      refine aw_astore_n 3 [(3, .ref q), (0, .ref v0), (1, .int v1), (2, .ref v2)] dL_heir_12 rfl rfl rfl ?_
      refine aw_iconst 1 dL_heir_13 rfl ?_
      exact aw_iret dL_heir_14 rfl (Nat.le_of_ble_eq_true rfl) (Nat.le_of_ble_eq_true rfl) h
    · rw [if_neg e0] at h
      cases h

theorem dL_would_0 : decode cL_would 0 = .ok (.aload 8, 2) := by decide +kernel
theorem dL_would_2 : decode cL_would 2 = .ok (.iconst 0, 1) := by decide +kernel
theorem dL_would_3 : decode cL_would 3 = .ok (.aload_n 0, 1) := by decide +kernel
theorem dL_would_4 : decode cL_would 4 = .ok (.iload_n 1, 1) := by decide +kernel
theorem dL_would_5 : decode cL_would 5 = .ok (.iload_n 2, 1) := by decide +kernel
theorem dL_would_6 : decode cL_would 6 = .ok (.iload_n 3, 1) := by decide +kernel
theorem dL_would_7 : decode cL_would 7 = .ok (.iload 4, 2) := by decide +kernel
theorem dL_would_9 : decode cL_would 9 = .ok (.iload 5, 2) := by decide +kernel
theorem dL_would_11 : decode cL_would 11 = .ok (.iload 6, 2) := by decide +kernel
theorem dL_would_13 : decode cL_would 13 = .ok (.iload 7, 2) := by decide +kernel
theorem dL_would_15 : decode cL_would 15 = .ok (.invokevirtual 45, 3) := by decide +kernel
theorem dL_would_18 : decode cL_would 18 = .ok (.i2l, 1) := by decide +kernel
theorem dL_would_19 : decode cL_would 19 = .ok (.lastore, 1) := by decide +kernel
theorem dL_would_20 : decode cL_would 20 = .ok (.goto 7, 3) := by decide +kernel
theorem dL_would_23 : decode cL_would 23 = .ok (.astore 9, 2) := by decide +kernel
theorem dL_would_25 : decode cL_would 25 = .ok (.iconst 1, 1) := by decide +kernel
theorem dL_would_26 : decode cL_would 26 = .ok (.ireturn, 1) := by decide +kernel
theorem dL_would_27 : decode cL_would 27 = .ok (.iconst 0, 1) := by decide +kernel
theorem dL_would_28 : decode cL_would 28 = .ok (.ireturn, 1) := by decide +kernel
abbrev mt_L_would : AxM := (RL, cL_would, 10, (some .int), false, [(0, 20, 23, 13)])
theorem L1_L_would {g : AxG} {l : Launch} (hl0 : l.stackTraces = false) (N : Nat) {v0 : Nat} {v1 : Int32} {v2 : Int32} {v3 : Int32} {v4 : Int32} {v5 : Int32} {v6 : Int32} {v7 : Int32} {v8 : Nat} {S : AxS} {r9 : Int32} {S9 : AxS} (h : F_L_would N v0 v1 v2 v3 v4 v5 v6 v7 v8 S = some ((r9, S9))) : AxMetH g l yL_would cL_would 10 (some .int) [(0, 20, 23, 13)] (10) 1 6 [.ref v0, .int v1, .int v2, .int v3, .int v4, .int v5, .int v6, .int v7, .ref v8] S ((.inl (some (.int r9)), S9)) := by
  refine ax_metH (own := RL) (by decide +kernel) rfl rfl ?_
  show AW g l (axRm (10) 1 6) mt_L_would (axMQ g 1 6 (.inl (some (.int r9)), S9)) 0 0 S 0 [(0, .ref v0), (1, .int v1), (2, .int v2), (3, .int v3), (4, .int v4), (5, .int v5), (6, .int v6), (7, .int v7), (8, .ref v8)] []
  unfold F_L_would at h
  refine aw_aload 8 dL_would_0 rfl ?_
  refine aw_iconst 0 dL_would_2 rfl ?_
  refine aw_aload_n 0 dL_would_3 rfl rfl ?_
  refine aw_iload_n 1 dL_would_4 rfl rfl ?_
  refine aw_iload_n 2 dL_would_5 rfl rfl ?_
  refine aw_iload_n 3 dL_would_6 rfl rfl ?_
  refine aw_iload 4 dL_would_7 rfl ?_
  refine aw_iload 5 dL_would_9 rfl ?_
  refine aw_iload 6 dL_would_11 rfl ?_
  refine aw_iload 7 dL_would_13 rfl ?_
  obtain ⟨hL1, h⟩ := ax_is_spec h
  refine aw_tryI (rest := [.int 0, .ref v8]) h (fun u9 hF => aw_runV (As := [.int v1, .int v2, .int v3, .int v4, .int v5, .int v6, .int v7]) (rest := [.int 0, .ref v8]) (L1_X9_would hl0 N hF) axc9 hL1 wd_1019 wd_1016 wd_1017 wd_1018 wd_87 pd_X9_would rfl (ax_rm (by omega) rfl) ax_hfX (Nat.le_of_ble_eq_true rfl) rfl dL_would_15) (fun x3 T2 h => ?_) (fun E9 T2 h => ?_)
  · refine aw_i2l dL_would_18 ?_
    refine aw_last dL_would_19 h (fun T4 h => ?_)
    refine aw_goto 27 dL_would_20 (by decide) ?_
    refine aw_iconst 0 dL_would_27 rfl ?_
    exact aw_iret dL_would_28 rfl (Nat.le_of_ble_eq_true rfl) (Nat.le_of_ble_eq_true rfl) h
  · by_cases e0 : E9 = "java/lang/IllegalArgumentException"
    · rw [if_pos e0] at h
      refine aw_caught (name := "java/lang/IllegalArgumentException") [] ⟨0, 20, 23, 13⟩ [] rfl (fun z hz => nomatch hz) rfl (by decide) wd_596 (by rw [e0]; exact cast_iae) (fun q => ?_)
      refine aw_astore [(9, .ref q), (0, .ref v0), (1, .int v1), (2, .int v2), (3, .int v3), (4, .int v4), (5, .int v5), (6, .int v6), (7, .int v7), (8, .ref v8)] dL_would_23 rfl rfl ?_
      refine aw_iconst 1 dL_would_25 rfl ?_
      exact aw_iret dL_would_26 rfl (Nat.le_of_ble_eq_true rfl) (Nat.le_of_ble_eq_true rfl) h
    · rw [if_neg e0] at h
      cases h

theorem dL_noise_0 : decode cL_noise 0 = .ok (.aload_n 3, 1) := by decide +kernel
theorem dL_noise_1 : decode cL_noise 1 = .ok (.iconst 0, 1) := by decide +kernel
theorem dL_noise_2 : decode cL_noise 2 = .ok (.aload_n 0, 1) := by decide +kernel
theorem dL_noise_3 : decode cL_noise 3 = .ok (.iload_n 1, 1) := by decide +kernel
theorem dL_noise_4 : decode cL_noise 4 = .ok (.iload_n 2, 1) := by decide +kernel
theorem dL_noise_5 : decode cL_noise 5 = .ok (.invokevirtual 49, 3) := by decide +kernel
theorem dL_noise_8 : decode cL_noise 8 = .ok (.i2l, 1) := by decide +kernel
theorem dL_noise_9 : decode cL_noise 9 = .ok (.lastore, 1) := by decide +kernel
theorem dL_noise_10 : decode cL_noise 10 = .ok (.goto 11, 3) := by decide +kernel
theorem dL_noise_13 : decode cL_noise 13 = .ok (.astore 4, 2) := by decide +kernel
theorem dL_noise_15 : decode cL_noise 15 = .ok (.iconst 1, 1) := by decide +kernel
theorem dL_noise_16 : decode cL_noise 16 = .ok (.ireturn, 1) := by decide +kernel
theorem dL_noise_17 : decode cL_noise 17 = .ok (.astore 4, 2) := by decide +kernel
theorem dL_noise_19 : decode cL_noise 19 = .ok (.iconst 2, 1) := by decide +kernel
theorem dL_noise_20 : decode cL_noise 20 = .ok (.ireturn, 1) := by decide +kernel
theorem dL_noise_21 : decode cL_noise 21 = .ok (.iconst 0, 1) := by decide +kernel
theorem dL_noise_22 : decode cL_noise 22 = .ok (.ireturn, 1) := by decide +kernel
abbrev mt_L_noise : AxM := (RL, cL_noise, 5, (some .int), false, [(0, 10, 13, 34), (0, 10, 17, 13)])
theorem L1_L_noise {g : AxG} {l : Launch} (hl0 : l.stackTraces = false) (N : Nat) {v0 : Nat} {v1 : Int32} {v2 : Int32} {v3 : Nat} {S : AxS} {r9 : Int32} {S9 : AxS} (h : F_L_noise N v0 v1 v2 v3 S = some ((r9, S9))) : AxMetH g l yL_noise cL_noise 5 (some .int) [(0, 10, 13, 34), (0, 10, 17, 13)] (10) 1 6 [.ref v0, .int v1, .int v2, .ref v3] S ((.inl (some (.int r9)), S9)) := by
  refine ax_metH (own := RL) (by decide +kernel) rfl rfl ?_
  show AW g l (axRm (10) 1 6) mt_L_noise (axMQ g 1 6 (.inl (some (.int r9)), S9)) 0 0 S 0 [(0, .ref v0), (1, .int v1), (2, .int v2), (3, .ref v3)] []
  unfold F_L_noise at h
  refine aw_aload_n 3 dL_noise_0 rfl rfl ?_
  refine aw_iconst 0 dL_noise_1 rfl ?_
  refine aw_aload_n 0 dL_noise_2 rfl rfl ?_
  refine aw_iload_n 1 dL_noise_3 rfl rfl ?_
  refine aw_iload_n 2 dL_noise_4 rfl rfl ?_
  obtain ⟨hL1, h⟩ := ax_is_spec h
  refine aw_tryI (rest := [.int 0, .ref v3]) h (fun u9 hF => aw_runV (As := [.int v1, .int v2]) (rest := [.int 0, .ref v3]) (L1_X9_noise hl0 N hF) axc9 hL1 wd_1027 wd_1024 wd_1025 wd_1026 wd_87 pd_X9_noise rfl (ax_rm (by omega) rfl) ax_hfX (Nat.le_of_ble_eq_true rfl) rfl dL_noise_5) (fun x3 T2 h => ?_) (fun E9 T2 h => ?_)
  · refine aw_i2l dL_noise_8 ?_
    refine aw_last dL_noise_9 h (fun T4 h => ?_)
    refine aw_goto 21 dL_noise_10 (by decide) ?_
    refine aw_iconst 0 dL_noise_21 rfl ?_
    exact aw_iret dL_noise_22 rfl (Nat.le_of_ble_eq_true rfl) (Nat.le_of_ble_eq_true rfl) h
  · by_cases e0 : E9 = "java/util/NoSuchElementException"
    · rw [if_pos e0] at h
      refine aw_caught (name := "java/util/NoSuchElementException") [] ⟨0, 10, 13, 34⟩ [⟨0, 10, 17, 13⟩] rfl (fun z hz => nomatch hz) rfl (by decide) wd_967 (by rw [e0]; exact cast_nse) (fun q => ?_)
      refine aw_astore [(4, .ref q), (0, .ref v0), (1, .int v1), (2, .int v2), (3, .ref v3)] dL_noise_13 rfl rfl ?_
      refine aw_iconst 1 dL_noise_15 rfl ?_
      exact aw_iret dL_noise_16 rfl (Nat.le_of_ble_eq_true rfl) (Nat.le_of_ble_eq_true rfl) h
    · rw [if_neg e0] at h
      by_cases e1 : E9 = "java/lang/IllegalArgumentException"
      · rw [if_pos e1] at h
        refine aw_caught (name := "java/lang/IllegalArgumentException") [⟨0, 10, 13, 34⟩] ⟨0, 10, 17, 13⟩ [] rfl (fun z hz => by rw [List.mem_singleton.mp hz]; exact ⟨by decide, wd_967, e1⟩) rfl (by decide) wd_596 (by rw [e1]; exact cast_iae) (fun q => ?_)
        refine aw_astore [(4, .ref q), (0, .ref v0), (1, .int v1), (2, .int v2), (3, .ref v3)] dL_noise_17 rfl rfl ?_
        refine aw_iconst 2 dL_noise_19 rfl ?_
        exact aw_iret dL_noise_20 rfl (Nat.le_of_ble_eq_true rfl) (Nat.le_of_ble_eq_true rfl) h
      · rw [if_neg e1] at h
        cases h

theorem dL_ahead_0 : decode cL_ahead 0 = .ok (.aload_n 3, 1) := by decide +kernel
theorem dL_ahead_1 : decode cL_ahead 1 = .ok (.iconst 0, 1) := by decide +kernel
theorem dL_ahead_2 : decode cL_ahead 2 = .ok (.aload_n 0, 1) := by decide +kernel
theorem dL_ahead_3 : decode cL_ahead 3 = .ok (.iload_n 1, 1) := by decide +kernel
theorem dL_ahead_4 : decode cL_ahead 4 = .ok (.iload_n 2, 1) := by decide +kernel
theorem dL_ahead_5 : decode cL_ahead 5 = .ok (.invokevirtual 52, 3) := by decide +kernel
theorem dL_ahead_8 : decode cL_ahead 8 = .ok (.i2l, 1) := by decide +kernel
theorem dL_ahead_9 : decode cL_ahead 9 = .ok (.lastore, 1) := by decide +kernel
theorem dL_ahead_10 : decode cL_ahead 10 = .ok (.goto 7, 3) := by decide +kernel
theorem dL_ahead_13 : decode cL_ahead 13 = .ok (.astore 4, 2) := by decide +kernel
theorem dL_ahead_15 : decode cL_ahead 15 = .ok (.iconst 1, 1) := by decide +kernel
theorem dL_ahead_16 : decode cL_ahead 16 = .ok (.ireturn, 1) := by decide +kernel
theorem dL_ahead_17 : decode cL_ahead 17 = .ok (.iconst 0, 1) := by decide +kernel
theorem dL_ahead_18 : decode cL_ahead 18 = .ok (.ireturn, 1) := by decide +kernel
abbrev mt_L_ahead : AxM := (RL, cL_ahead, 5, (some .int), false, [(0, 10, 13, 13)])
theorem L1_L_ahead {g : AxG} {l : Launch} (hl0 : l.stackTraces = false) (N : Nat) {v0 : Nat} {v1 : Int32} {v2 : Int32} {v3 : Nat} {S : AxS} {r9 : Int32} {S9 : AxS} (h : F_L_ahead N v0 v1 v2 v3 S = some ((r9, S9))) : AxMetH g l yL_ahead cL_ahead 5 (some .int) [(0, 10, 13, 13)] (10) 1 6 [.ref v0, .int v1, .int v2, .ref v3] S ((.inl (some (.int r9)), S9)) := by
  refine ax_metH (own := RL) (by decide +kernel) rfl rfl ?_
  show AW g l (axRm (10) 1 6) mt_L_ahead (axMQ g 1 6 (.inl (some (.int r9)), S9)) 0 0 S 0 [(0, .ref v0), (1, .int v1), (2, .int v2), (3, .ref v3)] []
  unfold F_L_ahead at h
  refine aw_aload_n 3 dL_ahead_0 rfl rfl ?_
  refine aw_iconst 0 dL_ahead_1 rfl ?_
  refine aw_aload_n 0 dL_ahead_2 rfl rfl ?_
  refine aw_iload_n 1 dL_ahead_3 rfl rfl ?_
  refine aw_iload_n 2 dL_ahead_4 rfl rfl ?_
  obtain ⟨hL1, h⟩ := ax_is_spec h
  refine aw_tryI (rest := [.int 0, .ref v3]) h (fun u9 hF => aw_runV (As := [.int v1, .int v2]) (rest := [.int 0, .ref v3]) (L1_X9_ahead hl0 N hF) axc9 hL1 wd_1034 wd_1031 wd_1032 wd_1033 wd_87 pd_X9_ahead rfl (ax_rm (by omega) rfl) ax_hfX (Nat.le_of_ble_eq_true rfl) rfl dL_ahead_5) (fun x3 T2 h => ?_) (fun E9 T2 h => ?_)
  · refine aw_i2l dL_ahead_8 ?_
    refine aw_last dL_ahead_9 h (fun T4 h => ?_)
    refine aw_goto 17 dL_ahead_10 (by decide) ?_
    refine aw_iconst 0 dL_ahead_17 rfl ?_
    exact aw_iret dL_ahead_18 rfl (Nat.le_of_ble_eq_true rfl) (Nat.le_of_ble_eq_true rfl) h
  · by_cases e0 : E9 = "java/lang/IllegalArgumentException"
    · rw [if_pos e0] at h
      refine aw_caught (name := "java/lang/IllegalArgumentException") [] ⟨0, 10, 13, 13⟩ [] rfl (fun z hz => nomatch hz) rfl (by decide) wd_596 (by rw [e0]; exact cast_iae) (fun q => ?_)
      refine aw_astore [(4, .ref q), (0, .ref v0), (1, .int v1), (2, .int v2), (3, .ref v3)] dL_ahead_13 rfl rfl ?_
      refine aw_iconst 1 dL_ahead_15 rfl ?_
      exact aw_iret dL_ahead_16 rfl (Nat.le_of_ble_eq_true rfl) (Nat.le_of_ble_eq_true rfl) h
    · rw [if_neg e0] at h
      cases h

theorem dL_loudest_0 : decode cL_loudest 0 = .ok (.aload_n 2, 1) := by decide +kernel
theorem dL_loudest_1 : decode cL_loudest 1 = .ok (.iconst 0, 1) := by decide +kernel
theorem dL_loudest_2 : decode cL_loudest 2 = .ok (.aload_n 0, 1) := by decide +kernel
theorem dL_loudest_3 : decode cL_loudest 3 = .ok (.iload_n 1, 1) := by decide +kernel
theorem dL_loudest_4 : decode cL_loudest 4 = .ok (.invokevirtual 55, 3) := by decide +kernel
theorem dL_loudest_7 : decode cL_loudest 7 = .ok (.i2l, 1) := by decide +kernel
theorem dL_loudest_8 : decode cL_loudest 8 = .ok (.lastore, 1) := by decide +kernel
theorem dL_loudest_9 : decode cL_loudest 9 = .ok (.goto 6, 3) := by decide +kernel
theorem dL_loudest_12 : decode cL_loudest 12 = .ok (.astore_n 3, 1) := by decide +kernel
theorem dL_loudest_13 : decode cL_loudest 13 = .ok (.iconst 1, 1) := by decide +kernel
theorem dL_loudest_14 : decode cL_loudest 14 = .ok (.ireturn, 1) := by decide +kernel
theorem dL_loudest_15 : decode cL_loudest 15 = .ok (.iconst 0, 1) := by decide +kernel
theorem dL_loudest_16 : decode cL_loudest 16 = .ok (.ireturn, 1) := by decide +kernel
abbrev mt_L_loudest : AxM := (RL, cL_loudest, 4, (some .int), false, [(0, 9, 12, 13)])
theorem L1_L_loudest {g : AxG} {l : Launch} (hl0 : l.stackTraces = false) (N : Nat) {v0 : Nat} {v1 : Int32} {v2 : Nat} {S : AxS} {r9 : Int32} {S9 : AxS} (h : F_L_loudest N v0 v1 v2 S = some ((r9, S9))) : AxMetH g l yL_loudest cL_loudest 4 (some .int) [(0, 9, 12, 13)] (10) 1 6 [.ref v0, .int v1, .ref v2] S ((.inl (some (.int r9)), S9)) := by
  refine ax_metH (own := RL) (by decide +kernel) rfl rfl ?_
  show AW g l (axRm (10) 1 6) mt_L_loudest (axMQ g 1 6 (.inl (some (.int r9)), S9)) 0 0 S 0 [(0, .ref v0), (1, .int v1), (2, .ref v2)] []
  unfold F_L_loudest at h
  refine aw_aload_n 2 dL_loudest_0 rfl rfl ?_
  refine aw_iconst 0 dL_loudest_1 rfl ?_
  refine aw_aload_n 0 dL_loudest_2 rfl rfl ?_
  refine aw_iload_n 1 dL_loudest_3 rfl rfl ?_
  obtain ⟨hL1, h⟩ := ax_is_spec h
  refine aw_tryI (rest := [.int 0, .ref v2]) h (fun u9 hF => aw_runV (As := [.int v1]) (rest := [.int 0, .ref v2]) (L1_X9_loudest hl0 N hF) axc9 hL1 wd_1041 wd_1038 wd_1039 wd_1040 wd_87 pd_X9_loudest rfl (ax_rm (by omega) rfl) ax_hfX (Nat.le_of_ble_eq_true rfl) rfl dL_loudest_4) (fun x3 T2 h => ?_) (fun E9 T2 h => ?_)
  · refine aw_i2l dL_loudest_7 ?_
    refine aw_last dL_loudest_8 h (fun T4 h => ?_)
    refine aw_goto 15 dL_loudest_9 (by decide) ?_
    refine aw_iconst 0 dL_loudest_15 rfl ?_
    exact aw_iret dL_loudest_16 rfl (Nat.le_of_ble_eq_true rfl) (Nat.le_of_ble_eq_true rfl) h
  · by_cases e0 : E9 = "java/lang/IllegalArgumentException"
    · rw [if_pos e0] at h
      refine aw_caught (name := "java/lang/IllegalArgumentException") [] ⟨0, 9, 12, 13⟩ [] rfl (fun z hz => nomatch hz) rfl (by decide) wd_596 (by rw [e0]; exact cast_iae) (fun q => ?_)
      refine aw_astore_n 3 [(3, .ref q), (0, .ref v0), (1, .int v1), (2, .ref v2)] dL_loudest_12 rfl rfl rfl ?_
      refine aw_iconst 1 dL_loudest_13 rfl ?_
      exact aw_iret dL_loudest_14 rfl (Nat.le_of_ble_eq_true rfl) (Nat.le_of_ble_eq_true rfl) h
    · rw [if_neg e0] at h
      cases h

theorem dL_hush_0 : decode cL_hush 0 = .ok (.aload_n 2, 1) := by decide +kernel
theorem dL_hush_1 : decode cL_hush 1 = .ok (.iconst 0, 1) := by decide +kernel
theorem dL_hush_2 : decode cL_hush 2 = .ok (.aload_n 0, 1) := by decide +kernel
theorem dL_hush_3 : decode cL_hush 3 = .ok (.iload_n 1, 1) := by decide +kernel
theorem dL_hush_4 : decode cL_hush 4 = .ok (.invokevirtual 58, 3) := by decide +kernel
theorem dL_hush_7 : decode cL_hush 7 = .ok (.i2l, 1) := by decide +kernel
theorem dL_hush_8 : decode cL_hush 8 = .ok (.lastore, 1) := by decide +kernel
theorem dL_hush_9 : decode cL_hush 9 = .ok (.goto 6, 3) := by decide +kernel
theorem dL_hush_12 : decode cL_hush 12 = .ok (.astore_n 3, 1) := by decide +kernel
theorem dL_hush_13 : decode cL_hush 13 = .ok (.iconst 1, 1) := by decide +kernel
theorem dL_hush_14 : decode cL_hush 14 = .ok (.ireturn, 1) := by decide +kernel
theorem dL_hush_15 : decode cL_hush 15 = .ok (.iconst 0, 1) := by decide +kernel
theorem dL_hush_16 : decode cL_hush 16 = .ok (.ireturn, 1) := by decide +kernel
abbrev mt_L_hush : AxM := (RL, cL_hush, 4, (some .int), false, [(0, 9, 12, 13)])
theorem L1_L_hush {g : AxG} {l : Launch} (hl0 : l.stackTraces = false) (N : Nat) {v0 : Nat} {v1 : Int32} {v2 : Nat} {S : AxS} {r9 : Int32} {S9 : AxS} (h : F_L_hush N v0 v1 v2 S = some ((r9, S9))) : AxMetH g l yL_hush cL_hush 4 (some .int) [(0, 9, 12, 13)] (10) 1 6 [.ref v0, .int v1, .ref v2] S ((.inl (some (.int r9)), S9)) := by
  refine ax_metH (own := RL) (by decide +kernel) rfl rfl ?_
  show AW g l (axRm (10) 1 6) mt_L_hush (axMQ g 1 6 (.inl (some (.int r9)), S9)) 0 0 S 0 [(0, .ref v0), (1, .int v1), (2, .ref v2)] []
  unfold F_L_hush at h
  refine aw_aload_n 2 dL_hush_0 rfl rfl ?_
  refine aw_iconst 0 dL_hush_1 rfl ?_
  refine aw_aload_n 0 dL_hush_2 rfl rfl ?_
  refine aw_iload_n 1 dL_hush_3 rfl rfl ?_
  obtain ⟨hL1, h⟩ := ax_is_spec h
  refine aw_tryI (rest := [.int 0, .ref v2]) h (fun u9 hF => aw_runV (As := [.int v1]) (rest := [.int 0, .ref v2]) (L1_X9_hush hl0 N hF) axc9 hL1 wd_1048 wd_1045 wd_1046 wd_1047 wd_87 pd_X9_hush rfl (ax_rm (by omega) rfl) ax_hfX (Nat.le_of_ble_eq_true rfl) rfl dL_hush_4) (fun x3 T2 h => ?_) (fun E9 T2 h => ?_)
  · refine aw_i2l dL_hush_7 ?_
    refine aw_last dL_hush_8 h (fun T4 h => ?_)
    refine aw_goto 15 dL_hush_9 (by decide) ?_
    refine aw_iconst 0 dL_hush_15 rfl ?_
    exact aw_iret dL_hush_16 rfl (Nat.le_of_ble_eq_true rfl) (Nat.le_of_ble_eq_true rfl) h
  · by_cases e0 : E9 = "java/lang/IllegalArgumentException"
    · rw [if_pos e0] at h
      refine aw_caught (name := "java/lang/IllegalArgumentException") [] ⟨0, 9, 12, 13⟩ [] rfl (fun z hz => nomatch hz) rfl (by decide) wd_596 (by rw [e0]; exact cast_iae) (fun q => ?_)
      refine aw_astore_n 3 [(3, .ref q), (0, .ref v0), (1, .int v1), (2, .ref v2)] dL_hush_12 rfl rfl rfl ?_
      refine aw_iconst 1 dL_hush_13 rfl ?_
      exact aw_iret dL_hush_14 rfl (Nat.le_of_ble_eq_true rfl) (Nat.le_of_ble_eq_true rfl) h
    · rw [if_neg e0] at h
      cases h

theorem dL_plan_0 : decode cL_plan 0 = .ok (.aload 5, 2) := by decide +kernel
theorem dL_plan_2 : decode cL_plan 2 = .ok (.iconst 0, 1) := by decide +kernel
theorem dL_plan_3 : decode cL_plan 3 = .ok (.aload_n 0, 1) := by decide +kernel
theorem dL_plan_4 : decode cL_plan 4 = .ok (.iload_n 1, 1) := by decide +kernel
theorem dL_plan_5 : decode cL_plan 5 = .ok (.iload_n 2, 1) := by decide +kernel
theorem dL_plan_6 : decode cL_plan 6 = .ok (.iload_n 3, 1) := by decide +kernel
theorem dL_plan_7 : decode cL_plan 7 = .ok (.iload 4, 2) := by decide +kernel
theorem dL_plan_9 : decode cL_plan 9 = .ok (.invokevirtual 61, 3) := by decide +kernel
theorem dL_plan_12 : decode cL_plan 12 = .ok (.i2l, 1) := by decide +kernel
theorem dL_plan_13 : decode cL_plan 13 = .ok (.lastore, 1) := by decide +kernel
theorem dL_plan_14 : decode cL_plan 14 = .ok (.goto 7, 3) := by decide +kernel
theorem dL_plan_17 : decode cL_plan 17 = .ok (.astore 6, 2) := by decide +kernel
theorem dL_plan_19 : decode cL_plan 19 = .ok (.iconst 1, 1) := by decide +kernel
theorem dL_plan_20 : decode cL_plan 20 = .ok (.ireturn, 1) := by decide +kernel
theorem dL_plan_21 : decode cL_plan 21 = .ok (.iconst 0, 1) := by decide +kernel
theorem dL_plan_22 : decode cL_plan 22 = .ok (.ireturn, 1) := by decide +kernel
abbrev mt_L_plan : AxM := (RL, cL_plan, 7, (some .int), false, [(0, 14, 17, 13)])
theorem L1_L_plan {g : AxG} {l : Launch} (hl0 : l.stackTraces = false) (N : Nat) {v0 : Nat} {v1 : Int32} {v2 : Int32} {v3 : Int32} {v4 : Int32} {v5 : Nat} {S : AxS} {r9 : Int32} {S9 : AxS} (h : F_L_plan N v0 v1 v2 v3 v4 v5 S = some ((r9, S9))) : AxMetH g l yL_plan cL_plan 7 (some .int) [(0, 14, 17, 13)] (10) 1 6 [.ref v0, .int v1, .int v2, .int v3, .int v4, .ref v5] S ((.inl (some (.int r9)), S9)) := by
  refine ax_metH (own := RL) (by decide +kernel) rfl rfl ?_
  show AW g l (axRm (10) 1 6) mt_L_plan (axMQ g 1 6 (.inl (some (.int r9)), S9)) 0 0 S 0 [(0, .ref v0), (1, .int v1), (2, .int v2), (3, .int v3), (4, .int v4), (5, .ref v5)] []
  unfold F_L_plan at h
  refine aw_aload 5 dL_plan_0 rfl ?_
  refine aw_iconst 0 dL_plan_2 rfl ?_
  refine aw_aload_n 0 dL_plan_3 rfl rfl ?_
  refine aw_iload_n 1 dL_plan_4 rfl rfl ?_
  refine aw_iload_n 2 dL_plan_5 rfl rfl ?_
  refine aw_iload_n 3 dL_plan_6 rfl rfl ?_
  refine aw_iload 4 dL_plan_7 rfl ?_
  obtain ⟨hL1, h⟩ := ax_is_spec h
  refine aw_tryI (rest := [.int 0, .ref v5]) h (fun u9 hF => aw_runV (As := [.int v1, .int v2, .int v3, .int v4]) (rest := [.int 0, .ref v5]) (L1_X9_plan hl0 N hF) axc9 hL1 wd_1055 wd_1052 wd_1053 wd_1054 wd_87 pd_X9_plan rfl (ax_rm (by omega) rfl) ax_hfX (Nat.le_of_ble_eq_true rfl) rfl dL_plan_9) (fun x3 T2 h => ?_) (fun E9 T2 h => ?_)
  · refine aw_i2l dL_plan_12 ?_
    refine aw_last dL_plan_13 h (fun T4 h => ?_)
    refine aw_goto 21 dL_plan_14 (by decide) ?_
    refine aw_iconst 0 dL_plan_21 rfl ?_
    exact aw_iret dL_plan_22 rfl (Nat.le_of_ble_eq_true rfl) (Nat.le_of_ble_eq_true rfl) h
  · by_cases e0 : E9 = "java/lang/IllegalArgumentException"
    · rw [if_pos e0] at h
      refine aw_caught (name := "java/lang/IllegalArgumentException") [] ⟨0, 14, 17, 13⟩ [] rfl (fun z hz => nomatch hz) rfl (by decide) wd_596 (by rw [e0]; exact cast_iae) (fun q => ?_)
      refine aw_astore [(6, .ref q), (0, .ref v0), (1, .int v1), (2, .int v2), (3, .int v3), (4, .int v4), (5, .ref v5)] dL_plan_17 rfl rfl ?_
      refine aw_iconst 1 dL_plan_19 rfl ?_
      exact aw_iret dL_plan_20 rfl (Nat.le_of_ble_eq_true rfl) (Nat.le_of_ble_eq_true rfl) h
    · rw [if_neg e0] at h
      cases h

theorem dL_fits_0 : decode cL_fits 0 = .ok (.aload_n 2, 1) := by decide +kernel
theorem dL_fits_1 : decode cL_fits 1 = .ok (.iconst 0, 1) := by decide +kernel
theorem dL_fits_2 : decode cL_fits 2 = .ok (.aload_n 0, 1) := by decide +kernel
theorem dL_fits_3 : decode cL_fits 3 = .ok (.iload_n 1, 1) := by decide +kernel
theorem dL_fits_4 : decode cL_fits 4 = .ok (.invokevirtual 65, 3) := by decide +kernel
theorem dL_fits_7 : decode cL_fits 7 = .ok (.i2l, 1) := by decide +kernel
theorem dL_fits_8 : decode cL_fits 8 = .ok (.lastore, 1) := by decide +kernel
theorem dL_fits_9 : decode cL_fits 9 = .ok (.goto 6, 3) := by decide +kernel
theorem dL_fits_12 : decode cL_fits 12 = .ok (.astore_n 3, 1) := by decide +kernel
theorem dL_fits_13 : decode cL_fits 13 = .ok (.iconst 1, 1) := by decide +kernel
theorem dL_fits_14 : decode cL_fits 14 = .ok (.ireturn, 1) := by decide +kernel
theorem dL_fits_15 : decode cL_fits 15 = .ok (.iconst 0, 1) := by decide +kernel
theorem dL_fits_16 : decode cL_fits 16 = .ok (.ireturn, 1) := by decide +kernel
abbrev mt_L_fits : AxM := (RL, cL_fits, 4, (some .int), false, [(0, 9, 12, 13)])
theorem L1_L_fits {g : AxG} {l : Launch} (hl0 : l.stackTraces = false) (N : Nat) {v0 : Nat} {v1 : Int32} {v2 : Nat} {S : AxS} {r9 : Int32} {S9 : AxS} (h : F_L_fits N v0 v1 v2 S = some ((r9, S9))) : AxMetH g l yL_fits cL_fits 4 (some .int) [(0, 9, 12, 13)] (10) 1 6 [.ref v0, .int v1, .ref v2] S ((.inl (some (.int r9)), S9)) := by
  refine ax_metH (own := RL) (by decide +kernel) rfl rfl ?_
  show AW g l (axRm (10) 1 6) mt_L_fits (axMQ g 1 6 (.inl (some (.int r9)), S9)) 0 0 S 0 [(0, .ref v0), (1, .int v1), (2, .ref v2)] []
  unfold F_L_fits at h
  refine aw_aload_n 2 dL_fits_0 rfl rfl ?_
  refine aw_iconst 0 dL_fits_1 rfl ?_
  refine aw_aload_n 0 dL_fits_2 rfl rfl ?_
  refine aw_iload_n 1 dL_fits_3 rfl rfl ?_
  obtain ⟨hL1, h⟩ := ax_is_spec h
  refine aw_tryI (rest := [.int 0, .ref v2]) h (fun u9 hF => aw_runV (As := [.int v1]) (rest := [.int 0, .ref v2]) (L1_X9_fits hl0 N hF) axc9 hL1 wd_1075 wd_1072 wd_1073 wd_1074 wd_87 pd_X9_fits rfl (ax_rm (by omega) rfl) ax_hfX (Nat.le_of_ble_eq_true rfl) rfl dL_fits_4) (fun x3 T2 h => ?_) (fun E9 T2 h => ?_)
  · refine aw_i2l dL_fits_7 ?_
    refine aw_last dL_fits_8 h (fun T4 h => ?_)
    refine aw_goto 15 dL_fits_9 (by decide) ?_
    refine aw_iconst 0 dL_fits_15 rfl ?_
    exact aw_iret dL_fits_16 rfl (Nat.le_of_ble_eq_true rfl) (Nat.le_of_ble_eq_true rfl) h
  · by_cases e0 : E9 = "java/lang/IllegalArgumentException"
    · rw [if_pos e0] at h
      refine aw_caught (name := "java/lang/IllegalArgumentException") [] ⟨0, 9, 12, 13⟩ [] rfl (fun z hz => nomatch hz) rfl (by decide) wd_596 (by rw [e0]; exact cast_iae) (fun q => ?_)
      refine aw_astore_n 3 [(3, .ref q), (0, .ref v0), (1, .int v1), (2, .ref v2)] dL_fits_12 rfl rfl rfl ?_
      refine aw_iconst 1 dL_fits_13 rfl ?_
      exact aw_iret dL_fits_14 rfl (Nat.le_of_ble_eq_true rfl) (Nat.le_of_ble_eq_true rfl) h
    · rw [if_neg e0] at h
      cases h

theorem dL_count_0 : decode cL_count 0 = .ok (.aload_n 2, 1) := by decide +kernel
theorem dL_count_1 : decode cL_count 1 = .ok (.iconst 0, 1) := by decide +kernel
theorem dL_count_2 : decode cL_count 2 = .ok (.aload_n 0, 1) := by decide +kernel
theorem dL_count_3 : decode cL_count 3 = .ok (.iload_n 1, 1) := by decide +kernel
theorem dL_count_4 : decode cL_count 4 = .ok (.invokevirtual 68, 3) := by decide +kernel
theorem dL_count_7 : decode cL_count 7 = .ok (.i2l, 1) := by decide +kernel
theorem dL_count_8 : decode cL_count 8 = .ok (.lastore, 1) := by decide +kernel
theorem dL_count_9 : decode cL_count 9 = .ok (.goto 6, 3) := by decide +kernel
theorem dL_count_12 : decode cL_count 12 = .ok (.astore_n 3, 1) := by decide +kernel
theorem dL_count_13 : decode cL_count 13 = .ok (.iconst 1, 1) := by decide +kernel
theorem dL_count_14 : decode cL_count 14 = .ok (.ireturn, 1) := by decide +kernel
theorem dL_count_15 : decode cL_count 15 = .ok (.iconst 0, 1) := by decide +kernel
theorem dL_count_16 : decode cL_count 16 = .ok (.ireturn, 1) := by decide +kernel
abbrev mt_L_count : AxM := (RL, cL_count, 4, (some .int), false, [(0, 9, 12, 13)])
theorem L1_L_count {g : AxG} {l : Launch} (hl0 : l.stackTraces = false) (N : Nat) {v0 : Nat} {v1 : Int32} {v2 : Nat} {S : AxS} {r9 : Int32} {S9 : AxS} (h : F_L_count N v0 v1 v2 S = some ((r9, S9))) : AxMetH g l yL_count cL_count 4 (some .int) [(0, 9, 12, 13)] (10) 1 6 [.ref v0, .int v1, .ref v2] S ((.inl (some (.int r9)), S9)) := by
  refine ax_metH (own := RL) (by decide +kernel) rfl rfl ?_
  show AW g l (axRm (10) 1 6) mt_L_count (axMQ g 1 6 (.inl (some (.int r9)), S9)) 0 0 S 0 [(0, .ref v0), (1, .int v1), (2, .ref v2)] []
  unfold F_L_count at h
  refine aw_aload_n 2 dL_count_0 rfl rfl ?_
  refine aw_iconst 0 dL_count_1 rfl ?_
  refine aw_aload_n 0 dL_count_2 rfl rfl ?_
  refine aw_iload_n 1 dL_count_3 rfl rfl ?_
  obtain ⟨hL1, h⟩ := ax_is_spec h
  refine aw_tryI (rest := [.int 0, .ref v2]) h (fun u9 hF => aw_runV (As := [.int v1]) (rest := [.int 0, .ref v2]) (L1_X9_count hl0 N hF) axc9 hL1 wd_1105 wd_1102 wd_1103 wd_1104 wd_87 pd_X9_count rfl (ax_rm (by omega) rfl) ax_hfX (Nat.le_of_ble_eq_true rfl) rfl dL_count_4) (fun x3 T2 h => ?_) (fun E9 T2 h => ?_)
  · refine aw_i2l dL_count_7 ?_
    refine aw_last dL_count_8 h (fun T4 h => ?_)
    refine aw_goto 15 dL_count_9 (by decide) ?_
    refine aw_iconst 0 dL_count_15 rfl ?_
    exact aw_iret dL_count_16 rfl (Nat.le_of_ble_eq_true rfl) (Nat.le_of_ble_eq_true rfl) h
  · by_cases e0 : E9 = "java/lang/IllegalArgumentException"
    · rw [if_pos e0] at h
      refine aw_caught (name := "java/lang/IllegalArgumentException") [] ⟨0, 9, 12, 13⟩ [] rfl (fun z hz => nomatch hz) rfl (by decide) wd_596 (by rw [e0]; exact cast_iae) (fun q => ?_)
      refine aw_astore_n 3 [(3, .ref q), (0, .ref v0), (1, .int v1), (2, .ref v2)] dL_count_12 rfl rfl rfl ?_
      refine aw_iconst 1 dL_count_13 rfl ?_
      exact aw_iret dL_count_14 rfl (Nat.le_of_ble_eq_true rfl) (Nat.le_of_ble_eq_true rfl) h
    · rw [if_neg e0] at h
      cases h

theorem dL_mistaken_0 : decode cL_mistaken 0 = .ok (.aload 7, 2) := by decide +kernel
theorem dL_mistaken_2 : decode cL_mistaken 2 = .ok (.iconst 0, 1) := by decide +kernel
theorem dL_mistaken_3 : decode cL_mistaken 3 = .ok (.aload_n 0, 1) := by decide +kernel
theorem dL_mistaken_4 : decode cL_mistaken 4 = .ok (.iload_n 1, 1) := by decide +kernel
theorem dL_mistaken_5 : decode cL_mistaken 5 = .ok (.iload_n 2, 1) := by decide +kernel
theorem dL_mistaken_6 : decode cL_mistaken 6 = .ok (.iload_n 3, 1) := by decide +kernel
theorem dL_mistaken_7 : decode cL_mistaken 7 = .ok (.iload 4, 2) := by decide +kernel
theorem dL_mistaken_9 : decode cL_mistaken 9 = .ok (.iload 5, 2) := by decide +kernel
theorem dL_mistaken_11 : decode cL_mistaken 11 = .ok (.iload 6, 2) := by decide +kernel
theorem dL_mistaken_13 : decode cL_mistaken 13 = .ok (.invokevirtual 71, 3) := by decide +kernel
theorem dL_mistaken_16 : decode cL_mistaken 16 = .ok (.lastore, 1) := by decide +kernel
theorem dL_mistaken_17 : decode cL_mistaken 17 = .ok (.goto 7, 3) := by decide +kernel
theorem dL_mistaken_20 : decode cL_mistaken 20 = .ok (.astore 8, 2) := by decide +kernel
theorem dL_mistaken_22 : decode cL_mistaken 22 = .ok (.iconst 1, 1) := by decide +kernel
theorem dL_mistaken_23 : decode cL_mistaken 23 = .ok (.ireturn, 1) := by decide +kernel
theorem dL_mistaken_24 : decode cL_mistaken 24 = .ok (.iconst 0, 1) := by decide +kernel
theorem dL_mistaken_25 : decode cL_mistaken 25 = .ok (.ireturn, 1) := by decide +kernel
abbrev mt_L_mistaken : AxM := (RL, cL_mistaken, 9, (some .int), false, [(0, 17, 20, 13)])
theorem L1_L_mistaken {g : AxG} {l : Launch} (hl0 : l.stackTraces = false) (N : Nat) {v0 : Nat} {v1 : Int32} {v2 : Int32} {v3 : Int32} {v4 : Int32} {v5 : Int32} {v6 : Int32} {v7 : Nat} {S : AxS} {r9 : Int32} {S9 : AxS} (h : F_L_mistaken N v0 v1 v2 v3 v4 v5 v6 v7 S = some ((r9, S9))) : AxMetH g l yL_mistaken cL_mistaken 9 (some .int) [(0, 17, 20, 13)] (11) 1 6 [.ref v0, .int v1, .int v2, .int v3, .int v4, .int v5, .int v6, .ref v7] S ((.inl (some (.int r9)), S9)) := by
  refine ax_metH (own := RL) (by decide +kernel) rfl rfl ?_
  show AW g l (axRm (11) 1 6) mt_L_mistaken (axMQ g 1 6 (.inl (some (.int r9)), S9)) 0 0 S 0 [(0, .ref v0), (1, .int v1), (2, .int v2), (3, .int v3), (4, .int v4), (5, .int v5), (6, .int v6), (7, .ref v7)] []
  unfold F_L_mistaken at h
  refine aw_aload 7 dL_mistaken_0 rfl ?_
  refine aw_iconst 0 dL_mistaken_2 rfl ?_
  refine aw_aload_n 0 dL_mistaken_3 rfl rfl ?_
  refine aw_iload_n 1 dL_mistaken_4 rfl rfl ?_
  refine aw_iload_n 2 dL_mistaken_5 rfl rfl ?_
  refine aw_iload_n 3 dL_mistaken_6 rfl rfl ?_
  refine aw_iload 4 dL_mistaken_7 rfl ?_
  refine aw_iload 5 dL_mistaken_9 rfl ?_
  refine aw_iload 6 dL_mistaken_11 rfl ?_
  obtain ⟨hL1, h⟩ := ax_is_spec h
  refine aw_tryL (rest := [.int 0, .ref v7]) h (fun u9 hF => aw_runV (As := [.int v1, .int v2, .int v3, .int v4, .int v5, .int v6]) (rest := [.int 0, .ref v7]) (L1_X9_mistaken hl0 N hF) axc9 hL1 wd_1112 wd_1109 wd_1110 wd_1111 wd_87 pd_X9_mistaken rfl (ax_rm (by omega) rfl) ax_hfX (Nat.le_of_ble_eq_true rfl) rfl dL_mistaken_13) (fun x3 T2 h => ?_) (fun E9 T2 h => ?_)
  · refine aw_last dL_mistaken_16 h (fun T4 h => ?_)
    refine aw_goto 24 dL_mistaken_17 (by decide) ?_
    refine aw_iconst 0 dL_mistaken_24 rfl ?_
    exact aw_iret dL_mistaken_25 rfl (Nat.le_of_ble_eq_true rfl) (Nat.le_of_ble_eq_true rfl) h
  · by_cases e0 : E9 = "java/lang/IllegalArgumentException"
    · rw [if_pos e0] at h
      refine aw_caught (name := "java/lang/IllegalArgumentException") [] ⟨0, 17, 20, 13⟩ [] rfl (fun z hz => nomatch hz) rfl (by decide) wd_596 (by rw [e0]; exact cast_iae) (fun q => ?_)
      refine aw_astore [(8, .ref q), (0, .ref v0), (1, .int v1), (2, .int v2), (3, .int v3), (4, .int v4), (5, .int v5), (6, .int v6), (7, .ref v7)] dL_mistaken_20 rfl rfl ?_
      refine aw_iconst 1 dL_mistaken_22 rfl ?_
      exact aw_iret dL_mistaken_23 rfl (Nat.le_of_ble_eq_true rfl) (Nat.le_of_ble_eq_true rfl) h
    · rw [if_neg e0] at h
      cases h

theorem dL_best_0 : decode cL_best 0 = .ok (.aload 4, 2) := by decide +kernel
theorem dL_best_2 : decode cL_best 2 = .ok (.iconst 0, 1) := by decide +kernel
theorem dL_best_3 : decode cL_best 3 = .ok (.aload_n 0, 1) := by decide +kernel
theorem dL_best_4 : decode cL_best 4 = .ok (.iload_n 1, 1) := by decide +kernel
theorem dL_best_5 : decode cL_best 5 = .ok (.iload_n 2, 1) := by decide +kernel
theorem dL_best_6 : decode cL_best 6 = .ok (.iload_n 3, 1) := by decide +kernel
theorem dL_best_7 : decode cL_best 7 = .ok (.invokevirtual 75, 3) := by decide +kernel
theorem dL_best_10 : decode cL_best 10 = .ok (.i2l, 1) := by decide +kernel
theorem dL_best_11 : decode cL_best 11 = .ok (.lastore, 1) := by decide +kernel
theorem dL_best_12 : decode cL_best 12 = .ok (.goto 7, 3) := by decide +kernel
theorem dL_best_15 : decode cL_best 15 = .ok (.astore 5, 2) := by decide +kernel
theorem dL_best_17 : decode cL_best 17 = .ok (.iconst 1, 1) := by decide +kernel
theorem dL_best_18 : decode cL_best 18 = .ok (.ireturn, 1) := by decide +kernel
theorem dL_best_19 : decode cL_best 19 = .ok (.iconst 0, 1) := by decide +kernel
theorem dL_best_20 : decode cL_best 20 = .ok (.ireturn, 1) := by decide +kernel
abbrev mt_L_best : AxM := (RL, cL_best, 6, (some .int), false, [(0, 12, 15, 13)])
theorem L1_L_best {g : AxG} {l : Launch} (hl0 : l.stackTraces = false) (N : Nat) {v0 : Nat} {v1 : Int32} {v2 : Int32} {v3 : Int32} {v4 : Nat} {S : AxS} {r9 : Int32} {S9 : AxS} (h : F_L_best N v0 v1 v2 v3 v4 S = some ((r9, S9))) : AxMetH g l yL_best cL_best 6 (some .int) [(0, 12, 15, 13)] (11) 1 6 [.ref v0, .int v1, .int v2, .int v3, .ref v4] S ((.inl (some (.int r9)), S9)) := by
  refine ax_metH (own := RL) (by decide +kernel) rfl rfl ?_
  show AW g l (axRm (11) 1 6) mt_L_best (axMQ g 1 6 (.inl (some (.int r9)), S9)) 0 0 S 0 [(0, .ref v0), (1, .int v1), (2, .int v2), (3, .int v3), (4, .ref v4)] []
  unfold F_L_best at h
  refine aw_aload 4 dL_best_0 rfl ?_
  refine aw_iconst 0 dL_best_2 rfl ?_
  refine aw_aload_n 0 dL_best_3 rfl rfl ?_
  refine aw_iload_n 1 dL_best_4 rfl rfl ?_
  refine aw_iload_n 2 dL_best_5 rfl rfl ?_
  refine aw_iload_n 3 dL_best_6 rfl rfl ?_
  obtain ⟨hL1, h⟩ := ax_is_spec h
  refine aw_tryI (rest := [.int 0, .ref v4]) h (fun u9 hF => aw_runV (As := [.int v1, .int v2, .int v3]) (rest := [.int 0, .ref v4]) (L1_X9_best hl0 N hF) axc9 hL1 wd_1133 wd_1130 wd_1131 wd_1132 wd_87 pd_X9_best rfl (ax_rm (by omega) rfl) ax_hfX (Nat.le_of_ble_eq_true rfl) rfl dL_best_7) (fun x3 T2 h => ?_) (fun E9 T2 h => ?_)
  · refine aw_i2l dL_best_10 ?_
    refine aw_last dL_best_11 h (fun T4 h => ?_)
    refine aw_goto 19 dL_best_12 (by decide) ?_
    refine aw_iconst 0 dL_best_19 rfl ?_
    exact aw_iret dL_best_20 rfl (Nat.le_of_ble_eq_true rfl) (Nat.le_of_ble_eq_true rfl) h
  · by_cases e0 : E9 = "java/lang/IllegalArgumentException"
    · rw [if_pos e0] at h
      refine aw_caught (name := "java/lang/IllegalArgumentException") [] ⟨0, 12, 15, 13⟩ [] rfl (fun z hz => nomatch hz) rfl (by decide) wd_596 (by rw [e0]; exact cast_iae) (fun q => ?_)
      refine aw_astore [(5, .ref q), (0, .ref v0), (1, .int v1), (2, .int v2), (3, .int v3), (4, .ref v4)] dL_best_15 rfl rfl ?_
      refine aw_iconst 1 dL_best_17 rfl ?_
      exact aw_iret dL_best_18 rfl (Nat.le_of_ble_eq_true rfl) (Nat.le_of_ble_eq_true rfl) h
    · rw [if_neg e0] at h
      cases h

theorem dL_beds_0 : decode cL_beds 0 = .ok (.aload_n 2, 1) := by decide +kernel
theorem dL_beds_1 : decode cL_beds 1 = .ok (.iconst 0, 1) := by decide +kernel
theorem dL_beds_2 : decode cL_beds 2 = .ok (.aload_n 0, 1) := by decide +kernel
theorem dL_beds_3 : decode cL_beds 3 = .ok (.iload_n 1, 1) := by decide +kernel
theorem dL_beds_4 : decode cL_beds 4 = .ok (.invokevirtual 79, 3) := by decide +kernel
theorem dL_beds_7 : decode cL_beds 7 = .ok (.i2l, 1) := by decide +kernel
theorem dL_beds_8 : decode cL_beds 8 = .ok (.lastore, 1) := by decide +kernel
theorem dL_beds_9 : decode cL_beds 9 = .ok (.goto 6, 3) := by decide +kernel
theorem dL_beds_12 : decode cL_beds 12 = .ok (.astore_n 3, 1) := by decide +kernel
theorem dL_beds_13 : decode cL_beds 13 = .ok (.iconst 1, 1) := by decide +kernel
theorem dL_beds_14 : decode cL_beds 14 = .ok (.ireturn, 1) := by decide +kernel
theorem dL_beds_15 : decode cL_beds 15 = .ok (.iconst 0, 1) := by decide +kernel
theorem dL_beds_16 : decode cL_beds 16 = .ok (.ireturn, 1) := by decide +kernel
abbrev mt_L_beds : AxM := (RL, cL_beds, 4, (some .int), false, [(0, 9, 12, 13)])
theorem L1_L_beds {g : AxG} {l : Launch} (hl0 : l.stackTraces = false) (N : Nat) {v0 : Nat} {v1 : Int32} {v2 : Nat} {S : AxS} {r9 : Int32} {S9 : AxS} (h : F_L_beds N v0 v1 v2 S = some ((r9, S9))) : AxMetH g l yL_beds cL_beds 4 (some .int) [(0, 9, 12, 13)] (10) 1 6 [.ref v0, .int v1, .ref v2] S ((.inl (some (.int r9)), S9)) := by
  refine ax_metH (own := RL) (by decide +kernel) rfl rfl ?_
  show AW g l (axRm (10) 1 6) mt_L_beds (axMQ g 1 6 (.inl (some (.int r9)), S9)) 0 0 S 0 [(0, .ref v0), (1, .int v1), (2, .ref v2)] []
  unfold F_L_beds at h
  refine aw_aload_n 2 dL_beds_0 rfl rfl ?_
  refine aw_iconst 0 dL_beds_1 rfl ?_
  refine aw_aload_n 0 dL_beds_2 rfl rfl ?_
  refine aw_iload_n 1 dL_beds_3 rfl rfl ?_
  obtain ⟨hL1, h⟩ := ax_is_spec h
  refine aw_tryI (rest := [.int 0, .ref v2]) h (fun u9 hF => aw_runV (As := [.int v1]) (rest := [.int 0, .ref v2]) (L1_X9_beds hl0 N hF) axc9 hL1 wd_1141 wd_1138 wd_1139 wd_1140 wd_87 pd_X9_beds rfl (ax_rm (by omega) rfl) ax_hfX (Nat.le_of_ble_eq_true rfl) rfl dL_beds_4) (fun x3 T2 h => ?_) (fun E9 T2 h => ?_)
  · refine aw_i2l dL_beds_7 ?_
    refine aw_last dL_beds_8 h (fun T4 h => ?_)
    refine aw_goto 15 dL_beds_9 (by decide) ?_
    refine aw_iconst 0 dL_beds_15 rfl ?_
    exact aw_iret dL_beds_16 rfl (Nat.le_of_ble_eq_true rfl) (Nat.le_of_ble_eq_true rfl) h
  · by_cases e0 : E9 = "java/lang/IllegalArgumentException"
    · rw [if_pos e0] at h
      refine aw_caught (name := "java/lang/IllegalArgumentException") [] ⟨0, 9, 12, 13⟩ [] rfl (fun z hz => nomatch hz) rfl (by decide) wd_596 (by rw [e0]; exact cast_iae) (fun q => ?_)
      refine aw_astore_n 3 [(3, .ref q), (0, .ref v0), (1, .int v1), (2, .ref v2)] dL_beds_12 rfl rfl rfl ?_
      refine aw_iconst 1 dL_beds_13 rfl ?_
      exact aw_iret dL_beds_14 rfl (Nat.le_of_ble_eq_true rfl) (Nat.le_of_ble_eq_true rfl) h
    · rw [if_neg e0] at h
      cases h

theorem dL_bed_0 : decode cL_bed 0 = .ok (.aload_n 3, 1) := by decide +kernel
theorem dL_bed_1 : decode cL_bed 1 = .ok (.iconst 0, 1) := by decide +kernel
theorem dL_bed_2 : decode cL_bed 2 = .ok (.aload_n 0, 1) := by decide +kernel
theorem dL_bed_3 : decode cL_bed 3 = .ok (.iload_n 1, 1) := by decide +kernel
theorem dL_bed_4 : decode cL_bed 4 = .ok (.iload_n 2, 1) := by decide +kernel
theorem dL_bed_5 : decode cL_bed 5 = .ok (.invokevirtual 82, 3) := by decide +kernel
theorem dL_bed_8 : decode cL_bed 8 = .ok (.i2l, 1) := by decide +kernel
theorem dL_bed_9 : decode cL_bed 9 = .ok (.lastore, 1) := by decide +kernel
theorem dL_bed_10 : decode cL_bed 10 = .ok (.goto 11, 3) := by decide +kernel
theorem dL_bed_13 : decode cL_bed 13 = .ok (.astore 4, 2) := by decide +kernel
theorem dL_bed_15 : decode cL_bed 15 = .ok (.iconst 1, 1) := by decide +kernel
theorem dL_bed_16 : decode cL_bed 16 = .ok (.ireturn, 1) := by decide +kernel
theorem dL_bed_17 : decode cL_bed 17 = .ok (.astore 4, 2) := by decide +kernel
theorem dL_bed_19 : decode cL_bed 19 = .ok (.iconst 2, 1) := by decide +kernel
theorem dL_bed_20 : decode cL_bed 20 = .ok (.ireturn, 1) := by decide +kernel
theorem dL_bed_21 : decode cL_bed 21 = .ok (.iconst 0, 1) := by decide +kernel
theorem dL_bed_22 : decode cL_bed 22 = .ok (.ireturn, 1) := by decide +kernel
abbrev mt_L_bed : AxM := (RL, cL_bed, 5, (some .int), false, [(0, 10, 13, 34), (0, 10, 17, 13)])
theorem L1_L_bed {g : AxG} {l : Launch} (hl0 : l.stackTraces = false) (N : Nat) {v0 : Nat} {v1 : Int32} {v2 : Int32} {v3 : Nat} {S : AxS} {r9 : Int32} {S9 : AxS} (h : F_L_bed N v0 v1 v2 v3 S = some ((r9, S9))) : AxMetH g l yL_bed cL_bed 5 (some .int) [(0, 10, 13, 34), (0, 10, 17, 13)] (10) 1 6 [.ref v0, .int v1, .int v2, .ref v3] S ((.inl (some (.int r9)), S9)) := by
  refine ax_metH (own := RL) (by decide +kernel) rfl rfl ?_
  show AW g l (axRm (10) 1 6) mt_L_bed (axMQ g 1 6 (.inl (some (.int r9)), S9)) 0 0 S 0 [(0, .ref v0), (1, .int v1), (2, .int v2), (3, .ref v3)] []
  unfold F_L_bed at h
  refine aw_aload_n 3 dL_bed_0 rfl rfl ?_
  refine aw_iconst 0 dL_bed_1 rfl ?_
  refine aw_aload_n 0 dL_bed_2 rfl rfl ?_
  refine aw_iload_n 1 dL_bed_3 rfl rfl ?_
  refine aw_iload_n 2 dL_bed_4 rfl rfl ?_
  obtain ⟨hL1, h⟩ := ax_is_spec h
  refine aw_tryI (rest := [.int 0, .ref v3]) h (fun u9 hF => aw_runV (As := [.int v1, .int v2]) (rest := [.int 0, .ref v3]) (L1_X9_bed hl0 N hF) axc9 hL1 wd_1171 wd_1168 wd_1169 wd_1170 wd_87 pd_X9_bed rfl (ax_rm (by omega) rfl) ax_hfX (Nat.le_of_ble_eq_true rfl) rfl dL_bed_5) (fun x3 T2 h => ?_) (fun E9 T2 h => ?_)
  · refine aw_i2l dL_bed_8 ?_
    refine aw_last dL_bed_9 h (fun T4 h => ?_)
    refine aw_goto 21 dL_bed_10 (by decide) ?_
    refine aw_iconst 0 dL_bed_21 rfl ?_
    exact aw_iret dL_bed_22 rfl (Nat.le_of_ble_eq_true rfl) (Nat.le_of_ble_eq_true rfl) h
  · by_cases e0 : E9 = "java/util/NoSuchElementException"
    · rw [if_pos e0] at h
      refine aw_caught (name := "java/util/NoSuchElementException") [] ⟨0, 10, 13, 34⟩ [⟨0, 10, 17, 13⟩] rfl (fun z hz => nomatch hz) rfl (by decide) wd_967 (by rw [e0]; exact cast_nse) (fun q => ?_)
      refine aw_astore [(4, .ref q), (0, .ref v0), (1, .int v1), (2, .int v2), (3, .ref v3)] dL_bed_13 rfl rfl ?_
      refine aw_iconst 1 dL_bed_15 rfl ?_
      exact aw_iret dL_bed_16 rfl (Nat.le_of_ble_eq_true rfl) (Nat.le_of_ble_eq_true rfl) h
    · rw [if_neg e0] at h
      by_cases e1 : E9 = "java/lang/IllegalArgumentException"
      · rw [if_pos e1] at h
        refine aw_caught (name := "java/lang/IllegalArgumentException") [⟨0, 10, 13, 34⟩] ⟨0, 10, 17, 13⟩ [] rfl (fun z hz => by rw [List.mem_singleton.mp hz]; exact ⟨by decide, wd_967, e1⟩) rfl (by decide) wd_596 (by rw [e1]; exact cast_iae) (fun q => ?_)
        refine aw_astore [(4, .ref q), (0, .ref v0), (1, .int v1), (2, .int v2), (3, .ref v3)] dL_bed_17 rfl rfl ?_
        refine aw_iconst 2 dL_bed_19 rfl ?_
        exact aw_iret dL_bed_20 rfl (Nat.le_of_ble_eq_true rfl) (Nat.le_of_ble_eq_true rfl) h
      · rw [if_neg e1] at h
        cases h

theorem dL_watch_0 : decode cL_watch 0 = .ok (.aload_n 3, 1) := by decide +kernel
theorem dL_watch_1 : decode cL_watch 1 = .ok (.iconst 0, 1) := by decide +kernel
theorem dL_watch_2 : decode cL_watch 2 = .ok (.aload_n 0, 1) := by decide +kernel
theorem dL_watch_3 : decode cL_watch 3 = .ok (.iload_n 1, 1) := by decide +kernel
theorem dL_watch_4 : decode cL_watch 4 = .ok (.iload_n 2, 1) := by decide +kernel
theorem dL_watch_5 : decode cL_watch 5 = .ok (.invokevirtual 85, 3) := by decide +kernel
theorem dL_watch_8 : decode cL_watch 8 = .ok (.i2l, 1) := by decide +kernel
theorem dL_watch_9 : decode cL_watch 9 = .ok (.lastore, 1) := by decide +kernel
theorem dL_watch_10 : decode cL_watch 10 = .ok (.goto 11, 3) := by decide +kernel
theorem dL_watch_13 : decode cL_watch 13 = .ok (.astore 4, 2) := by decide +kernel
theorem dL_watch_15 : decode cL_watch 15 = .ok (.iconst 1, 1) := by decide +kernel
theorem dL_watch_16 : decode cL_watch 16 = .ok (.ireturn, 1) := by decide +kernel
theorem dL_watch_17 : decode cL_watch 17 = .ok (.astore 4, 2) := by decide +kernel
theorem dL_watch_19 : decode cL_watch 19 = .ok (.iconst 2, 1) := by decide +kernel
theorem dL_watch_20 : decode cL_watch 20 = .ok (.ireturn, 1) := by decide +kernel
theorem dL_watch_21 : decode cL_watch 21 = .ok (.iconst 0, 1) := by decide +kernel
theorem dL_watch_22 : decode cL_watch 22 = .ok (.ireturn, 1) := by decide +kernel
abbrev mt_L_watch : AxM := (RL, cL_watch, 5, (some .int), false, [(0, 10, 13, 34), (0, 10, 17, 13)])
theorem L1_L_watch {g : AxG} {l : Launch} (hl0 : l.stackTraces = false) (N : Nat) {v0 : Nat} {v1 : Int32} {v2 : Int32} {v3 : Nat} {S : AxS} {r9 : Int32} {S9 : AxS} (h : F_L_watch N v0 v1 v2 v3 S = some ((r9, S9))) : AxMetH g l yL_watch cL_watch 5 (some .int) [(0, 10, 13, 34), (0, 10, 17, 13)] (10) 1 6 [.ref v0, .int v1, .int v2, .ref v3] S ((.inl (some (.int r9)), S9)) := by
  refine ax_metH (own := RL) (by decide +kernel) rfl rfl ?_
  show AW g l (axRm (10) 1 6) mt_L_watch (axMQ g 1 6 (.inl (some (.int r9)), S9)) 0 0 S 0 [(0, .ref v0), (1, .int v1), (2, .int v2), (3, .ref v3)] []
  unfold F_L_watch at h
  refine aw_aload_n 3 dL_watch_0 rfl rfl ?_
  refine aw_iconst 0 dL_watch_1 rfl ?_
  refine aw_aload_n 0 dL_watch_2 rfl rfl ?_
  refine aw_iload_n 1 dL_watch_3 rfl rfl ?_
  refine aw_iload_n 2 dL_watch_4 rfl rfl ?_
  obtain ⟨hL1, h⟩ := ax_is_spec h
  refine aw_tryI (rest := [.int 0, .ref v3]) h (fun u9 hF => aw_runV (As := [.int v1, .int v2]) (rest := [.int 0, .ref v3]) (L1_X9_watch hl0 N hF) axc9 hL1 wd_1178 wd_1175 wd_1176 wd_1177 wd_87 pd_X9_watch rfl (ax_rm (by omega) rfl) ax_hfX (Nat.le_of_ble_eq_true rfl) rfl dL_watch_5) (fun x3 T2 h => ?_) (fun E9 T2 h => ?_)
  · refine aw_i2l dL_watch_8 ?_
    refine aw_last dL_watch_9 h (fun T4 h => ?_)
    refine aw_goto 21 dL_watch_10 (by decide) ?_
    refine aw_iconst 0 dL_watch_21 rfl ?_
    exact aw_iret dL_watch_22 rfl (Nat.le_of_ble_eq_true rfl) (Nat.le_of_ble_eq_true rfl) h
  · by_cases e0 : E9 = "java/util/NoSuchElementException"
    · rw [if_pos e0] at h
      refine aw_caught (name := "java/util/NoSuchElementException") [] ⟨0, 10, 13, 34⟩ [⟨0, 10, 17, 13⟩] rfl (fun z hz => nomatch hz) rfl (by decide) wd_967 (by rw [e0]; exact cast_nse) (fun q => ?_)
      refine aw_astore [(4, .ref q), (0, .ref v0), (1, .int v1), (2, .int v2), (3, .ref v3)] dL_watch_13 rfl rfl ?_
      refine aw_iconst 1 dL_watch_15 rfl ?_
      exact aw_iret dL_watch_16 rfl (Nat.le_of_ble_eq_true rfl) (Nat.le_of_ble_eq_true rfl) h
    · rw [if_neg e0] at h
      by_cases e1 : E9 = "java/lang/IllegalArgumentException"
      · rw [if_pos e1] at h
        refine aw_caught (name := "java/lang/IllegalArgumentException") [⟨0, 10, 13, 34⟩] ⟨0, 10, 17, 13⟩ [] rfl (fun z hz => by rw [List.mem_singleton.mp hz]; exact ⟨by decide, wd_967, e1⟩) rfl (by decide) wd_596 (by rw [e1]; exact cast_iae) (fun q => ?_)
        refine aw_astore [(4, .ref q), (0, .ref v0), (1, .int v1), (2, .int v2), (3, .ref v3)] dL_watch_17 rfl rfl ?_
        refine aw_iconst 2 dL_watch_19 rfl ?_
        exact aw_iret dL_watch_20 rfl (Nat.le_of_ble_eq_true rfl) (Nat.le_of_ble_eq_true rfl) h
      · rw [if_neg e1] at h
        cases h

theorem dL_heirs_0 : decode cL_heirs 0 = .ok (.aload_n 3, 1) := by decide +kernel
theorem dL_heirs_1 : decode cL_heirs 1 = .ok (.iconst 0, 1) := by decide +kernel
theorem dL_heirs_2 : decode cL_heirs 2 = .ok (.aload_n 0, 1) := by decide +kernel
theorem dL_heirs_3 : decode cL_heirs 3 = .ok (.iload_n 1, 1) := by decide +kernel
theorem dL_heirs_4 : decode cL_heirs 4 = .ok (.iload_n 2, 1) := by decide +kernel
theorem dL_heirs_5 : decode cL_heirs 5 = .ok (.invokevirtual 88, 3) := by decide +kernel
theorem dL_heirs_8 : decode cL_heirs 8 = .ok (.i2l, 1) := by decide +kernel
theorem dL_heirs_9 : decode cL_heirs 9 = .ok (.lastore, 1) := by decide +kernel
theorem dL_heirs_10 : decode cL_heirs 10 = .ok (.goto 7, 3) := by decide +kernel
theorem dL_heirs_13 : decode cL_heirs 13 = .ok (.astore 4, 2) := by decide +kernel
theorem dL_heirs_15 : decode cL_heirs 15 = .ok (.iconst 1, 1) := by decide +kernel
theorem dL_heirs_16 : decode cL_heirs 16 = .ok (.ireturn, 1) := by decide +kernel
theorem dL_heirs_17 : decode cL_heirs 17 = .ok (.iconst 0, 1) := by decide +kernel
theorem dL_heirs_18 : decode cL_heirs 18 = .ok (.ireturn, 1) := by decide +kernel
abbrev mt_L_heirs : AxM := (RL, cL_heirs, 5, (some .int), false, [(0, 10, 13, 13)])
theorem L1_L_heirs {g : AxG} {l : Launch} (hl0 : l.stackTraces = false) (N : Nat) {v0 : Nat} {v1 : Int32} {v2 : Int32} {v3 : Nat} {S : AxS} {r9 : Int32} {S9 : AxS} (h : F_L_heirs N v0 v1 v2 v3 S = some ((r9, S9))) : AxMetH g l yL_heirs cL_heirs 5 (some .int) [(0, 10, 13, 13)] (10) 1 6 [.ref v0, .int v1, .int v2, .ref v3] S ((.inl (some (.int r9)), S9)) := by
  refine ax_metH (own := RL) (by decide +kernel) rfl rfl ?_
  show AW g l (axRm (10) 1 6) mt_L_heirs (axMQ g 1 6 (.inl (some (.int r9)), S9)) 0 0 S 0 [(0, .ref v0), (1, .int v1), (2, .int v2), (3, .ref v3)] []
  unfold F_L_heirs at h
  refine aw_aload_n 3 dL_heirs_0 rfl rfl ?_
  refine aw_iconst 0 dL_heirs_1 rfl ?_
  refine aw_aload_n 0 dL_heirs_2 rfl rfl ?_
  refine aw_iload_n 1 dL_heirs_3 rfl rfl ?_
  refine aw_iload_n 2 dL_heirs_4 rfl rfl ?_
  obtain ⟨hL1, h⟩ := ax_is_spec h
  refine aw_tryI (rest := [.int 0, .ref v3]) h (fun u9 hF => aw_runV (As := [.int v1, .int v2]) (rest := [.int 0, .ref v3]) (L1_X9_heirs hl0 N hF) axc9 hL1 wd_1185 wd_1182 wd_1183 wd_1184 wd_87 pd_X9_heirs rfl (ax_rm (by omega) rfl) ax_hfX (Nat.le_of_ble_eq_true rfl) rfl dL_heirs_5) (fun x3 T2 h => ?_) (fun E9 T2 h => ?_)
  · refine aw_i2l dL_heirs_8 ?_
    refine aw_last dL_heirs_9 h (fun T4 h => ?_)
    refine aw_goto 17 dL_heirs_10 (by decide) ?_
    refine aw_iconst 0 dL_heirs_17 rfl ?_
    exact aw_iret dL_heirs_18 rfl (Nat.le_of_ble_eq_true rfl) (Nat.le_of_ble_eq_true rfl) h
  · by_cases e0 : E9 = "java/lang/IllegalArgumentException"
    · rw [if_pos e0] at h
      refine aw_caught (name := "java/lang/IllegalArgumentException") [] ⟨0, 10, 13, 13⟩ [] rfl (fun z hz => nomatch hz) rfl (by decide) wd_596 (by rw [e0]; exact cast_iae) (fun q => ?_)
      refine aw_astore [(4, .ref q), (0, .ref v0), (1, .int v1), (2, .int v2), (3, .ref v3)] dL_heirs_13 rfl rfl ?_
      refine aw_iconst 1 dL_heirs_15 rfl ?_
      exact aw_iret dL_heirs_16 rfl (Nat.le_of_ble_eq_true rfl) (Nat.le_of_ble_eq_true rfl) h
    · rw [if_neg e0] at h
      cases h

theorem dL_sleepers_0 : decode cL_sleepers 0 = .ok (.aload_n 2, 1) := by decide +kernel
theorem dL_sleepers_1 : decode cL_sleepers 1 = .ok (.iconst 0, 1) := by decide +kernel
theorem dL_sleepers_2 : decode cL_sleepers 2 = .ok (.aload_n 0, 1) := by decide +kernel
theorem dL_sleepers_3 : decode cL_sleepers 3 = .ok (.iload_n 1, 1) := by decide +kernel
theorem dL_sleepers_4 : decode cL_sleepers 4 = .ok (.invokevirtual 91, 3) := by decide +kernel
theorem dL_sleepers_7 : decode cL_sleepers 7 = .ok (.i2l, 1) := by decide +kernel
theorem dL_sleepers_8 : decode cL_sleepers 8 = .ok (.lastore, 1) := by decide +kernel
theorem dL_sleepers_9 : decode cL_sleepers 9 = .ok (.goto 6, 3) := by decide +kernel
theorem dL_sleepers_12 : decode cL_sleepers 12 = .ok (.astore_n 3, 1) := by decide +kernel
theorem dL_sleepers_13 : decode cL_sleepers 13 = .ok (.iconst 1, 1) := by decide +kernel
theorem dL_sleepers_14 : decode cL_sleepers 14 = .ok (.ireturn, 1) := by decide +kernel
theorem dL_sleepers_15 : decode cL_sleepers 15 = .ok (.iconst 0, 1) := by decide +kernel
theorem dL_sleepers_16 : decode cL_sleepers 16 = .ok (.ireturn, 1) := by decide +kernel
abbrev mt_L_sleepers : AxM := (RL, cL_sleepers, 4, (some .int), false, [(0, 9, 12, 13)])
theorem L1_L_sleepers {g : AxG} {l : Launch} (hl0 : l.stackTraces = false) (N : Nat) {v0 : Nat} {v1 : Int32} {v2 : Nat} {S : AxS} {r9 : Int32} {S9 : AxS} (h : F_L_sleepers N v0 v1 v2 S = some ((r9, S9))) : AxMetH g l yL_sleepers cL_sleepers 4 (some .int) [(0, 9, 12, 13)] (10) 1 6 [.ref v0, .int v1, .ref v2] S ((.inl (some (.int r9)), S9)) := by
  refine ax_metH (own := RL) (by decide +kernel) rfl rfl ?_
  show AW g l (axRm (10) 1 6) mt_L_sleepers (axMQ g 1 6 (.inl (some (.int r9)), S9)) 0 0 S 0 [(0, .ref v0), (1, .int v1), (2, .ref v2)] []
  unfold F_L_sleepers at h
  refine aw_aload_n 2 dL_sleepers_0 rfl rfl ?_
  refine aw_iconst 0 dL_sleepers_1 rfl ?_
  refine aw_aload_n 0 dL_sleepers_2 rfl rfl ?_
  refine aw_iload_n 1 dL_sleepers_3 rfl rfl ?_
  obtain ⟨hL1, h⟩ := ax_is_spec h
  refine aw_tryI (rest := [.int 0, .ref v2]) h (fun u9 hF => aw_runV (As := [.int v1]) (rest := [.int 0, .ref v2]) (L1_X9_sleepers hl0 N hF) axc9 hL1 wd_1212 wd_1209 wd_1210 wd_1211 wd_87 pd_X9_sleepers rfl (ax_rm (by omega) rfl) ax_hfX (Nat.le_of_ble_eq_true rfl) rfl dL_sleepers_4) (fun x3 T2 h => ?_) (fun E9 T2 h => ?_)
  · refine aw_i2l dL_sleepers_7 ?_
    refine aw_last dL_sleepers_8 h (fun T4 h => ?_)
    refine aw_goto 15 dL_sleepers_9 (by decide) ?_
    refine aw_iconst 0 dL_sleepers_15 rfl ?_
    exact aw_iret dL_sleepers_16 rfl (Nat.le_of_ble_eq_true rfl) (Nat.le_of_ble_eq_true rfl) h
  · by_cases e0 : E9 = "java/lang/IllegalArgumentException"
    · rw [if_pos e0] at h
      refine aw_caught (name := "java/lang/IllegalArgumentException") [] ⟨0, 9, 12, 13⟩ [] rfl (fun z hz => nomatch hz) rfl (by decide) wd_596 (by rw [e0]; exact cast_iae) (fun q => ?_)
      refine aw_astore_n 3 [(3, .ref q), (0, .ref v0), (1, .int v1), (2, .ref v2)] dL_sleepers_12 rfl rfl rfl ?_
      refine aw_iconst 1 dL_sleepers_13 rfl ?_
      exact aw_iret dL_sleepers_14 rfl (Nat.le_of_ble_eq_true rfl) (Nat.le_of_ble_eq_true rfl) h
    · rw [if_neg e0] at h
      cases h

theorem dL_grows_0 : decode cL_grows 0 = .ok (.aload_n 2, 1) := by decide +kernel
theorem dL_grows_1 : decode cL_grows 1 = .ok (.iconst 0, 1) := by decide +kernel
theorem dL_grows_2 : decode cL_grows 2 = .ok (.aload_n 0, 1) := by decide +kernel
theorem dL_grows_3 : decode cL_grows 3 = .ok (.iload_n 1, 1) := by decide +kernel
theorem dL_grows_4 : decode cL_grows 4 = .ok (.invokevirtual 94, 3) := by decide +kernel
theorem dL_grows_7 : decode cL_grows 7 = .ok (.i2l, 1) := by decide +kernel
theorem dL_grows_8 : decode cL_grows 8 = .ok (.lastore, 1) := by decide +kernel
theorem dL_grows_9 : decode cL_grows 9 = .ok (.goto 6, 3) := by decide +kernel
theorem dL_grows_12 : decode cL_grows 12 = .ok (.astore_n 3, 1) := by decide +kernel
theorem dL_grows_13 : decode cL_grows 13 = .ok (.iconst 1, 1) := by decide +kernel
theorem dL_grows_14 : decode cL_grows 14 = .ok (.ireturn, 1) := by decide +kernel
theorem dL_grows_15 : decode cL_grows 15 = .ok (.iconst 0, 1) := by decide +kernel
theorem dL_grows_16 : decode cL_grows 16 = .ok (.ireturn, 1) := by decide +kernel
abbrev mt_L_grows : AxM := (RL, cL_grows, 4, (some .int), false, [(0, 9, 12, 13)])
theorem L1_L_grows {g : AxG} {l : Launch} (hl0 : l.stackTraces = false) (N : Nat) {v0 : Nat} {v1 : Int32} {v2 : Nat} {S : AxS} {r9 : Int32} {S9 : AxS} (h : F_L_grows N v0 v1 v2 S = some ((r9, S9))) : AxMetH g l yL_grows cL_grows 4 (some .int) [(0, 9, 12, 13)] (10) 1 6 [.ref v0, .int v1, .ref v2] S ((.inl (some (.int r9)), S9)) := by
  refine ax_metH (own := RL) (by decide +kernel) rfl rfl ?_
  show AW g l (axRm (10) 1 6) mt_L_grows (axMQ g 1 6 (.inl (some (.int r9)), S9)) 0 0 S 0 [(0, .ref v0), (1, .int v1), (2, .ref v2)] []
  unfold F_L_grows at h
  refine aw_aload_n 2 dL_grows_0 rfl rfl ?_
  refine aw_iconst 0 dL_grows_1 rfl ?_
  refine aw_aload_n 0 dL_grows_2 rfl rfl ?_
  refine aw_iload_n 1 dL_grows_3 rfl rfl ?_
  obtain ⟨hL1, h⟩ := ax_is_spec h
  refine aw_tryI (rest := [.int 0, .ref v2]) h (fun u9 hF => aw_runV (As := [.int v1]) (rest := [.int 0, .ref v2]) (L1_X9_grows hl0 N hF) axc9 hL1 wd_1219 wd_1216 wd_1217 wd_1218 wd_87 pd_X9_grows rfl (ax_rm (by omega) rfl) ax_hfX (Nat.le_of_ble_eq_true rfl) rfl dL_grows_4) (fun x3 T2 h => ?_) (fun E9 T2 h => ?_)
  · refine aw_i2l dL_grows_7 ?_
    refine aw_last dL_grows_8 h (fun T4 h => ?_)
    refine aw_goto 15 dL_grows_9 (by decide) ?_
    refine aw_iconst 0 dL_grows_15 rfl ?_
    exact aw_iret dL_grows_16 rfl (Nat.le_of_ble_eq_true rfl) (Nat.le_of_ble_eq_true rfl) h
  · by_cases e0 : E9 = "java/lang/IllegalArgumentException"
    · rw [if_pos e0] at h
      refine aw_caught (name := "java/lang/IllegalArgumentException") [] ⟨0, 9, 12, 13⟩ [] rfl (fun z hz => nomatch hz) rfl (by decide) wd_596 (by rw [e0]; exact cast_iae) (fun q => ?_)
      refine aw_astore_n 3 [(3, .ref q), (0, .ref v0), (1, .int v1), (2, .ref v2)] dL_grows_12 rfl rfl rfl ?_
      refine aw_iconst 1 dL_grows_13 rfl ?_
      exact aw_iret dL_grows_14 rfl (Nat.le_of_ble_eq_true rfl) (Nat.le_of_ble_eq_true rfl) h
    · rw [if_neg e0] at h
      cases h

theorem dL_bears_0 : decode cL_bears 0 = .ok (.aload_n 3, 1) := by decide +kernel
theorem dL_bears_1 : decode cL_bears 1 = .ok (.iconst 0, 1) := by decide +kernel
theorem dL_bears_2 : decode cL_bears 2 = .ok (.aload_n 0, 1) := by decide +kernel
theorem dL_bears_3 : decode cL_bears 3 = .ok (.iload_n 1, 1) := by decide +kernel
theorem dL_bears_4 : decode cL_bears 4 = .ok (.iload_n 2, 1) := by decide +kernel
theorem dL_bears_5 : decode cL_bears 5 = .ok (.invokevirtual 97, 3) := by decide +kernel
theorem dL_bears_8 : decode cL_bears 8 = .ok (.i2l, 1) := by decide +kernel
theorem dL_bears_9 : decode cL_bears 9 = .ok (.lastore, 1) := by decide +kernel
theorem dL_bears_10 : decode cL_bears 10 = .ok (.goto 7, 3) := by decide +kernel
theorem dL_bears_13 : decode cL_bears 13 = .ok (.astore 4, 2) := by decide +kernel
theorem dL_bears_15 : decode cL_bears 15 = .ok (.iconst 1, 1) := by decide +kernel
theorem dL_bears_16 : decode cL_bears 16 = .ok (.ireturn, 1) := by decide +kernel
theorem dL_bears_17 : decode cL_bears 17 = .ok (.iconst 0, 1) := by decide +kernel
theorem dL_bears_18 : decode cL_bears 18 = .ok (.ireturn, 1) := by decide +kernel
abbrev mt_L_bears : AxM := (RL, cL_bears, 5, (some .int), false, [(0, 10, 13, 34)])
theorem L1_L_bears {g : AxG} {l : Launch} (hl0 : l.stackTraces = false) (N : Nat) {v0 : Nat} {v1 : Int32} {v2 : Int32} {v3 : Nat} {S : AxS} {r9 : Int32} {S9 : AxS} (h : F_L_bears N v0 v1 v2 v3 S = some ((r9, S9))) : AxMetH g l yL_bears cL_bears 5 (some .int) [(0, 10, 13, 34)] (10) 1 6 [.ref v0, .int v1, .int v2, .ref v3] S ((.inl (some (.int r9)), S9)) := by
  refine ax_metH (own := RL) (by decide +kernel) rfl rfl ?_
  show AW g l (axRm (10) 1 6) mt_L_bears (axMQ g 1 6 (.inl (some (.int r9)), S9)) 0 0 S 0 [(0, .ref v0), (1, .int v1), (2, .int v2), (3, .ref v3)] []
  unfold F_L_bears at h
  refine aw_aload_n 3 dL_bears_0 rfl rfl ?_
  refine aw_iconst 0 dL_bears_1 rfl ?_
  refine aw_aload_n 0 dL_bears_2 rfl rfl ?_
  refine aw_iload_n 1 dL_bears_3 rfl rfl ?_
  refine aw_iload_n 2 dL_bears_4 rfl rfl ?_
  obtain ⟨hL1, h⟩ := ax_is_spec h
  refine aw_tryI (rest := [.int 0, .ref v3]) h (fun u9 hF => aw_runV (As := [.int v1, .int v2]) (rest := [.int 0, .ref v3]) (L1_X9_bears hl0 N hF) axc9 hL1 wd_1226 wd_1223 wd_1224 wd_1225 wd_87 pd_X9_bears rfl (ax_rm (by omega) rfl) ax_hfX (Nat.le_of_ble_eq_true rfl) rfl dL_bears_5) (fun x3 T2 h => ?_) (fun E9 T2 h => ?_)
  · refine aw_i2l dL_bears_8 ?_
    refine aw_last dL_bears_9 h (fun T4 h => ?_)
    refine aw_goto 17 dL_bears_10 (by decide) ?_
    refine aw_iconst 0 dL_bears_17 rfl ?_
    exact aw_iret dL_bears_18 rfl (Nat.le_of_ble_eq_true rfl) (Nat.le_of_ble_eq_true rfl) h
  · by_cases e0 : E9 = "java/util/NoSuchElementException"
    · rw [if_pos e0] at h
      refine aw_caught (name := "java/util/NoSuchElementException") [] ⟨0, 10, 13, 34⟩ [] rfl (fun z hz => nomatch hz) rfl (by decide) wd_967 (by rw [e0]; exact cast_nse) (fun q => ?_)
      refine aw_astore [(4, .ref q), (0, .ref v0), (1, .int v1), (2, .int v2), (3, .ref v3)] dL_bears_13 rfl rfl ?_
      refine aw_iconst 1 dL_bears_15 rfl ?_
      exact aw_iret dL_bears_16 rfl (Nat.le_of_ble_eq_true rfl) (Nat.le_of_ble_eq_true rfl) h
    · rw [if_neg e0] at h
      cases h

theorem dL_level_0 : decode cL_level 0 = .ok (.aload_n 2, 1) := by decide +kernel
theorem dL_level_1 : decode cL_level 1 = .ok (.iconst 0, 1) := by decide +kernel
theorem dL_level_2 : decode cL_level 2 = .ok (.aload_n 0, 1) := by decide +kernel
theorem dL_level_3 : decode cL_level 3 = .ok (.iload_n 1, 1) := by decide +kernel
theorem dL_level_4 : decode cL_level 4 = .ok (.invokevirtual 100, 3) := by decide +kernel
theorem dL_level_7 : decode cL_level 7 = .ok (.i2l, 1) := by decide +kernel
theorem dL_level_8 : decode cL_level 8 = .ok (.lastore, 1) := by decide +kernel
theorem dL_level_9 : decode cL_level 9 = .ok (.goto 6, 3) := by decide +kernel
theorem dL_level_12 : decode cL_level 12 = .ok (.astore_n 3, 1) := by decide +kernel
theorem dL_level_13 : decode cL_level 13 = .ok (.iconst 1, 1) := by decide +kernel
theorem dL_level_14 : decode cL_level 14 = .ok (.ireturn, 1) := by decide +kernel
theorem dL_level_15 : decode cL_level 15 = .ok (.iconst 0, 1) := by decide +kernel
theorem dL_level_16 : decode cL_level 16 = .ok (.ireturn, 1) := by decide +kernel
abbrev mt_L_level : AxM := (RL, cL_level, 4, (some .int), false, [(0, 9, 12, 13)])
theorem L1_L_level {g : AxG} {l : Launch} (hl0 : l.stackTraces = false) (N : Nat) {v0 : Nat} {v1 : Int32} {v2 : Nat} {S : AxS} {r9 : Int32} {S9 : AxS} (h : F_L_level N v0 v1 v2 S = some ((r9, S9))) : AxMetH g l yL_level cL_level 4 (some .int) [(0, 9, 12, 13)] (10) 1 6 [.ref v0, .int v1, .ref v2] S ((.inl (some (.int r9)), S9)) := by
  refine ax_metH (own := RL) (by decide +kernel) rfl rfl ?_
  show AW g l (axRm (10) 1 6) mt_L_level (axMQ g 1 6 (.inl (some (.int r9)), S9)) 0 0 S 0 [(0, .ref v0), (1, .int v1), (2, .ref v2)] []
  unfold F_L_level at h
  refine aw_aload_n 2 dL_level_0 rfl rfl ?_
  refine aw_iconst 0 dL_level_1 rfl ?_
  refine aw_aload_n 0 dL_level_2 rfl rfl ?_
  refine aw_iload_n 1 dL_level_3 rfl rfl ?_
  obtain ⟨hL1, h⟩ := ax_is_spec h
  refine aw_tryI (rest := [.int 0, .ref v2]) h (fun u9 hF => aw_runV (As := [.int v1]) (rest := [.int 0, .ref v2]) (L1_X9_level hl0 N hF) axc9 hL1 wd_1233 wd_1230 wd_1231 wd_1232 wd_87 pd_X9_level rfl (ax_rm (by omega) rfl) ax_hfX (Nat.le_of_ble_eq_true rfl) rfl dL_level_4) (fun x3 T2 h => ?_) (fun E9 T2 h => ?_)
  · refine aw_i2l dL_level_7 ?_
    refine aw_last dL_level_8 h (fun T4 h => ?_)
    refine aw_goto 15 dL_level_9 (by decide) ?_
    refine aw_iconst 0 dL_level_15 rfl ?_
    exact aw_iret dL_level_16 rfl (Nat.le_of_ble_eq_true rfl) (Nat.le_of_ble_eq_true rfl) h
  · by_cases e0 : E9 = "java/lang/IllegalArgumentException"
    · rw [if_pos e0] at h
      refine aw_caught (name := "java/lang/IllegalArgumentException") [] ⟨0, 9, 12, 13⟩ [] rfl (fun z hz => nomatch hz) rfl (by decide) wd_596 (by rw [e0]; exact cast_iae) (fun q => ?_)
      refine aw_astore_n 3 [(3, .ref q), (0, .ref v0), (1, .int v1), (2, .ref v2)] dL_level_12 rfl rfl rfl ?_
      refine aw_iconst 1 dL_level_13 rfl ?_
      exact aw_iret dL_level_14 rfl (Nat.le_of_ble_eq_true rfl) (Nat.le_of_ble_eq_true rfl) h
    · rw [if_neg e0] at h
      cases h

theorem dL_years_0 : decode cL_years 0 = .ok (.aload 7, 2) := by decide +kernel
theorem dL_years_2 : decode cL_years 2 = .ok (.iconst 0, 1) := by decide +kernel
theorem dL_years_3 : decode cL_years 3 = .ok (.aload_n 0, 1) := by decide +kernel
theorem dL_years_4 : decode cL_years 4 = .ok (.iload_n 1, 1) := by decide +kernel
theorem dL_years_5 : decode cL_years 5 = .ok (.iload_n 2, 1) := by decide +kernel
theorem dL_years_6 : decode cL_years 6 = .ok (.iload_n 3, 1) := by decide +kernel
theorem dL_years_7 : decode cL_years 7 = .ok (.iload 4, 2) := by decide +kernel
theorem dL_years_9 : decode cL_years 9 = .ok (.iload 5, 2) := by decide +kernel
theorem dL_years_11 : decode cL_years 11 = .ok (.iload 6, 2) := by decide +kernel
theorem dL_years_13 : decode cL_years 13 = .ok (.invokevirtual 103, 3) := by decide +kernel
theorem dL_years_16 : decode cL_years 16 = .ok (.i2l, 1) := by decide +kernel
theorem dL_years_17 : decode cL_years 17 = .ok (.lastore, 1) := by decide +kernel
theorem dL_years_18 : decode cL_years 18 = .ok (.goto 7, 3) := by decide +kernel
theorem dL_years_21 : decode cL_years 21 = .ok (.astore 8, 2) := by decide +kernel
theorem dL_years_23 : decode cL_years 23 = .ok (.iconst 1, 1) := by decide +kernel
theorem dL_years_24 : decode cL_years 24 = .ok (.ireturn, 1) := by decide +kernel
theorem dL_years_25 : decode cL_years 25 = .ok (.iconst 0, 1) := by decide +kernel
theorem dL_years_26 : decode cL_years 26 = .ok (.ireturn, 1) := by decide +kernel
abbrev mt_L_years : AxM := (RL, cL_years, 9, (some .int), false, [(0, 18, 21, 13)])
theorem L1_L_years {g : AxG} {l : Launch} (hl0 : l.stackTraces = false) (N : Nat) {v0 : Nat} {v1 : Int32} {v2 : Int32} {v3 : Int32} {v4 : Int32} {v5 : Int32} {v6 : Int32} {v7 : Nat} {S : AxS} {r9 : Int32} {S9 : AxS} (h : F_L_years N v0 v1 v2 v3 v4 v5 v6 v7 S = some ((r9, S9))) : AxMetH g l yL_years cL_years 9 (some .int) [(0, 18, 21, 13)] (11) 1 6 [.ref v0, .int v1, .int v2, .int v3, .int v4, .int v5, .int v6, .ref v7] S ((.inl (some (.int r9)), S9)) := by
  refine ax_metH (own := RL) (by decide +kernel) rfl rfl ?_
  show AW g l (axRm (11) 1 6) mt_L_years (axMQ g 1 6 (.inl (some (.int r9)), S9)) 0 0 S 0 [(0, .ref v0), (1, .int v1), (2, .int v2), (3, .int v3), (4, .int v4), (5, .int v5), (6, .int v6), (7, .ref v7)] []
  unfold F_L_years at h
  refine aw_aload 7 dL_years_0 rfl ?_
  refine aw_iconst 0 dL_years_2 rfl ?_
  refine aw_aload_n 0 dL_years_3 rfl rfl ?_
  refine aw_iload_n 1 dL_years_4 rfl rfl ?_
  refine aw_iload_n 2 dL_years_5 rfl rfl ?_
  refine aw_iload_n 3 dL_years_6 rfl rfl ?_
  refine aw_iload 4 dL_years_7 rfl ?_
  refine aw_iload 5 dL_years_9 rfl ?_
  refine aw_iload 6 dL_years_11 rfl ?_
  obtain ⟨hL1, h⟩ := ax_is_spec h
  refine aw_tryI (rest := [.int 0, .ref v7]) h (fun u9 hF => aw_runV (As := [.int v1, .int v2, .int v3, .int v4, .int v5, .int v6]) (rest := [.int 0, .ref v7]) (L1_X9_years hl0 N hF) axc9 hL1 wd_1240 wd_1237 wd_1238 wd_1239 wd_87 pd_X9_years rfl (ax_rm (by omega) rfl) ax_hfX (Nat.le_of_ble_eq_true rfl) rfl dL_years_13) (fun x3 T2 h => ?_) (fun E9 T2 h => ?_)
  · refine aw_i2l dL_years_16 ?_
    refine aw_last dL_years_17 h (fun T4 h => ?_)
    refine aw_goto 25 dL_years_18 (by decide) ?_
    refine aw_iconst 0 dL_years_25 rfl ?_
    exact aw_iret dL_years_26 rfl (Nat.le_of_ble_eq_true rfl) (Nat.le_of_ble_eq_true rfl) h
  · by_cases e0 : E9 = "java/lang/IllegalArgumentException"
    · rw [if_pos e0] at h
      refine aw_caught (name := "java/lang/IllegalArgumentException") [] ⟨0, 18, 21, 13⟩ [] rfl (fun z hz => nomatch hz) rfl (by decide) wd_596 (by rw [e0]; exact cast_iae) (fun q => ?_)
      refine aw_astore [(8, .ref q), (0, .ref v0), (1, .int v1), (2, .int v2), (3, .int v3), (4, .int v4), (5, .int v5), (6, .int v6), (7, .ref v7)] dL_years_21 rfl rfl ?_
      refine aw_iconst 1 dL_years_23 rfl ?_
      exact aw_iret dL_years_24 rfl (Nat.le_of_ble_eq_true rfl) (Nat.le_of_ble_eq_true rfl) h
    · rw [if_neg e0] at h
      cases h

theorem dL_span_0 : decode cL_span 0 = .ok (.aload 8, 2) := by decide +kernel
theorem dL_span_2 : decode cL_span 2 = .ok (.iconst 0, 1) := by decide +kernel
theorem dL_span_3 : decode cL_span 3 = .ok (.aload_n 0, 1) := by decide +kernel
theorem dL_span_4 : decode cL_span 4 = .ok (.iload_n 1, 1) := by decide +kernel
theorem dL_span_5 : decode cL_span 5 = .ok (.iload_n 2, 1) := by decide +kernel
theorem dL_span_6 : decode cL_span 6 = .ok (.iload_n 3, 1) := by decide +kernel
theorem dL_span_7 : decode cL_span 7 = .ok (.iload 4, 2) := by decide +kernel
theorem dL_span_9 : decode cL_span 9 = .ok (.iload 5, 2) := by decide +kernel
theorem dL_span_11 : decode cL_span 11 = .ok (.iload 6, 2) := by decide +kernel
theorem dL_span_13 : decode cL_span 13 = .ok (.iload 7, 2) := by decide +kernel
theorem dL_span_15 : decode cL_span 15 = .ok (.invokevirtual 107, 3) := by decide +kernel
theorem dL_span_18 : decode cL_span 18 = .ok (.i2l, 1) := by decide +kernel
theorem dL_span_19 : decode cL_span 19 = .ok (.lastore, 1) := by decide +kernel
theorem dL_span_20 : decode cL_span 20 = .ok (.goto 7, 3) := by decide +kernel
theorem dL_span_23 : decode cL_span 23 = .ok (.astore 9, 2) := by decide +kernel
theorem dL_span_25 : decode cL_span 25 = .ok (.iconst 1, 1) := by decide +kernel
theorem dL_span_26 : decode cL_span 26 = .ok (.ireturn, 1) := by decide +kernel
theorem dL_span_27 : decode cL_span 27 = .ok (.iconst 0, 1) := by decide +kernel
theorem dL_span_28 : decode cL_span 28 = .ok (.ireturn, 1) := by decide +kernel
abbrev mt_L_span : AxM := (RL, cL_span, 10, (some .int), false, [(0, 20, 23, 13)])
theorem L1_L_span {g : AxG} {l : Launch} (hl0 : l.stackTraces = false) (N : Nat) {v0 : Nat} {v1 : Int32} {v2 : Int32} {v3 : Int32} {v4 : Int32} {v5 : Int32} {v6 : Int32} {v7 : Int32} {v8 : Nat} {S : AxS} {r9 : Int32} {S9 : AxS} (h : F_L_span N v0 v1 v2 v3 v4 v5 v6 v7 v8 S = some ((r9, S9))) : AxMetH g l yL_span cL_span 10 (some .int) [(0, 20, 23, 13)] (11) 1 6 [.ref v0, .int v1, .int v2, .int v3, .int v4, .int v5, .int v6, .int v7, .ref v8] S ((.inl (some (.int r9)), S9)) := by
  refine ax_metH (own := RL) (by decide +kernel) rfl rfl ?_
  show AW g l (axRm (11) 1 6) mt_L_span (axMQ g 1 6 (.inl (some (.int r9)), S9)) 0 0 S 0 [(0, .ref v0), (1, .int v1), (2, .int v2), (3, .int v3), (4, .int v4), (5, .int v5), (6, .int v6), (7, .int v7), (8, .ref v8)] []
  unfold F_L_span at h
  refine aw_aload 8 dL_span_0 rfl ?_
  refine aw_iconst 0 dL_span_2 rfl ?_
  refine aw_aload_n 0 dL_span_3 rfl rfl ?_
  refine aw_iload_n 1 dL_span_4 rfl rfl ?_
  refine aw_iload_n 2 dL_span_5 rfl rfl ?_
  refine aw_iload_n 3 dL_span_6 rfl rfl ?_
  refine aw_iload 4 dL_span_7 rfl ?_
  refine aw_iload 5 dL_span_9 rfl ?_
  refine aw_iload 6 dL_span_11 rfl ?_
  refine aw_iload 7 dL_span_13 rfl ?_
  obtain ⟨hL1, h⟩ := ax_is_spec h
  refine aw_tryI (rest := [.int 0, .ref v8]) h (fun u9 hF => aw_runV (As := [.int v1, .int v2, .int v3, .int v4, .int v5, .int v6, .int v7]) (rest := [.int 0, .ref v8]) (L1_X9_span hl0 N hF) axc9 hL1 wd_1262 wd_1259 wd_1260 wd_1261 wd_87 pd_X9_span rfl (ax_rm (by omega) rfl) ax_hfX (Nat.le_of_ble_eq_true rfl) rfl dL_span_15) (fun x3 T2 h => ?_) (fun E9 T2 h => ?_)
  · refine aw_i2l dL_span_18 ?_
    refine aw_last dL_span_19 h (fun T4 h => ?_)
    refine aw_goto 27 dL_span_20 (by decide) ?_
    refine aw_iconst 0 dL_span_27 rfl ?_
    exact aw_iret dL_span_28 rfl (Nat.le_of_ble_eq_true rfl) (Nat.le_of_ble_eq_true rfl) h
  · by_cases e0 : E9 = "java/lang/IllegalArgumentException"
    · rw [if_pos e0] at h
      refine aw_caught (name := "java/lang/IllegalArgumentException") [] ⟨0, 20, 23, 13⟩ [] rfl (fun z hz => nomatch hz) rfl (by decide) wd_596 (by rw [e0]; exact cast_iae) (fun q => ?_)
      refine aw_astore [(9, .ref q), (0, .ref v0), (1, .int v1), (2, .int v2), (3, .int v3), (4, .int v4), (5, .int v5), (6, .int v6), (7, .int v7), (8, .ref v8)] dL_span_23 rfl rfl ?_
      refine aw_iconst 1 dL_span_25 rfl ?_
      exact aw_iret dL_span_26 rfl (Nat.le_of_ble_eq_true rfl) (Nat.le_of_ble_eq_true rfl) h
    · rw [if_neg e0] at h
      cases h
