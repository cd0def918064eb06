theorem dX10_tellsNothing_0 : decode cX10_tellsNothing 0 = .ok (.iconst 0, 1) := by decide +kernel
theorem dX10_tellsNothing_1 : decode cX10_tellsNothing 1 = .ok (.istore_n 1, 1) := by decide +kernel
theorem dX10_tellsNothing_2 : decode cX10_tellsNothing 2 = .ok (.iload_n 1, 1) := by decide +kernel
theorem dX10_tellsNothing_3 : decode cX10_tellsNothing 3 = .ok (.iconst 4, 1) := by decide +kernel
theorem dX10_tellsNothing_4 : decode cX10_tellsNothing 4 = .ok (.if_icmp .ge 16, 3) := by decide +kernel
theorem dX10_tellsNothing_7 : decode cX10_tellsNothing 7 = .ok (.aload_n 0, 1) := by decide +kernel
theorem dX10_tellsNothing_8 : decode cX10_tellsNothing 8 = .ok (.getfield 20, 3) := by decide +kernel
theorem dX10_tellsNothing_11 : decode cX10_tellsNothing 11 = .ok (.iload_n 1, 1) := by decide +kernel
theorem dX10_tellsNothing_12 : decode cX10_tellsNothing 12 = .ok (.iconst 0, 1) := by decide +kernel
theorem dX10_tellsNothing_13 : decode cX10_tellsNothing 13 = .ok (.iastore, 1) := by decide +kernel
theorem dX10_tellsNothing_14 : decode cX10_tellsNothing 14 = .ok (.iinc 1 1, 3) := by decide +kernel
theorem dX10_tellsNothing_17 : decode cX10_tellsNothing 17 = .ok (.goto (-15), 3) := by decide +kernel
theorem dX10_tellsNothing_20 : decode cX10_tellsNothing 20 = .ok (.aload_n 0, 1) := by decide +kernel
theorem dX10_tellsNothing_21 : decode cX10_tellsNothing 21 = .ok (.getfield 20, 3) := by decide +kernel
theorem dX10_tellsNothing_24 : decode cX10_tellsNothing 24 = .ok (.iconst 4, 1) := by decide +kernel
theorem dX10_tellsNothing_25 : decode cX10_tellsNothing 25 = .ok (.bipush 100, 2) := by decide +kernel
theorem dX10_tellsNothing_27 : decode cX10_tellsNothing 27 = .ok (.iastore, 1) := by decide +kernel
theorem dX10_tellsNothing_28 : decode cX10_tellsNothing 28 = .ok (.aload_n 0, 1) := by decide +kernel
theorem dX10_tellsNothing_29 : decode cX10_tellsNothing 29 = .ok (.getfield 20, 3) := by decide +kernel
theorem dX10_tellsNothing_32 : decode cX10_tellsNothing 32 = .ok (.iconst 5, 1) := by decide +kernel
theorem dX10_tellsNothing_33 : decode cX10_tellsNothing 33 = .ok (.iconst 5, 1) := by decide +kernel
theorem dX10_tellsNothing_34 : decode cX10_tellsNothing 34 = .ok (.iastore, 1) := by decide +kernel
theorem dX10_tellsNothing_35 : decode cX10_tellsNothing 35 = .ok (.aload_n 0, 1) := by decide +kernel
theorem dX10_tellsNothing_36 : decode cX10_tellsNothing 36 = .ok (.getfield 20, 3) := by decide +kernel
theorem dX10_tellsNothing_39 : decode cX10_tellsNothing 39 = .ok (.bipush 6, 2) := by decide +kernel
theorem dX10_tellsNothing_41 : decode cX10_tellsNothing 41 = .ok (.iconst 0, 1) := by decide +kernel
theorem dX10_tellsNothing_42 : decode cX10_tellsNothing 42 = .ok (.iastore, 1) := by decide +kernel
theorem dX10_tellsNothing_43 : decode cX10_tellsNothing 43 = .ok (.iconst 0, 1) := by decide +kernel
theorem dX10_tellsNothing_44 : decode cX10_tellsNothing 44 = .ok (.istore_n 1, 1) := by decide +kernel
theorem dX10_tellsNothing_45 : decode cX10_tellsNothing 45 = .ok (.iload_n 1, 1) := by decide +kernel
theorem dX10_tellsNothing_46 : decode cX10_tellsNothing 46 = .ok (.bipush 12, 2) := by decide +kernel
theorem dX10_tellsNothing_48 : decode cX10_tellsNothing 48 = .ok (.if_icmp .ge 16, 3) := by decide +kernel
theorem dX10_tellsNothing_51 : decode cX10_tellsNothing 51 = .ok (.aload_n 0, 1) := by decide +kernel
theorem dX10_tellsNothing_52 : decode cX10_tellsNothing 52 = .ok (.getfield 26, 3) := by decide +kernel
theorem dX10_tellsNothing_55 : decode cX10_tellsNothing 55 = .ok (.iload_n 1, 1) := by decide +kernel
theorem dX10_tellsNothing_56 : decode cX10_tellsNothing 56 = .ok (.iconst 0, 1) := by decide +kernel
theorem dX10_tellsNothing_57 : decode cX10_tellsNothing 57 = .ok (.iastore, 1) := by decide +kernel
theorem dX10_tellsNothing_58 : decode cX10_tellsNothing 58 = .ok (.iinc 1 1, 3) := by decide +kernel
theorem dX10_tellsNothing_61 : decode cX10_tellsNothing 61 = .ok (.goto (-16), 3) := by decide +kernel
theorem dX10_tellsNothing_64 : decode cX10_tellsNothing 64 = .ok (.return_, 1) := by decide +kernel
abbrev mt_X10_tellsNothing : AxM := (RX10, cX10_tellsNothing, 2, none, false, [])
theorem L1_X10_tellsNothing_45b {g : AxG} {l : Launch} {S9 : AxS} (N : Nat) (K45 : Nat → Int32 → AxS → Option (AxS)) (hK45 : ∀ (v0 : Nat) (v1 : Int32) (S : AxS), K45 v0 v1 S = some S9 → AW g l (axRm (0) 0 0) mt_X10_tellsNothing (axMQ g 0 0 (.inl none, S9)) 0 0 S 45 [(0, .ref v0), (1, .int v1)] []) (v0 : Nat) (v1 : Int32) (S : AxS) (h : F_X10_tellsNothing_45b N K45 v0 v1 S = some S9) : AW g l (axRm (0) 0 0) mt_X10_tellsNothing (axMQ g 0 0 (.inl none, S9)) 0 0 S 45 [(0, .ref v0), (1, .int v1)] [] := by
  unfold F_X10_tellsNothing_45b at h
  refine aw_iload_n 1 dX10_tellsNothing_45 rfl rfl ?_
  refine aw_bipush 12 dX10_tellsNothing_46 (by decide) ?_
  refine aw_icmp_ge 64 dX10_tellsNothing_48 (by decide) h (fun h => ?_) (fun h => ?_)
  · exact aw_vret dX10_tellsNothing_64 rfl (Nat.le_refl _) (Nat.le_refl _) h
  · refine aw_aload_n 0 dX10_tellsNothing_51 rfl rfl ?_
    refine aw_getR axc10 13 rfl rfl wd_1298 dX10_tellsNothing_52 h (fun a1 h => ?_)
    refine aw_iload_n 1 dX10_tellsNothing_55 rfl rfl ?_
    refine aw_iconst 0 dX10_tellsNothing_56 rfl ?_
    refine aw_iast dX10_tellsNothing_57 h (fun T2 h => ?_)
    refine aw_iinc 1 [(1, .int (v1 + 1)), (0, .ref v0)] (v1 + 1) dX10_tellsNothing_58 rfl rfl rfl rfl ?_
    refine aw_goto 45 dX10_tellsNothing_61 (by decide) ?_
    refine aw_env [(0, .ref v0), (1, .int (v1 + 1))] [1, 0] rfl ?_
    exact hK45 v0 (v1 + 1) T2 h
theorem L1_X10_tellsNothing_45 {g : AxG} {l : Launch} {S9 : AxS} (N : Nat)  : ∀ (n : Nat) (v0 : Nat) (v1 : Int32) (S : AxS), F_X10_tellsNothing_45 N  n v0 v1 S = some S9 → AW g l (axRm (0) 0 0) mt_X10_tellsNothing (axMQ g 0 0 (.inl none, S9)) 0 0 S 45 [(0, .ref v0), (1, .int v1)] [] := by
  intro n
  induction n with
  | zero => intro v0 v1 S h; cases h
  | succ n ih => intro v0 v1 S h; exact L1_X10_tellsNothing_45b N (F_X10_tellsNothing_45 N  n) ih v0 v1 S h
theorem L1_X10_tellsNothing_2b {g : AxG} {l : Launch} {S9 : AxS} (N : Nat) (K2 : Nat → Int32 → AxS → Option (AxS)) (hK2 : ∀ (v0 : Nat) (v1 : Int32) (S : AxS), K2 v0 v1 S = some S9 → AW g l (axRm (0) 0 0) mt_X10_tellsNothing (axMQ g 0 0 (.inl none, S9)) 0 0 S 2 [(0, .ref v0), (1, .int v1)] []) (v0 : Nat) (v1 : Int32) (S : AxS) (h : F_X10_tellsNothing_2b N K2 v0 v1 S = some S9) : AW g l (axRm (0) 0 0) mt_X10_tellsNothing (axMQ g 0 0 (.inl none, S9)) 0 0 S 2 [(0, .ref v0), (1, .int v1)] [] := by
  unfold F_X10_tellsNothing_2b at h
  refine aw_iload_n 1 dX10_tellsNothing_2 rfl rfl ?_
  refine aw_iconst 4 dX10_tellsNothing_3 rfl ?_
  refine aw_icmp_ge 20 dX10_tellsNothing_4 (by decide) h (fun h => ?_) (fun h => ?_)
  · refine aw_aload_n 0 dX10_tellsNothing_20 rfl rfl ?_
    refine aw_getR axc10 11 rfl rfl wd_1296 dX10_tellsNothing_21 h (fun a1 h => ?_)
    refine aw_iconst 4 dX10_tellsNothing_24 rfl ?_
    refine aw_bipush 100 dX10_tellsNothing_25 (by decide) ?_
    refine aw_iast dX10_tellsNothing_27 h (fun T2 h => ?_)
    refine aw_aload_n 0 dX10_tellsNothing_28 rfl rfl ?_
    refine aw_getR axc10 11 rfl rfl wd_1296 dX10_tellsNothing_29 h (fun a3 h => ?_)
    refine aw_iconst 5 dX10_tellsNothing_32 rfl ?_
    refine aw_iconst 5 dX10_tellsNothing_33 rfl ?_
    refine aw_iast dX10_tellsNothing_34 h (fun T4 h => ?_)
    refine aw_aload_n 0 dX10_tellsNothing_35 rfl rfl ?_
    refine aw_getR axc10 11 rfl rfl wd_1296 dX10_tellsNothing_36 h (fun a5 h => ?_)
    refine aw_bipush 6 dX10_tellsNothing_39 (by decide) ?_
    refine aw_iconst 0 dX10_tellsNothing_41 rfl ?_
    refine aw_iast dX10_tellsNothing_42 h (fun T6 h => ?_)
    refine aw_iconst 0 dX10_tellsNothing_43 rfl ?_
    refine aw_istore_n 1 [(1, .int 0), (0, .ref v0)] dX10_tellsNothing_44 rfl rfl rfl ?_
    refine aw_env [(0, .ref v0), (1, .int 0)] [1, 0] rfl ?_
    exact L1_X10_tellsNothing_45 N  N v0 0 T6 h
  · refine aw_aload_n 0 dX10_tellsNothing_7 rfl rfl ?_
    refine aw_getR axc10 11 rfl rfl wd_1296 dX10_tellsNothing_8 h (fun a7 h => ?_)
    refine aw_iload_n 1 dX10_tellsNothing_11 rfl rfl ?_
    refine aw_iconst 0 dX10_tellsNothing_12 rfl ?_
    refine aw_iast dX10_tellsNothing_13 h (fun T8 h => ?_)
    refine aw_iinc 1 [(1, .int (v1 + 1)), (0, .ref v0)] (v1 + 1) dX10_tellsNothing_14 rfl rfl rfl rfl ?_
    refine aw_goto 2 dX10_tellsNothing_17 (by decide) ?_
    refine aw_env [(0, .ref v0), (1, .int (v1 + 1))] [1, 0] rfl ?_
    exact hK2 v0 (v1 + 1) T8 h
theorem L1_X10_tellsNothing_2 {g : AxG} {l : Launch} {S9 : AxS} (N : Nat)  : ∀ (n : Nat) (v0 : Nat) (v1 : Int32) (S : AxS), F_X10_tellsNothing_2 N  n v0 v1 S = some S9 → AW g l (axRm (0) 0 0) mt_X10_tellsNothing (axMQ g 0 0 (.inl none, S9)) 0 0 S 2 [(0, .ref v0), (1, .int v1)] [] := by
  intro n
  induction n with
  | zero => intro v0 v1 S h; cases h
  | succ n ih => intro v0 v1 S h; exact L1_X10_tellsNothing_2b N (F_X10_tellsNothing_2 N  n) ih v0 v1 S h
theorem L1_X10_tellsNothing {g : AxG} {l : Launch} (N : Nat) {v0 : Nat} {S : AxS} {S9 : AxS} (h : F_X10_tellsNothing N v0 S = some S9) : AxMet g l yX10_tellsNothing cX10_tellsNothing 2 none (0) 0 0 [.ref v0] S ((.inl none, S9)) := by
  refine ax_met (own := RX10) (ini := false) (by decide +kernel) rfl (fun h => nomatch h) rfl ?_
  show AW g l (axRm (0) 0 0) mt_X10_tellsNothing (axMQ g 0 0 (.inl none, S9)) 0 0 S 0 [(0, .ref v0)] []
  unfold F_X10_tellsNothing at h
  refine aw_iconst 0 dX10_tellsNothing_0 rfl ?_
  refine aw_istore_n 1 [(1, .int 0), (0, .ref v0)] dX10_tellsNothing_1 rfl rfl rfl ?_
  refine aw_env [(0, .ref v0), (1, .int 0)] [1, 0] rfl ?_
  exact L1_X10_tellsNothing_2 N  N v0 0 S h

theorem dX10_thrown_0 : decode cX10_thrown 0 = .ok (.aload_n 0, 1) := by decide +kernel
theorem dX10_thrown_1 : decode cX10_thrown 1 = .ok (.getfield 104, 3) := by decide +kernel
theorem dX10_thrown_4 : decode cX10_thrown 4 = .ok (.ireturn, 1) := by decide +kernel
abbrev mt_X10_thrown : AxM := (RX10, cX10_thrown, 1, (some .int), false, [])
theorem L1_X10_thrown {g : AxG} {l : Launch} (N : Nat) {v0 : Nat} {S : AxS} {r9 : Int32} {S9 : AxS} (h : F_X10_thrown N v0 S = some ((r9, S9))) : AxMet g l yX10_thrown cX10_thrown 1 (some .int) (0) 0 0 [.ref v0] S ((.inl (some (.int r9)), S9)) := by
  refine ax_met (own := RX10) (ini := false) (by decide +kernel) rfl (fun h => nomatch h) rfl ?_
  show AW g l (axRm (0) 0 0) mt_X10_thrown (axMQ g 0 0 (.inl (some (.int r9)), S9)) 0 0 S 0 [(0, .ref v0)] []
  unfold F_X10_thrown at h
  refine aw_aload_n 0 dX10_thrown_0 rfl rfl ?_
  refine aw_getI axc10 0 rfl rfl wd_1285 dX10_thrown_1 h (fun x1 h => ?_)
  exact aw_iret dX10_thrown_4 rfl (Nat.le_refl _) (Nat.le_refl _) h

theorem dX10_bad_0 : decode cX10_bad 0 = .ok (.iload_n 1, 1) := by decide +kernel
theorem dX10_bad_1 : decode cX10_bad 1 = .ok (.ifCond .eq 25, 3) := by decide +kernel
theorem dX10_bad_4 : decode cX10_bad 4 = .ok (.aload_n 0, 1) := by decide +kernel
theorem dX10_bad_5 : decode cX10_bad 5 = .ok (.getfield 104, 3) := by decide +kernel
theorem dX10_bad_8 : decode cX10_bad 8 = .ok (.ifCond .ne 18, 3) := by decide +kernel
theorem dX10_bad_11 : decode cX10_bad 11 = .ok (.aload_n 0, 1) := by decide +kernel
theorem dX10_bad_12 : decode cX10_bad 12 = .ok (.iload_n 2, 1) := by decide +kernel
theorem dX10_bad_13 : decode cX10_bad 13 = .ok (.putfield 104, 3) := by decide +kernel
theorem dX10_bad_16 : decode cX10_bad 16 = .ok (.aload_n 0, 1) := by decide +kernel
theorem dX10_bad_17 : decode cX10_bad 17 = .ok (.getfield 17, 3) := by decide +kernel
theorem dX10_bad_20 : decode cX10_bad 20 = .ok (.iload_n 3, 1) := by decide +kernel
theorem dX10_bad_21 : decode cX10_bad 21 = .ok (.dup2, 1) := by decide +kernel
theorem dX10_bad_22 : decode cX10_bad 22 = .ok (.iaload, 1) := by decide +kernel
theorem dX10_bad_23 : decode cX10_bad 23 = .ok (.iconst 1, 1) := by decide +kernel
theorem dX10_bad_24 : decode cX10_bad 24 = .ok (.iadd, 1) := by decide +kernel
theorem dX10_bad_25 : decode cX10_bad 25 = .ok (.iastore, 1) := by decide +kernel
theorem dX10_bad_26 : decode cX10_bad 26 = .ok (.aload_n 0, 1) := by decide +kernel
theorem dX10_bad_27 : decode cX10_bad 27 = .ok (.getfield 104, 3) := by decide +kernel
theorem dX10_bad_30 : decode cX10_bad 30 = .ok (.ifCond .eq 7, 3) := by decide +kernel
theorem dX10_bad_33 : decode cX10_bad 33 = .ok (.iconst 1, 1) := by decide +kernel
theorem dX10_bad_34 : decode cX10_bad 34 = .ok (.goto 4, 3) := by decide +kernel
theorem dX10_bad_37 : decode cX10_bad 37 = .ok (.iconst 0, 1) := by decide +kernel
theorem dX10_bad_38 : decode cX10_bad 38 = .ok (.ireturn, 1) := by decide +kernel
abbrev mt_X10_bad : AxM := (RX10, cX10_bad, 4, (some .boolean), false, [])
theorem L1_X10_bad_26 {g : AxG} {l : Launch} {r9 : Int32} {S9 : AxS} (N : Nat)  (v0 : Nat) (S : AxS) (h : F_X10_bad_26 N  v0 S = some ((r9, S9))) : AW g l (axRm (0) 0 0) mt_X10_bad (axMQ g 0 0 (.inl (some (.int r9)), S9)) 0 0 S 26 [(0, .ref v0)] [] := by
  unfold F_X10_bad_26 at h
  refine aw_aload_n 0 dX10_bad_26 rfl rfl ?_
  refine aw_getI axc10 0 rfl rfl wd_1285 dX10_bad_27 h (fun x1 h => ?_)
  refine aw_if_eq 37 dX10_bad_30 (by decide) h (fun h => ?_) (fun h => ?_)
  · refine aw_iconst 0 dX10_bad_37 rfl ?_
    exact aw_zret dX10_bad_38 rfl (Nat.le_refl _) (Nat.le_refl _) h
  · refine aw_iconst 1 dX10_bad_33 rfl ?_
    refine aw_goto 38 dX10_bad_34 (by decide) ?_
    exact aw_zret dX10_bad_38 rfl (Nat.le_refl _) (Nat.le_refl _) h
theorem L1_X10_bad {g : AxG} {l : Launch} (N : Nat) {v0 : Nat} {v1 : Int32} {v2 : Int32} {v3 : Int32} {S : AxS} {r9 : Int32} {S9 : AxS} (h : F_X10_bad N v0 v1 v2 v3 S = some ((r9, S9))) : AxMet g l yX10_bad cX10_bad 4 (some .boolean) (0) 0 0 [.ref v0, .int v1, .int v2, .int v3] S ((.inl (some (.int r9)), S9)) := by
  refine ax_met (own := RX10) (ini := false) (by decide +kernel) rfl (fun h => nomatch h) rfl ?_
  show AW g l (axRm (0) 0 0) mt_X10_bad (axMQ g 0 0 (.inl (some (.int r9)), S9)) 0 0 S 0 [(0, .ref v0), (1, .int v1), (2, .int v2), (3, .int v3)] []
  unfold F_X10_bad at h
  refine aw_iload_n 1 dX10_bad_0 rfl rfl ?_
  refine aw_if_eq 26 dX10_bad_1 (by decide) h (fun h => ?_) (fun h => ?_)
  · refine aw_env [(0, .ref v0)] [0] rfl ?_
    exact L1_X10_bad_26 N  v0 S h
  · refine aw_aload_n 0 dX10_bad_4 rfl rfl ?_
    refine aw_getI axc10 0 rfl rfl wd_1285 dX10_bad_5 h (fun x1 h => ?_)
    refine aw_if_ne 26 dX10_bad_8 (by decide) h (fun h => ?_) (fun h => ?_)
    · refine aw_env [(0, .ref v0)] [0] rfl ?_
      exact L1_X10_bad_26 N  v0 S h
    · refine aw_aload_n 0 dX10_bad_11 rfl rfl ?_
      refine aw_iload_n 2 dX10_bad_12 rfl rfl ?_
      refine aw_putI axc10 0 rfl rfl wd_1285 rfl rfl rfl dX10_bad_13 h (fun T2 h => ?_)
      refine aw_aload_n 0 dX10_bad_16 rfl rfl ?_
      refine aw_getR axc10 10 rfl rfl wd_1295 dX10_bad_17 h (fun a3 h => ?_)
      refine aw_iload_n 3 dX10_bad_20 rfl rfl ?_
      refine aw_dup2 rfl rfl dX10_bad_21 ?_
      refine aw_iald dX10_bad_22 h (fun x4 h => ?_)
      refine aw_iconst 1 dX10_bad_23 rfl ?_
      refine aw_iadd dX10_bad_24 ?_
      refine aw_iast dX10_bad_25 h (fun T5 h => ?_)
      refine aw_env [(0, .ref v0)] [0] rfl ?_
      exact L1_X10_bad_26 N  v0 T5 h

theorem dX10_in_0 : decode cX10_in 0 = .ok (.iload_n 0, 1) := by decide +kernel
theorem dX10_in_1 : decode cX10_in 1 = .ok (.iload_n 1, 1) := by decide +kernel
theorem dX10_in_2 : decode cX10_in 2 = .ok (.if_icmp .lt 12, 3) := by decide +kernel
theorem dX10_in_5 : decode cX10_in 5 = .ok (.iload_n 0, 1) := by decide +kernel
theorem dX10_in_6 : decode cX10_in 6 = .ok (.iload_n 2, 1) := by decide +kernel
theorem dX10_in_7 : decode cX10_in 7 = .ok (.if_icmp .gt 7, 3) := by decide +kernel
theorem dX10_in_10 : decode cX10_in 10 = .ok (.iconst 1, 1) := by decide +kernel
theorem dX10_in_11 : decode cX10_in 11 = .ok (.goto 4, 3) := by decide +kernel
theorem dX10_in_14 : decode cX10_in 14 = .ok (.iconst 0, 1) := by decide +kernel
theorem dX10_in_15 : decode cX10_in 15 = .ok (.ireturn, 1) := by decide +kernel
abbrev mt_X10_in : AxM := (RX10, cX10_in, 3, (some .boolean), false, [])
theorem L1_X10_in {g : AxG} {l : Launch} (N : Nat) {v0 : Int32} {v1 : Int32} {v2 : Int32} {S : AxS} {r9 : Int32} {S9 : AxS} (h : F_X10_in N v0 v1 v2 S = some ((r9, S9))) : AxMet g l yX10_in cX10_in 3 (some .boolean) (0) 0 0 [.int v0, .int v1, .int v2] S ((.inl (some (.int r9)), S9)) := by
  refine ax_met (own := RX10) (ini := false) (by decide +kernel) rfl (fun h => nomatch h) rfl ?_
  show AW g l (axRm (0) 0 0) mt_X10_in (axMQ g 0 0 (.inl (some (.int r9)), S9)) 0 0 S 0 [(0, .int v0), (1, .int v1), (2, .int v2)] []
  unfold F_X10_in at h
  refine aw_iload_n 0 dX10_in_0 rfl rfl ?_
  refine aw_iload_n 1 dX10_in_1 rfl rfl ?_
  refine aw_icmp_lt 14 dX10_in_2 (by decide) h (fun h => ?_) (fun h => ?_)
  · refine aw_iconst 0 dX10_in_14 rfl ?_
    exact aw_zret dX10_in_15 rfl (Nat.le_refl _) (Nat.le_refl _) h
  · refine aw_iload_n 0 dX10_in_5 rfl rfl ?_
    refine aw_iload_n 2 dX10_in_6 rfl rfl ?_
    refine aw_icmp_gt 14 dX10_in_7 (by decide) h (fun h => ?_) (fun h => ?_)
    · refine aw_iconst 0 dX10_in_14 rfl ?_
      exact aw_zret dX10_in_15 rfl (Nat.le_refl _) (Nat.le_refl _) h
    · refine aw_iconst 1 dX10_in_10 rfl ?_
      refine aw_goto 15 dX10_in_11 (by decide) ?_
      exact aw_zret dX10_in_15 rfl (Nat.le_refl _) (Nat.le_refl _) h

theorem dX10_less_0 : decode cX10_less 0 = .ok (.iload_n 0, 1) := by decide +kernel
theorem dX10_less_1 : decode cX10_less 1 = .ok (.iload_n 1, 1) := by decide +kernel
theorem dX10_less_2 : decode cX10_less 2 = .ok (.if_icmp .ge 7, 3) := by decide +kernel
theorem dX10_less_5 : decode cX10_less 5 = .ok (.iload_n 0, 1) := by decide +kernel
theorem dX10_less_6 : decode cX10_less 6 = .ok (.goto 4, 3) := by decide +kernel
theorem dX10_less_9 : decode cX10_less 9 = .ok (.iload_n 1, 1) := by decide +kernel
theorem dX10_less_10 : decode cX10_less 10 = .ok (.ireturn, 1) := by decide +kernel
abbrev mt_X10_less : AxM := (RX10, cX10_less, 2, (some .int), false, [])
theorem L1_X10_less {g : AxG} {l : Launch} (N : Nat) {v0 : Int32} {v1 : Int32} {S : AxS} {r9 : Int32} {S9 : AxS} (h : F_X10_less N v0 v1 S = some ((r9, S9))) : AxMet g l yX10_less cX10_less 2 (some .int) (0) 0 0 [.int v0, .int v1] S ((.inl (some (.int r9)), S9)) := by
  refine ax_met (own := RX10) (ini := false) (by decide +kernel) rfl (fun h => nomatch h) rfl ?_
  show AW g l (axRm (0) 0 0) mt_X10_less (axMQ g 0 0 (.inl (some (.int r9)), S9)) 0 0 S 0 [(0, .int v0), (1, .int v1)] []
  unfold F_X10_less at h
  refine aw_iload_n 0 dX10_less_0 rfl rfl ?_
  refine aw_iload_n 1 dX10_less_1 rfl rfl ?_
  refine aw_icmp_ge 9 dX10_less_2 (by decide) h (fun h => ?_) (fun h => ?_)
  · refine aw_iload_n 1 dX10_less_9 rfl rfl ?_
    exact aw_iret dX10_less_10 rfl (Nat.le_refl _) (Nat.le_refl _) h
  · refine aw_iload_n 0 dX10_less_5 rfl rfl ?_
    refine aw_goto 10 dX10_less_6 (by decide) ?_
    exact aw_iret dX10_less_10 rfl (Nat.le_refl _) (Nat.le_refl _) h

theorem dX10_more_0 : decode cX10_more 0 = .ok (.iload_n 0, 1) := by decide +kernel
theorem dX10_more_1 : decode cX10_more 1 = .ok (.iload_n 1, 1) := by decide +kernel
theorem dX10_more_2 : decode cX10_more 2 = .ok (.if_icmp .le 7, 3) := by decide +kernel
theorem dX10_more_5 : decode cX10_more 5 = .ok (.iload_n 0, 1) := by decide +kernel
theorem dX10_more_6 : decode cX10_more 6 = .ok (.goto 4, 3) := by decide +kernel
theorem dX10_more_9 : decode cX10_more 9 = .ok (.iload_n 1, 1) := by decide +kernel
theorem dX10_more_10 : decode cX10_more 10 = .ok (.ireturn, 1) := by decide +kernel
abbrev mt_X10_more : AxM := (RX10, cX10_more, 2, (some .int), false, [])
theorem L1_X10_more {g : AxG} {l : Launch} (N : Nat) {v0 : Int32} {v1 : Int32} {S : AxS} {r9 : Int32} {S9 : AxS} (h : F_X10_more N v0 v1 S = some ((r9, S9))) : AxMet g l yX10_more cX10_more 2 (some .int) (0) 0 0 [.int v0, .int v1] S ((.inl (some (.int r9)), S9)) := by
  refine ax_met (own := RX10) (ini := false) (by decide +kernel) rfl (fun h => nomatch h) rfl ?_
  show AW g l (axRm (0) 0 0) mt_X10_more (axMQ g 0 0 (.inl (some (.int r9)), S9)) 0 0 S 0 [(0, .int v0), (1, .int v1)] []
  unfold F_X10_more at h
  refine aw_iload_n 0 dX10_more_0 rfl rfl ?_
  refine aw_iload_n 1 dX10_more_1 rfl rfl ?_
  refine aw_icmp_le 9 dX10_more_2 (by decide) h (fun h => ?_) (fun h => ?_)
  · refine aw_iload_n 1 dX10_more_9 rfl rfl ?_
    exact aw_iret dX10_more_10 rfl (Nat.le_refl _) (Nat.le_refl _) h
  · refine aw_iload_n 0 dX10_more_5 rfl rfl ?_
    refine aw_goto 10 dX10_more_6 (by decide) ?_
    exact aw_iret dX10_more_10 rfl (Nat.le_refl _) (Nat.le_refl _) h

theorem dX10_has_0 : decode cX10_has 0 = .ok (.iload_n 0, 1) := by decide +kernel
theorem dX10_has_1 : decode cX10_has 1 = .ok (.iload_n 1, 1) := by decide +kernel
theorem dX10_has_2 : decode cX10_has 2 = .ok (.ishr, 1) := by decide +kernel
theorem dX10_has_3 : decode cX10_has 3 = .ok (.iconst 1, 1) := by decide +kernel
theorem dX10_has_4 : decode cX10_has 4 = .ok (.iand, 1) := by decide +kernel
theorem dX10_has_5 : decode cX10_has 5 = .ok (.iconst 1, 1) := by decide +kernel
theorem dX10_has_6 : decode cX10_has 6 = .ok (.if_icmp .ne 7, 3) := by decide +kernel
theorem dX10_has_9 : decode cX10_has 9 = .ok (.iconst 1, 1) := by decide +kernel
theorem dX10_has_10 : decode cX10_has 10 = .ok (.goto 4, 3) := by decide +kernel
theorem dX10_has_13 : decode cX10_has 13 = .ok (.iconst 0, 1) := by decide +kernel
theorem dX10_has_14 : decode cX10_has 14 = .ok (.ireturn, 1) := by decide +kernel
abbrev mt_X10_has : AxM := (RX10, cX10_has, 2, (some .boolean), false, [])
theorem L1_X10_has {g : AxG} {l : Launch} (N : Nat) {v0 : Int32} {v1 : Int32} {S : AxS} {r9 : Int32} {S9 : AxS} (h : F_X10_has N v0 v1 S = some ((r9, S9))) : AxMet g l yX10_has cX10_has 2 (some .boolean) (0) 0 0 [.int v0, .int v1] S ((.inl (some (.int r9)), S9)) := by
  refine ax_met (own := RX10) (ini := false) (by decide +kernel) rfl (fun h => nomatch h) rfl ?_
  show AW g l (axRm (0) 0 0) mt_X10_has (axMQ g 0 0 (.inl (some (.int r9)), S9)) 0 0 S 0 [(0, .int v0), (1, .int v1)] []
  unfold F_X10_has at h
  refine aw_iload_n 0 dX10_has_0 rfl rfl ?_
  refine aw_iload_n 1 dX10_has_1 rfl rfl ?_
  refine aw_ishr dX10_has_2 ?_
  refine aw_iconst 1 dX10_has_3 rfl ?_
  refine aw_iand dX10_has_4 ?_
  refine aw_iconst 1 dX10_has_5 rfl ?_
  refine aw_icmp_ne 13 dX10_has_6 (by decide) h (fun h => ?_) (fun h => ?_)
  · refine aw_iconst 0 dX10_has_13 rfl ?_
    exact aw_zret dX10_has_14 rfl (Nat.le_refl _) (Nat.le_refl _) h
  · refine aw_iconst 1 dX10_has_9 rfl ?_
    refine aw_goto 14 dX10_has_10 (by decide) ?_
    exact aw_zret dX10_has_14 rfl (Nat.le_refl _) (Nat.le_refl _) h

theorem dX10_feed_0 : decode cX10_feed 0 = .ok (.aload_n 0, 1) := by decide +kernel
theorem dX10_feed_1 : decode cX10_feed 1 = .ok (.iconst 0, 1) := by decide +kernel
theorem dX10_feed_2 : decode cX10_feed 2 = .ok (.putfield 104, 3) := by decide +kernel
theorem dX10_feed_5 : decode cX10_feed 5 = .ok (.aload_n 0, 1) := by decide +kernel
theorem dX10_feed_6 : decode cX10_feed 6 = .ok (.getfield 107, 3) := by decide +kernel
theorem dX10_feed_9 : decode cX10_feed 9 = .ok (.bipush 20, 2) := by decide +kernel
theorem dX10_feed_11 : decode cX10_feed 11 = .ok (.iadd, 1) := by decide +kernel
theorem dX10_feed_12 : decode cX10_feed 12 = .ok (.sipush 600, 3) := by decide +kernel
theorem dX10_feed_15 : decode cX10_feed 15 = .ok (.if_icmp .le 5, 3) := by decide +kernel
theorem dX10_feed_18 : decode cX10_feed 18 = .ok (.iconst (-1), 1) := by decide +kernel
theorem dX10_feed_19 : decode cX10_feed 19 = .ok (.ireturn, 1) := by decide +kernel
theorem dX10_feed_20 : decode cX10_feed 20 = .ok (.iconst 0, 1) := by decide +kernel
theorem dX10_feed_21 : decode cX10_feed 21 = .ok (.istore 6, 2) := by decide +kernel
theorem dX10_feed_23 : decode cX10_feed 23 = .ok (.iload 6, 2) := by decide +kernel
theorem dX10_feed_25 : decode cX10_feed 25 = .ok (.bipush 20, 2) := by decide +kernel
theorem dX10_feed_27 : decode cX10_feed 27 = .ok (.if_icmp .ge 93, 3) := by decide +kernel
theorem dX10_feed_30 : decode cX10_feed 30 = .ok (.iload 6, 2) := by decide +kernel
theorem dX10_feed_32 : decode cX10_feed 32 = .ok (.iconst 4, 1) := by decide +kernel
theorem dX10_feed_33 : decode cX10_feed 33 = .ok (.if_icmp .ge 7, 3) := by decide +kernel
theorem dX10_feed_36 : decode cX10_feed 36 = .ok (.iload_n 1, 1) := by decide +kernel
theorem dX10_feed_37 : decode cX10_feed 37 = .ok (.goto 39, 3) := by decide +kernel
theorem dX10_feed_40 : decode cX10_feed 40 = .ok (.iload 6, 2) := by decide +kernel
theorem dX10_feed_42 : decode cX10_feed 42 = .ok (.bipush 8, 2) := by decide +kernel
theorem dX10_feed_44 : decode cX10_feed 44 = .ok (.if_icmp .ge 7, 3) := by decide +kernel
theorem dX10_feed_47 : decode cX10_feed 47 = .ok (.iload_n 2, 1) := by decide +kernel
theorem dX10_feed_48 : decode cX10_feed 48 = .ok (.goto 28, 3) := by decide +kernel
theorem dX10_feed_51 : decode cX10_feed 51 = .ok (.iload 6, 2) := by decide +kernel
theorem dX10_feed_53 : decode cX10_feed 53 = .ok (.bipush 12, 2) := by decide +kernel
theorem dX10_feed_55 : decode cX10_feed 55 = .ok (.if_icmp .ge 7, 3) := by decide +kernel
theorem dX10_feed_58 : decode cX10_feed 58 = .ok (.iload_n 3, 1) := by decide +kernel
theorem dX10_feed_59 : decode cX10_feed 59 = .ok (.goto 17, 3) := by decide +kernel
theorem dX10_feed_62 : decode cX10_feed 62 = .ok (.iload 6, 2) := by decide +kernel
theorem dX10_feed_64 : decode cX10_feed 64 = .ok (.bipush 16, 2) := by decide +kernel
theorem dX10_feed_66 : decode cX10_feed 66 = .ok (.if_icmp .ge 8, 3) := by decide +kernel
theorem dX10_feed_69 : decode cX10_feed 69 = .ok (.iload 4, 2) := by decide +kernel
theorem dX10_feed_71 : decode cX10_feed 71 = .ok (.goto 5, 3) := by decide +kernel
theorem dX10_feed_74 : decode cX10_feed 74 = .ok (.iload 5, 2) := by decide +kernel
theorem dX10_feed_76 : decode cX10_feed 76 = .ok (.istore 7, 2) := by decide +kernel
theorem dX10_feed_78 : decode cX10_feed 78 = .ok (.aload_n 0, 1) := by decide +kernel
theorem dX10_feed_79 : decode cX10_feed 79 = .ok (.getfield 13, 3) := by decide +kernel
theorem dX10_feed_82 : decode cX10_feed 82 = .ok (.aload_n 0, 1) := by decide +kernel
theorem dX10_feed_83 : decode cX10_feed 83 = .ok (.getfield 107, 3) := by decide +kernel
theorem dX10_feed_86 : decode cX10_feed 86 = .ok (.iload 7, 2) := by decide +kernel
theorem dX10_feed_88 : decode cX10_feed 88 = .ok (.bipush 24, 2) := by decide +kernel
theorem dX10_feed_90 : decode cX10_feed 90 = .ok (.bipush 8, 2) := by decide +kernel
theorem dX10_feed_92 : decode cX10_feed 92 = .ok (.iload 6, 2) := by decide +kernel
theorem dX10_feed_94 : decode cX10_feed 94 = .ok (.iconst 4, 1) := by decide +kernel
theorem dX10_feed_95 : decode cX10_feed 95 = .ok (.irem, 1) := by decide +kernel
theorem dX10_feed_96 : decode cX10_feed 96 = .ok (.imul, 1) := by decide +kernel
theorem dX10_feed_97 : decode cX10_feed 97 = .ok (.isub, 1) := by decide +kernel
theorem dX10_feed_98 : decode cX10_feed 98 = .ok (.ishr, 1) := by decide +kernel
theorem dX10_feed_99 : decode cX10_feed 99 = .ok (.sipush 255, 3) := by decide +kernel
theorem dX10_feed_102 : decode cX10_feed 102 = .ok (.iand, 1) := by decide +kernel
theorem dX10_feed_103 : decode cX10_feed 103 = .ok (.iastore, 1) := by decide +kernel
theorem dX10_feed_104 : decode cX10_feed 104 = .ok (.aload_n 0, 1) := by decide +kernel
theorem dX10_feed_105 : decode cX10_feed 105 = .ok (.dup, 1) := by decide +kernel
theorem dX10_feed_106 : decode cX10_feed 106 = .ok (.getfield 107, 3) := by decide +kernel
theorem dX10_feed_109 : decode cX10_feed 109 = .ok (.iconst 1, 1) := by decide +kernel
theorem dX10_feed_110 : decode cX10_feed 110 = .ok (.iadd, 1) := by decide +kernel
theorem dX10_feed_111 : decode cX10_feed 111 = .ok (.putfield 107, 3) := by decide +kernel
theorem dX10_feed_114 : decode cX10_feed 114 = .ok (.iinc 6 1, 3) := by decide +kernel
theorem dX10_feed_117 : decode cX10_feed 117 = .ok (.goto (-94), 3) := by decide +kernel
theorem dX10_feed_120 : decode cX10_feed 120 = .ok (.aload_n 0, 1) := by decide +kernel
theorem dX10_feed_121 : decode cX10_feed 121 = .ok (.getfield 107, 3) := by decide +kernel
theorem dX10_feed_124 : decode cX10_feed 124 = .ok (.ireturn, 1) := by decide +kernel
abbrev mt_X10_feed : AxM := (RX10, cX10_feed, 8, (some .int), false, [])
theorem L1_X10_feed_76 {g : AxG} {l : Launch} {r9 : Int32} {S9 : AxS} (N : Nat) (K23 : Nat → Int32 → Int32 → Int32 → Int32 → Int32 → Int32 → AxS → Option (Int32 × AxS)) (hK23 : ∀ (v0 : Nat) (v1 : Int32) (v2 : Int32) (v3 : Int32) (v4 : Int32) (v5 : Int32) (v6 : Int32) (S : AxS), K23 v0 v1 v2 v3 v4 v5 v6 S = some ((r9, S9)) → AW g l (axRm (0) 0 0) mt_X10_feed (axMQ g 0 0 (.inl (some (.int r9)), S9)) 0 0 S 23 [(0, .ref v0), (1, .int v1), (2, .int v2), (3, .int v3), (4, .int v4), (5, .int v5), (6, .int v6)] []) (v0 : Nat) (v1 : Int32) (v2 : Int32) (v3 : Int32) (v4 : Int32) (v5 : Int32) (v6 : Int32) (w0 : Int32) (S : AxS) (h : F_X10_feed_76 N K23 v0 v1 v2 v3 v4 v5 v6 w0 S = some ((r9, S9))) : AW g l (axRm (0) 0 0) mt_X10_feed (axMQ g 0 0 (.inl (some (.int r9)), S9)) 0 0 S 76 [(0, .ref v0), (1, .int v1), (2, .int v2), (3, .int v3), (4, .int v4), (5, .int v5), (6, .int v6)] [.int w0] := by
  unfold F_X10_feed_76 at h
  refine aw_istore [(7, .int w0), (0, .ref v0), (1, .int v1), (2, .int v2), (3, .int v3), (4, .int v4), (5, .int v5), (6, .int v6)] dX10_feed_76 rfl rfl ?_
  refine aw_aload_n 1 dX10_feed_78 rfl rfl ?_
  refine aw_getR axc10 9 rfl rfl wd_1294 dX10_feed_79 h (fun a1 h => ?_)
  refine aw_aload_n 1 dX10_feed_82 rfl rfl ?_
  refine aw_getI axc10 1 rfl rfl wd_1286 dX10_feed_83 h (fun x2 h => ?_)
  refine aw_iload 0 dX10_feed_86 rfl ?_
  refine aw_bipush 24 dX10_feed_88 (by decide) ?_
  refine aw_bipush 8 dX10_feed_90 (by decide) ?_
  refine aw_iload 7 dX10_feed_92 rfl ?_
  refine aw_iconst 4 dX10_feed_94 rfl ?_
  refine aw_irem dX10_feed_95 h (fun h => ?_)
  refine aw_imul dX10_feed_96 ?_
  refine aw_isub dX10_feed_97 ?_
  refine aw_ishr dX10_feed_98 ?_
  refine aw_sipush 255 dX10_feed_99 (by decide) ?_
  refine aw_iand dX10_feed_102 ?_
  refine aw_iast dX10_feed_103 h (fun T3 h => ?_)
  refine aw_aload_n 1 dX10_feed_104 rfl rfl ?_
  refine aw_dup rfl dX10_feed_105 ?_
  refine aw_getI axc10 1 rfl rfl wd_1286 dX10_feed_106 h (fun x4 h => ?_)
  refine aw_iconst 1 dX10_feed_109 rfl ?_
  refine aw_iadd dX10_feed_110 ?_
  refine aw_putI axc10 1 rfl rfl wd_1286 rfl rfl rfl dX10_feed_111 h (fun T5 h => ?_)
  refine aw_iinc 7 [(6, .int (v6 + 1)), (7, .int w0), (0, .ref v0), (1, .int v1), (2, .int v2), (3, .int v3), (4, .int v4), (5, .int v5)] (v6 + 1) dX10_feed_114 rfl rfl rfl rfl ?_
  refine aw_goto 23 dX10_feed_117 (by decide) ?_
  refine aw_env [(0, .ref v0), (1, .int v1), (2, .int v2), (3, .int v3), (4, .int v4), (5, .int v5), (6, .int (v6 + 1))] [2, 3, 4, 5, 6, 7, 0] rfl ?_
  exact hK23 v0 v1 v2 v3 v4 v5 (v6 + 1) T5 h
theorem L1_X10_feed_23b {g : AxG} {l : Launch} {r9 : Int32} {S9 : AxS} (N : Nat) (K23 : Nat → Int32 → Int32 → Int32 → Int32 → Int32 → Int32 → AxS → Option (Int32 × AxS)) (hK23 : ∀ (v0 : Nat) (v1 : Int32) (v2 : Int32) (v3 : Int32) (v4 : Int32) (v5 : Int32) (v6 : Int32) (S : AxS), K23 v0 v1 v2 v3 v4 v5 v6 S = some ((r9, S9)) → AW g l (axRm (0) 0 0) mt_X10_feed (axMQ g 0 0 (.inl (some (.int r9)), S9)) 0 0 S 23 [(0, .ref v0), (1, .int v1), (2, .int v2), (3, .int v3), (4, .int v4), (5, .int v5), (6, .int v6)] []) (v0 : Nat) (v1 : Int32) (v2 : Int32) (v3 : Int32) (v4 : Int32) (v5 : Int32) (v6 : Int32) (S : AxS) (h : F_X10_feed_23b N K23 v0 v1 v2 v3 v4 v5 v6 S = some ((r9, S9))) : AW g l (axRm (0) 0 0) mt_X10_feed (axMQ g 0 0 (.inl (some (.int r9)), S9)) 0 0 S 23 [(0, .ref v0), (1, .int v1), (2, .int v2), (3, .int v3), (4, .int v4), (5, .int v5), (6, .int v6)] [] := by
  unfold F_X10_feed_23b at h
  refine aw_iload 6 dX10_feed_23 rfl ?_
  refine aw_bipush 20 dX10_feed_25 (by decide) ?_
  refine aw_icmp_ge 120 dX10_feed_27 (by decide) h (fun h => ?_) (fun h => ?_)
  · refine aw_aload_n 0 dX10_feed_120 rfl rfl ?_
    refine aw_getI axc10 1 rfl rfl wd_1286 dX10_feed_121 h (fun x1 h => ?_)
    exact aw_iret dX10_feed_124 rfl (Nat.le_refl _) (Nat.le_refl _) h
  · refine aw_iload 6 dX10_feed_30 rfl ?_
    refine aw_iconst 4 dX10_feed_32 rfl ?_
    refine aw_icmp_ge 40 dX10_feed_33 (by decide) h (fun h => ?_) (fun h => ?_)
    · refine aw_iload 6 dX10_feed_40 rfl ?_
      refine aw_bipush 8 dX10_feed_42 (by decide) ?_
      refine aw_icmp_ge 51 dX10_feed_44 (by decide) h (fun h => ?_) (fun h => ?_)
      · refine aw_iload 6 dX10_feed_51 rfl ?_
        refine aw_bipush 12 dX10_feed_53 (by decide) ?_
        refine aw_icmp_ge 62 dX10_feed_55 (by decide) h (fun h => ?_) (fun h => ?_)
        · refine aw_iload 6 dX10_feed_62 rfl ?_
          refine aw_bipush 16 dX10_feed_64 (by decide) ?_
          refine aw_icmp_ge 74 dX10_feed_66 (by decide) h (fun h => ?_) (fun h => ?_)
          · refine aw_iload 5 dX10_feed_74 rfl ?_
            refine aw_env [(0, .ref v0), (1, .int v1), (2, .int v2), (3, .int v3), (4, .int v4), (5, .int v5), (6, .int v6)] [0, 1, 2, 3, 4, 5, 6] rfl ?_
            exact L1_X10_feed_76 N K23 hK23 v0 v1 v2 v3 v4 v5 v6 v5 S h
          · refine aw_iload 4 dX10_feed_69 rfl ?_
            refine aw_goto 76 dX10_feed_71 (by decide) ?_
            refine aw_env [(0, .ref v0), (1, .int v1), (2, .int v2), (3, .int v3), (4, .int v4), (5, .int v5), (6, .int v6)] [0, 1, 2, 3, 4, 5, 6] rfl ?_
            exact L1_X10_feed_76 N K23 hK23 v0 v1 v2 v3 v4 v5 v6 v4 S h
        · refine aw_iload_n 3 dX10_feed_58 rfl rfl ?_
          refine aw_goto 76 dX10_feed_59 (by decide) ?_
          refine aw_env [(0, .ref v0), (1, .int v1), (2, .int v2), (3, .int v3), (4, .int v4), (5, .int v5), (6, .int v6)] [0, 1, 2, 3, 4, 5, 6] rfl ?_
          exact L1_X10_feed_76 N K23 hK23 v0 v1 v2 v3 v4 v5 v6 v3 S h
      · refine aw_iload_n 2 dX10_feed_47 rfl rfl ?_
        refine aw_goto 76 dX10_feed_48 (by decide) ?_
        refine aw_env [(0, .ref v0), (1, .int v1), (2, .int v2), (3, .int v3), (4, .int v4), (5, .int v5), (6, .int v6)] [0, 1, 2, 3, 4, 5, 6] rfl ?_
        exact L1_X10_feed_76 N K23 hK23 v0 v1 v2 v3 v4 v5 v6 v2 S h
    · refine aw_iload_n 1 dX10_feed_36 rfl rfl ?_
      refine aw_goto 76 dX10_feed_37 (by decide) ?_
      refine aw_env [(0, .ref v0), (1, .int v1), (2, .int v2), (3, .int v3), (4, .int v4), (5, .int v5), (6, .int v6)] [0, 1, 2, 3, 4, 5, 6] rfl ?_
      exact L1_X10_feed_76 N K23 hK23 v0 v1 v2 v3 v4 v5 v6 v1 S h
theorem L1_X10_feed_23 {g : AxG} {l : Launch} {r9 : Int32} {S9 : AxS} (N : Nat)  : ∀ (n : Nat) (v0 : Nat) (v1 : Int32) (v2 : Int32) (v3 : Int32) (v4 : Int32) (v5 : Int32) (v6 : Int32) (S : AxS), F_X10_feed_23 N  n v0 v1 v2 v3 v4 v5 v6 S = some ((r9, S9)) → AW g l (axRm (0) 0 0) mt_X10_feed (axMQ g 0 0 (.inl (some (.int r9)), S9)) 0 0 S 23 [(0, .ref v0), (1, .int v1), (2, .int v2), (3, .int v3), (4, .int v4), (5, .int v5), (6, .int v6)] [] := by
  intro n
  induction n with
  | zero => intro v0 v1 v2 v3 v4 v5 v6 S h; cases h
  | succ n ih => intro v0 v1 v2 v3 v4 v5 v6 S h; exact L1_X10_feed_23b N (F_X10_feed_23 N  n) ih v0 v1 v2 v3 v4 v5 v6 S h
theorem L1_X10_feed {g : AxG} {l : Launch} (N : Nat) {v0 : Nat} {v1 : Int32} {v2 : Int32} {v3 : Int32} {v4 : Int32} {v5 : Int32} {S : AxS} {r9 : Int32} {S9 : AxS} (h : F_X10_feed N v0 v1 v2 v3 v4 v5 S = some ((r9, S9))) : AxMet g l yX10_feed cX10_feed 8 (some .int) (0) 0 0 [.ref v0, .int v1, .int v2, .int v3, .int v4, .int v5] S ((.inl (some (.int r9)), S9)) := by
  refine ax_met (own := RX10) (ini := false) (by decide +kernel) rfl (fun h => nomatch h) rfl ?_
  show AW g l (axRm (0) 0 0) mt_X10_feed (axMQ g 0 0 (.inl (some (.int r9)), S9)) 0 0 S 0 [(0, .ref v0), (1, .int v1), (2, .int v2), (3, .int v3), (4, .int v4), (5, .int v5)] []
  unfold F_X10_feed at h
  refine aw_aload_n 0 dX10_feed_0 rfl rfl ?_
  refine aw_iconst 0 dX10_feed_1 rfl ?_
  refine aw_putI axc10 0 rfl rfl wd_1285 rfl rfl rfl dX10_feed_2 h (fun T1 h => ?_)
  refine aw_aload_n 0 dX10_feed_5 rfl rfl ?_
  refine aw_getI axc10 1 rfl rfl wd_1286 dX10_feed_6 h (fun x2 h => ?_)
  refine aw_bipush 20 dX10_feed_9 (by decide) ?_
  refine aw_iadd dX10_feed_11 ?_
  refine aw_sipush 600 dX10_feed_12 (by decide) ?_
  refine aw_icmp_le 20 dX10_feed_15 (by decide) h (fun h => ?_) (fun h => ?_)
  · refine aw_iconst 0 dX10_feed_20 rfl ?_
    refine aw_istore [(6, .int 0), (0, .ref v0), (1, .int v1), (2, .int v2), (3, .int v3), (4, .int v4), (5, .int v5)] dX10_feed_21 rfl rfl ?_
    refine aw_env [(0, .ref v0), (1, .int v1), (2, .int v2), (3, .int v3), (4, .int v4), (5, .int v5), (6, .int 0)] [1, 2, 3, 4, 5, 6, 0] rfl ?_
    exact L1_X10_feed_23 N  N v0 v1 v2 v3 v4 v5 0 T1 h
  · refine aw_iconst (-1) dX10_feed_18 rfl ?_
    exact aw_iret dX10_feed_19 rfl (Nat.le_refl _) (Nat.le_refl _) h

theorem dX10_byteAt_0 : decode cX10_byteAt 0 = .ok (.iload_n 1, 1) := by decide +kernel
theorem dX10_byteAt_1 : decode cX10_byteAt 1 = .ok (.aload_n 0, 1) := by decide +kernel
theorem dX10_byteAt_2 : decode cX10_byteAt 2 = .ok (.getfield 110, 3) := by decide +kernel
theorem dX10_byteAt_5 : decode cX10_byteAt 5 = .ok (.if_icmp .lt 7, 3) := by decide +kernel
theorem dX10_byteAt_8 : decode cX10_byteAt 8 = .ok (.iconst (-1), 1) := by decide +kernel
theorem dX10_byteAt_9 : decode cX10_byteAt 9 = .ok (.goto 9, 3) := by decide +kernel
theorem dX10_byteAt_12 : decode cX10_byteAt 12 = .ok (.aload_n 0, 1) := by decide +kernel
theorem dX10_byteAt_13 : decode cX10_byteAt 13 = .ok (.getfield 13, 3) := by decide +kernel
theorem dX10_byteAt_16 : decode cX10_byteAt 16 = .ok (.iload_n 1, 1) := by decide +kernel
theorem dX10_byteAt_17 : decode cX10_byteAt 17 = .ok (.iaload, 1) := by decide +kernel
theorem dX10_byteAt_18 : decode cX10_byteAt 18 = .ok (.ireturn, 1) := by decide +kernel
abbrev mt_X10_byteAt : AxM := (RX10, cX10_byteAt, 2, (some .int), false, [])
theorem L1_X10_byteAt {g : AxG} {l : Launch} (N : Nat) {v0 : Nat} {v1 : Int32} {S : AxS} {r9 : Int32} {S9 : AxS} (h : F_X10_byteAt N v0 v1 S = some ((r9, S9))) : AxMet g l yX10_byteAt cX10_byteAt 2 (some .int) (0) 0 0 [.ref v0, .int v1] S ((.inl (some (.int r9)), S9)) := by
  refine ax_met (own := RX10) (ini := false) (by decide +kernel) rfl (fun h => nomatch h) rfl ?_
  show AW g l (axRm (0) 0 0) mt_X10_byteAt (axMQ g 0 0 (.inl (some (.int r9)), S9)) 0 0 S 0 [(0, .ref v0), (1, .int v1)] []
  unfold F_X10_byteAt at h
  refine aw_iload_n 1 dX10_byteAt_0 rfl rfl ?_
  refine aw_aload_n 0 dX10_byteAt_1 rfl rfl ?_
  refine aw_getI axc10 2 rfl rfl wd_1287 dX10_byteAt_2 h (fun x1 h => ?_)
  refine aw_icmp_lt 12 dX10_byteAt_5 (by decide) h (fun h => ?_) (fun h => ?_)
  · refine aw_aload_n 0 dX10_byteAt_12 rfl rfl ?_
    refine aw_getR axc10 9 rfl rfl wd_1294 dX10_byteAt_13 h (fun a2 h => ?_)
    refine aw_iload_n 1 dX10_byteAt_16 rfl rfl ?_
    refine aw_iald dX10_byteAt_17 h (fun x3 h => ?_)
    exact aw_iret dX10_byteAt_18 rfl (Nat.le_refl _) (Nat.le_refl _) h
  · refine aw_iconst (-1) dX10_byteAt_8 rfl ?_
    refine aw_goto 18 dX10_byteAt_9 (by decide) ?_
    exact aw_iret dX10_byteAt_18 rfl (Nat.le_refl _) (Nat.le_refl _) h

theorem dX10_blanks_0 : decode cX10_blanks 0 = .ok (.aload_n 0, 1) := by decide +kernel
theorem dX10_blanks_1 : decode cX10_blanks 1 = .ok (.aload_n 0, 1) := by decide +kernel
theorem dX10_blanks_2 : decode cX10_blanks 2 = .ok (.getfield 113, 3) := by decide +kernel
theorem dX10_blanks_5 : decode cX10_blanks 5 = .ok (.invokevirtual 116, 3) := by decide +kernel
theorem dX10_blanks_8 : decode cX10_blanks 8 = .ok (.bipush 32, 2) := by decide +kernel
theorem dX10_blanks_10 : decode cX10_blanks 10 = .ok (.if_icmp .ne 16, 3) := by decide +kernel
theorem dX10_blanks_13 : decode cX10_blanks 13 = .ok (.aload_n 0, 1) := by decide +kernel
theorem dX10_blanks_14 : decode cX10_blanks 14 = .ok (.dup, 1) := by decide +kernel
theorem dX10_blanks_15 : decode cX10_blanks 15 = .ok (.getfield 113, 3) := by decide +kernel
theorem dX10_blanks_18 : decode cX10_blanks 18 = .ok (.iconst 1, 1) := by decide +kernel
theorem dX10_blanks_19 : decode cX10_blanks 19 = .ok (.iadd, 1) := by decide +kernel
theorem dX10_blanks_20 : decode cX10_blanks 20 = .ok (.putfield 113, 3) := by decide +kernel
theorem dX10_blanks_23 : decode cX10_blanks 23 = .ok (.goto (-23), 3) := by decide +kernel
theorem dX10_blanks_26 : decode cX10_blanks 26 = .ok (.return_, 1) := by decide +kernel
abbrev mt_X10_blanks : AxM := (RX10, cX10_blanks, 1, none, false, [])
theorem L1_X10_blanks_0b {g : AxG} {l : Launch} {S9 : AxS} (N : Nat) (K0 : Nat → AxS → Option (AxS)) (hK0 : ∀ (v0 : Nat) (S : AxS), K0 v0 S = some S9 → AW g l (axRm (1) 0 0) mt_X10_blanks (axMQ g 0 0 (.inl none, S9)) 0 0 S 0 [(0, .ref v0)] []) (v0 : Nat) (S : AxS) (h : F_X10_blanks_0b N K0 v0 S = some S9) : AW g l (axRm (1) 0 0) mt_X10_blanks (axMQ g 0 0 (.inl none, S9)) 0 0 S 0 [(0, .ref v0)] [] := by
  unfold F_X10_blanks_0b at h
  refine aw_aload_n 0 dX10_blanks_0 rfl rfl ?_
  refine aw_aload_n 0 dX10_blanks_1 rfl rfl ?_
  refine aw_getI axc10 4 rfl rfl wd_1289 dX10_blanks_2 h (fun x1 h => ?_)
  obtain ⟨hL2, h⟩ := ax_is_spec h
  refine aw_doneI (rest := []) h (fun r9 S9 hF => aw_runV (As := [.int x1]) (rest := []) (L1_X10_byteAt N hF) axc10 hL2 wd_1464 wd_1461 wd_1463 wd_41 wd_97 pd_X10_byteAt rfl (ax_rm (by omega) rfl) ax_hf0 (Nat.le_of_ble_eq_true rfl) rfl dX10_blanks_5) (fun x4 T3 h => ?_)
  refine aw_bipush 32 dX10_blanks_8 (by decide) ?_
  refine aw_icmp_ne 26 dX10_blanks_10 (by decide) h (fun h => ?_) (fun h => ?_)
  · exact aw_vret dX10_blanks_26 rfl (Nat.le_refl _) (Nat.le_refl _) h
  · refine aw_aload_n 0 dX10_blanks_13 rfl rfl ?_
    refine aw_dup rfl dX10_blanks_14 ?_
    refine aw_getI axc10 4 rfl rfl wd_1289 dX10_blanks_15 h (fun x5 h => ?_)
    refine aw_iconst 1 dX10_blanks_18 rfl ?_
    refine aw_iadd dX10_blanks_19 ?_
    refine aw_putI axc10 4 rfl rfl wd_1289 rfl rfl rfl dX10_blanks_20 h (fun T6 h => ?_)
    refine aw_goto 0 dX10_blanks_23 (by decide) ?_
    refine aw_env [(0, .ref v0)] [0] rfl ?_
    exact hK0 v0 T6 h
theorem L1_X10_blanks_0 {g : AxG} {l : Launch} {S9 : AxS} (N : Nat)  : ∀ (n : Nat) (v0 : Nat) (S : AxS), F_X10_blanks_0 N  n v0 S = some S9 → AW g l (axRm (1) 0 0) mt_X10_blanks (axMQ g 0 0 (.inl none, S9)) 0 0 S 0 [(0, .ref v0)] [] := by
  intro n
  induction n with
  | zero => intro v0 S h; cases h
  | succ n ih => intro v0 S h; exact L1_X10_blanks_0b N (F_X10_blanks_0 N  n) ih v0 S h
theorem L1_X10_blanks {g : AxG} {l : Launch} (N : Nat) {v0 : Nat} {S : AxS} {S9 : AxS} (h : F_X10_blanks N v0 S = some S9) : AxMet g l yX10_blanks cX10_blanks 1 none (1) 0 0 [.ref v0] S ((.inl none, S9)) := by
  refine ax_met (own := RX10) (ini := false) (by decide +kernel) rfl (fun h => nomatch h) rfl ?_
  show AW g l (axRm (1) 0 0) mt_X10_blanks (axMQ g 0 0 (.inl none, S9)) 0 0 S 0 [(0, .ref v0)] []
  unfold F_X10_blanks at h
  refine aw_env [(0, .ref v0)] [0] rfl ?_
  exact L1_X10_blanks_0 N  N v0 S h

theorem dX10_wrong_0 : decode cX10_wrong 0 = .ok (.aload_n 0, 1) := by decide +kernel
theorem dX10_wrong_1 : decode cX10_wrong 1 = .ok (.getfield 120, 3) := by decide +kernel
theorem dX10_wrong_4 : decode cX10_wrong 4 = .ok (.ifCond .ne 13, 3) := by decide +kernel
theorem dX10_wrong_7 : decode cX10_wrong 7 = .ok (.aload_n 0, 1) := by decide +kernel
theorem dX10_wrong_8 : decode cX10_wrong 8 = .ok (.iload_n 1, 1) := by decide +kernel
theorem dX10_wrong_9 : decode cX10_wrong 9 = .ok (.putfield 120, 3) := by decide +kernel
theorem dX10_wrong_12 : decode cX10_wrong 12 = .ok (.aload_n 0, 1) := by decide +kernel
theorem dX10_wrong_13 : decode cX10_wrong 13 = .ok (.iload_n 2, 1) := by decide +kernel
theorem dX10_wrong_14 : decode cX10_wrong 14 = .ok (.putfield 123, 3) := by decide +kernel
theorem dX10_wrong_17 : decode cX10_wrong 17 = .ok (.return_, 1) := by decide +kernel
abbrev mt_X10_wrong : AxM := (RX10, cX10_wrong, 3, none, false, [])
theorem L1_X10_wrong {g : AxG} {l : Launch} (N : Nat) {v0 : Nat} {v1 : Int32} {v2 : Int32} {S : AxS} {S9 : AxS} (h : F_X10_wrong N v0 v1 v2 S = some S9) : AxMet g l yX10_wrong cX10_wrong 3 none (0) 0 0 [.ref v0, .int v1, .int v2] S ((.inl none, S9)) := by
  refine ax_met (own := RX10) (ini := false) (by decide +kernel) rfl (fun h => nomatch h) rfl ?_
  show AW g l (axRm (0) 0 0) mt_X10_wrong (axMQ g 0 0 (.inl none, S9)) 0 0 S 0 [(0, .ref v0), (1, .int v1), (2, .int v2)] []
  unfold F_X10_wrong at h
  refine aw_aload_n 0 dX10_wrong_0 rfl rfl ?_
  refine aw_getI axc10 5 rfl rfl wd_1290 dX10_wrong_1 h (fun x1 h => ?_)
  refine aw_if_ne 17 dX10_wrong_4 (by decide) h (fun h => ?_) (fun h => ?_)
  · exact aw_vret dX10_wrong_17 rfl (Nat.le_refl _) (Nat.le_refl _) h
  · refine aw_aload_n 0 dX10_wrong_7 rfl rfl ?_
    refine aw_iload_n 1 dX10_wrong_8 rfl rfl ?_
    refine aw_putI axc10 5 rfl rfl wd_1290 rfl rfl rfl dX10_wrong_9 h (fun T2 h => ?_)
    refine aw_aload_n 0 dX10_wrong_12 rfl rfl ?_
    refine aw_iload_n 2 dX10_wrong_13 rfl rfl ?_
    refine aw_putI axc10 6 rfl rfl wd_1291 rfl rfl rfl dX10_wrong_14 h (fun T3 h => ?_)
    exact aw_vret dX10_wrong_17 rfl (Nat.le_refl _) (Nat.le_refl _) h

theorem dX10_isDigit_0 : decode cX10_isDigit 0 = .ok (.iload_n 0, 1) := by decide +kernel
theorem dX10_isDigit_1 : decode cX10_isDigit 1 = .ok (.bipush 48, 2) := by decide +kernel
theorem dX10_isDigit_3 : decode cX10_isDigit 3 = .ok (.if_icmp .lt 13, 3) := by decide +kernel
theorem dX10_isDigit_6 : decode cX10_isDigit 6 = .ok (.iload_n 0, 1) := by decide +kernel
theorem dX10_isDigit_7 : decode cX10_isDigit 7 = .ok (.bipush 57, 2) := by decide +kernel
theorem dX10_isDigit_9 : decode cX10_isDigit 9 = .ok (.if_icmp .gt 7, 3) := by decide +kernel
theorem dX10_isDigit_12 : decode cX10_isDigit 12 = .ok (.iconst 1, 1) := by decide +kernel
theorem dX10_isDigit_13 : decode cX10_isDigit 13 = .ok (.goto 4, 3) := by decide +kernel
theorem dX10_isDigit_16 : decode cX10_isDigit 16 = .ok (.iconst 0, 1) := by decide +kernel
theorem dX10_isDigit_17 : decode cX10_isDigit 17 = .ok (.ireturn, 1) := by decide +kernel
abbrev mt_X10_isDigit : AxM := (RX10, cX10_isDigit, 1, (some .boolean), false, [])
theorem L1_X10_isDigit {g : AxG} {l : Launch} (N : Nat) {v0 : Int32} {S : AxS} {r9 : Int32} {S9 : AxS} (h : F_X10_isDigit N v0 S = some ((r9, S9))) : AxMet g l yX10_isDigit cX10_isDigit 1 (some .boolean) (0) 0 0 [.int v0] S ((.inl (some (.int r9)), S9)) := by
  refine ax_met (own := RX10) (ini := false) (by decide +kernel) rfl (fun h => nomatch h) rfl ?_
  show AW g l (axRm (0) 0 0) mt_X10_isDigit (axMQ g 0 0 (.inl (some (.int r9)), S9)) 0 0 S 0 [(0, .int v0)] []
  unfold F_X10_isDigit at h
  refine aw_iload_n 0 dX10_isDigit_0 rfl rfl ?_
  refine aw_bipush 48 dX10_isDigit_1 (by decide) ?_
  refine aw_icmp_lt 16 dX10_isDigit_3 (by decide) h (fun h => ?_) (fun h => ?_)
  · refine aw_iconst 0 dX10_isDigit_16 rfl ?_
    exact aw_zret dX10_isDigit_17 rfl (Nat.le_refl _) (Nat.le_refl _) h
  · refine aw_iload_n 0 dX10_isDigit_6 rfl rfl ?_
    refine aw_bipush 57 dX10_isDigit_7 (by decide) ?_
    refine aw_icmp_gt 16 dX10_isDigit_9 (by decide) h (fun h => ?_) (fun h => ?_)
    · refine aw_iconst 0 dX10_isDigit_16 rfl ?_
      exact aw_zret dX10_isDigit_17 rfl (Nat.le_refl _) (Nat.le_refl _) h
    · refine aw_iconst 1 dX10_isDigit_12 rfl ?_
      refine aw_goto 17 dX10_isDigit_13 (by decide) ?_
      exact aw_zret dX10_isDigit_17 rfl (Nat.le_refl _) (Nat.le_refl _) h

theorem dX10_isSmall_0 : decode cX10_isSmall 0 = .ok (.iload_n 0, 1) := by decide +kernel
theorem dX10_isSmall_1 : decode cX10_isSmall 1 = .ok (.bipush 97, 2) := by decide +kernel
theorem dX10_isSmall_3 : decode cX10_isSmall 3 = .ok (.if_icmp .lt 13, 3) := by decide +kernel
theorem dX10_isSmall_6 : decode cX10_isSmall 6 = .ok (.iload_n 0, 1) := by decide +kernel
theorem dX10_isSmall_7 : decode cX10_isSmall 7 = .ok (.bipush 122, 2) := by decide +kernel
theorem dX10_isSmall_9 : decode cX10_isSmall 9 = .ok (.if_icmp .gt 7, 3) := by decide +kernel
theorem dX10_isSmall_12 : decode cX10_isSmall 12 = .ok (.iconst 1, 1) := by decide +kernel
theorem dX10_isSmall_13 : decode cX10_isSmall 13 = .ok (.goto 4, 3) := by decide +kernel
theorem dX10_isSmall_16 : decode cX10_isSmall 16 = .ok (.iconst 0, 1) := by decide +kernel
theorem dX10_isSmall_17 : decode cX10_isSmall 17 = .ok (.ireturn, 1) := by decide +kernel
abbrev mt_X10_isSmall : AxM := (RX10, cX10_isSmall, 1, (some .boolean), false, [])
theorem L1_X10_isSmall {g : AxG} {l : Launch} (N : Nat) {v0 : Int32} {S : AxS} {r9 : Int32} {S9 : AxS} (h : F_X10_isSmall N v0 S = some ((r9, S9))) : AxMet g l yX10_isSmall cX10_isSmall 1 (some .boolean) (0) 0 0 [.int v0] S ((.inl (some (.int r9)), S9)) := by
  refine ax_met (own := RX10) (ini := false) (by decide +kernel) rfl (fun h => nomatch h) rfl ?_
  show AW g l (axRm (0) 0 0) mt_X10_isSmall (axMQ g 0 0 (.inl (some (.int r9)), S9)) 0 0 S 0 [(0, .int v0)] []
  unfold F_X10_isSmall at h
  refine aw_iload_n 0 dX10_isSmall_0 rfl rfl ?_
  refine aw_bipush 97 dX10_isSmall_1 (by decide) ?_
  refine aw_icmp_lt 16 dX10_isSmall_3 (by decide) h (fun h => ?_) (fun h => ?_)
  · refine aw_iconst 0 dX10_isSmall_16 rfl ?_
    exact aw_zret dX10_isSmall_17 rfl (Nat.le_refl _) (Nat.le_refl _) h
  · refine aw_iload_n 0 dX10_isSmall_6 rfl rfl ?_
    refine aw_bipush 122 dX10_isSmall_7 (by decide) ?_
    refine aw_icmp_gt 16 dX10_isSmall_9 (by decide) h (fun h => ?_) (fun h => ?_)
    · refine aw_iconst 0 dX10_isSmall_16 rfl ?_
      exact aw_zret dX10_isSmall_17 rfl (Nat.le_refl _) (Nat.le_refl _) h
    · refine aw_iconst 1 dX10_isSmall_12 rfl ?_
      refine aw_goto 17 dX10_isSmall_13 (by decide) ?_
      exact aw_zret dX10_isSmall_17 rfl (Nat.le_refl _) (Nat.le_refl _) h

theorem dX10_number_0 : decode cX10_number 0 = .ok (.aload_n 0, 1) := by decide +kernel
theorem dX10_number_1 : decode cX10_number 1 = .ok (.getfield 120, 3) := by decide +kernel
theorem dX10_number_4 : decode cX10_number 4 = .ok (.ifCond .eq 5, 3) := by decide +kernel
theorem dX10_number_7 : decode cX10_number 7 = .ok (.iconst 0, 1) := by decide +kernel
theorem dX10_number_8 : decode cX10_number 8 = .ok (.ireturn, 1) := by decide +kernel
theorem dX10_number_9 : decode cX10_number 9 = .ok (.aload_n 0, 1) := by decide +kernel
theorem dX10_number_10 : decode cX10_number 10 = .ok (.invokevirtual 126, 3) := by decide +kernel
theorem dX10_number_13 : decode cX10_number 13 = .ok (.aload_n 0, 1) := by decide +kernel
theorem dX10_number_14 : decode cX10_number 14 = .ok (.getfield 113, 3) := by decide +kernel
theorem dX10_number_17 : decode cX10_number 17 = .ok (.istore_n 3, 1) := by decide +kernel
theorem dX10_number_18 : decode cX10_number 18 = .ok (.iconst 0, 1) := by decide +kernel
theorem dX10_number_19 : decode cX10_number 19 = .ok (.istore 4, 2) := by decide +kernel
theorem dX10_number_21 : decode cX10_number 21 = .ok (.aload_n 0, 1) := by decide +kernel
theorem dX10_number_22 : decode cX10_number 22 = .ok (.aload_n 0, 1) := by decide +kernel
theorem dX10_number_23 : decode cX10_number 23 = .ok (.getfield 113, 3) := by decide +kernel
theorem dX10_number_26 : decode cX10_number 26 = .ok (.invokevirtual 116, 3) := by decide +kernel
theorem dX10_number_29 : decode cX10_number 29 = .ok (.invokestatic 129, 3) := by decide +kernel
theorem dX10_number_32 : decode cX10_number 32 = .ok (.ifCond .ne 12, 3) := by decide +kernel
theorem dX10_number_35 : decode cX10_number 35 = .ok (.aload_n 0, 1) := by decide +kernel
theorem dX10_number_36 : decode cX10_number 36 = .ok (.iconst 1, 1) := by decide +kernel
theorem dX10_number_37 : decode cX10_number 37 = .ok (.aload_n 0, 1) := by decide +kernel
theorem dX10_number_38 : decode cX10_number 38 = .ok (.getfield 113, 3) := by decide +kernel
theorem dX10_number_41 : decode cX10_number 41 = .ok (.invokevirtual 133, 3) := by decide +kernel
theorem dX10_number_44 : decode cX10_number 44 = .ok (.aload_n 0, 1) := by decide +kernel
theorem dX10_number_45 : decode cX10_number 45 = .ok (.aload_n 0, 1) := by decide +kernel
theorem dX10_number_46 : decode cX10_number 46 = .ok (.getfield 113, 3) := by decide +kernel
theorem dX10_number_49 : decode cX10_number 49 = .ok (.invokevirtual 116, 3) := by decide +kernel
theorem dX10_number_52 : decode cX10_number 52 = .ok (.invokestatic 129, 3) := by decide +kernel
theorem dX10_number_55 : decode cX10_number 55 = .ok (.ifCond .eq 51, 3) := by decide +kernel
theorem dX10_number_58 : decode cX10_number 58 = .ok (.bipush 10, 2) := by decide +kernel
theorem dX10_number_60 : decode cX10_number 60 = .ok (.iload 4, 2) := by decide +kernel
theorem dX10_number_62 : decode cX10_number 62 = .ok (.imul, 1) := by decide +kernel
theorem dX10_number_63 : decode cX10_number 63 = .ok (.aload_n 0, 1) := by decide +kernel
theorem dX10_number_64 : decode cX10_number 64 = .ok (.aload_n 0, 1) := by decide +kernel
theorem dX10_number_65 : decode cX10_number 65 = .ok (.getfield 113, 3) := by decide +kernel
theorem dX10_number_68 : decode cX10_number 68 = .ok (.invokevirtual 116, 3) := by decide +kernel
theorem dX10_number_71 : decode cX10_number 71 = .ok (.iadd, 1) := by decide +kernel
theorem dX10_number_72 : decode cX10_number 72 = .ok (.bipush 48, 2) := by decide +kernel
theorem dX10_number_74 : decode cX10_number 74 = .ok (.isub, 1) := by decide +kernel
theorem dX10_number_75 : decode cX10_number 75 = .ok (.istore 4, 2) := by decide +kernel
theorem dX10_number_77 : decode cX10_number 77 = .ok (.iload 4, 2) := by decide +kernel
theorem dX10_number_79 : decode cX10_number 79 = .ok (.ldc 137, 2) := by decide +kernel
theorem dX10_number_81 : decode cX10_number 81 = .ok (.if_icmp .le 8, 3) := by decide +kernel
theorem dX10_number_84 : decode cX10_number 84 = .ok (.ldc 137, 2) := by decide +kernel
theorem dX10_number_86 : decode cX10_number 86 = .ok (.goto 5, 3) := by decide +kernel
theorem dX10_number_89 : decode cX10_number 89 = .ok (.iload 4, 2) := by decide +kernel
theorem dX10_number_91 : decode cX10_number 91 = .ok (.istore 4, 2) := by decide +kernel
theorem dX10_number_93 : decode cX10_number 93 = .ok (.aload_n 0, 1) := by decide +kernel
theorem dX10_number_94 : decode cX10_number 94 = .ok (.dup, 1) := by decide +kernel
theorem dX10_number_95 : decode cX10_number 95 = .ok (.getfield 113, 3) := by decide +kernel
theorem dX10_number_98 : decode cX10_number 98 = .ok (.iconst 1, 1) := by decide +kernel
theorem dX10_number_99 : decode cX10_number 99 = .ok (.iadd, 1) := by decide +kernel
theorem dX10_number_100 : decode cX10_number 100 = .ok (.putfield 113, 3) := by decide +kernel
theorem dX10_number_103 : decode cX10_number 103 = .ok (.goto (-59), 3) := by decide +kernel
theorem dX10_number_106 : decode cX10_number 106 = .ok (.iload 4, 2) := by decide +kernel
theorem dX10_number_108 : decode cX10_number 108 = .ok (.iload_n 1, 1) := by decide +kernel
theorem dX10_number_109 : decode cX10_number 109 = .ok (.iload_n 2, 1) := by decide +kernel
theorem dX10_number_110 : decode cX10_number 110 = .ok (.invokestatic 138, 3) := by decide +kernel
theorem dX10_number_113 : decode cX10_number 113 = .ok (.ifCond .ne 9, 3) := by decide +kernel
theorem dX10_number_116 : decode cX10_number 116 = .ok (.aload_n 0, 1) := by decide +kernel
theorem dX10_number_117 : decode cX10_number 117 = .ok (.iconst 2, 1) := by decide +kernel
theorem dX10_number_118 : decode cX10_number 118 = .ok (.iload_n 3, 1) := by decide +kernel
theorem dX10_number_119 : decode cX10_number 119 = .ok (.invokevirtual 133, 3) := by decide +kernel
theorem dX10_number_122 : decode cX10_number 122 = .ok (.aload_n 0, 1) := by decide +kernel
theorem dX10_number_123 : decode cX10_number 123 = .ok (.getfield 120, 3) := by decide +kernel
theorem dX10_number_126 : decode cX10_number 126 = .ok (.ifCond .ne 8, 3) := by decide +kernel
theorem dX10_number_129 : decode cX10_number 129 = .ok (.iload 4, 2) := by decide +kernel
theorem dX10_number_131 : decode cX10_number 131 = .ok (.goto 4, 3) := by decide +kernel
theorem dX10_number_134 : decode cX10_number 134 = .ok (.iconst 0, 1) := by decide +kernel
theorem dX10_number_135 : decode cX10_number 135 = .ok (.ireturn, 1) := by decide +kernel
abbrev mt_X10_number : AxM := (RX10, cX10_number, 5, (some .int), false, [])
theorem L1_X10_number_122 {g : AxG} {l : Launch} {r9 : Int32} {S9 : AxS} (N : Nat)  (v0 : Nat) (v4 : Int32) (S : AxS) (h : F_X10_number_122 N  v0 v4 S = some ((r9, S9))) : AW g l (axRm (2) 0 0) mt_X10_number (axMQ g 0 0 (.inl (some (.int r9)), S9)) 0 0 S 122 [(0, .ref v0), (4, .int v4)] [] := by
  unfold F_X10_number_122 at h
  refine aw_aload_n 0 dX10_number_122 rfl rfl ?_
  refine aw_getI axc10 5 rfl rfl wd_1290 dX10_number_123 h (fun x1 h => ?_)
  refine aw_if_ne 134 dX10_number_126 (by decide) h (fun h => ?_) (fun h => ?_)
  · refine aw_iconst 0 dX10_number_134 rfl ?_
    exact aw_iret dX10_number_135 rfl (Nat.le_refl _) (Nat.le_refl _) h
  · refine aw_iload 1 dX10_number_129 rfl ?_
    refine aw_goto 135 dX10_number_131 (by decide) ?_
    exact aw_iret dX10_number_135 rfl (Nat.le_refl _) (Nat.le_refl _) h
theorem L1_X10_number_91 {g : AxG} {l : Launch} {r9 : Int32} {S9 : AxS} (N : Nat) (K44 : Nat → Int32 → Int32 → Int32 → Int32 → AxS → Option (Int32 × AxS)) (hK44 : ∀ (v0 : Nat) (v1 : Int32) (v2 : Int32) (v3 : Int32) (v4 : Int32) (S : AxS), K44 v0 v1 v2 v3 v4 S = some ((r9, S9)) → AW g l (axRm (2) 0 0) mt_X10_number (axMQ g 0 0 (.inl (some (.int r9)), S9)) 0 0 S 44 [(0, .ref v0), (1, .int v1), (2, .int v2), (3, .int v3), (4, .int v4)] []) (v0 : Nat) (v1 : Int32) (v2 : Int32) (v3 : Int32) (w0 : Int32) (S : AxS) (h : F_X10_number_91 N K44 v0 v1 v2 v3 w0 S = some ((r9, S9))) : AW g l (axRm (2) 0 0) mt_X10_number (axMQ g 0 0 (.inl (some (.int r9)), S9)) 0 0 S 91 [(0, .ref v0), (1, .int v1), (2, .int v2), (3, .int v3)] [.int w0] := by
  unfold F_X10_number_91 at h
  refine aw_istore [(4, .int w0), (0, .ref v0), (1, .int v1), (2, .int v2), (3, .int v3)] dX10_number_91 rfl rfl ?_
  refine aw_aload_n 1 dX10_number_93 rfl rfl ?_
  refine aw_dup rfl dX10_number_94 ?_
  refine aw_getI axc10 4 rfl rfl wd_1289 dX10_number_95 h (fun x1 h => ?_)
  refine aw_iconst 1 dX10_number_98 rfl ?_
  refine aw_iadd dX10_number_99 ?_
  refine aw_putI axc10 4 rfl rfl wd_1289 rfl rfl rfl dX10_number_100 h (fun T2 h => ?_)
  refine aw_goto 44 dX10_number_103 (by decide) ?_
  refine aw_env [(0, .ref v0), (1, .int v1), (2, .int v2), (3, .int v3), (4, .int w0)] [1, 2, 3, 4, 0] rfl ?_
  exact hK44 v0 v1 v2 v3 w0 T2 h
theorem L1_X10_number_44b {g : AxG} {l : Launch} {r9 : Int32} {S9 : AxS} (N : Nat) (K44 : Nat → Int32 → Int32 → Int32 → Int32 → AxS → Option (Int32 × AxS)) (hK44 : ∀ (v0 : Nat) (v1 : Int32) (v2 : Int32) (v3 : Int32) (v4 : Int32) (S : AxS), K44 v0 v1 v2 v3 v4 S = some ((r9, S9)) → AW g l (axRm (2) 0 0) mt_X10_number (axMQ g 0 0 (.inl (some (.int r9)), S9)) 0 0 S 44 [(0, .ref v0), (1, .int v1), (2, .int v2), (3, .int v3), (4, .int v4)] []) (v0 : Nat) (v1 : Int32) (v2 : Int32) (v3 : Int32) (v4 : Int32) (S : AxS) (h : F_X10_number_44b N K44 v0 v1 v2 v3 v4 S = some ((r9, S9))) : AW g l (axRm (2) 0 0) mt_X10_number (axMQ g 0 0 (.inl (some (.int r9)), S9)) 0 0 S 44 [(0, .ref v0), (1, .int v1), (2, .int v2), (3, .int v3), (4, .int v4)] [] := by
  unfold F_X10_number_44b at h
  refine aw_aload_n 0 dX10_number_44 rfl rfl ?_
  refine aw_aload_n 0 dX10_number_45 rfl rfl ?_
  refine aw_getI axc10 4 rfl rfl wd_1289 dX10_number_46 h (fun x1 h => ?_)
  obtain ⟨hL2, h⟩ := ax_is_spec h
  refine aw_doneI (rest := []) h (fun r9 S9 hF => aw_runV (As := [.int x1]) (rest := []) (L1_X10_byteAt N hF) axc10 hL2 wd_1464 wd_1461 wd_1463 wd_41 wd_97 pd_X10_byteAt rfl (ax_rm (by omega) rfl) ax_hf0 (Nat.le_of_ble_eq_true rfl) rfl dX10_number_49) (fun x4 T3 h => ?_)
  refine aw_doneI (rest := []) h (fun r9 S9 hF => aw_runS (As := [.int x4]) (rest := []) (L1_X10_isDigit N hF) wd_1511 wd_1509 wd_1510 wd_97 pd_X10_isDigit.2 rfl (ax_rm (by omega) rfl) ax_hf0 (Nat.le_of_ble_eq_true rfl) rfl dX10_number_52) (fun x6 T5 h => ?_)
  refine aw_if_eq 106 dX10_number_55 (by decide) h (fun h => ?_) (fun h => ?_)
  · refine aw_iload 4 dX10_number_106 rfl ?_
    refine aw_iload_n 1 dX10_number_108 rfl rfl ?_
    refine aw_iload_n 2 dX10_number_109 rfl rfl ?_
    refine aw_doneI (rest := []) h (fun r9 S9 hF => aw_runS (As := [.int v4, .int v1, .int v2]) (rest := []) (L1_X10_in N hF) wd_1448 wd_1446 wd_1447 wd_97 pd_X10_in.2 rfl (ax_rm (by omega) rfl) ax_hf0 (Nat.le_of_ble_eq_true rfl) rfl dX10_number_110) (fun x8 T7 h => ?_)
    refine aw_if_ne 122 dX10_number_113 (by decide) h (fun h => ?_) (fun h => ?_)
    · refine aw_env [(0, .ref v0), (4, .int v4)] [0, 4] rfl ?_
      exact L1_X10_number_122 N  v0 v4 T7 h
    · refine aw_aload_n 0 dX10_number_116 rfl rfl ?_
      refine aw_iconst 2 dX10_number_117 rfl ?_
      refine aw_iload_n 3 dX10_number_118 rfl rfl ?_
      obtain ⟨hL9, h⟩ := ax_is_spec h
      refine aw_doneV (rest := []) h (fun S9 hF => aw_runV (As := [.int 2, .int v3]) (rest := []) (L1_X10_wrong N hF) axc10 hL9 wd_1493 wd_1490 wd_1492 wd_46 wd_97 pd_X10_wrong rfl (ax_rm (by omega) rfl) ax_hf0 (Nat.le_of_ble_eq_true rfl) rfl dX10_number_119) (fun T10 h => ?_)
      refine aw_env [(0, .ref v0), (4, .int v4)] [0, 4] rfl ?_
      exact L1_X10_number_122 N  v0 v4 T10 h
  · refine aw_bipush 10 dX10_number_58 (by decide) ?_
    refine aw_iload 4 dX10_number_60 rfl ?_
    refine aw_imul dX10_number_62 ?_
    refine aw_aload_n 0 dX10_number_63 rfl rfl ?_
    refine aw_aload_n 0 dX10_number_64 rfl rfl ?_
    refine aw_getI axc10 4 rfl rfl wd_1289 dX10_number_65 h (fun x12 h => ?_)
    obtain ⟨hL13, h⟩ := ax_is_spec h
    refine aw_doneI (rest := [.int (10 * v4)]) h (fun r9 S9 hF => aw_runV (As := [.int x12]) (rest := [.int (10 * v4)]) (L1_X10_byteAt N hF) axc10 hL13 wd_1464 wd_1461 wd_1463 wd_41 wd_97 pd_X10_byteAt rfl (ax_rm (by omega) rfl) ax_hf0 (Nat.le_of_ble_eq_true rfl) rfl dX10_number_68) (fun x15 T14 h => ?_)
    refine aw_iadd dX10_number_71 ?_
    refine aw_bipush 48 dX10_number_72 (by decide) ?_
    refine aw_isub dX10_number_74 ?_
    refine aw_istore [(4, .int (((10 * v4) + x15) - 48)), (0, .ref v0), (1, .int v1), (2, .int v2), (3, .int v3)] dX10_number_75 rfl rfl ?_
    refine aw_iload 0 dX10_number_77 rfl ?_
    refine aw_ldcI wd_1512 dX10_number_79 ?_
    refine aw_icmp_le 89 dX10_number_81 (by decide) h (fun h => ?_) (fun h => ?_)
    · refine aw_iload 0 dX10_number_89 rfl ?_
      refine aw_env [(0, .ref v0), (1, .int v1), (2, .int v2), (3, .int v3)] [1, 2, 3, 4] rfl ?_
      exact L1_X10_number_91 N K44 hK44 v0 v1 v2 v3 (((10 * v4) + x15) - 48) T14 h
    · refine aw_ldcI wd_1512 dX10_number_84 ?_
      refine aw_goto 91 dX10_number_86 (by decide) ?_
      refine aw_env [(0, .ref v0), (1, .int v1), (2, .int v2), (3, .int v3)] [1, 2, 3, 4] rfl ?_
      exact L1_X10_number_91 N K44 hK44 v0 v1 v2 v3 100000 T14 h
theorem L1_X10_number_44 {g : AxG} {l : Launch} {r9 : Int32} {S9 : AxS} (N : Nat)  : ∀ (n : Nat) (v0 : Nat) (v1 : Int32) (v2 : Int32) (v3 : Int32) (v4 : Int32) (S : AxS), F_X10_number_44 N  n v0 v1 v2 v3 v4 S = some ((r9, S9)) → AW g l (axRm (2) 0 0) mt_X10_number (axMQ g 0 0 (.inl (some (.int r9)), S9)) 0 0 S 44 [(0, .ref v0), (1, .int v1), (2, .int v2), (3, .int v3), (4, .int v4)] [] := by
  intro n
  induction n with
  | zero => intro v0 v1 v2 v3 v4 S h; cases h
  | succ n ih => intro v0 v1 v2 v3 v4 S h; exact L1_X10_number_44b N (F_X10_number_44 N  n) ih v0 v1 v2 v3 v4 S h
theorem L1_X10_number {g : AxG} {l : Launch} (N : Nat) {v0 : Nat} {v1 : Int32} {v2 : Int32} {S : AxS} {r9 : Int32} {S9 : AxS} (h : F_X10_number N v0 v1 v2 S = some ((r9, S9))) : AxMet g l yX10_number cX10_number 5 (some .int) (2) 0 0 [.ref v0, .int v1, .int v2] S ((.inl (some (.int r9)), S9)) := by
  refine ax_met (own := RX10) (ini := false) (by decide +kernel) rfl (fun h => nomatch h) rfl ?_
  show AW g l (axRm (2) 0 0) mt_X10_number (axMQ g 0 0 (.inl (some (.int r9)), S9)) 0 0 S 0 [(0, .ref v0), (1, .int v1), (2, .int v2)] []
  unfold F_X10_number at h
  refine aw_aload_n 0 dX10_number_0 rfl rfl ?_
  refine aw_getI axc10 5 rfl rfl wd_1290 dX10_number_1 h (fun x1 h => ?_)
  refine aw_if_eq 9 dX10_number_4 (by decide) h (fun h => ?_) (fun h => ?_)
  · refine aw_aload_n 0 dX10_number_9 rfl rfl ?_
    obtain ⟨hL2, h⟩ := ax_is_spec h
    refine aw_doneV (rest := []) h (fun S9 hF => aw_runV (As := []) (rest := []) (L1_X10_blanks N hF) axc10 hL2 wd_1460 wd_1457 wd_1459 wd_40 wd_97 pd_X10_blanks rfl (ax_rm (by omega) rfl) ax_hf0 (Nat.le_of_ble_eq_true rfl) rfl dX10_number_10) (fun T3 h => ?_)
    refine aw_aload_n 0 dX10_number_13 rfl rfl ?_
    refine aw_getI axc10 4 rfl rfl wd_1289 dX10_number_14 h (fun x5 h => ?_)
    refine aw_istore_n 3 [(3, .int x5), (0, .ref v0), (1, .int v1), (2, .int v2)] dX10_number_17 rfl rfl rfl ?_
    refine aw_iconst 0 dX10_number_18 rfl ?_
    refine aw_istore [(4, .int 0), (3, .int x5), (0, .ref v0), (1, .int v1), (2, .int v2)] dX10_number_19 rfl rfl ?_
    refine aw_aload_n 2 dX10_number_21 rfl rfl ?_
    refine aw_aload_n 2 dX10_number_22 rfl rfl ?_
    refine aw_getI axc10 4 rfl rfl wd_1289 dX10_number_23 h (fun x6 h => ?_)
    obtain ⟨hL7, h⟩ := ax_is_spec h
    refine aw_doneI (rest := []) h (fun r9 S9 hF => aw_runV (As := [.int x6]) (rest := []) (L1_X10_byteAt N hF) axc10 hL7 wd_1464 wd_1461 wd_1463 wd_41 wd_97 pd_X10_byteAt rfl (ax_rm (by omega) rfl) ax_hf0 (Nat.le_of_ble_eq_true rfl) rfl dX10_number_26) (fun x9 T8 h => ?_)
    refine aw_doneI (rest := []) h (fun r9 S9 hF => aw_runS (As := [.int x9]) (rest := []) (L1_X10_isDigit N hF) wd_1511 wd_1509 wd_1510 wd_97 pd_X10_isDigit.2 rfl (ax_rm (by omega) rfl) ax_hf0 (Nat.le_of_ble_eq_true rfl) rfl dX10_number_29) (fun x11 T10 h => ?_)
    refine aw_if_ne 44 dX10_number_32 (by decide) h (fun h => ?_) (fun h => ?_)
    · refine aw_env [(0, .ref v0), (1, .int v1), (2, .int v2), (3, .int x5), (4, .int 0)] [2, 3, 4, 1, 0] rfl ?_
      exact L1_X10_number_44 N  N v0 v1 v2 x5 0 T10 h
    · refine aw_aload_n 2 dX10_number_35 rfl rfl ?_
      refine aw_iconst 1 dX10_number_36 rfl ?_
      refine aw_aload_n 2 dX10_number_37 rfl rfl ?_
      refine aw_getI axc10 4 rfl rfl wd_1289 dX10_number_38 h (fun x12 h => ?_)
      obtain ⟨hL13, h⟩ := ax_is_spec h
      refine aw_doneV (rest := []) h (fun S9 hF => aw_runV (As := [.int 1, .int x12]) (rest := []) (L1_X10_wrong N hF) axc10 hL13 wd_1493 wd_1490 wd_1492 wd_46 wd_97 pd_X10_wrong rfl (ax_rm (by omega) rfl) ax_hf0 (Nat.le_of_ble_eq_true rfl) rfl dX10_number_41) (fun T14 h => ?_)
      refine aw_env [(0, .ref v0), (1, .int v1), (2, .int v2), (3, .int x5), (4, .int 0)] [2, 3, 4, 1, 0] rfl ?_
      exact L1_X10_number_44 N  N v0 v1 v2 x5 0 T14 h
  · refine aw_iconst 0 dX10_number_7 rfl ?_
    exact aw_iret dX10_number_8 rfl (Nat.le_refl _) (Nat.le_refl _) h

theorem dX10_wordHere_0 : decode cX10_wordHere 0 = .ok (.aload_n 0, 1) := by decide +kernel
theorem dX10_wordHere_1 : decode cX10_wordHere 1 = .ok (.invokevirtual 126, 3) := by decide +kernel
theorem dX10_wordHere_4 : decode cX10_wordHere 4 = .ok (.lconst 0, 1) := by decide +kernel
theorem dX10_wordHere_5 : decode cX10_wordHere 5 = .ok (.lstore_n 1, 1) := by decide +kernel
theorem dX10_wordHere_6 : decode cX10_wordHere 6 = .ok (.iconst 0, 1) := by decide +kernel
theorem dX10_wordHere_7 : decode cX10_wordHere 7 = .ok (.istore_n 3, 1) := by decide +kernel
theorem dX10_wordHere_8 : decode cX10_wordHere 8 = .ok (.aload_n 0, 1) := by decide +kernel
theorem dX10_wordHere_9 : decode cX10_wordHere 9 = .ok (.aload_n 0, 1) := by decide +kernel
theorem dX10_wordHere_10 : decode cX10_wordHere 10 = .ok (.getfield 113, 3) := by decide +kernel
theorem dX10_wordHere_13 : decode cX10_wordHere 13 = .ok (.iload_n 3, 1) := by decide +kernel
theorem dX10_wordHere_14 : decode cX10_wordHere 14 = .ok (.iadd, 1) := by decide +kernel
theorem dX10_wordHere_15 : decode cX10_wordHere 15 = .ok (.invokevirtual 116, 3) := by decide +kernel
theorem dX10_wordHere_18 : decode cX10_wordHere 18 = .ok (.invokestatic 142, 3) := by decide +kernel
theorem dX10_wordHere_21 : decode cX10_wordHere 21 = .ok (.ifCond .eq 43, 3) := by decide +kernel
theorem dX10_wordHere_24 : decode cX10_wordHere 24 = .ok (.iload_n 3, 1) := by decide +kernel
theorem dX10_wordHere_25 : decode cX10_wordHere 25 = .ok (.bipush 7, 2) := by decide +kernel
theorem dX10_wordHere_27 : decode cX10_wordHere 27 = .ok (.if_icmp .ge 29, 3) := by decide +kernel
theorem dX10_wordHere_30 : decode cX10_wordHere 30 = .ok (.ldc2_w 145, 3) := by decide +kernel
theorem dX10_wordHere_33 : decode cX10_wordHere 33 = .ok (.lload_n 1, 1) := by decide +kernel
theorem dX10_wordHere_34 : decode cX10_wordHere 34 = .ok (.lmul, 1) := by decide +kernel
theorem dX10_wordHere_35 : decode cX10_wordHere 35 = .ok (.aload_n 0, 1) := by decide +kernel
theorem dX10_wordHere_36 : decode cX10_wordHere 36 = .ok (.aload_n 0, 1) := by decide +kernel
theorem dX10_wordHere_37 : decode cX10_wordHere 37 = .ok (.getfield 113, 3) := by decide +kernel
theorem dX10_wordHere_40 : decode cX10_wordHere 40 = .ok (.iload_n 3, 1) := by decide +kernel
theorem dX10_wordHere_41 : decode cX10_wordHere 41 = .ok (.iadd, 1) := by decide +kernel
theorem dX10_wordHere_42 : decode cX10_wordHere 42 = .ok (.invokevirtual 116, 3) := by decide +kernel
theorem dX10_wordHere_45 : decode cX10_wordHere 45 = .ok (.i2l, 1) := by decide +kernel
theorem dX10_wordHere_46 : decode cX10_wordHere 46 = .ok (.ladd, 1) := by decide +kernel
theorem dX10_wordHere_47 : decode cX10_wordHere 47 = .ok (.ldc2_w 147, 3) := by decide +kernel
theorem dX10_wordHere_50 : decode cX10_wordHere 50 = .ok (.lsub, 1) := by decide +kernel
theorem dX10_wordHere_51 : decode cX10_wordHere 51 = .ok (.lconst 1, 1) := by decide +kernel
theorem dX10_wordHere_52 : decode cX10_wordHere 52 = .ok (.ladd, 1) := by decide +kernel
theorem dX10_wordHere_53 : decode cX10_wordHere 53 = .ok (.goto 4, 3) := by decide +kernel
theorem dX10_wordHere_56 : decode cX10_wordHere 56 = .ok (.lload_n 1, 1) := by decide +kernel
theorem dX10_wordHere_57 : decode cX10_wordHere 57 = .ok (.lstore_n 1, 1) := by decide +kernel
theorem dX10_wordHere_58 : decode cX10_wordHere 58 = .ok (.iinc 3 1, 3) := by decide +kernel
theorem dX10_wordHere_61 : decode cX10_wordHere 61 = .ok (.goto (-53), 3) := by decide +kernel
theorem dX10_wordHere_64 : decode cX10_wordHere 64 = .ok (.iload_n 3, 1) := by decide +kernel
theorem dX10_wordHere_65 : decode cX10_wordHere 65 = .ok (.bipush 7, 2) := by decide +kernel
theorem dX10_wordHere_67 : decode cX10_wordHere 67 = .ok (.if_icmp .le 9, 3) := by decide +kernel
theorem dX10_wordHere_70 : decode cX10_wordHere 70 = .ok (.ldc2_w 149, 3) := by decide +kernel
theorem dX10_wordHere_73 : decode cX10_wordHere 73 = .ok (.goto 4, 3) := by decide +kernel
theorem dX10_wordHere_76 : decode cX10_wordHere 76 = .ok (.lload_n 1, 1) := by decide +kernel
theorem dX10_wordHere_77 : decode cX10_wordHere 77 = .ok (.lreturn, 1) := by decide +kernel
abbrev mt_X10_wordHere : AxM := (RX10, cX10_wordHere, 4, (some .long), false, [])
theorem L1_X10_wordHere_57 {g : AxG} {l : Launch} {r9 : Int64} {S9 : AxS} (N : Nat) (K8 : Nat → Int64 → Int32 → AxS → Option (Int64 × AxS)) (hK8 : ∀ (v0 : Nat) (v1 : Int64) (v3 : Int32) (S : AxS), K8 v0 v1 v3 S = some ((r9, S9)) → AW g l (axRm (2) 0 0) mt_X10_wordHere (axMQ g 0 0 (.inl (some (.long r9)), S9)) 0 0 S 8 [(0, .ref v0), (1, .long v1), (3, .int v3)] []) (v0 : Nat) (v3 : Int32) (w0 : Int64) (S : AxS) (h : F_X10_wordHere_57 N K8 v0 v3 w0 S = some ((r9, S9))) : AW g l (axRm (2) 0 0) mt_X10_wordHere (axMQ g 0 0 (.inl (some (.long r9)), S9)) 0 0 S 57 [(0, .ref v0), (3, .int v3)] [.long w0] := by
  unfold F_X10_wordHere_57 at h
  refine aw_lstore_n 1 [(1, .long w0), (0, .ref v0), (3, .int v3)] dX10_wordHere_57 rfl rfl rfl ?_
  refine aw_iinc 2 [(3, .int (v3 + 1)), (1, .long w0), (0, .ref v0)] (v3 + 1) dX10_wordHere_58 rfl rfl rfl rfl ?_
  refine aw_goto 8 dX10_wordHere_61 (by decide) ?_
  refine aw_env [(0, .ref v0), (1, .long w0), (3, .int (v3 + 1))] [2, 1, 0] rfl ?_
  exact hK8 v0 w0 (v3 + 1) S h
theorem L1_X10_wordHere_8b {g : AxG} {l : Launch} {r9 : Int64} {S9 : AxS} (N : Nat) (K8 : Nat → Int64 → Int32 → AxS → Option (Int64 × AxS)) (hK8 : ∀ (v0 : Nat) (v1 : Int64) (v3 : Int32) (S : AxS), K8 v0 v1 v3 S = some ((r9, S9)) → AW g l (axRm (2) 0 0) mt_X10_wordHere (axMQ g 0 0 (.inl (some (.long r9)), S9)) 0 0 S 8 [(0, .ref v0), (1, .long v1), (3, .int v3)] []) (v0 : Nat) (v1 : Int64) (v3 : Int32) (S : AxS) (h : F_X10_wordHere_8b N K8 v0 v1 v3 S = some ((r9, S9))) : AW g l (axRm (2) 0 0) mt_X10_wordHere (axMQ g 0 0 (.inl (some (.long r9)), S9)) 0 0 S 8 [(0, .ref v0), (1, .long v1), (3, .int v3)] [] := by
  unfold F_X10_wordHere_8b at h
  refine aw_aload_n 0 dX10_wordHere_8 rfl rfl ?_
  refine aw_aload_n 0 dX10_wordHere_9 rfl rfl ?_
  refine aw_getI axc10 4 rfl rfl wd_1289 dX10_wordHere_10 h (fun x1 h => ?_)
  refine aw_iload_n 2 dX10_wordHere_13 rfl rfl ?_
  refine aw_iadd dX10_wordHere_14 ?_
  obtain ⟨hL2, h⟩ := ax_is_spec h
  refine aw_doneI (rest := []) h (fun r9 S9 hF => aw_runV (As := [.int (x1 + v3)]) (rest := []) (L1_X10_byteAt N hF) axc10 hL2 wd_1464 wd_1461 wd_1463 wd_41 wd_97 pd_X10_byteAt rfl (ax_rm (by omega) rfl) ax_hf0 (Nat.le_of_ble_eq_true rfl) rfl dX10_wordHere_15) (fun x4 T3 h => ?_)
  refine aw_doneI (rest := []) h (fun r9 S9 hF => aw_runS (As := [.int x4]) (rest := []) (L1_X10_isSmall N hF) wd_1483 wd_1481 wd_1482 wd_97 pd_X10_isSmall.2 rfl (ax_rm (by omega) rfl) ax_hf0 (Nat.le_of_ble_eq_true rfl) rfl dX10_wordHere_18) (fun x6 T5 h => ?_)
  refine aw_if_eq 64 dX10_wordHere_21 (by decide) h (fun h => ?_) (fun h => ?_)
  · refine aw_iload_n 2 dX10_wordHere_64 rfl rfl ?_
    refine aw_bipush 7 dX10_wordHere_65 (by decide) ?_
    refine aw_icmp_le 76 dX10_wordHere_67 (by decide) h (fun h => ?_) (fun h => ?_)
    · refine aw_lload_n 1 dX10_wordHere_76 rfl rfl ?_
      exact aw_lret dX10_wordHere_77 rfl (Nat.le_refl _) (Nat.le_refl _) h
    · refine aw_ldc2 wd_1486 dX10_wordHere_70 ?_
      refine aw_goto 77 dX10_wordHere_73 (by decide) ?_
      exact aw_lret dX10_wordHere_77 rfl (Nat.le_refl _) (Nat.le_refl _) h
  · refine aw_iload_n 2 dX10_wordHere_24 rfl rfl ?_
    refine aw_bipush 7 dX10_wordHere_25 (by decide) ?_
    refine aw_icmp_ge 56 dX10_wordHere_27 (by decide) h (fun h => ?_) (fun h => ?_)
    · refine aw_lload_n 1 dX10_wordHere_56 rfl rfl ?_
      refine aw_env [(0, .ref v0), (3, .int v3)] [0, 2] rfl ?_
      exact L1_X10_wordHere_57 N K8 hK8 v0 v3 v1 T5 h
    · refine aw_ldc2 wd_1484 dX10_wordHere_30 ?_
      refine aw_lload_n 1 dX10_wordHere_33 rfl rfl ?_
      refine aw_lmul dX10_wordHere_34 ?_
      refine aw_aload_n 0 dX10_wordHere_35 rfl rfl ?_
      refine aw_aload_n 0 dX10_wordHere_36 rfl rfl ?_
      refine aw_getI axc10 4 rfl rfl wd_1289 dX10_wordHere_37 h (fun x7 h => ?_)
      refine aw_iload_n 2 dX10_wordHere_40 rfl rfl ?_
      refine aw_iadd dX10_wordHere_41 ?_
      obtain ⟨hL8, h⟩ := ax_is_spec h
      refine aw_doneI (rest := [.long (27 * v1)]) h (fun r9 S9 hF => aw_runV (As := [.int (x7 + v3)]) (rest := [.long (27 * v1)]) (L1_X10_byteAt N hF) axc10 hL8 wd_1464 wd_1461 wd_1463 wd_41 wd_97 pd_X10_byteAt rfl (ax_rm (by omega) rfl) ax_hf0 (Nat.le_of_ble_eq_true rfl) rfl dX10_wordHere_42) (fun x10 T9 h => ?_)
      refine aw_i2l dX10_wordHere_45 ?_
      refine aw_ladd dX10_wordHere_46 ?_
      refine aw_ldc2 wd_1485 dX10_wordHere_47 ?_
      refine aw_lsub dX10_wordHere_50 ?_
      refine aw_lconst 1 dX10_wordHere_51 rfl ?_
      refine aw_ladd dX10_wordHere_52 ?_
      refine aw_goto 57 dX10_wordHere_53 (by decide) ?_
      refine aw_env [(0, .ref v0), (3, .int v3)] [0, 2] rfl ?_
      exact L1_X10_wordHere_57 N K8 hK8 v0 v3 ((((27 * v1) + (Int32.toInt64 x10)) - 97) + 1) T9 h
theorem L1_X10_wordHere_8 {g : AxG} {l : Launch} {r9 : Int64} {S9 : AxS} (N : Nat)  : ∀ (n : Nat) (v0 : Nat) (v1 : Int64) (v3 : Int32) (S : AxS), F_X10_wordHere_8 N  n v0 v1 v3 S = some ((r9, S9)) → AW g l (axRm (2) 0 0) mt_X10_wordHere (axMQ g 0 0 (.inl (some (.long r9)), S9)) 0 0 S 8 [(0, .ref v0), (1, .long v1), (3, .int v3)] [] := by
  intro n
  induction n with
  | zero => intro v0 v1 v3 S h; cases h
  | succ n ih => intro v0 v1 v3 S h; exact L1_X10_wordHere_8b N (F_X10_wordHere_8 N  n) ih v0 v1 v3 S h
theorem L1_X10_wordHere {g : AxG} {l : Launch} (N : Nat) {v0 : Nat} {S : AxS} {r9 : Int64} {S9 : AxS} (h : F_X10_wordHere N v0 S = some ((r9, S9))) : AxMet g l yX10_wordHere cX10_wordHere 4 (some .long) (2) 0 0 [.ref v0] S ((.inl (some (.long r9)), S9)) := by
  refine ax_met (own := RX10) (ini := false) (by decide +kernel) rfl (fun h => nomatch h) rfl ?_
  show AW g l (axRm (2) 0 0) mt_X10_wordHere (axMQ g 0 0 (.inl (some (.long r9)), S9)) 0 0 S 0 [(0, .ref v0)] []
  unfold F_X10_wordHere at h
  refine aw_aload_n 0 dX10_wordHere_0 rfl rfl ?_
  obtain ⟨hL1, h⟩ := ax_is_spec h
  refine aw_doneV (rest := []) h (fun S9 hF => aw_runV (As := []) (rest := []) (L1_X10_blanks N hF) axc10 hL1 wd_1460 wd_1457 wd_1459 wd_40 wd_97 pd_X10_blanks rfl (ax_rm (by omega) rfl) ax_hf0 (Nat.le_of_ble_eq_true rfl) rfl dX10_wordHere_1) (fun T2 h => ?_)
  refine aw_lconst 0 dX10_wordHere_4 rfl ?_
  refine aw_lstore_n 1 [(1, .long 0), (0, .ref v0)] dX10_wordHere_5 rfl rfl rfl ?_
  refine aw_iconst 0 dX10_wordHere_6 rfl ?_
  refine aw_istore_n 3 [(3, .int 0), (1, .long 0), (0, .ref v0)] dX10_wordHere_7 rfl rfl rfl ?_
  refine aw_env [(0, .ref v0), (1, .long 0), (3, .int 0)] [2, 1, 0] rfl ?_
  exact L1_X10_wordHere_8 N  N v0 0 0 T2 h

theorem dX10_seven_0 : decode cX10_seven 0 = .ok (.ldc2_w 145, 3) := by decide +kernel
theorem dX10_seven_3 : decode cX10_seven 3 = .ok (.ldc2_w 145, 3) := by decide +kernel
theorem dX10_seven_6 : decode cX10_seven 6 = .ok (.iload_n 0, 1) := by decide +kernel
theorem dX10_seven_7 : decode cX10_seven 7 = .ok (.i2l, 1) := by decide +kernel
theorem dX10_seven_8 : decode cX10_seven 8 = .ok (.lmul, 1) := by decide +kernel
theorem dX10_seven_9 : decode cX10_seven 9 = .ok (.iload_n 1, 1) := by decide +kernel
theorem dX10_seven_10 : decode cX10_seven 10 = .ok (.i2l, 1) := by decide +kernel
theorem dX10_seven_11 : decode cX10_seven 11 = .ok (.ladd, 1) := by decide +kernel
theorem dX10_seven_12 : decode cX10_seven 12 = .ok (.lmul, 1) := by decide +kernel
theorem dX10_seven_13 : decode cX10_seven 13 = .ok (.iload_n 2, 1) := by decide +kernel
theorem dX10_seven_14 : decode cX10_seven 14 = .ok (.i2l, 1) := by decide +kernel
theorem dX10_seven_15 : decode cX10_seven 15 = .ok (.ladd, 1) := by decide +kernel
theorem dX10_seven_16 : decode cX10_seven 16 = .ok (.lstore 7, 2) := by decide +kernel
theorem dX10_seven_18 : decode cX10_seven 18 = .ok (.iload_n 3, 1) := by decide +kernel
theorem dX10_seven_19 : decode cX10_seven 19 = .ok (.ifCond .ne 8, 3) := by decide +kernel
theorem dX10_seven_22 : decode cX10_seven 22 = .ok (.lload 7, 2) := by decide +kernel
theorem dX10_seven_24 : decode cX10_seven 24 = .ok (.goto 12, 3) := by decide +kernel
theorem dX10_seven_27 : decode cX10_seven 27 = .ok (.ldc2_w 145, 3) := by decide +kernel
theorem dX10_seven_30 : decode cX10_seven 30 = .ok (.lload 7, 2) := by decide +kernel
theorem dX10_seven_32 : decode cX10_seven 32 = .ok (.lmul, 1) := by decide +kernel
theorem dX10_seven_33 : decode cX10_seven 33 = .ok (.iload_n 3, 1) := by decide +kernel
theorem dX10_seven_34 : decode cX10_seven 34 = .ok (.i2l, 1) := by decide +kernel
theorem dX10_seven_35 : decode cX10_seven 35 = .ok (.ladd, 1) := by decide +kernel
theorem dX10_seven_36 : decode cX10_seven 36 = .ok (.lstore 7, 2) := by decide +kernel
theorem dX10_seven_38 : decode cX10_seven 38 = .ok (.iload 4, 2) := by decide +kernel
theorem dX10_seven_40 : decode cX10_seven 40 = .ok (.ifCond .ne 8, 3) := by decide +kernel
theorem dX10_seven_43 : decode cX10_seven 43 = .ok (.lload 7, 2) := by decide +kernel
theorem dX10_seven_45 : decode cX10_seven 45 = .ok (.goto 13, 3) := by decide +kernel
theorem dX10_seven_48 : decode cX10_seven 48 = .ok (.ldc2_w 145, 3) := by decide +kernel
theorem dX10_seven_51 : decode cX10_seven 51 = .ok (.lload 7, 2) := by decide +kernel
theorem dX10_seven_53 : decode cX10_seven 53 = .ok (.lmul, 1) := by decide +kernel
theorem dX10_seven_54 : decode cX10_seven 54 = .ok (.iload 4, 2) := by decide +kernel
theorem dX10_seven_56 : decode cX10_seven 56 = .ok (.i2l, 1) := by decide +kernel
theorem dX10_seven_57 : decode cX10_seven 57 = .ok (.ladd, 1) := by decide +kernel
theorem dX10_seven_58 : decode cX10_seven 58 = .ok (.lstore 7, 2) := by decide +kernel
theorem dX10_seven_60 : decode cX10_seven 60 = .ok (.iload 5, 2) := by decide +kernel
theorem dX10_seven_62 : decode cX10_seven 62 = .ok (.ifCond .ne 8, 3) := by decide +kernel
theorem dX10_seven_65 : decode cX10_seven 65 = .ok (.lload 7, 2) := by decide +kernel
theorem dX10_seven_67 : decode cX10_seven 67 = .ok (.goto 13, 3) := by decide +kernel
theorem dX10_seven_70 : decode cX10_seven 70 = .ok (.ldc2_w 145, 3) := by decide +kernel
theorem dX10_seven_73 : decode cX10_seven 73 = .ok (.lload 7, 2) := by decide +kernel
theorem dX10_seven_75 : decode cX10_seven 75 = .ok (.lmul, 1) := by decide +kernel
theorem dX10_seven_76 : decode cX10_seven 76 = .ok (.iload 5, 2) := by decide +kernel
theorem dX10_seven_78 : decode cX10_seven 78 = .ok (.i2l, 1) := by decide +kernel
theorem dX10_seven_79 : decode cX10_seven 79 = .ok (.ladd, 1) := by decide +kernel
theorem dX10_seven_80 : decode cX10_seven 80 = .ok (.lstore 7, 2) := by decide +kernel
theorem dX10_seven_82 : decode cX10_seven 82 = .ok (.iload 6, 2) := by decide +kernel
theorem dX10_seven_84 : decode cX10_seven 84 = .ok (.ifCond .ne 8, 3) := by decide +kernel
theorem dX10_seven_87 : decode cX10_seven 87 = .ok (.lload 7, 2) := by decide +kernel
theorem dX10_seven_89 : decode cX10_seven 89 = .ok (.goto 13, 3) := by decide +kernel
theorem dX10_seven_92 : decode cX10_seven 92 = .ok (.ldc2_w 145, 3) := by decide +kernel
theorem dX10_seven_95 : decode cX10_seven 95 = .ok (.lload 7, 2) := by decide +kernel
theorem dX10_seven_97 : decode cX10_seven 97 = .ok (.lmul, 1) := by decide +kernel
theorem dX10_seven_98 : decode cX10_seven 98 = .ok (.iload 6, 2) := by decide +kernel
theorem dX10_seven_100 : decode cX10_seven 100 = .ok (.i2l, 1) := by decide +kernel
theorem dX10_seven_101 : decode cX10_seven 101 = .ok (.ladd, 1) := by decide +kernel
theorem dX10_seven_102 : decode cX10_seven 102 = .ok (.lreturn, 1) := by decide +kernel
abbrev mt_X10_seven : AxM := (RX10, cX10_seven, 9, (some .long), false, [])
theorem L1_X10_seven_80 {g : AxG} {l : Launch} {r9 : Int64} {S9 : AxS} (N : Nat)  (v6 : Int32) (w0 : Int64) (S : AxS) (h : F_X10_seven_80 N  v6 w0 S = some ((r9, S9))) : AW g l (axRm (0) 0 0) mt_X10_seven (axMQ g 0 0 (.inl (some (.long r9)), S9)) 0 0 S 80 [(6, .int v6)] [.long w0] := by
  unfold F_X10_seven_80 at h
  refine aw_lstore [(7, .long w0), (6, .int v6)] dX10_seven_80 rfl rfl ?_
  refine aw_iload 1 dX10_seven_82 rfl ?_
  refine aw_if_ne 92 dX10_seven_84 (by decide) h (fun h => ?_) (fun h => ?_)
  · refine aw_ldc2 wd_1484 dX10_seven_92 ?_
    refine aw_lload 0 dX10_seven_95 rfl ?_
    refine aw_lmul dX10_seven_97 ?_
    refine aw_iload 1 dX10_seven_98 rfl ?_
    refine aw_i2l dX10_seven_100 ?_
    refine aw_ladd dX10_seven_101 ?_
    exact aw_lret dX10_seven_102 rfl (Nat.le_refl _) (Nat.le_refl _) h
  · refine aw_lload 0 dX10_seven_87 rfl ?_
    refine aw_goto 102 dX10_seven_89 (by decide) ?_
    exact aw_lret dX10_seven_102 rfl (Nat.le_refl _) (Nat.le_refl _) h
theorem L1_X10_seven_58 {g : AxG} {l : Launch} {r9 : Int64} {S9 : AxS} (N : Nat)  (v5 : Int32) (v6 : Int32) (w0 : Int64) (S : AxS) (h : F_X10_seven_58 N  v5 v6 w0 S = some ((r9, S9))) : AW g l (axRm (0) 0 0) mt_X10_seven (axMQ g 0 0 (.inl (some (.long r9)), S9)) 0 0 S 58 [(5, .int v5), (6, .int v6)] [.long w0] := by
  unfold F_X10_seven_58 at h
  refine aw_lstore [(7, .long w0), (5, .int v5), (6, .int v6)] dX10_seven_58 rfl rfl ?_
  refine aw_iload 1 dX10_seven_60 rfl ?_
  refine aw_if_ne 70 dX10_seven_62 (by decide) h (fun h => ?_) (fun h => ?_)
  · refine aw_ldc2 wd_1484 dX10_seven_70 ?_
    refine aw_lload 0 dX10_seven_73 rfl ?_
    refine aw_lmul dX10_seven_75 ?_
    refine aw_iload 1 dX10_seven_76 rfl ?_
    refine aw_i2l dX10_seven_78 ?_
    refine aw_ladd dX10_seven_79 ?_
    refine aw_env [(6, .int v6)] [2] rfl ?_
    exact L1_X10_seven_80 N  v6 ((27 * w0) + (Int32.toInt64 v5)) S h
  · refine aw_lload 0 dX10_seven_65 rfl ?_
    refine aw_goto 80 dX10_seven_67 (by decide) ?_
    refine aw_env [(6, .int v6)] [2] rfl ?_
    exact L1_X10_seven_80 N  v6 w0 S h
theorem L1_X10_seven_36 {g : AxG} {l : Launch} {r9 : Int64} {S9 : AxS} (N : Nat)  (v4 : Int32) (v5 : Int32) (v6 : Int32) (w0 : Int64) (S : AxS) (h : F_X10_seven_36 N  v4 v5 v6 w0 S = some ((r9, S9))) : AW g l (axRm (0) 0 0) mt_X10_seven (axMQ g 0 0 (.inl (some (.long r9)), S9)) 0 0 S 36 [(4, .int v4), (5, .int v5), (6, .int v6)] [.long w0] := by
  unfold F_X10_seven_36 at h
  refine aw_lstore [(7, .long w0), (4, .int v4), (5, .int v5), (6, .int v6)] dX10_seven_36 rfl rfl ?_
  refine aw_iload 1 dX10_seven_38 rfl ?_
  refine aw_if_ne 48 dX10_seven_40 (by decide) h (fun h => ?_) (fun h => ?_)
  · refine aw_ldc2 wd_1484 dX10_seven_48 ?_
    refine aw_lload 0 dX10_seven_51 rfl ?_
    refine aw_lmul dX10_seven_53 ?_
    refine aw_iload 1 dX10_seven_54 rfl ?_
    refine aw_i2l dX10_seven_56 ?_
    refine aw_ladd dX10_seven_57 ?_
    refine aw_env [(5, .int v5), (6, .int v6)] [2, 3] rfl ?_
    exact L1_X10_seven_58 N  v5 v6 ((27 * w0) + (Int32.toInt64 v4)) S h
  · refine aw_lload 0 dX10_seven_43 rfl ?_
    refine aw_goto 58 dX10_seven_45 (by decide) ?_
    refine aw_env [(5, .int v5), (6, .int v6)] [2, 3] rfl ?_
    exact L1_X10_seven_58 N  v5 v6 w0 S h
theorem L1_X10_seven {g : AxG} {l : Launch} (N : Nat) {v0 : Int32} {v1 : Int32} {v2 : Int32} {v3 : Int32} {v4 : Int32} {v5 : Int32} {v6 : Int32} {S : AxS} {r9 : Int64} {S9 : AxS} (h : F_X10_seven N v0 v1 v2 v3 v4 v5 v6 S = some ((r9, S9))) : AxMet g l yX10_seven cX10_seven 9 (some .long) (0) 0 0 [.int v0, .int v1, .int v2, .int v3, .int v4, .int v5, .int v6] S ((.inl (some (.long r9)), S9)) := by
  refine ax_met (own := RX10) (ini := false) (by decide +kernel) rfl (fun h => nomatch h) rfl ?_
  show AW g l (axRm (0) 0 0) mt_X10_seven (axMQ g 0 0 (.inl (some (.long r9)), S9)) 0 0 S 0 [(0, .int v0), (1, .int v1), (2, .int v2), (3, .int v3), (4, .int v4), (5, .int v5), (6, .int v6)] []
  unfold F_X10_seven at h
  refine aw_ldc2 wd_1484 dX10_seven_0 ?_
  refine aw_ldc2 wd_1484 dX10_seven_3 ?_
  refine aw_iload_n 0 dX10_seven_6 rfl rfl ?_
  refine aw_i2l dX10_seven_7 ?_
  refine aw_lmul dX10_seven_8 ?_
  refine aw_iload_n 1 dX10_seven_9 rfl rfl ?_
  refine aw_i2l dX10_seven_10 ?_
  refine aw_ladd dX10_seven_11 ?_
  refine aw_lmul dX10_seven_12 ?_
  refine aw_iload_n 2 dX10_seven_13 rfl rfl ?_
  refine aw_i2l dX10_seven_14 ?_
  refine aw_ladd dX10_seven_15 ?_
  refine aw_lstore [(7, .long ((27 * ((27 * (Int32.toInt64 v0)) + (Int32.toInt64 v1))) + (Int32.toInt64 v2))), (0, .int v0), (1, .int v1), (2, .int v2), (3, .int v3), (4, .int v4), (5, .int v5), (6, .int v6)] dX10_seven_16 rfl rfl ?_
  refine aw_iload_n 4 dX10_seven_18 rfl rfl ?_
  refine aw_if_ne 27 dX10_seven_19 (by decide) h (fun h => ?_) (fun h => ?_)
  · refine aw_ldc2 wd_1484 dX10_seven_27 ?_
    refine aw_lload 0 dX10_seven_30 rfl ?_
    refine aw_lmul dX10_seven_32 ?_
    refine aw_iload_n 4 dX10_seven_33 rfl rfl ?_
    refine aw_i2l dX10_seven_34 ?_
    refine aw_ladd dX10_seven_35 ?_
    refine aw_env [(4, .int v4), (5, .int v5), (6, .int v6)] [5, 6, 7] rfl ?_
    exact L1_X10_seven_36 N  v4 v5 v6 ((27 * ((27 * ((27 * (Int32.toInt64 v0)) + (Int32.toInt64 v1))) + (Int32.toInt64 v2))) + (Int32.toInt64 v3)) S h
  · refine aw_lload 0 dX10_seven_22 rfl ?_
    refine aw_goto 36 dX10_seven_24 (by decide) ?_
    refine aw_env [(4, .int v4), (5, .int v5), (6, .int v6)] [5, 6, 7] rfl ?_
    exact L1_X10_seven_36 N  v4 v5 v6 ((27 * ((27 * (Int32.toInt64 v0)) + (Int32.toInt64 v1))) + (Int32.toInt64 v2)) S h

theorem dX10_isWord_0 : decode cX10_isWord 0 = .ok (.aload_n 0, 1) := by decide +kernel
theorem dX10_isWord_1 : decode cX10_isWord 1 = .ok (.getfield 120, 3) := by decide +kernel
theorem dX10_isWord_4 : decode cX10_isWord 4 = .ok (.ifCond .ne 29, 3) := by decide +kernel
theorem dX10_isWord_7 : decode cX10_isWord 7 = .ok (.aload_n 0, 1) := by decide +kernel
theorem dX10_isWord_8 : decode cX10_isWord 8 = .ok (.invokevirtual 151, 3) := by decide +kernel
theorem dX10_isWord_11 : decode cX10_isWord 11 = .ok (.iload_n 1, 1) := by decide +kernel
theorem dX10_isWord_12 : decode cX10_isWord 12 = .ok (.iload_n 2, 1) := by decide +kernel
theorem dX10_isWord_13 : decode cX10_isWord 13 = .ok (.iload_n 3, 1) := by decide +kernel
theorem dX10_isWord_14 : decode cX10_isWord 14 = .ok (.iload 4, 2) := by decide +kernel
theorem dX10_isWord_16 : decode cX10_isWord 16 = .ok (.iload 5, 2) := by decide +kernel
theorem dX10_isWord_18 : decode cX10_isWord 18 = .ok (.iload 6, 2) := by decide +kernel
theorem dX10_isWord_20 : decode cX10_isWord 20 = .ok (.iload 7, 2) := by decide +kernel
theorem dX10_isWord_22 : decode cX10_isWord 22 = .ok (.invokestatic 155, 3) := by decide +kernel
theorem dX10_isWord_25 : decode cX10_isWord 25 = .ok (.lcmp, 1) := by decide +kernel
theorem dX10_isWord_26 : decode cX10_isWord 26 = .ok (.ifCond .ne 7, 3) := by decide +kernel
theorem dX10_isWord_29 : decode cX10_isWord 29 = .ok (.iconst 1, 1) := by decide +kernel
theorem dX10_isWord_30 : decode cX10_isWord 30 = .ok (.goto 4, 3) := by decide +kernel
theorem dX10_isWord_33 : decode cX10_isWord 33 = .ok (.iconst 0, 1) := by decide +kernel
theorem dX10_isWord_34 : decode cX10_isWord 34 = .ok (.ireturn, 1) := by decide +kernel
abbrev mt_X10_isWord : AxM := (RX10, cX10_isWord, 8, (some .boolean), false, [])
theorem L1_X10_isWord {g : AxG} {l : Launch} (N : Nat) {v0 : Nat} {v1 : Int32} {v2 : Int32} {v3 : Int32} {v4 : Int32} {v5 : Int32} {v6 : Int32} {v7 : Int32} {S : AxS} {r9 : Int32} {S9 : AxS} (h : F_X10_isWord N v0 v1 v2 v3 v4 v5 v6 v7 S = some ((r9, S9))) : AxMet g l yX10_isWord cX10_isWord 8 (some .boolean) (3) 0 0 [.ref v0, .int v1, .int v2, .int v3, .int v4, .int v5, .int v6, .int v7] S ((.inl (some (.int r9)), S9)) := by
  refine ax_met (own := RX10) (ini := false) (by decide +kernel) rfl (fun h => nomatch h) rfl ?_
  show AW g l (axRm (3) 0 0) mt_X10_isWord (axMQ g 0 0 (.inl (some (.int r9)), S9)) 0 0 S 0 [(0, .ref v0), (1, .int v1), (2, .int v2), (3, .int v3), (4, .int v4), (5, .int v5), (6, .int v6), (7, .int v7)] []
  unfold F_X10_isWord at h
  refine aw_aload_n 0 dX10_isWord_0 rfl rfl ?_
  refine aw_getI axc10 5 rfl rfl wd_1290 dX10_isWord_1 h (fun x1 h => ?_)
  refine aw_if_ne 33 dX10_isWord_4 (by decide) h (fun h => ?_) (fun h => ?_)
  · refine aw_iconst 0 dX10_isWord_33 rfl ?_
    exact aw_zret dX10_isWord_34 rfl (Nat.le_refl _) (Nat.le_refl _) h
  · refine aw_aload_n 0 dX10_isWord_7 rfl rfl ?_
    obtain ⟨hL2, h⟩ := ax_is_spec h
    refine aw_doneL (rest := []) h (fun r9 S9 hF => aw_runV (As := []) (rest := []) (L1_X10_wordHere N hF) axc10 hL2 wd_1480 wd_1477 wd_1479 wd_45 wd_97 pd_X10_wordHere rfl (ax_rm (by omega) rfl) ax_hf0 (Nat.le_of_ble_eq_true rfl) rfl dX10_isWord_8) (fun x4 T3 h => ?_)
    refine aw_iload_n 1 dX10_isWord_11 rfl rfl ?_
    refine aw_iload_n 2 dX10_isWord_12 rfl rfl ?_
    refine aw_iload_n 3 dX10_isWord_13 rfl rfl ?_
    refine aw_iload 4 dX10_isWord_14 rfl ?_
    refine aw_iload 5 dX10_isWord_16 rfl ?_
    refine aw_iload 6 dX10_isWord_18 rfl ?_
    refine aw_iload 7 dX10_isWord_20 rfl ?_
    refine aw_doneL (rest := [.long x4]) h (fun r9 S9 hF => aw_runS (As := [.int v1, .int v2, .int v3, .int v4, .int v5, .int v6, .int v7]) (rest := [.long x4]) (L1_X10_seven N hF) wd_1489 wd_1487 wd_1488 wd_97 pd_X10_seven.2 rfl (ax_rm (by omega) rfl) ax_hf0 (Nat.le_of_ble_eq_true rfl) rfl dX10_isWord_22) (fun x6 T5 h => ?_)
    refine aw_lcmp dX10_isWord_25 ?_
    refine aw_if_ne 33 dX10_isWord_26 (by decide) h (fun h => ?_) (fun h => ?_)
    · refine aw_iconst 0 dX10_isWord_33 rfl ?_
      exact aw_zret dX10_isWord_34 rfl (Nat.le_refl _) (Nat.le_refl _) h
    · refine aw_iconst 1 dX10_isWord_29 rfl ?_
      refine aw_goto 34 dX10_isWord_30 (by decide) ?_
      exact aw_zret dX10_isWord_34 rfl (Nat.le_refl _) (Nat.le_refl _) h

theorem dX10_skipWord_0 : decode cX10_skipWord 0 = .ok (.aload_n 0, 1) := by decide +kernel
theorem dX10_skipWord_1 : decode cX10_skipWord 1 = .ok (.aload_n 0, 1) := by decide +kernel
theorem dX10_skipWord_2 : decode cX10_skipWord 2 = .ok (.getfield 113, 3) := by decide +kernel
theorem dX10_skipWord_5 : decode cX10_skipWord 5 = .ok (.invokevirtual 116, 3) := by decide +kernel
theorem dX10_skipWord_8 : decode cX10_skipWord 8 = .ok (.invokestatic 142, 3) := by decide +kernel
theorem dX10_skipWord_11 : decode cX10_skipWord 11 = .ok (.ifCond .eq 16, 3) := by decide +kernel
theorem dX10_skipWord_14 : decode cX10_skipWord 14 = .ok (.aload_n 0, 1) := by decide +kernel
theorem dX10_skipWord_15 : decode cX10_skipWord 15 = .ok (.dup, 1) := by decide +kernel
theorem dX10_skipWord_16 : decode cX10_skipWord 16 = .ok (.getfield 113, 3) := by decide +kernel
theorem dX10_skipWord_19 : decode cX10_skipWord 19 = .ok (.iconst 1, 1) := by decide +kernel
theorem dX10_skipWord_20 : decode cX10_skipWord 20 = .ok (.iadd, 1) := by decide +kernel
theorem dX10_skipWord_21 : decode cX10_skipWord 21 = .ok (.putfield 113, 3) := by decide +kernel
theorem dX10_skipWord_24 : decode cX10_skipWord 24 = .ok (.goto (-24), 3) := by decide +kernel
theorem dX10_skipWord_27 : decode cX10_skipWord 27 = .ok (.return_, 1) := by decide +kernel
abbrev mt_X10_skipWord : AxM := (RX10, cX10_skipWord, 1, none, false, [])
theorem L1_X10_skipWord_0b {g : AxG} {l : Launch} {S9 : AxS} (N : Nat) (K0 : Nat → AxS → Option (AxS)) (hK0 : ∀ (v0 : Nat) (S : AxS), K0 v0 S = some S9 → AW g l (axRm (1) 0 0) mt_X10_skipWord (axMQ g 0 0 (.inl none, S9)) 0 0 S 0 [(0, .ref v0)] []) (v0 : Nat) (S : AxS) (h : F_X10_skipWord_0b N K0 v0 S = some S9) : AW g l (axRm (1) 0 0) mt_X10_skipWord (axMQ g 0 0 (.inl none, S9)) 0 0 S 0 [(0, .ref v0)] [] := by
  unfold F_X10_skipWord_0b at h
  refine aw_aload_n 0 dX10_skipWord_0 rfl rfl ?_
  refine aw_aload_n 0 dX10_skipWord_1 rfl rfl ?_
  refine aw_getI axc10 4 rfl rfl wd_1289 dX10_skipWord_2 h (fun x1 h => ?_)
  obtain ⟨hL2, h⟩ := ax_is_spec h
  refine aw_doneI (rest := []) h (fun r9 S9 hF => aw_runV (As := [.int x1]) (rest := []) (L1_X10_byteAt N hF) axc10 hL2 wd_1464 wd_1461 wd_1463 wd_41 wd_97 pd_X10_byteAt rfl (ax_rm (by omega) rfl) ax_hf0 (Nat.le_of_ble_eq_true rfl) rfl dX10_skipWord_5) (fun x4 T3 h => ?_)
  refine aw_doneI (rest := []) h (fun r9 S9 hF => aw_runS (As := [.int x4]) (rest := []) (L1_X10_isSmall N hF) wd_1483 wd_1481 wd_1482 wd_97 pd_X10_isSmall.2 rfl (ax_rm (by omega) rfl) ax_hf0 (Nat.le_of_ble_eq_true rfl) rfl dX10_skipWord_8) (fun x6 T5 h => ?_)
  refine aw_if_eq 27 dX10_skipWord_11 (by decide) h (fun h => ?_) (fun h => ?_)
  · exact aw_vret dX10_skipWord_27 rfl (Nat.le_refl _) (Nat.le_refl _) h
  · refine aw_aload_n 0 dX10_skipWord_14 rfl rfl ?_
    refine aw_dup rfl dX10_skipWord_15 ?_
    refine aw_getI axc10 4 rfl rfl wd_1289 dX10_skipWord_16 h (fun x7 h => ?_)
    refine aw_iconst 1 dX10_skipWord_19 rfl ?_
    refine aw_iadd dX10_skipWord_20 ?_
    refine aw_putI axc10 4 rfl rfl wd_1289 rfl rfl rfl dX10_skipWord_21 h (fun T8 h => ?_)
    refine aw_goto 0 dX10_skipWord_24 (by decide) ?_
    refine aw_env [(0, .ref v0)] [0] rfl ?_
    exact hK0 v0 T8 h
theorem L1_X10_skipWord_0 {g : AxG} {l : Launch} {S9 : AxS} (N : Nat)  : ∀ (n : Nat) (v0 : Nat) (S : AxS), F_X10_skipWord_0 N  n v0 S = some S9 → AW g l (axRm (1) 0 0) mt_X10_skipWord (axMQ g 0 0 (.inl none, S9)) 0 0 S 0 [(0, .ref v0)] [] := by
  intro n
  induction n with
  | zero => intro v0 S h; cases h
  | succ n ih => intro v0 S h; exact L1_X10_skipWord_0b N (F_X10_skipWord_0 N  n) ih v0 S h
theorem L1_X10_skipWord {g : AxG} {l : Launch} (N : Nat) {v0 : Nat} {S : AxS} {S9 : AxS} (h : F_X10_skipWord N v0 S = some S9) : AxMet g l yX10_skipWord cX10_skipWord 1 none (1) 0 0 [.ref v0] S ((.inl none, S9)) := by
  refine ax_met (own := RX10) (ini := false) (by decide +kernel) rfl (fun h => nomatch h) rfl ?_
  show AW g l (axRm (1) 0 0) mt_X10_skipWord (axMQ g 0 0 (.inl none, S9)) 0 0 S 0 [(0, .ref v0)] []
  unfold F_X10_skipWord at h
  refine aw_env [(0, .ref v0)] [0] rfl ?_
  exact L1_X10_skipWord_0 N  N v0 S h

theorem dX10_takes_0 : decode cX10_takes 0 = .ok (.aload_n 0, 1) := by decide +kernel
theorem dX10_takes_1 : decode cX10_takes 1 = .ok (.iload_n 1, 1) := by decide +kernel
theorem dX10_takes_2 : decode cX10_takes 2 = .ok (.iload_n 2, 1) := by decide +kernel
theorem dX10_takes_3 : decode cX10_takes 3 = .ok (.iload_n 3, 1) := by decide +kernel
theorem dX10_takes_4 : decode cX10_takes 4 = .ok (.iload 4, 2) := by decide +kernel
theorem dX10_takes_6 : decode cX10_takes 6 = .ok (.iload 5, 2) := by decide +kernel
theorem dX10_takes_8 : decode cX10_takes 8 = .ok (.iload 6, 2) := by decide +kernel
theorem dX10_takes_10 : decode cX10_takes 10 = .ok (.iload 7, 2) := by decide +kernel
theorem dX10_takes_12 : decode cX10_takes 12 = .ok (.invokevirtual 159, 3) := by decide +kernel
theorem dX10_takes_15 : decode cX10_takes 15 = .ok (.istore 8, 2) := by decide +kernel
theorem dX10_takes_17 : decode cX10_takes 17 = .ok (.iload 8, 2) := by decide +kernel
theorem dX10_takes_19 : decode cX10_takes 19 = .ok (.ifCond .eq 7, 3) := by decide +kernel
theorem dX10_takes_22 : decode cX10_takes 22 = .ok (.aload_n 0, 1) := by decide +kernel
theorem dX10_takes_23 : decode cX10_takes 23 = .ok (.invokevirtual 163, 3) := by decide +kernel
theorem dX10_takes_26 : decode cX10_takes 26 = .ok (.iload 8, 2) := by decide +kernel
theorem dX10_takes_28 : decode cX10_takes 28 = .ok (.ireturn, 1) := by decide +kernel
abbrev mt_X10_takes : AxM := (RX10, cX10_takes, 9, (some .boolean), false, [])
theorem L1_X10_takes {g : AxG} {l : Launch} (N : Nat) {v0 : Nat} {v1 : Int32} {v2 : Int32} {v3 : Int32} {v4 : Int32} {v5 : Int32} {v6 : Int32} {v7 : Int32} {S : AxS} {r9 : Int32} {S9 : AxS} (h : F_X10_takes N v0 v1 v2 v3 v4 v5 v6 v7 S = some ((r9, S9))) : AxMet g l yX10_takes cX10_takes 9 (some .boolean) (4) 0 0 [.ref v0, .int v1, .int v2, .int v3, .int v4, .int v5, .int v6, .int v7] S ((.inl (some (.int r9)), S9)) := by
  refine ax_met (own := RX10) (ini := false) (by decide +kernel) rfl (fun h => nomatch h) rfl ?_
  show AW g l (axRm (4) 0 0) mt_X10_takes (axMQ g 0 0 (.inl (some (.int r9)), S9)) 0 0 S 0 [(0, .ref v0), (1, .int v1), (2, .int v2), (3, .int v3), (4, .int v4), (5, .int v5), (6, .int v6), (7, .int v7)] []
  unfold F_X10_takes at h
  refine aw_aload_n 0 dX10_takes_0 rfl rfl ?_
  refine aw_iload_n 1 dX10_takes_1 rfl rfl ?_
  refine aw_iload_n 2 dX10_takes_2 rfl rfl ?_
  refine aw_iload_n 3 dX10_takes_3 rfl rfl ?_
  refine aw_iload 4 dX10_takes_4 rfl ?_
  refine aw_iload 5 dX10_takes_6 rfl ?_
  refine aw_iload 6 dX10_takes_8 rfl ?_
  refine aw_iload 7 dX10_takes_10 rfl ?_
  obtain ⟨hL1, h⟩ := ax_is_spec h
  refine aw_doneI (rest := []) h (fun r9 S9 hF => aw_runV (As := [.int v1, .int v2, .int v3, .int v4, .int v5, .int v6, .int v7]) (rest := []) (L1_X10_isWord N hF) axc10 hL1 wd_1476 wd_1473 wd_1475 wd_44 wd_97 pd_X10_isWord rfl (ax_rm (by omega) rfl) ax_hf0 (Nat.le_of_ble_eq_true rfl) rfl dX10_takes_12) (fun x3 T2 h => ?_)
  refine aw_istore [(8, .int x3), (0, .ref v0), (1, .int v1), (2, .int v2), (3, .int v3), (4, .int v4), (5, .int v5), (6, .int v6), (7, .int v7)] dX10_takes_15 rfl rfl ?_
  refine aw_iload 0 dX10_takes_17 rfl ?_
  refine aw_if_eq 26 dX10_takes_19 (by decide) h (fun h => ?_) (fun h => ?_)
  · refine aw_iload 0 dX10_takes_26 rfl ?_
    exact aw_zret dX10_takes_28 rfl (Nat.le_refl _) (Nat.le_refl _) h
  · refine aw_aload_n 1 dX10_takes_22 rfl rfl ?_
    obtain ⟨hL4, h⟩ := ax_is_spec h
    refine aw_doneV (rest := []) h (fun S9 hF => aw_runV (As := []) (rest := []) (L1_X10_skipWord N hF) axc10 hL4 wd_1504 wd_1501 wd_1503 wd_48 wd_97 pd_X10_skipWord rfl (ax_rm (by omega) rfl) ax_hf0 (Nat.le_of_ble_eq_true rfl) rfl dX10_takes_23) (fun T5 h => ?_)
    refine aw_iload 0 dX10_takes_26 rfl ?_
    exact aw_zret dX10_takes_28 rfl (Nat.le_refl _) (Nat.le_refl _) h

theorem dX10_sign_0 : decode cX10_sign 0 = .ok (.aload_n 0, 1) := by decide +kernel
theorem dX10_sign_1 : decode cX10_sign 1 = .ok (.getfield 120, 3) := by decide +kernel
theorem dX10_sign_4 : decode cX10_sign 4 = .ok (.ifCond .eq 4, 3) := by decide +kernel
theorem dX10_sign_7 : decode cX10_sign 7 = .ok (.return_, 1) := by decide +kernel
theorem dX10_sign_8 : decode cX10_sign 8 = .ok (.aload_n 0, 1) := by decide +kernel
theorem dX10_sign_9 : decode cX10_sign 9 = .ok (.invokevirtual 126, 3) := by decide +kernel
theorem dX10_sign_12 : decode cX10_sign 12 = .ok (.aload_n 0, 1) := by decide +kernel
theorem dX10_sign_13 : decode cX10_sign 13 = .ok (.aload_n 0, 1) := by decide +kernel
theorem dX10_sign_14 : decode cX10_sign 14 = .ok (.getfield 113, 3) := by decide +kernel
theorem dX10_sign_17 : decode cX10_sign 17 = .ok (.invokevirtual 116, 3) := by decide +kernel
theorem dX10_sign_20 : decode cX10_sign 20 = .ok (.iload_n 1, 1) := by decide +kernel
theorem dX10_sign_21 : decode cX10_sign 21 = .ok (.if_icmp .ne 16, 3) := by decide +kernel
theorem dX10_sign_24 : decode cX10_sign 24 = .ok (.aload_n 0, 1) := by decide +kernel
theorem dX10_sign_25 : decode cX10_sign 25 = .ok (.dup, 1) := by decide +kernel
theorem dX10_sign_26 : decode cX10_sign 26 = .ok (.getfield 113, 3) := by decide +kernel
theorem dX10_sign_29 : decode cX10_sign 29 = .ok (.iconst 1, 1) := by decide +kernel
theorem dX10_sign_30 : decode cX10_sign 30 = .ok (.iadd, 1) := by decide +kernel
theorem dX10_sign_31 : decode cX10_sign 31 = .ok (.putfield 113, 3) := by decide +kernel
theorem dX10_sign_34 : decode cX10_sign 34 = .ok (.goto 12, 3) := by decide +kernel
theorem dX10_sign_37 : decode cX10_sign 37 = .ok (.aload_n 0, 1) := by decide +kernel
theorem dX10_sign_38 : decode cX10_sign 38 = .ok (.iconst 1, 1) := by decide +kernel
theorem dX10_sign_39 : decode cX10_sign 39 = .ok (.aload_n 0, 1) := by decide +kernel
theorem dX10_sign_40 : decode cX10_sign 40 = .ok (.getfield 113, 3) := by decide +kernel
theorem dX10_sign_43 : decode cX10_sign 43 = .ok (.invokevirtual 133, 3) := by decide +kernel
theorem dX10_sign_46 : decode cX10_sign 46 = .ok (.return_, 1) := by decide +kernel
abbrev mt_X10_sign : AxM := (RX10, cX10_sign, 2, none, false, [])
theorem L1_X10_sign {g : AxG} {l : Launch} (N : Nat) {v0 : Nat} {v1 : Int32} {S : AxS} {S9 : AxS} (h : F_X10_sign N v0 v1 S = some S9) : AxMet g l yX10_sign cX10_sign 2 none (2) 0 0 [.ref v0, .int v1] S ((.inl none, S9)) := by
  refine ax_met (own := RX10) (ini := false) (by decide +kernel) rfl (fun h => nomatch h) rfl ?_
  show AW g l (axRm (2) 0 0) mt_X10_sign (axMQ g 0 0 (.inl none, S9)) 0 0 S 0 [(0, .ref v0), (1, .int v1)] []
  unfold F_X10_sign at h
  refine aw_aload_n 0 dX10_sign_0 rfl rfl ?_
  refine aw_getI axc10 5 rfl rfl wd_1290 dX10_sign_1 h (fun x1 h => ?_)
  refine aw_if_eq 8 dX10_sign_4 (by decide) h (fun h => ?_) (fun h => ?_)
  · refine aw_aload_n 0 dX10_sign_8 rfl rfl ?_
    obtain ⟨hL2, h⟩ := ax_is_spec h
    refine aw_doneV (rest := []) h (fun S9 hF => aw_runV (As := []) (rest := []) (L1_X10_blanks N hF) axc10 hL2 wd_1460 wd_1457 wd_1459 wd_40 wd_97 pd_X10_blanks rfl (ax_rm (by omega) rfl) ax_hf0 (Nat.le_of_ble_eq_true rfl) rfl dX10_sign_9) (fun T3 h => ?_)
    refine aw_aload_n 0 dX10_sign_12 rfl rfl ?_
    refine aw_aload_n 0 dX10_sign_13 rfl rfl ?_
    refine aw_getI axc10 4 rfl rfl wd_1289 dX10_sign_14 h (fun x5 h => ?_)
    obtain ⟨hL6, h⟩ := ax_is_spec h
    refine aw_doneI (rest := []) h (fun r9 S9 hF => aw_runV (As := [.int x5]) (rest := []) (L1_X10_byteAt N hF) axc10 hL6 wd_1464 wd_1461 wd_1463 wd_41 wd_97 pd_X10_byteAt rfl (ax_rm (by omega) rfl) ax_hf0 (Nat.le_of_ble_eq_true rfl) rfl dX10_sign_17) (fun x8 T7 h => ?_)
    refine aw_iload_n 1 dX10_sign_20 rfl rfl ?_
    refine aw_icmp_ne 37 dX10_sign_21 (by decide) h (fun h => ?_) (fun h => ?_)
    · refine aw_aload_n 0 dX10_sign_37 rfl rfl ?_
      refine aw_iconst 1 dX10_sign_38 rfl ?_
      refine aw_aload_n 0 dX10_sign_39 rfl rfl ?_
      refine aw_getI axc10 4 rfl rfl wd_1289 dX10_sign_40 h (fun x9 h => ?_)
      obtain ⟨hL10, h⟩ := ax_is_spec h
      refine aw_doneV (rest := []) h (fun S9 hF => aw_runV (As := [.int 1, .int x9]) (rest := []) (L1_X10_wrong N hF) axc10 hL10 wd_1493 wd_1490 wd_1492 wd_46 wd_97 pd_X10_wrong rfl (ax_rm (by omega) rfl) ax_hf0 (Nat.le_of_ble_eq_true rfl) rfl dX10_sign_43) (fun T11 h => ?_)
      exact aw_vret dX10_sign_46 rfl (Nat.le_refl _) (Nat.le_refl _) h
    · refine aw_aload_n 0 dX10_sign_24 rfl rfl ?_
      refine aw_dup rfl dX10_sign_25 ?_
      refine aw_getI axc10 4 rfl rfl wd_1289 dX10_sign_26 h (fun x13 h => ?_)
      refine aw_iconst 1 dX10_sign_29 rfl ?_
      refine aw_iadd dX10_sign_30 ?_
      refine aw_putI axc10 4 rfl rfl wd_1289 rfl rfl rfl dX10_sign_31 h (fun T14 h => ?_)
      refine aw_goto 46 dX10_sign_34 (by decide) ?_
      exact aw_vret dX10_sign_46 rfl (Nat.le_refl _) (Nat.le_refl _) h
  · exact aw_vret dX10_sign_7 rfl (Nat.le_refl _) (Nat.le_refl _) h

theorem dX10_takesSign_0 : decode cX10_takesSign 0 = .ok (.aload_n 0, 1) := by decide +kernel
theorem dX10_takesSign_1 : decode cX10_takesSign 1 = .ok (.getfield 120, 3) := by decide +kernel
theorem dX10_takesSign_4 : decode cX10_takesSign 4 = .ok (.ifCond .eq 5, 3) := by decide +kernel
theorem dX10_takesSign_7 : decode cX10_takesSign 7 = .ok (.iconst 0, 1) := by decide +kernel
theorem dX10_takesSign_8 : decode cX10_takesSign 8 = .ok (.ireturn, 1) := by decide +kernel
theorem dX10_takesSign_9 : decode cX10_takesSign 9 = .ok (.aload_n 0, 1) := by decide +kernel
theorem dX10_takesSign_10 : decode cX10_takesSign 10 = .ok (.invokevirtual 126, 3) := by decide +kernel
theorem dX10_takesSign_13 : decode cX10_takesSign 13 = .ok (.aload_n 0, 1) := by decide +kernel
theorem dX10_takesSign_14 : decode cX10_takesSign 14 = .ok (.aload_n 0, 1) := by decide +kernel
theorem dX10_takesSign_15 : decode cX10_takesSign 15 = .ok (.getfield 113, 3) := by decide +kernel
theorem dX10_takesSign_18 : decode cX10_takesSign 18 = .ok (.invokevirtual 116, 3) := by decide +kernel
theorem dX10_takesSign_21 : decode cX10_takesSign 21 = .ok (.iload_n 1, 1) := by decide +kernel
theorem dX10_takesSign_22 : decode cX10_takesSign 22 = .ok (.if_icmp .ne 7, 3) := by decide +kernel
theorem dX10_takesSign_25 : decode cX10_takesSign 25 = .ok (.iconst 1, 1) := by decide +kernel
theorem dX10_takesSign_26 : decode cX10_takesSign 26 = .ok (.goto 4, 3) := by decide +kernel
theorem dX10_takesSign_29 : decode cX10_takesSign 29 = .ok (.iconst 0, 1) := by decide +kernel
theorem dX10_takesSign_30 : decode cX10_takesSign 30 = .ok (.istore_n 2, 1) := by decide +kernel
theorem dX10_takesSign_31 : decode cX10_takesSign 31 = .ok (.iload_n 2, 1) := by decide +kernel
theorem dX10_takesSign_32 : decode cX10_takesSign 32 = .ok (.ifCond .eq 13, 3) := by decide +kernel
theorem dX10_takesSign_35 : decode cX10_takesSign 35 = .ok (.aload_n 0, 1) := by decide +kernel
theorem dX10_takesSign_36 : decode cX10_takesSign 36 = .ok (.dup, 1) := by decide +kernel
theorem dX10_takesSign_37 : decode cX10_takesSign 37 = .ok (.getfield 113, 3) := by decide +kernel
theorem dX10_takesSign_40 : decode cX10_takesSign 40 = .ok (.iconst 1, 1) := by decide +kernel
theorem dX10_takesSign_41 : decode cX10_takesSign 41 = .ok (.iadd, 1) := by decide +kernel
theorem dX10_takesSign_42 : decode cX10_takesSign 42 = .ok (.putfield 113, 3) := by decide +kernel
theorem dX10_takesSign_45 : decode cX10_takesSign 45 = .ok (.iload_n 2, 1) := by decide +kernel
theorem dX10_takesSign_46 : decode cX10_takesSign 46 = .ok (.ireturn, 1) := by decide +kernel
abbrev mt_X10_takesSign : AxM := (RX10, cX10_takesSign, 3, (some .boolean), false, [])
theorem L1_X10_takesSign_30 {g : AxG} {l : Launch} {r9 : Int32} {S9 : AxS} (N : Nat)  (v0 : Nat) (w0 : Int32) (S : AxS) (h : F_X10_takesSign_30 N  v0 w0 S = some ((r9, S9))) : AW g l (axRm (2) 0 0) mt_X10_takesSign (axMQ g 0 0 (.inl (some (.int r9)), S9)) 0 0 S 30 [(0, .ref v0)] [.int w0] := by
  unfold F_X10_takesSign_30 at h
  refine aw_istore_n 2 [(2, .int w0), (0, .ref v0)] dX10_takesSign_30 rfl rfl rfl ?_
  refine aw_iload_n 0 dX10_takesSign_31 rfl rfl ?_
  refine aw_if_eq 45 dX10_takesSign_32 (by decide) h (fun h => ?_) (fun h => ?_)
  · refine aw_iload_n 0 dX10_takesSign_45 rfl rfl ?_
    exact aw_zret dX10_takesSign_46 rfl (Nat.le_refl _) (Nat.le_refl _) h
  · refine aw_aload_n 1 dX10_takesSign_35 rfl rfl ?_
    refine aw_dup rfl dX10_takesSign_36 ?_
    refine aw_getI axc10 4 rfl rfl wd_1289 dX10_takesSign_37 h (fun x1 h => ?_)
    refine aw_iconst 1 dX10_takesSign_40 rfl ?_
    refine aw_iadd dX10_takesSign_41 ?_
    refine aw_putI axc10 4 rfl rfl wd_1289 rfl rfl rfl dX10_takesSign_42 h (fun T2 h => ?_)
    refine aw_iload_n 0 dX10_takesSign_45 rfl rfl ?_
    exact aw_zret dX10_takesSign_46 rfl (Nat.le_refl _) (Nat.le_refl _) h
theorem L1_X10_takesSign {g : AxG} {l : Launch} (N : Nat) {v0 : Nat} {v1 : Int32} {S : AxS} {r9 : Int32} {S9 : AxS} (h : F_X10_takesSign N v0 v1 S = some ((r9, S9))) : AxMet g l yX10_takesSign cX10_takesSign 3 (some .boolean) (2) 0 0 [.ref v0, .int v1] S ((.inl (some (.int r9)), S9)) := by
  refine ax_met (own := RX10) (ini := false) (by decide +kernel) rfl (fun h => nomatch h) rfl ?_
  show AW g l (axRm (2) 0 0) mt_X10_takesSign (axMQ g 0 0 (.inl (some (.int r9)), S9)) 0 0 S 0 [(0, .ref v0), (1, .int v1)] []
  unfold F_X10_takesSign at h
  refine aw_aload_n 0 dX10_takesSign_0 rfl rfl ?_
  refine aw_getI axc10 5 rfl rfl wd_1290 dX10_takesSign_1 h (fun x1 h => ?_)
  refine aw_if_eq 9 dX10_takesSign_4 (by decide) h (fun h => ?_) (fun h => ?_)
  · refine aw_aload_n 0 dX10_takesSign_9 rfl rfl ?_
    obtain ⟨hL2, h⟩ := ax_is_spec h
    refine aw_doneV (rest := []) h (fun S9 hF => aw_runV (As := []) (rest := []) (L1_X10_blanks N hF) axc10 hL2 wd_1460 wd_1457 wd_1459 wd_40 wd_97 pd_X10_blanks rfl (ax_rm (by omega) rfl) ax_hf0 (Nat.le_of_ble_eq_true rfl) rfl dX10_takesSign_10) (fun T3 h => ?_)
    refine aw_aload_n 0 dX10_takesSign_13 rfl rfl ?_
    refine aw_aload_n 0 dX10_takesSign_14 rfl rfl ?_
    refine aw_getI axc10 4 rfl rfl wd_1289 dX10_takesSign_15 h (fun x5 h => ?_)
    obtain ⟨hL6, h⟩ := ax_is_spec h
    refine aw_doneI (rest := []) h (fun r9 S9 hF => aw_runV (As := [.int x5]) (rest := []) (L1_X10_byteAt N hF) axc10 hL6 wd_1464 wd_1461 wd_1463 wd_41 wd_97 pd_X10_byteAt rfl (ax_rm (by omega) rfl) ax_hf0 (Nat.le_of_ble_eq_true rfl) rfl dX10_takesSign_18) (fun x8 T7 h => ?_)
    refine aw_iload_n 1 dX10_takesSign_21 rfl rfl ?_
    refine aw_icmp_ne 29 dX10_takesSign_22 (by decide) h (fun h => ?_) (fun h => ?_)
    · refine aw_iconst 0 dX10_takesSign_29 rfl ?_
      refine aw_env [(0, .ref v0)] [0] rfl ?_
      exact L1_X10_takesSign_30 N  v0 0 T7 h
    · refine aw_iconst 1 dX10_takesSign_25 rfl ?_
      refine aw_goto 30 dX10_takesSign_26 (by decide) ?_
      refine aw_env [(0, .ref v0)] [0] rfl ?_
      exact L1_X10_takesSign_30 N  v0 1 T7 h
  · refine aw_iconst 0 dX10_takesSign_7 rfl ?_
    exact aw_zret dX10_takesSign_8 rfl (Nat.le_refl _) (Nat.le_refl _) h

theorem dX10_starts_0 : decode cX10_starts 0 = .ok (.aload_n 0, 1) := by decide +kernel
theorem dX10_starts_1 : decode cX10_starts 1 = .ok (.iconst 0, 1) := by decide +kernel
theorem dX10_starts_2 : decode cX10_starts 2 = .ok (.putfield 107, 3) := by decide +kernel
theorem dX10_starts_5 : decode cX10_starts 5 = .ok (.aload_n 0, 1) := by decide +kernel
theorem dX10_starts_6 : decode cX10_starts 6 = .ok (.iload_n 1, 1) := by decide +kernel
theorem dX10_starts_7 : decode cX10_starts 7 = .ok (.putfield 110, 3) := by decide +kernel
theorem dX10_starts_10 : decode cX10_starts 10 = .ok (.aload_n 0, 1) := by decide +kernel
theorem dX10_starts_11 : decode cX10_starts 11 = .ok (.iconst 0, 1) := by decide +kernel
theorem dX10_starts_12 : decode cX10_starts 12 = .ok (.putfield 113, 3) := by decide +kernel
theorem dX10_starts_15 : decode cX10_starts 15 = .ok (.aload_n 0, 1) := by decide +kernel
theorem dX10_starts_16 : decode cX10_starts 16 = .ok (.iconst 0, 1) := by decide +kernel
theorem dX10_starts_17 : decode cX10_starts 17 = .ok (.putfield 120, 3) := by decide +kernel
theorem dX10_starts_20 : decode cX10_starts 20 = .ok (.aload_n 0, 1) := by decide +kernel
theorem dX10_starts_21 : decode cX10_starts 21 = .ok (.iconst (-1), 1) := by decide +kernel
theorem dX10_starts_22 : decode cX10_starts 22 = .ok (.putfield 123, 3) := by decide +kernel
theorem dX10_starts_25 : decode cX10_starts 25 = .ok (.aload_n 0, 1) := by decide +kernel
theorem dX10_starts_26 : decode cX10_starts 26 = .ok (.iconst 0, 1) := by decide +kernel
theorem dX10_starts_27 : decode cX10_starts 27 = .ok (.putfield 166, 3) := by decide +kernel
theorem dX10_starts_30 : decode cX10_starts 30 = .ok (.aload_n 0, 1) := by decide +kernel
theorem dX10_starts_31 : decode cX10_starts 31 = .ok (.iconst 0, 1) := by decide +kernel
theorem dX10_starts_32 : decode cX10_starts 32 = .ok (.putfield 169, 3) := by decide +kernel
theorem dX10_starts_35 : decode cX10_starts 35 = .ok (.aload_n 0, 1) := by decide +kernel
theorem dX10_starts_36 : decode cX10_starts 36 = .ok (.invokevirtual 126, 3) := by decide +kernel
theorem dX10_starts_39 : decode cX10_starts 39 = .ok (.return_, 1) := by decide +kernel
abbrev mt_X10_starts : AxM := (RX10, cX10_starts, 2, none, false, [])
theorem L1_X10_starts {g : AxG} {l : Launch} (N : Nat) {v0 : Nat} {v1 : Int32} {S : AxS} {S9 : AxS} (h : F_X10_starts N v0 v1 S = some S9) : AxMet g l yX10_starts cX10_starts 2 none (2) 0 0 [.ref v0, .int v1] S ((.inl none, S9)) := by
  refine ax_met (own := RX10) (ini := false) (by decide +kernel) rfl (fun h => nomatch h) rfl ?_
  show AW g l (axRm (2) 0 0) mt_X10_starts (axMQ g 0 0 (.inl none, S9)) 0 0 S 0 [(0, .ref v0), (1, .int v1)] []
  unfold F_X10_starts at h
  refine aw_aload_n 0 dX10_starts_0 rfl rfl ?_
  refine aw_iconst 0 dX10_starts_1 rfl ?_
  refine aw_putI axc10 1 rfl rfl wd_1286 rfl rfl rfl dX10_starts_2 h (fun T1 h => ?_)
  refine aw_aload_n 0 dX10_starts_5 rfl rfl ?_
  refine aw_iload_n 1 dX10_starts_6 rfl rfl ?_
  refine aw_putI axc10 2 rfl rfl wd_1287 rfl rfl rfl dX10_starts_7 h (fun T2 h => ?_)
  refine aw_aload_n 0 dX10_starts_10 rfl rfl ?_
  refine aw_iconst 0 dX10_starts_11 rfl ?_
  refine aw_putI axc10 4 rfl rfl wd_1289 rfl rfl rfl dX10_starts_12 h (fun T3 h => ?_)
  refine aw_aload_n 0 dX10_starts_15 rfl rfl ?_
  refine aw_iconst 0 dX10_starts_16 rfl ?_
  refine aw_putI axc10 5 rfl rfl wd_1290 rfl rfl rfl dX10_starts_17 h (fun T4 h => ?_)
  refine aw_aload_n 0 dX10_starts_20 rfl rfl ?_
  refine aw_iconst (-1) dX10_starts_21 rfl ?_
  refine aw_putI axc10 6 rfl rfl wd_1291 rfl rfl rfl dX10_starts_22 h (fun T5 h => ?_)
  refine aw_aload_n 0 dX10_starts_25 rfl rfl ?_
  refine aw_iconst 0 dX10_starts_26 rfl ?_
  refine aw_putI axc10 7 rfl rfl wd_1292 rfl rfl rfl dX10_starts_27 h (fun T6 h => ?_)
  refine aw_aload_n 0 dX10_starts_30 rfl rfl ?_
  refine aw_iconst 0 dX10_starts_31 rfl ?_
  refine aw_putI axc10 8 rfl rfl wd_1293 rfl rfl rfl dX10_starts_32 h (fun T7 h => ?_)
  refine aw_aload_n 0 dX10_starts_35 rfl rfl ?_
  obtain ⟨hL8, h⟩ := ax_is_spec h
  refine aw_doneV (rest := []) h (fun S9 hF => aw_runV (As := []) (rest := []) (L1_X10_blanks N hF) axc10 hL8 wd_1460 wd_1457 wd_1459 wd_40 wd_97 pd_X10_blanks rfl (ax_rm (by omega) rfl) ax_hf0 (Nat.le_of_ble_eq_true rfl) rfl dX10_starts_36) (fun T9 h => ?_)
  exact aw_vret dX10_starts_39 rfl (Nat.le_refl _) (Nat.le_refl _) h

theorem dX10_ends_0 : decode cX10_ends 0 = .ok (.aload_n 0, 1) := by decide +kernel
theorem dX10_ends_1 : decode cX10_ends 1 = .ok (.aload_n 0, 1) := by decide +kernel
theorem dX10_ends_2 : decode cX10_ends 2 = .ok (.getfield 123, 3) := by decide +kernel
theorem dX10_ends_5 : decode cX10_ends 5 = .ok (.putfield 9, 3) := by decide +kernel
theorem dX10_ends_8 : decode cX10_ends 8 = .ok (.aload_n 0, 1) := by decide +kernel
theorem dX10_ends_9 : decode cX10_ends 9 = .ok (.getfield 120, 3) := by decide +kernel
theorem dX10_ends_12 : decode cX10_ends 12 = .ok (.bipush 10, 2) := by decide +kernel
theorem dX10_ends_14 : decode cX10_ends 14 = .ok (.isub, 1) := by decide +kernel
theorem dX10_ends_15 : decode cX10_ends 15 = .ok (.ireturn, 1) := by decide +kernel
abbrev mt_X10_ends : AxM := (RX10, cX10_ends, 1, (some .int), false, [])
theorem L1_X10_ends {g : AxG} {l : Launch} (N : Nat) {v0 : Nat} {S : AxS} {r9 : Int32} {S9 : AxS} (h : F_X10_ends N v0 S = some ((r9, S9))) : AxMet g l yX10_ends cX10_ends 1 (some .int) (0) 0 0 [.ref v0] S ((.inl (some (.int r9)), S9)) := by
  refine ax_met (own := RX10) (ini := false) (by decide +kernel) rfl (fun h => nomatch h) rfl ?_
  show AW g l (axRm (0) 0 0) mt_X10_ends (axMQ g 0 0 (.inl (some (.int r9)), S9)) 0 0 S 0 [(0, .ref v0)] []
  unfold F_X10_ends at h
  refine aw_aload_n 0 dX10_ends_0 rfl rfl ?_
  refine aw_aload_n 0 dX10_ends_1 rfl rfl ?_
  refine aw_getI axc10 6 rfl rfl wd_1291 dX10_ends_2 h (fun x1 h => ?_)
  refine aw_putI axc10 3 rfl rfl wd_1288 rfl rfl rfl dX10_ends_5 h (fun T2 h => ?_)
  refine aw_aload_n 0 dX10_ends_8 rfl rfl ?_
  refine aw_getI axc10 5 rfl rfl wd_1290 dX10_ends_9 h (fun x3 h => ?_)
  refine aw_bipush 10 dX10_ends_12 (by decide) ?_
  refine aw_isub dX10_ends_14 ?_
  exact aw_iret dX10_ends_15 rfl (Nat.le_refl _) (Nat.le_refl _) h
