theorem dX0_clear_0 : decode cX0_clear 0 = .ok (.aload_n 0, 1) := by decide +kernel
theorem dX0_clear_1 : decode cX0_clear 1 = .ok (.iconst 0, 1) := by decide +kernel
theorem dX0_clear_2 : decode cX0_clear 2 = .ok (.putfield 15, 3) := by decide +kernel
theorem dX0_clear_5 : decode cX0_clear 5 = .ok (.iconst 0, 1) := by decide +kernel
theorem dX0_clear_6 : decode cX0_clear 6 = .ok (.istore_n 1, 1) := by decide +kernel
theorem dX0_clear_7 : decode cX0_clear 7 = .ok (.iload_n 1, 1) := by decide +kernel
theorem dX0_clear_8 : decode cX0_clear 8 = .ok (.aload_n 0, 1) := by decide +kernel
theorem dX0_clear_9 : decode cX0_clear 9 = .ok (.getfield 9, 3) := by decide +kernel
theorem dX0_clear_12 : decode cX0_clear 12 = .ok (.arraylength, 1) := by decide +kernel
theorem dX0_clear_13 : decode cX0_clear 13 = .ok (.if_icmp .ge 16, 3) := by decide +kernel
theorem dX0_clear_16 : decode cX0_clear 16 = .ok (.aload_n 0, 1) := by decide +kernel
theorem dX0_clear_17 : decode cX0_clear 17 = .ok (.getfield 9, 3) := by decide +kernel
theorem dX0_clear_20 : decode cX0_clear 20 = .ok (.iload_n 1, 1) := by decide +kernel
theorem dX0_clear_21 : decode cX0_clear 21 = .ok (.iconst (-1), 1) := by decide +kernel
theorem dX0_clear_22 : decode cX0_clear 22 = .ok (.iastore, 1) := by decide +kernel
theorem dX0_clear_23 : decode cX0_clear 23 = .ok (.iinc 1 1, 3) := by decide +kernel
theorem dX0_clear_26 : decode cX0_clear 26 = .ok (.goto (-19), 3) := by decide +kernel
theorem dX0_clear_29 : decode cX0_clear 29 = .ok (.return_, 1) := by decide +kernel
abbrev mt_X0_clear : AxM := (RX0, cX0_clear, 2, none, false, [])
theorem L1_X0_clear_7b {g : AxG} {l : Launch} {S9 : AxS} (N : Nat) (K7 : Nat → Int32 → AxS → Option (AxS)) (hK7 : ∀ (v0 : Nat) (v1 : Int32) (S : AxS), K7 v0 v1 S = some S9 → AW g l (axRm (0) 0 0) mt_X0_clear (axMQ g 0 0 (.inl none, S9)) 0 0 S 7 [(0, .ref v0), (1, .int v1)] []) (v0 : Nat) (v1 : Int32) (S : AxS) (h : F_X0_clear_7b N K7 v0 v1 S = some S9) : AW g l (axRm (0) 0 0) mt_X0_clear (axMQ g 0 0 (.inl none, S9)) 0 0 S 7 [(0, .ref v0), (1, .int v1)] [] := by
  unfold F_X0_clear_7b at h
  refine aw_iload_n 1 dX0_clear_7 rfl rfl ?_
  refine aw_aload_n 0 dX0_clear_8 rfl rfl ?_
  refine aw_getR axc0 0 rfl rfl wd_247 dX0_clear_9 h (fun a1 h => ?_)
  refine aw_alen dX0_clear_12 h (fun x2 h => ?_)
  refine aw_icmp_ge 29 dX0_clear_13 (by decide) h (fun h => ?_) (fun h => ?_)
  · exact aw_vret dX0_clear_29 rfl (Nat.le_refl _) (Nat.le_refl _) h
  · refine aw_aload_n 0 dX0_clear_16 rfl rfl ?_
    refine aw_getR axc0 0 rfl rfl wd_247 dX0_clear_17 h (fun a3 h => ?_)
    refine aw_iload_n 1 dX0_clear_20 rfl rfl ?_
    refine aw_iconst (-1) dX0_clear_21 rfl ?_
    refine aw_iast dX0_clear_22 h (fun T4 h => ?_)
    refine aw_iinc 1 [(1, .int (v1 + 1)), (0, .ref v0)] (v1 + 1) dX0_clear_23 rfl rfl rfl rfl ?_
    refine aw_goto 7 dX0_clear_26 (by decide) ?_
    refine aw_env [(0, .ref v0), (1, .int (v1 + 1))] [1, 0] rfl ?_
    exact hK7 v0 (v1 + 1) T4 h
theorem L1_X0_clear_7 {g : AxG} {l : Launch} {S9 : AxS} (N : Nat)  : ∀ (n : Nat) (v0 : Nat) (v1 : Int32) (S : AxS), F_X0_clear_7 N  n v0 v1 S = some S9 → AW g l (axRm (0) 0 0) mt_X0_clear (axMQ g 0 0 (.inl none, S9)) 0 0 S 7 [(0, .ref v0), (1, .int v1)] [] := by
  intro n
  induction n with
  | zero => intro v0 v1 S h; cases h
  | succ n ih => intro v0 v1 S h; exact L1_X0_clear_7b N (F_X0_clear_7 N  n) ih v0 v1 S h
theorem L1_X0_clear {g : AxG} {l : Launch} (N : Nat) {v0 : Nat} {S : AxS} {S9 : AxS} (h : F_X0_clear N v0 S = some S9) : AxMet g l yX0_clear cX0_clear 2 none (0) 0 0 [.ref v0] S ((.inl none, S9)) := by
  refine ax_met (own := RX0) (ini := false) (by decide +kernel) rfl (fun h => nomatch h) rfl ?_
  show AW g l (axRm (0) 0 0) mt_X0_clear (axMQ g 0 0 (.inl none, S9)) 0 0 S 0 [(0, .ref v0)] []
  unfold F_X0_clear at h
  refine aw_aload_n 0 dX0_clear_0 rfl rfl ?_
  refine aw_iconst 0 dX0_clear_1 rfl ?_
  refine aw_putI axc0 1 rfl rfl wd_250 rfl rfl rfl dX0_clear_2 h (fun T1 h => ?_)
  refine aw_iconst 0 dX0_clear_5 rfl ?_
  refine aw_istore_n 1 [(1, .int 0), (0, .ref v0)] dX0_clear_6 rfl rfl rfl ?_
  refine aw_env [(0, .ref v0), (1, .int 0)] [1, 0] rfl ?_
  exact L1_X0_clear_7 N  N v0 0 T1 h

theorem dX9_at_0 : decode cX9_at 0 = .ok (.iload_n 1, 1) := by decide +kernel
theorem dX9_at_1 : decode cX9_at 1 = .ok (.ifCond .lt 15, 3) := by decide +kernel
theorem dX9_at_4 : decode cX9_at 4 = .ok (.iload_n 1, 1) := by decide +kernel
theorem dX9_at_5 : decode cX9_at 5 = .ok (.aload_n 0, 1) := by decide +kernel
theorem dX9_at_6 : decode cX9_at 6 = .ok (.arraylength, 1) := by decide +kernel
theorem dX9_at_7 : decode cX9_at 7 = .ok (.if_icmp .ge 9, 3) := by decide +kernel
theorem dX9_at_10 : decode cX9_at 10 = .ok (.aload_n 0, 1) := by decide +kernel
theorem dX9_at_11 : decode cX9_at 11 = .ok (.iload_n 1, 1) := by decide +kernel
theorem dX9_at_12 : decode cX9_at 12 = .ok (.iaload, 1) := by decide +kernel
theorem dX9_at_13 : decode cX9_at 13 = .ok (.goto 4, 3) := by decide +kernel
theorem dX9_at_16 : decode cX9_at 16 = .ok (.iconst 0, 1) := by decide +kernel
theorem dX9_at_17 : decode cX9_at 17 = .ok (.ireturn, 1) := by decide +kernel
abbrev mt_X9_at : AxM := (RX9, cX9_at, 2, (some .int), false, [])
theorem L1_X9_at {g : AxG} {l : Launch} (N : Nat) {v0 : Nat} {v1 : Int32} {S : AxS} {r9 : Int32} {S9 : AxS} (h : F_X9_at N v0 v1 S = some ((r9, S9))) : AxMet g l yX9_at cX9_at 2 (some .int) (0) 0 0 [.ref v0, .int v1] S ((.inl (some (.int r9)), S9)) := by
  refine ax_met (own := RX9) (ini := false) (by decide +kernel) rfl (fun h => nomatch h) rfl ?_
  show AW g l (axRm (0) 0 0) mt_X9_at (axMQ g 0 0 (.inl (some (.int r9)), S9)) 0 0 S 0 [(0, .ref v0), (1, .int v1)] []
  unfold F_X9_at at h
  refine aw_iload_n 1 dX9_at_0 rfl rfl ?_
  refine aw_if_lt 16 dX9_at_1 (by decide) h (fun h => ?_) (fun h => ?_)
  · refine aw_iconst 0 dX9_at_16 rfl ?_
    exact aw_iret dX9_at_17 rfl (Nat.le_refl _) (Nat.le_refl _) h
  · refine aw_iload_n 1 dX9_at_4 rfl rfl ?_
    refine aw_aload_n 0 dX9_at_5 rfl rfl ?_
    refine aw_alen dX9_at_6 h (fun x1 h => ?_)
    refine aw_icmp_ge 16 dX9_at_7 (by decide) h (fun h => ?_) (fun h => ?_)
    · refine aw_iconst 0 dX9_at_16 rfl ?_
      exact aw_iret dX9_at_17 rfl (Nat.le_refl _) (Nat.le_refl _) h
    · refine aw_aload_n 0 dX9_at_10 rfl rfl ?_
      refine aw_iload_n 1 dX9_at_11 rfl rfl ?_
      refine aw_iald dX9_at_12 h (fun x2 h => ?_)
      refine aw_goto 17 dX9_at_13 (by decide) ?_
      exact aw_iret dX9_at_17 rfl (Nat.le_refl _) (Nat.le_refl _) h

theorem dX7_sign_0 : decode cX7_sign 0 = .ok (.aload_n 0, 1) := by decide +kernel
theorem dX7_sign_1 : decode cX7_sign 1 = .ok (.getfield 29, 3) := by decide +kernel
theorem dX7_sign_4 : decode cX7_sign 4 = .ok (.aload_n 0, 1) := by decide +kernel
theorem dX7_sign_5 : decode cX7_sign 5 = .ok (.getfield 26, 3) := by decide +kernel
theorem dX7_sign_8 : decode cX7_sign 8 = .ok (.if_icmp .ge 32, 3) := by decide +kernel
theorem dX7_sign_11 : decode cX7_sign 11 = .ok (.aload_n 0, 1) := by decide +kernel
theorem dX7_sign_12 : decode cX7_sign 12 = .ok (.getfield 9, 3) := by decide +kernel
theorem dX7_sign_15 : decode cX7_sign 15 = .ok (.aload_n 0, 1) := by decide +kernel
theorem dX7_sign_16 : decode cX7_sign 16 = .ok (.getfield 29, 3) := by decide +kernel
theorem dX7_sign_19 : decode cX7_sign 19 = .ok (.invokestatic 35, 3) := by decide +kernel
theorem dX7_sign_22 : decode cX7_sign 22 = .ok (.bipush 32, 2) := by decide +kernel
theorem dX7_sign_24 : decode cX7_sign 24 = .ok (.if_icmp .ne 16, 3) := by decide +kernel
theorem dX7_sign_27 : decode cX7_sign 27 = .ok (.aload_n 0, 1) := by decide +kernel
theorem dX7_sign_28 : decode cX7_sign 28 = .ok (.dup, 1) := by decide +kernel
theorem dX7_sign_29 : decode cX7_sign 29 = .ok (.getfield 29, 3) := by decide +kernel
theorem dX7_sign_32 : decode cX7_sign 32 = .ok (.iconst 1, 1) := by decide +kernel
theorem dX7_sign_33 : decode cX7_sign 33 = .ok (.iadd, 1) := by decide +kernel
theorem dX7_sign_34 : decode cX7_sign 34 = .ok (.putfield 29, 3) := by decide +kernel
theorem dX7_sign_37 : decode cX7_sign 37 = .ok (.goto (-37), 3) := by decide +kernel
theorem dX7_sign_40 : decode cX7_sign 40 = .ok (.aload_n 0, 1) := by decide +kernel
theorem dX7_sign_41 : decode cX7_sign 41 = .ok (.getfield 29, 3) := by decide +kernel
theorem dX7_sign_44 : decode cX7_sign 44 = .ok (.aload_n 0, 1) := by decide +kernel
theorem dX7_sign_45 : decode cX7_sign 45 = .ok (.getfield 26, 3) := by decide +kernel
theorem dX7_sign_48 : decode cX7_sign 48 = .ok (.if_icmp .ge 17, 3) := by decide +kernel
theorem dX7_sign_51 : decode cX7_sign 51 = .ok (.aload_n 0, 1) := by decide +kernel
theorem dX7_sign_52 : decode cX7_sign 52 = .ok (.getfield 9, 3) := by decide +kernel
theorem dX7_sign_55 : decode cX7_sign 55 = .ok (.aload_n 0, 1) := by decide +kernel
theorem dX7_sign_56 : decode cX7_sign 56 = .ok (.getfield 29, 3) := by decide +kernel
theorem dX7_sign_59 : decode cX7_sign 59 = .ok (.invokestatic 35, 3) := by decide +kernel
theorem dX7_sign_62 : decode cX7_sign 62 = .ok (.goto 4, 3) := by decide +kernel
theorem dX7_sign_65 : decode cX7_sign 65 = .ok (.iconst (-1), 1) := by decide +kernel
theorem dX7_sign_66 : decode cX7_sign 66 = .ok (.ireturn, 1) := by decide +kernel
abbrev mt_X7_sign : AxM := (RX7, cX7_sign, 1, (some .int), false, [])
theorem L1_X7_sign_40 {g : AxG} {l : Launch} {r9 : Int32} {S9 : AxS} (N : Nat)  (v0 : Nat) (S : AxS) (h : F_X7_sign_40 N  v0 S = some ((r9, S9))) : AW g l (axRm (1) 0 0) mt_X7_sign (axMQ g 0 0 (.inl (some (.int r9)), S9)) 0 0 S 40 [(0, .ref v0)] [] := by
  unfold F_X7_sign_40 at h
  refine aw_aload_n 0 dX7_sign_40 rfl rfl ?_
  refine aw_getI axc7 3 rfl rfl wd_127 dX7_sign_41 h (fun x1 h => ?_)
  refine aw_aload_n 0 dX7_sign_44 rfl rfl ?_
  refine aw_getI axc7 2 rfl rfl wd_126 dX7_sign_45 h (fun x2 h => ?_)
  refine aw_icmp_ge 65 dX7_sign_48 (by decide) h (fun h => ?_) (fun h => ?_)
  · refine aw_iconst (-1) dX7_sign_65 rfl ?_
    exact aw_iret dX7_sign_66 rfl (Nat.le_refl _) (Nat.le_refl _) h
  · refine aw_aload_n 0 dX7_sign_51 rfl rfl ?_
    refine aw_getR axc7 0 rfl rfl wd_123 dX7_sign_52 h (fun a3 h => ?_)
    refine aw_aload_n 0 dX7_sign_55 rfl rfl ?_
    refine aw_getI axc7 3 rfl rfl wd_127 dX7_sign_56 h (fun x4 h => ?_)
    refine aw_doneI (rest := []) h (fun r9 S9 hF => aw_runSN (As := [.ref a3, .int x4]) (rest := []) (L1_X9_at N hF) wd_541 wd_684 wd_540 wd_87 pd_X9_at.2 rfl (ax_rm (by omega) rfl) ax_hf0 (Nat.le_of_ble_eq_true rfl) rfl dX7_sign_59) (fun x6 T5 h => ?_)
    refine aw_goto 66 dX7_sign_62 (by decide) ?_
    exact aw_iret dX7_sign_66 rfl (Nat.le_refl _) (Nat.le_refl _) h
theorem L1_X7_sign_0b {g : AxG} {l : Launch} {r9 : Int32} {S9 : AxS} (N : Nat) (K0 : Nat → AxS → Option (Int32 × AxS)) (hK0 : ∀ (v0 : Nat) (S : AxS), K0 v0 S = some ((r9, S9)) → AW g l (axRm (1) 0 0) mt_X7_sign (axMQ g 0 0 (.inl (some (.int r9)), S9)) 0 0 S 0 [(0, .ref v0)] []) (v0 : Nat) (S : AxS) (h : F_X7_sign_0b N K0 v0 S = some ((r9, S9))) : AW g l (axRm (1) 0 0) mt_X7_sign (axMQ g 0 0 (.inl (some (.int r9)), S9)) 0 0 S 0 [(0, .ref v0)] [] := by
  unfold F_X7_sign_0b at h
  refine aw_aload_n 0 dX7_sign_0 rfl rfl ?_
  refine aw_getI axc7 3 rfl rfl wd_127 dX7_sign_1 h (fun x1 h => ?_)
  refine aw_aload_n 0 dX7_sign_4 rfl rfl ?_
  refine aw_getI axc7 2 rfl rfl wd_126 dX7_sign_5 h (fun x2 h => ?_)
  refine aw_icmp_ge 40 dX7_sign_8 (by decide) h (fun h => ?_) (fun h => ?_)
  · refine aw_env [(0, .ref v0)] [0] rfl ?_
    exact L1_X7_sign_40 N  v0 S h
  · refine aw_aload_n 0 dX7_sign_11 rfl rfl ?_
    refine aw_getR axc7 0 rfl rfl wd_123 dX7_sign_12 h (fun a3 h => ?_)
    refine aw_aload_n 0 dX7_sign_15 rfl rfl ?_
    refine aw_getI axc7 3 rfl rfl wd_127 dX7_sign_16 h (fun x4 h => ?_)
    refine aw_doneI (rest := []) h (fun r9 S9 hF => aw_runSN (As := [.ref a3, .int x4]) (rest := []) (L1_X9_at N hF) wd_541 wd_684 wd_540 wd_87 pd_X9_at.2 rfl (ax_rm (by omega) rfl) ax_hf0 (Nat.le_of_ble_eq_true rfl) rfl dX7_sign_19) (fun x6 T5 h => ?_)
    refine aw_bipush 32 dX7_sign_22 (by decide) ?_
    refine aw_icmp_ne 40 dX7_sign_24 (by decide) h (fun h => ?_) (fun h => ?_)
    · refine aw_env [(0, .ref v0)] [0] rfl ?_
      exact L1_X7_sign_40 N  v0 T5 h
    · refine aw_aload_n 0 dX7_sign_27 rfl rfl ?_
      refine aw_dup rfl dX7_sign_28 ?_
      refine aw_getI axc7 3 rfl rfl wd_127 dX7_sign_29 h (fun x7 h => ?_)
      refine aw_iconst 1 dX7_sign_32 rfl ?_
      refine aw_iadd dX7_sign_33 ?_
      refine aw_putI axc7 3 rfl rfl wd_127 rfl rfl rfl dX7_sign_34 h (fun T8 h => ?_)
      refine aw_goto 0 dX7_sign_37 (by decide) ?_
      refine aw_env [(0, .ref v0)] [0] rfl ?_
      exact hK0 v0 T8 h
theorem L1_X7_sign_0 {g : AxG} {l : Launch} {r9 : Int32} {S9 : AxS} (N : Nat)  : ∀ (n : Nat) (v0 : Nat) (S : AxS), F_X7_sign_0 N  n v0 S = some ((r9, S9)) → AW g l (axRm (1) 0 0) mt_X7_sign (axMQ g 0 0 (.inl (some (.int r9)), S9)) 0 0 S 0 [(0, .ref v0)] [] := by
  intro n
  induction n with
  | zero => intro v0 S h; cases h
  | succ n ih => intro v0 S h; exact L1_X7_sign_0b N (F_X7_sign_0 N  n) ih v0 S h
theorem L1_X7_sign {g : AxG} {l : Launch} (N : Nat) {v0 : Nat} {S : AxS} {r9 : Int32} {S9 : AxS} (h : F_X7_sign N v0 S = some ((r9, S9))) : AxMet g l yX7_sign cX7_sign 1 (some .int) (1) 0 0 [.ref v0] S ((.inl (some (.int r9)), S9)) := by
  refine ax_met (own := RX7) (ini := false) (by decide +kernel) rfl (fun h => nomatch h) rfl ?_
  show AW g l (axRm (1) 0 0) mt_X7_sign (axMQ g 0 0 (.inl (some (.int r9)), S9)) 0 0 S 0 [(0, .ref v0)] []
  unfold F_X7_sign at h
  refine aw_env [(0, .ref v0)] [0] rfl ?_
  exact L1_X7_sign_0 N  N v0 S h

theorem dX7_isDigit_0 : decode cX7_isDigit 0 = .ok (.iload_n 0, 1) := by decide +kernel
theorem dX7_isDigit_1 : decode cX7_isDigit 1 = .ok (.bipush 48, 2) := by decide +kernel
theorem dX7_isDigit_3 : decode cX7_isDigit 3 = .ok (.if_icmp .lt 13, 3) := by decide +kernel
theorem dX7_isDigit_6 : decode cX7_isDigit 6 = .ok (.iload_n 0, 1) := by decide +kernel
theorem dX7_isDigit_7 : decode cX7_isDigit 7 = .ok (.bipush 57, 2) := by decide +kernel
theorem dX7_isDigit_9 : decode cX7_isDigit 9 = .ok (.if_icmp .gt 7, 3) := by decide +kernel
theorem dX7_isDigit_12 : decode cX7_isDigit 12 = .ok (.iconst 1, 1) := by decide +kernel
theorem dX7_isDigit_13 : decode cX7_isDigit 13 = .ok (.goto 4, 3) := by decide +kernel
theorem dX7_isDigit_16 : decode cX7_isDigit 16 = .ok (.iconst 0, 1) := by decide +kernel
theorem dX7_isDigit_17 : decode cX7_isDigit 17 = .ok (.ireturn, 1) := by decide +kernel
abbrev mt_X7_isDigit : AxM := (RX7, cX7_isDigit, 1, (some .boolean), false, [])
theorem L1_X7_isDigit {g : AxG} {l : Launch} (N : Nat) {v0 : Int32} {S : AxS} {r9 : Int32} {S9 : AxS} (h : F_X7_isDigit N v0 S = some ((r9, S9))) : AxMet g l yX7_isDigit cX7_isDigit 1 (some .boolean) (0) 0 0 [.int v0] S ((.inl (some (.int r9)), S9)) := by
  refine ax_met (own := RX7) (ini := false) (by decide +kernel) rfl (fun h => nomatch h) rfl ?_
  show AW g l (axRm (0) 0 0) mt_X7_isDigit (axMQ g 0 0 (.inl (some (.int r9)), S9)) 0 0 S 0 [(0, .int v0)] []
  unfold F_X7_isDigit at h
  refine aw_iload_n 0 dX7_isDigit_0 rfl rfl ?_
  refine aw_bipush 48 dX7_isDigit_1 (by decide) ?_
  refine aw_icmp_lt 16 dX7_isDigit_3 (by decide) h (fun h => ?_) (fun h => ?_)
  · refine aw_iconst 0 dX7_isDigit_16 rfl ?_
    exact aw_zret dX7_isDigit_17 rfl (Nat.le_refl _) (Nat.le_refl _) h
  · refine aw_iload_n 0 dX7_isDigit_6 rfl rfl ?_
    refine aw_bipush 57 dX7_isDigit_7 (by decide) ?_
    refine aw_icmp_gt 16 dX7_isDigit_9 (by decide) h (fun h => ?_) (fun h => ?_)
    · refine aw_iconst 0 dX7_isDigit_16 rfl ?_
      exact aw_zret dX7_isDigit_17 rfl (Nat.le_refl _) (Nat.le_refl _) h
    · refine aw_iconst 1 dX7_isDigit_12 rfl ?_
      refine aw_goto 17 dX7_isDigit_13 (by decide) ?_
      exact aw_zret dX7_isDigit_17 rfl (Nat.le_refl _) (Nat.le_refl _) h

theorem dX7_fails_0 : decode cX7_fails 0 = .ok (.aload_n 0, 1) := by decide +kernel
theorem dX7_fails_1 : decode cX7_fails 1 = .ok (.getfield 32, 3) := by decide +kernel
theorem dX7_fails_4 : decode cX7_fails 4 = .ok (.ifCond .ne 13, 3) := by decide +kernel
theorem dX7_fails_7 : decode cX7_fails 7 = .ok (.aload_n 0, 1) := by decide +kernel
theorem dX7_fails_8 : decode cX7_fails 8 = .ok (.iload_n 1, 1) := by decide +kernel
theorem dX7_fails_9 : decode cX7_fails 9 = .ok (.putfield 32, 3) := by decide +kernel
theorem dX7_fails_12 : decode cX7_fails 12 = .ok (.aload_n 0, 1) := by decide +kernel
theorem dX7_fails_13 : decode cX7_fails 13 = .ok (.iload_n 2, 1) := by decide +kernel
theorem dX7_fails_14 : decode cX7_fails 14 = .ok (.putfield 15, 3) := by decide +kernel
theorem dX7_fails_17 : decode cX7_fails 17 = .ok (.iconst 0, 1) := by decide +kernel
theorem dX7_fails_18 : decode cX7_fails 18 = .ok (.ireturn, 1) := by decide +kernel
abbrev mt_X7_fails : AxM := (RX7, cX7_fails, 3, (some .boolean), false, [])
theorem L1_X7_fails {g : AxG} {l : Launch} (N : Nat) {v0 : Nat} {v1 : Int32} {v2 : Int32} {S : AxS} {r9 : Int32} {S9 : AxS} (h : F_X7_fails N v0 v1 v2 S = some ((r9, S9))) : AxMet g l yX7_fails cX7_fails 3 (some .boolean) (0) 0 0 [.ref v0, .int v1, .int v2] S ((.inl (some (.int r9)), S9)) := by
  refine ax_met (own := RX7) (ini := false) (by decide +kernel) rfl (fun h => nomatch h) rfl ?_
  show AW g l (axRm (0) 0 0) mt_X7_fails (axMQ g 0 0 (.inl (some (.int r9)), S9)) 0 0 S 0 [(0, .ref v0), (1, .int v1), (2, .int v2)] []
  unfold F_X7_fails at h
  refine aw_aload_n 0 dX7_fails_0 rfl rfl ?_
  refine aw_getI axc7 4 rfl rfl wd_129 dX7_fails_1 h (fun x1 h => ?_)
  refine aw_if_ne 17 dX7_fails_4 (by decide) h (fun h => ?_) (fun h => ?_)
  · refine aw_iconst 0 dX7_fails_17 rfl ?_
    exact aw_zret dX7_fails_18 rfl (Nat.le_refl _) (Nat.le_refl _) h
  · refine aw_aload_n 0 dX7_fails_7 rfl rfl ?_
    refine aw_iload_n 1 dX7_fails_8 rfl rfl ?_
    refine aw_putI axc7 4 rfl rfl wd_129 rfl rfl rfl dX7_fails_9 h (fun T2 h => ?_)
    refine aw_aload_n 0 dX7_fails_12 rfl rfl ?_
    refine aw_iload_n 2 dX7_fails_13 rfl rfl ?_
    refine aw_putI axc7 5 rfl rfl wd_135 rfl rfl rfl dX7_fails_14 h (fun T3 h => ?_)
    refine aw_iconst 0 dX7_fails_17 rfl ?_
    exact aw_zret dX7_fails_18 rfl (Nat.le_refl _) (Nat.le_refl _) h

theorem dJ9_min_7cf53_0 : decode cJ9_min_7cf53 0 = .ok (.iload_n 0, 1) := by decide +kernel
theorem dJ9_min_7cf53_1 : decode cJ9_min_7cf53 1 = .ok (.iload_n 1, 1) := by decide +kernel
theorem dJ9_min_7cf53_2 : decode cJ9_min_7cf53 2 = .ok (.if_icmp .gt 7, 3) := by decide +kernel
theorem dJ9_min_7cf53_5 : decode cJ9_min_7cf53 5 = .ok (.iload_n 0, 1) := by decide +kernel
theorem dJ9_min_7cf53_6 : decode cJ9_min_7cf53 6 = .ok (.goto 4, 3) := by decide +kernel
theorem dJ9_min_7cf53_9 : decode cJ9_min_7cf53 9 = .ok (.iload_n 1, 1) := by decide +kernel
theorem dJ9_min_7cf53_10 : decode cJ9_min_7cf53 10 = .ok (.ireturn, 1) := by decide +kernel
abbrev mt_J9_min_7cf53 : AxM := (RJ9, cJ9_min_7cf53, 2, (some .int), false, [])
theorem L1_J9_min_7cf53 {g : AxG} {l : Launch} (N : Nat) {v0 : Int32} {v1 : Int32} {S : AxS} {r9 : Int32} {S9 : AxS} (h : F_J9_min_7cf53 N v0 v1 S = some ((r9, S9))) : AxMet g l yJ9_min_7cf53 cJ9_min_7cf53 2 (some .int) (0) 0 0 [.int v0, .int v1] S ((.inl (some (.int r9)), S9)) := by
  refine ax_met (own := RJ9) (ini := false) (by decide +kernel) rfl (fun h => nomatch h) rfl ?_
  show AW g l (axRm (0) 0 0) mt_J9_min_7cf53 (axMQ g 0 0 (.inl (some (.int r9)), S9)) 0 0 S 0 [(0, .int v0), (1, .int v1)] []
  unfold F_J9_min_7cf53 at h
  refine aw_iload_n 0 dJ9_min_7cf53_0 rfl rfl ?_
  refine aw_iload_n 1 dJ9_min_7cf53_1 rfl rfl ?_
  refine aw_icmp_gt 9 dJ9_min_7cf53_2 (by decide) h (fun h => ?_) (fun h => ?_)
  · refine aw_iload_n 1 dJ9_min_7cf53_9 rfl rfl ?_
    exact aw_iret dJ9_min_7cf53_10 rfl (Nat.le_refl _) (Nat.le_refl _) h
  · refine aw_iload_n 0 dJ9_min_7cf53_5 rfl rfl ?_
    refine aw_goto 10 dJ9_min_7cf53_6 (by decide) ?_
    exact aw_iret dJ9_min_7cf53_10 rfl (Nat.le_refl _) (Nat.le_refl _) h

theorem dX7_number_0 : decode cX7_number 0 = .ok (.aload_n 0, 1) := by decide +kernel
theorem dX7_number_1 : decode cX7_number 1 = .ok (.invokevirtual 39, 3) := by decide +kernel
theorem dX7_number_4 : decode cX7_number 4 = .ok (.invokestatic 47, 3) := by decide +kernel
theorem dX7_number_7 : decode cX7_number 7 = .ok (.ifCond .ne 15, 3) := by decide +kernel
theorem dX7_number_10 : decode cX7_number 10 = .ok (.aload_n 0, 1) := by decide +kernel
theorem dX7_number_11 : decode cX7_number 11 = .ok (.iconst 1, 1) := by decide +kernel
theorem dX7_number_12 : decode cX7_number 12 = .ok (.aload_n 0, 1) := by decide +kernel
theorem dX7_number_13 : decode cX7_number 13 = .ok (.getfield 29, 3) := by decide +kernel
theorem dX7_number_16 : decode cX7_number 16 = .ok (.invokevirtual 43, 3) := by decide +kernel
theorem dX7_number_19 : decode cX7_number 19 = .ok (.pop, 1) := by decide +kernel
theorem dX7_number_20 : decode cX7_number 20 = .ok (.iconst (-1), 1) := by decide +kernel
theorem dX7_number_21 : decode cX7_number 21 = .ok (.ireturn, 1) := by decide +kernel
theorem dX7_number_22 : decode cX7_number 22 = .ok (.aload_n 0, 1) := by decide +kernel
theorem dX7_number_23 : decode cX7_number 23 = .ok (.aload_n 0, 1) := by decide +kernel
theorem dX7_number_24 : decode cX7_number 24 = .ok (.getfield 29, 3) := by decide +kernel
theorem dX7_number_27 : decode cX7_number 27 = .ok (.putfield 51, 3) := by decide +kernel
theorem dX7_number_30 : decode cX7_number 30 = .ok (.iconst 0, 1) := by decide +kernel
theorem dX7_number_31 : decode cX7_number 31 = .ok (.istore_n 3, 1) := by decide +kernel
theorem dX7_number_32 : decode cX7_number 32 = .ok (.aload_n 0, 1) := by decide +kernel
theorem dX7_number_33 : decode cX7_number 33 = .ok (.getfield 29, 3) := by decide +kernel
theorem dX7_number_36 : decode cX7_number 36 = .ok (.aload_n 0, 1) := by decide +kernel
theorem dX7_number_37 : decode cX7_number 37 = .ok (.getfield 26, 3) := by decide +kernel
theorem dX7_number_40 : decode cX7_number 40 = .ok (.if_icmp .ge 58, 3) := by decide +kernel
theorem dX7_number_43 : decode cX7_number 43 = .ok (.aload_n 0, 1) := by decide +kernel
theorem dX7_number_44 : decode cX7_number 44 = .ok (.getfield 9, 3) := by decide +kernel
theorem dX7_number_47 : decode cX7_number 47 = .ok (.aload_n 0, 1) := by decide +kernel
theorem dX7_number_48 : decode cX7_number 48 = .ok (.getfield 29, 3) := by decide +kernel
theorem dX7_number_51 : decode cX7_number 51 = .ok (.invokestatic 35, 3) := by decide +kernel
theorem dX7_number_54 : decode cX7_number 54 = .ok (.invokestatic 47, 3) := by decide +kernel
theorem dX7_number_57 : decode cX7_number 57 = .ok (.ifCond .eq 41, 3) := by decide +kernel
theorem dX7_number_60 : decode cX7_number 60 = .ok (.ldc 54, 2) := by decide +kernel
theorem dX7_number_62 : decode cX7_number 62 = .ok (.bipush 10, 2) := by decide +kernel
theorem dX7_number_64 : decode cX7_number 64 = .ok (.iload_n 3, 1) := by decide +kernel
theorem dX7_number_65 : decode cX7_number 65 = .ok (.imul, 1) := by decide +kernel
theorem dX7_number_66 : decode cX7_number 66 = .ok (.aload_n 0, 1) := by decide +kernel
theorem dX7_number_67 : decode cX7_number 67 = .ok (.getfield 9, 3) := by decide +kernel
theorem dX7_number_70 : decode cX7_number 70 = .ok (.aload_n 0, 1) := by decide +kernel
theorem dX7_number_71 : decode cX7_number 71 = .ok (.getfield 29, 3) := by decide +kernel
theorem dX7_number_74 : decode cX7_number 74 = .ok (.invokestatic 35, 3) := by decide +kernel
theorem dX7_number_77 : decode cX7_number 77 = .ok (.iadd, 1) := by decide +kernel
theorem dX7_number_78 : decode cX7_number 78 = .ok (.bipush 48, 2) := by decide +kernel
theorem dX7_number_80 : decode cX7_number 80 = .ok (.isub, 1) := by decide +kernel
theorem dX7_number_81 : decode cX7_number 81 = .ok (.invokestatic 55, 3) := by decide +kernel
theorem dX7_number_84 : decode cX7_number 84 = .ok (.istore_n 3, 1) := by decide +kernel
theorem dX7_number_85 : decode cX7_number 85 = .ok (.aload_n 0, 1) := by decide +kernel
theorem dX7_number_86 : decode cX7_number 86 = .ok (.dup, 1) := by decide +kernel
theorem dX7_number_87 : decode cX7_number 87 = .ok (.getfield 29, 3) := by decide +kernel
theorem dX7_number_90 : decode cX7_number 90 = .ok (.iconst 1, 1) := by decide +kernel
theorem dX7_number_91 : decode cX7_number 91 = .ok (.iadd, 1) := by decide +kernel
theorem dX7_number_92 : decode cX7_number 92 = .ok (.putfield 29, 3) := by decide +kernel
theorem dX7_number_95 : decode cX7_number 95 = .ok (.goto (-63), 3) := by decide +kernel
theorem dX7_number_98 : decode cX7_number 98 = .ok (.iload_n 3, 1) := by decide +kernel
theorem dX7_number_99 : decode cX7_number 99 = .ok (.iload_n 1, 1) := by decide +kernel
theorem dX7_number_100 : decode cX7_number 100 = .ok (.if_icmp .lt 8, 3) := by decide +kernel
theorem dX7_number_103 : decode cX7_number 103 = .ok (.iload_n 3, 1) := by decide +kernel
theorem dX7_number_104 : decode cX7_number 104 = .ok (.iload_n 2, 1) := by decide +kernel
theorem dX7_number_105 : decode cX7_number 105 = .ok (.if_icmp .le 15, 3) := by decide +kernel
theorem dX7_number_108 : decode cX7_number 108 = .ok (.aload_n 0, 1) := by decide +kernel
theorem dX7_number_109 : decode cX7_number 109 = .ok (.iconst 2, 1) := by decide +kernel
theorem dX7_number_110 : decode cX7_number 110 = .ok (.aload_n 0, 1) := by decide +kernel
theorem dX7_number_111 : decode cX7_number 111 = .ok (.getfield 51, 3) := by decide +kernel
theorem dX7_number_114 : decode cX7_number 114 = .ok (.invokevirtual 43, 3) := by decide +kernel
theorem dX7_number_117 : decode cX7_number 117 = .ok (.pop, 1) := by decide +kernel
theorem dX7_number_118 : decode cX7_number 118 = .ok (.iconst (-1), 1) := by decide +kernel
theorem dX7_number_119 : decode cX7_number 119 = .ok (.ireturn, 1) := by decide +kernel
theorem dX7_number_120 : decode cX7_number 120 = .ok (.iload_n 3, 1) := by decide +kernel
theorem dX7_number_121 : decode cX7_number 121 = .ok (.ireturn, 1) := by decide +kernel
abbrev mt_X7_number : AxM := (RX7, cX7_number, 4, (some .int), false, [])
theorem L1_X7_number_108 {g : AxG} {l : Launch} {r9 : Int32} {S9 : AxS} (N : Nat)  (v0 : Nat) (S : AxS) (h : F_X7_number_108 N  v0 S = some ((r9, S9))) : AW g l (axRm (2) 0 0) mt_X7_number (axMQ g 0 0 (.inl (some (.int r9)), S9)) 0 0 S 108 [(0, .ref v0)] [] := by
  unfold F_X7_number_108 at h
  refine aw_aload_n 0 dX7_number_108 rfl rfl ?_
  refine aw_iconst 2 dX7_number_109 rfl ?_
  refine aw_aload_n 0 dX7_number_110 rfl rfl ?_
  refine aw_getI axc7 7 rfl rfl wd_142 dX7_number_111 h (fun x1 h => ?_)
  obtain ⟨hL2, h⟩ := ax_is_spec h
  refine aw_doneI (rest := []) h (fun r9 S9 hF => aw_runV (As := [.int 2, .int x1]) (rest := []) (L1_X7_fails N hF) axc7 hL2 wd_760 wd_776 wd_758 wd_759 wd_88 pd_X7_fails rfl (ax_rm (by omega) rfl) ax_hf0 (Nat.le_of_ble_eq_true rfl) rfl dX7_number_114) (fun x4 T3 h => ?_)
  refine aw_pop rfl dX7_number_117 ?_
  refine aw_iconst (-1) dX7_number_118 rfl ?_
  exact aw_iret dX7_number_119 rfl (Nat.le_refl _) (Nat.le_refl _) h
theorem L1_X7_number_98 {g : AxG} {l : Launch} {r9 : Int32} {S9 : AxS} (N : Nat)  (v0 : Nat) (v1 : Int32) (v2 : Int32) (v3 : Int32) (S : AxS) (h : F_X7_number_98 N  v0 v1 v2 v3 S = some ((r9, S9))) : AW g l (axRm (2) 0 0) mt_X7_number (axMQ g 0 0 (.inl (some (.int r9)), S9)) 0 0 S 98 [(0, .ref v0), (1, .int v1), (2, .int v2), (3, .int v3)] [] := by
  unfold F_X7_number_98 at h
  refine aw_iload_n 3 dX7_number_98 rfl rfl ?_
  refine aw_iload_n 1 dX7_number_99 rfl rfl ?_
  refine aw_icmp_lt 108 dX7_number_100 (by decide) h (fun h => ?_) (fun h => ?_)
  · refine aw_env [(0, .ref v0)] [0] rfl ?_
    exact L1_X7_number_108 N  v0 S h
  · refine aw_iload_n 3 dX7_number_103 rfl rfl ?_
    refine aw_iload_n 2 dX7_number_104 rfl rfl ?_
    refine aw_icmp_le 120 dX7_number_105 (by decide) h (fun h => ?_) (fun h => ?_)
    · refine aw_iload_n 3 dX7_number_120 rfl rfl ?_
      exact aw_iret dX7_number_121 rfl (Nat.le_refl _) (Nat.le_refl _) h
    · refine aw_env [(0, .ref v0)] [0] rfl ?_
      exact L1_X7_number_108 N  v0 S h
theorem L1_X7_number_32b {g : AxG} {l : Launch} {r9 : Int32} {S9 : AxS} (N : Nat) (K32 : Nat → Int32 → Int32 → Int32 → AxS → Option (Int32 × AxS)) (hK32 : ∀ (v0 : Nat) (v1 : Int32) (v2 : Int32) (v3 : Int32) (S : AxS), K32 v0 v1 v2 v3 S = some ((r9, S9)) → AW g l (axRm (2) 0 0) mt_X7_number (axMQ g 0 0 (.inl (some (.int r9)), S9)) 0 0 S 32 [(0, .ref v0), (1, .int v1), (2, .int v2), (3, .int v3)] []) (v0 : Nat) (v1 : Int32) (v2 : Int32) (v3 : Int32) (S : AxS) (h : F_X7_number_32b N K32 v0 v1 v2 v3 S = some ((r9, S9))) : AW g l (axRm (2) 0 0) mt_X7_number (axMQ g 0 0 (.inl (some (.int r9)), S9)) 0 0 S 32 [(0, .ref v0), (1, .int v1), (2, .int v2), (3, .int v3)] [] := by
  unfold F_X7_number_32b at h
  refine aw_aload_n 0 dX7_number_32 rfl rfl ?_
  refine aw_getI axc7 3 rfl rfl wd_127 dX7_number_33 h (fun x1 h => ?_)
  refine aw_aload_n 0 dX7_number_36 rfl rfl ?_
  refine aw_getI axc7 2 rfl rfl wd_126 dX7_number_37 h (fun x2 h => ?_)
  refine aw_icmp_ge 98 dX7_number_40 (by decide) h (fun h => ?_) (fun h => ?_)
  · refine aw_env [(0, .ref v0), (1, .int v1), (2, .int v2), (3, .int v3)] [0, 1, 2, 3] rfl ?_
    exact L1_X7_number_98 N  v0 v1 v2 v3 S h
  · refine aw_aload_n 0 dX7_number_43 rfl rfl ?_
    refine aw_getR axc7 0 rfl rfl wd_123 dX7_number_44 h (fun a3 h => ?_)
    refine aw_aload_n 0 dX7_number_47 rfl rfl ?_
    refine aw_getI axc7 3 rfl rfl wd_127 dX7_number_48 h (fun x4 h => ?_)
    refine aw_doneI (rest := []) h (fun r9 S9 hF => aw_runSN (As := [.ref a3, .int x4]) (rest := []) (L1_X9_at N hF) wd_541 wd_684 wd_540 wd_87 pd_X9_at.2 rfl (ax_rm (by omega) rfl) ax_hf0 (Nat.le_of_ble_eq_true rfl) rfl dX7_number_51) (fun x6 T5 h => ?_)
    refine aw_doneI (rest := []) h (fun r9 S9 hF => aw_runS (As := [.int x6]) (rest := []) (L1_X7_isDigit N hF) wd_775 wd_773 wd_774 wd_88 pd_X7_isDigit.2 rfl (ax_rm (by omega) rfl) ax_hf0 (Nat.le_of_ble_eq_true rfl) rfl dX7_number_54) (fun x8 T7 h => ?_)
    refine aw_if_eq 98 dX7_number_57 (by decide) h (fun h => ?_) (fun h => ?_)
    · refine aw_env [(0, .ref v0), (1, .int v1), (2, .int v2), (3, .int v3)] [0, 1, 2, 3] rfl ?_
      exact L1_X7_number_98 N  v0 v1 v2 v3 T7 h
    · refine aw_ldcI wd_777 dX7_number_60 ?_
      refine aw_bipush 10 dX7_number_62 (by decide) ?_
      refine aw_iload_n 3 dX7_number_64 rfl rfl ?_
      refine aw_imul dX7_number_65 ?_
      refine aw_aload_n 0 dX7_number_66 rfl rfl ?_
      refine aw_getR axc7 0 rfl rfl wd_123 dX7_number_67 h (fun a9 h => ?_)
      refine aw_aload_n 0 dX7_number_70 rfl rfl ?_
      refine aw_getI axc7 3 rfl rfl wd_127 dX7_number_71 h (fun x10 h => ?_)
      refine aw_doneI (rest := [.int (10 * v3), .int 1000000]) h (fun r9 S9 hF => aw_runSN (As := [.ref a9, .int x10]) (rest := [.int (10 * v3), .int 1000000]) (L1_X9_at N hF) wd_541 wd_684 wd_540 wd_87 pd_X9_at.2 rfl (ax_rm (by omega) rfl) ax_hf0 (Nat.le_of_ble_eq_true rfl) rfl dX7_number_74) (fun x12 T11 h => ?_)
      refine aw_iadd dX7_number_77 ?_
      refine aw_bipush 48 dX7_number_78 (by decide) ?_
      refine aw_isub dX7_number_80 ?_
      refine aw_doneI (rest := []) h (fun r9 S9 hF => aw_runS (As := [.int 1000000, .int (((10 * v3) + x12) - 48)]) (rest := []) (L1_J9_min_7cf53 N hF) wd_563 wd_778 wd_562 wd_106 pd_J9_min_7cf53.2 rfl (ax_rm (by omega) rfl) ax_hf0 (Nat.le_of_ble_eq_true rfl) rfl dX7_number_81) (fun x14 T13 h => ?_)
      refine aw_istore_n 3 [(3, .int x14), (0, .ref v0), (1, .int v1), (2, .int v2)] dX7_number_84 rfl rfl rfl ?_
      refine aw_aload_n 1 dX7_number_85 rfl rfl ?_
      refine aw_dup rfl dX7_number_86 ?_
      refine aw_getI axc7 3 rfl rfl wd_127 dX7_number_87 h (fun x15 h => ?_)
      refine aw_iconst 1 dX7_number_90 rfl ?_
      refine aw_iadd dX7_number_91 ?_
      refine aw_putI axc7 3 rfl rfl wd_127 rfl rfl rfl dX7_number_92 h (fun T16 h => ?_)
      refine aw_goto 32 dX7_number_95 (by decide) ?_
      refine aw_env [(0, .ref v0), (1, .int v1), (2, .int v2), (3, .int x14)] [1, 2, 3, 0] rfl ?_
      exact hK32 v0 v1 v2 x14 T16 h
theorem L1_X7_number_32 {g : AxG} {l : Launch} {r9 : Int32} {S9 : AxS} (N : Nat)  : ∀ (n : Nat) (v0 : Nat) (v1 : Int32) (v2 : Int32) (v3 : Int32) (S : AxS), F_X7_number_32 N  n v0 v1 v2 v3 S = some ((r9, S9)) → AW g l (axRm (2) 0 0) mt_X7_number (axMQ g 0 0 (.inl (some (.int r9)), S9)) 0 0 S 32 [(0, .ref v0), (1, .int v1), (2, .int v2), (3, .int v3)] [] := by
  intro n
  induction n with
  | zero => intro v0 v1 v2 v3 S h; cases h
  | succ n ih => intro v0 v1 v2 v3 S h; exact L1_X7_number_32b N (F_X7_number_32 N  n) ih v0 v1 v2 v3 S h
theorem L1_X7_number {g : AxG} {l : Launch} (N : Nat) {v0 : Nat} {v1 : Int32} {v2 : Int32} {S : AxS} {r9 : Int32} {S9 : AxS} (h : F_X7_number N v0 v1 v2 S = some ((r9, S9))) : AxMet g l yX7_number cX7_number 4 (some .int) (2) 0 0 [.ref v0, .int v1, .int v2] S ((.inl (some (.int r9)), S9)) := by
  refine ax_met (own := RX7) (ini := false) (by decide +kernel) rfl (fun h => nomatch h) rfl ?_
  show AW g l (axRm (2) 0 0) mt_X7_number (axMQ g 0 0 (.inl (some (.int r9)), S9)) 0 0 S 0 [(0, .ref v0), (1, .int v1), (2, .int v2)] []
  unfold F_X7_number at h
  refine aw_aload_n 0 dX7_number_0 rfl rfl ?_
  obtain ⟨hL1, h⟩ := ax_is_spec h
  refine aw_doneI (rest := []) h (fun r9 S9 hF => aw_runV (As := []) (rest := []) (L1_X7_sign N hF) axc7 hL1 wd_683 wd_693 wd_681 wd_682 wd_88 pd_X7_sign rfl (ax_rm (by omega) rfl) ax_hf0 (Nat.le_of_ble_eq_true rfl) rfl dX7_number_1) (fun x3 T2 h => ?_)
  refine aw_doneI (rest := []) h (fun r9 S9 hF => aw_runS (As := [.int x3]) (rest := []) (L1_X7_isDigit N hF) wd_775 wd_773 wd_774 wd_88 pd_X7_isDigit.2 rfl (ax_rm (by omega) rfl) ax_hf0 (Nat.le_of_ble_eq_true rfl) rfl dX7_number_4) (fun x5 T4 h => ?_)
  refine aw_if_ne 22 dX7_number_7 (by decide) h (fun h => ?_) (fun h => ?_)
  · refine aw_aload_n 0 dX7_number_22 rfl rfl ?_
    refine aw_aload_n 0 dX7_number_23 rfl rfl ?_
    refine aw_getI axc7 3 rfl rfl wd_127 dX7_number_24 h (fun x6 h => ?_)
    refine aw_putI axc7 7 rfl rfl wd_142 rfl rfl rfl dX7_number_27 h (fun T7 h => ?_)
    refine aw_iconst 0 dX7_number_30 rfl ?_
    refine aw_istore_n 3 [(3, .int 0), (0, .ref v0), (1, .int v1), (2, .int v2)] dX7_number_31 rfl rfl rfl ?_
    refine aw_env [(0, .ref v0), (1, .int v1), (2, .int v2), (3, .int 0)] [1, 2, 3, 0] rfl ?_
    exact L1_X7_number_32 N  N v0 v1 v2 0 T7 h
  · refine aw_aload_n 0 dX7_number_10 rfl rfl ?_
    refine aw_iconst 1 dX7_number_11 rfl ?_
    refine aw_aload_n 0 dX7_number_12 rfl rfl ?_
    refine aw_getI axc7 3 rfl rfl wd_127 dX7_number_13 h (fun x8 h => ?_)
    obtain ⟨hL9, h⟩ := ax_is_spec h
    refine aw_doneI (rest := []) h (fun r9 S9 hF => aw_runV (As := [.int 1, .int x8]) (rest := []) (L1_X7_fails N hF) axc7 hL9 wd_760 wd_776 wd_758 wd_759 wd_88 pd_X7_fails rfl (ax_rm (by omega) rfl) ax_hf0 (Nat.le_of_ble_eq_true rfl) rfl dX7_number_16) (fun x11 T10 h => ?_)
    refine aw_pop rfl dX7_number_19 ?_
    refine aw_iconst (-1) dX7_number_20 rfl ?_
    exact aw_iret dX7_number_21 rfl (Nat.le_refl _) (Nat.le_refl _) h

theorem dX9_put_0 : decode cX9_put 0 = .ok (.iload_n 1, 1) := by decide +kernel
theorem dX9_put_1 : decode cX9_put 1 = .ok (.ifCond .lt 13, 3) := by decide +kernel
theorem dX9_put_4 : decode cX9_put 4 = .ok (.iload_n 1, 1) := by decide +kernel
theorem dX9_put_5 : decode cX9_put 5 = .ok (.aload_n 0, 1) := by decide +kernel
theorem dX9_put_6 : decode cX9_put 6 = .ok (.arraylength, 1) := by decide +kernel
theorem dX9_put_7 : decode cX9_put 7 = .ok (.if_icmp .ge 7, 3) := by decide +kernel
theorem dX9_put_10 : decode cX9_put 10 = .ok (.aload_n 0, 1) := by decide +kernel
theorem dX9_put_11 : decode cX9_put 11 = .ok (.iload_n 1, 1) := by decide +kernel
theorem dX9_put_12 : decode cX9_put 12 = .ok (.iload_n 2, 1) := by decide +kernel
theorem dX9_put_13 : decode cX9_put 13 = .ok (.iastore, 1) := by decide +kernel
theorem dX9_put_14 : decode cX9_put 14 = .ok (.return_, 1) := by decide +kernel
abbrev mt_X9_put : AxM := (RX9, cX9_put, 3, none, false, [])
theorem L1_X9_put {g : AxG} {l : Launch} (N : Nat) {v0 : Nat} {v1 : Int32} {v2 : Int32} {S : AxS} {S9 : AxS} (h : F_X9_put N v0 v1 v2 S = some S9) : AxMet g l yX9_put cX9_put 3 none (0) 0 0 [.ref v0, .int v1, .int v2] S ((.inl none, S9)) := by
  refine ax_met (own := RX9) (ini := false) (by decide +kernel) rfl (fun h => nomatch h) rfl ?_
  show AW g l (axRm (0) 0 0) mt_X9_put (axMQ g 0 0 (.inl none, S9)) 0 0 S 0 [(0, .ref v0), (1, .int v1), (2, .int v2)] []
  unfold F_X9_put at h
  refine aw_iload_n 1 dX9_put_0 rfl rfl ?_
  refine aw_if_lt 14 dX9_put_1 (by decide) h (fun h => ?_) (fun h => ?_)
  · exact aw_vret dX9_put_14 rfl (Nat.le_refl _) (Nat.le_refl _) h
  · refine aw_iload_n 1 dX9_put_4 rfl rfl ?_
    refine aw_aload_n 0 dX9_put_5 rfl rfl ?_
    refine aw_alen dX9_put_6 h (fun x1 h => ?_)
    refine aw_icmp_ge 14 dX9_put_7 (by decide) h (fun h => ?_) (fun h => ?_)
    · exact aw_vret dX9_put_14 rfl (Nat.le_refl _) (Nat.le_refl _) h
    · refine aw_aload_n 0 dX9_put_10 rfl rfl ?_
      refine aw_iload_n 1 dX9_put_11 rfl rfl ?_
      refine aw_iload_n 2 dX9_put_12 rfl rfl ?_
      refine aw_iast dX9_put_13 h (fun T2 h => ?_)
      exact aw_vret dX9_put_14 rfl (Nat.le_refl _) (Nat.le_refl _) h

theorem dX7_takes_0 : decode cX7_takes 0 = .ok (.aload_n 0, 1) := by decide +kernel
theorem dX7_takes_1 : decode cX7_takes 1 = .ok (.invokevirtual 39, 3) := by decide +kernel
theorem dX7_takes_4 : decode cX7_takes 4 = .ok (.iload_n 1, 1) := by decide +kernel
theorem dX7_takes_5 : decode cX7_takes 5 = .ok (.if_icmp .eq 13, 3) := by decide +kernel
theorem dX7_takes_8 : decode cX7_takes 8 = .ok (.aload_n 0, 1) := by decide +kernel
theorem dX7_takes_9 : decode cX7_takes 9 = .ok (.iconst 1, 1) := by decide +kernel
theorem dX7_takes_10 : decode cX7_takes 10 = .ok (.aload_n 0, 1) := by decide +kernel
theorem dX7_takes_11 : decode cX7_takes 11 = .ok (.getfield 29, 3) := by decide +kernel
theorem dX7_takes_14 : decode cX7_takes 14 = .ok (.invokevirtual 43, 3) := by decide +kernel
theorem dX7_takes_17 : decode cX7_takes 17 = .ok (.ireturn, 1) := by decide +kernel
theorem dX7_takes_18 : decode cX7_takes 18 = .ok (.aload_n 0, 1) := by decide +kernel
theorem dX7_takes_19 : decode cX7_takes 19 = .ok (.dup, 1) := by decide +kernel
theorem dX7_takes_20 : decode cX7_takes 20 = .ok (.getfield 29, 3) := by decide +kernel
theorem dX7_takes_23 : decode cX7_takes 23 = .ok (.iconst 1, 1) := by decide +kernel
theorem dX7_takes_24 : decode cX7_takes 24 = .ok (.iadd, 1) := by decide +kernel
theorem dX7_takes_25 : decode cX7_takes 25 = .ok (.putfield 29, 3) := by decide +kernel
theorem dX7_takes_28 : decode cX7_takes 28 = .ok (.aload_n 0, 1) := by decide +kernel
theorem dX7_takes_29 : decode cX7_takes 29 = .ok (.getfield 32, 3) := by decide +kernel
theorem dX7_takes_32 : decode cX7_takes 32 = .ok (.ifCond .ne 7, 3) := by decide +kernel
theorem dX7_takes_35 : decode cX7_takes 35 = .ok (.iconst 1, 1) := by decide +kernel
theorem dX7_takes_36 : decode cX7_takes 36 = .ok (.goto 4, 3) := by decide +kernel
theorem dX7_takes_39 : decode cX7_takes 39 = .ok (.iconst 0, 1) := by decide +kernel
theorem dX7_takes_40 : decode cX7_takes 40 = .ok (.ireturn, 1) := by decide +kernel
abbrev mt_X7_takes : AxM := (RX7, cX7_takes, 2, (some .boolean), false, [])
theorem L1_X7_takes {g : AxG} {l : Launch} (N : Nat) {v0 : Nat} {v1 : Int32} {S : AxS} {r9 : Int32} {S9 : AxS} (h : F_X7_takes N v0 v1 S = some ((r9, S9))) : AxMet g l yX7_takes cX7_takes 2 (some .boolean) (2) 0 0 [.ref v0, .int v1] S ((.inl (some (.int r9)), S9)) := by
  refine ax_met (own := RX7) (ini := false) (by decide +kernel) rfl (fun h => nomatch h) rfl ?_
  show AW g l (axRm (2) 0 0) mt_X7_takes (axMQ g 0 0 (.inl (some (.int r9)), S9)) 0 0 S 0 [(0, .ref v0), (1, .int v1)] []
  unfold F_X7_takes at h
  refine aw_aload_n 0 dX7_takes_0 rfl rfl ?_
  obtain ⟨hL1, h⟩ := ax_is_spec h
  refine aw_doneI (rest := []) h (fun r9 S9 hF => aw_runV (As := []) (rest := []) (L1_X7_sign N hF) axc7 hL1 wd_683 wd_693 wd_681 wd_682 wd_88 pd_X7_sign rfl (ax_rm (by omega) rfl) ax_hf0 (Nat.le_of_ble_eq_true rfl) rfl dX7_takes_1) (fun x3 T2 h => ?_)
  refine aw_iload_n 1 dX7_takes_4 rfl rfl ?_
  refine aw_icmp_eq 18 dX7_takes_5 (by decide) h (fun h => ?_) (fun h => ?_)
  · refine aw_aload_n 0 dX7_takes_18 rfl rfl ?_
    refine aw_dup rfl dX7_takes_19 ?_
    refine aw_getI axc7 3 rfl rfl wd_127 dX7_takes_20 h (fun x4 h => ?_)
    refine aw_iconst 1 dX7_takes_23 rfl ?_
    refine aw_iadd dX7_takes_24 ?_
    refine aw_putI axc7 3 rfl rfl wd_127 rfl rfl rfl dX7_takes_25 h (fun T5 h => ?_)
    refine aw_aload_n 0 dX7_takes_28 rfl rfl ?_
    refine aw_getI axc7 4 rfl rfl wd_129 dX7_takes_29 h (fun x6 h => ?_)
    refine aw_if_ne 39 dX7_takes_32 (by decide) h (fun h => ?_) (fun h => ?_)
    · refine aw_iconst 0 dX7_takes_39 rfl ?_
      exact aw_zret dX7_takes_40 rfl (Nat.le_refl _) (Nat.le_refl _) h
    · refine aw_iconst 1 dX7_takes_35 rfl ?_
      refine aw_goto 40 dX7_takes_36 (by decide) ?_
      exact aw_zret dX7_takes_40 rfl (Nat.le_refl _) (Nat.le_refl _) h
  · refine aw_aload_n 0 dX7_takes_8 rfl rfl ?_
    refine aw_iconst 1 dX7_takes_9 rfl ?_
    refine aw_aload_n 0 dX7_takes_10 rfl rfl ?_
    refine aw_getI axc7 3 rfl rfl wd_127 dX7_takes_11 h (fun x7 h => ?_)
    obtain ⟨hL8, h⟩ := ax_is_spec h
    refine aw_doneI (rest := []) h (fun r9 S9 hF => aw_runV (As := [.int 1, .int x7]) (rest := []) (L1_X7_fails N hF) axc7 hL8 wd_760 wd_776 wd_758 wd_759 wd_88 pd_X7_fails rfl (ax_rm (by omega) rfl) ax_hf0 (Nat.le_of_ble_eq_true rfl) rfl dX7_takes_14) (fun x10 T9 h => ?_)
    exact aw_zret dX7_takes_17 rfl (Nat.le_refl _) (Nat.le_refl _) h

theorem dX0_readLine_0 : decode cX0_readLine 0 = .ok (.aload_n 1, 1) := by decide +kernel
theorem dX0_readLine_1 : decode cX0_readLine 1 = .ok (.iconst 0, 1) := by decide +kernel
theorem dX0_readLine_2 : decode cX0_readLine 2 = .ok (.bipush 59, 2) := by decide +kernel
theorem dX0_readLine_4 : decode cX0_readLine 4 = .ok (.invokevirtual 35, 3) := by decide +kernel
theorem dX0_readLine_7 : decode cX0_readLine 7 = .ok (.istore_n 2, 1) := by decide +kernel
theorem dX0_readLine_8 : decode cX0_readLine 8 = .ok (.iload_n 2, 1) := by decide +kernel
theorem dX0_readLine_9 : decode cX0_readLine 9 = .ok (.iconst (-1), 1) := by decide +kernel
theorem dX0_readLine_10 : decode cX0_readLine 10 = .ok (.if_icmp .ne 5, 3) := by decide +kernel
theorem dX0_readLine_13 : decode cX0_readLine 13 = .ok (.iconst 0, 1) := by decide +kernel
theorem dX0_readLine_14 : decode cX0_readLine 14 = .ok (.ireturn, 1) := by decide +kernel
theorem dX0_readLine_15 : decode cX0_readLine 15 = .ok (.aload_n 0, 1) := by decide +kernel
theorem dX0_readLine_16 : decode cX0_readLine 16 = .ok (.getfield 9, 3) := by decide +kernel
theorem dX0_readLine_19 : decode cX0_readLine 19 = .ok (.iload_n 2, 1) := by decide +kernel
theorem dX0_readLine_20 : decode cX0_readLine 20 = .ok (.invokestatic 39, 3) := by decide +kernel
theorem dX0_readLine_23 : decode cX0_readLine 23 = .ok (.iconst (-1), 1) := by decide +kernel
theorem dX0_readLine_24 : decode cX0_readLine 24 = .ok (.if_icmp .eq 13, 3) := by decide +kernel
theorem dX0_readLine_27 : decode cX0_readLine 27 = .ok (.aload_n 1, 1) := by decide +kernel
theorem dX0_readLine_28 : decode cX0_readLine 28 = .ok (.iconst 2, 1) := by decide +kernel
theorem dX0_readLine_29 : decode cX0_readLine 29 = .ok (.aload_n 1, 1) := by decide +kernel
theorem dX0_readLine_30 : decode cX0_readLine 30 = .ok (.getfield 43, 3) := by decide +kernel
theorem dX0_readLine_33 : decode cX0_readLine 33 = .ok (.invokevirtual 46, 3) := by decide +kernel
theorem dX0_readLine_36 : decode cX0_readLine 36 = .ok (.ireturn, 1) := by decide +kernel
theorem dX0_readLine_37 : decode cX0_readLine 37 = .ok (.aload_n 0, 1) := by decide +kernel
theorem dX0_readLine_38 : decode cX0_readLine 38 = .ok (.getfield 15, 3) := by decide +kernel
theorem dX0_readLine_41 : decode cX0_readLine 41 = .ok (.bipush 8, 2) := by decide +kernel
theorem dX0_readLine_43 : decode cX0_readLine 43 = .ok (.if_icmp .lt 13, 3) := by decide +kernel
theorem dX0_readLine_46 : decode cX0_readLine 46 = .ok (.aload_n 1, 1) := by decide +kernel
theorem dX0_readLine_47 : decode cX0_readLine 47 = .ok (.iconst 3, 1) := by decide +kernel
theorem dX0_readLine_48 : decode cX0_readLine 48 = .ok (.aload_n 1, 1) := by decide +kernel
theorem dX0_readLine_49 : decode cX0_readLine 49 = .ok (.getfield 43, 3) := by decide +kernel
theorem dX0_readLine_52 : decode cX0_readLine 52 = .ok (.invokevirtual 46, 3) := by decide +kernel
theorem dX0_readLine_55 : decode cX0_readLine 55 = .ok (.ireturn, 1) := by decide +kernel
theorem dX0_readLine_56 : decode cX0_readLine 56 = .ok (.aload_n 0, 1) := by decide +kernel
theorem dX0_readLine_57 : decode cX0_readLine 57 = .ok (.getfield 9, 3) := by decide +kernel
theorem dX0_readLine_60 : decode cX0_readLine 60 = .ok (.iload_n 2, 1) := by decide +kernel
theorem dX0_readLine_61 : decode cX0_readLine 61 = .ok (.aload_n 1, 1) := by decide +kernel
theorem dX0_readLine_62 : decode cX0_readLine 62 = .ok (.iconst 0, 1) := by decide +kernel
theorem dX0_readLine_63 : decode cX0_readLine 63 = .ok (.sipush 999, 3) := by decide +kernel
theorem dX0_readLine_66 : decode cX0_readLine 66 = .ok (.invokevirtual 35, 3) := by decide +kernel
theorem dX0_readLine_69 : decode cX0_readLine 69 = .ok (.invokestatic 50, 3) := by decide +kernel
theorem dX0_readLine_72 : decode cX0_readLine 72 = .ok (.aload_n 0, 1) := by decide +kernel
theorem dX0_readLine_73 : decode cX0_readLine 73 = .ok (.dup, 1) := by decide +kernel
theorem dX0_readLine_74 : decode cX0_readLine 74 = .ok (.getfield 15, 3) := by decide +kernel
theorem dX0_readLine_77 : decode cX0_readLine 77 = .ok (.iconst 1, 1) := by decide +kernel
theorem dX0_readLine_78 : decode cX0_readLine 78 = .ok (.iadd, 1) := by decide +kernel
theorem dX0_readLine_79 : decode cX0_readLine 79 = .ok (.putfield 15, 3) := by decide +kernel
theorem dX0_readLine_82 : decode cX0_readLine 82 = .ok (.aload_n 1, 1) := by decide +kernel
theorem dX0_readLine_83 : decode cX0_readLine 83 = .ok (.bipush 59, 2) := by decide +kernel
theorem dX0_readLine_85 : decode cX0_readLine 85 = .ok (.invokevirtual 54, 3) := by decide +kernel
theorem dX0_readLine_88 : decode cX0_readLine 88 = .ok (.ireturn, 1) := by decide +kernel
abbrev mt_X0_readLine : AxM := (RX0, cX0_readLine, 3, (some .boolean), false, [])
theorem L1_X0_readLine {g : AxG} {l : Launch} (N : Nat) {v0 : Nat} {v1 : Nat} {S : AxS} {r9 : Int32} {S9 : AxS} (h : F_X0_readLine N v0 v1 S = some ((r9, S9))) : AxMet g l yX0_readLine cX0_readLine 3 (some .boolean) (3) 0 0 [.ref v0, .ref v1] S ((.inl (some (.int r9)), S9)) := by
  refine ax_met (own := RX0) (ini := false) (by decide +kernel) rfl (fun h => nomatch h) rfl ?_
  show AW g l (axRm (3) 0 0) mt_X0_readLine (axMQ g 0 0 (.inl (some (.int r9)), S9)) 0 0 S 0 [(0, .ref v0), (1, .ref v1)] []
  unfold F_X0_readLine at h
  refine aw_aload_n 1 dX0_readLine_0 rfl rfl ?_
  refine aw_iconst 0 dX0_readLine_1 rfl ?_
  refine aw_bipush 59 dX0_readLine_2 (by decide) ?_
  obtain ⟨hL1, h⟩ := ax_is_spec h
  refine aw_doneI (rest := []) h (fun r9 S9 hF => aw_runV (As := [.int 0, .int 59]) (rest := []) (L1_X7_number N hF) axc7 hL1 wd_772 wd_945 wd_770 wd_771 wd_88 pd_X7_number rfl (ax_rm (by omega) rfl) ax_hf0 (Nat.le_of_ble_eq_true rfl) rfl dX0_readLine_4) (fun x3 T2 h => ?_)
  refine aw_istore_n 2 [(2, .int x3), (0, .ref v0), (1, .ref v1)] dX0_readLine_7 rfl rfl rfl ?_
  refine aw_iload_n 0 dX0_readLine_8 rfl rfl ?_
  refine aw_iconst (-1) dX0_readLine_9 rfl ?_
  refine aw_icmp_ne 15 dX0_readLine_10 (by decide) h (fun h => ?_) (fun h => ?_)
  · refine aw_aload_n 1 dX0_readLine_15 rfl rfl ?_
    refine aw_getR axc0 0 rfl rfl wd_247 dX0_readLine_16 h (fun a4 h => ?_)
    refine aw_iload_n 0 dX0_readLine_19 rfl rfl ?_
    refine aw_doneI (rest := []) h (fun r9 S9 hF => aw_runSN (As := [.ref a4, .int x3]) (rest := []) (L1_X9_at N hF) wd_541 wd_946 wd_540 wd_87 pd_X9_at.2 rfl (ax_rm (by omega) rfl) ax_hf0 (Nat.le_of_ble_eq_true rfl) rfl dX0_readLine_20) (fun x6 T5 h => ?_)
    refine aw_iconst (-1) dX0_readLine_23 rfl ?_
    refine aw_icmp_eq 37 dX0_readLine_24 (by decide) h (fun h => ?_) (fun h => ?_)
    · refine aw_aload_n 1 dX0_readLine_37 rfl rfl ?_
      refine aw_getI axc0 1 rfl rfl wd_250 dX0_readLine_38 h (fun x7 h => ?_)
      refine aw_bipush 8 dX0_readLine_41 (by decide) ?_
      refine aw_icmp_lt 56 dX0_readLine_43 (by decide) h (fun h => ?_) (fun h => ?_)
      · refine aw_aload_n 1 dX0_readLine_56 rfl rfl ?_
        refine aw_getR axc0 0 rfl rfl wd_247 dX0_readLine_57 h (fun a8 h => ?_)
        refine aw_iload_n 0 dX0_readLine_60 rfl rfl ?_
        refine aw_aload_n 2 dX0_readLine_61 rfl rfl ?_
        refine aw_iconst 0 dX0_readLine_62 rfl ?_
        refine aw_sipush 999 dX0_readLine_63 (by decide) ?_
        obtain ⟨hL9, h⟩ := ax_is_spec h
        refine aw_doneI (rest := [.int x3, .ref a8]) h (fun r9 S9 hF => aw_runV (As := [.int 0, .int 999]) (rest := [.int x3, .ref a8]) (L1_X7_number N hF) axc7 hL9 wd_772 wd_945 wd_770 wd_771 wd_88 pd_X7_number rfl (ax_rm (by omega) rfl) ax_hf0 (Nat.le_of_ble_eq_true rfl) rfl dX0_readLine_66) (fun x11 T10 h => ?_)
        refine aw_doneV (rest := []) h (fun S9 hF => aw_runSN (As := [.ref a8, .int x3, .int x11]) (rest := []) (L1_X9_put N hF) wd_443 wd_948 wd_442 wd_87 pd_X9_put.2 rfl (ax_rm (by omega) rfl) ax_hf0 (Nat.le_of_ble_eq_true rfl) rfl dX0_readLine_69) (fun T12 h => ?_)
        refine aw_aload_n 1 dX0_readLine_72 rfl rfl ?_
        refine aw_dup rfl dX0_readLine_73 ?_
        refine aw_getI axc0 1 rfl rfl wd_250 dX0_readLine_74 h (fun x14 h => ?_)
        refine aw_iconst 1 dX0_readLine_77 rfl ?_
        refine aw_iadd dX0_readLine_78 ?_
        refine aw_putI axc0 1 rfl rfl wd_250 rfl rfl rfl dX0_readLine_79 h (fun T15 h => ?_)
        refine aw_aload_n 2 dX0_readLine_82 rfl rfl ?_
        refine aw_bipush 59 dX0_readLine_83 (by decide) ?_
        obtain ⟨hL16, h⟩ := ax_is_spec h
        refine aw_doneI (rest := []) h (fun r9 S9 hF => aw_runV (As := [.int 59]) (rest := []) (L1_X7_takes N hF) axc7 hL16 wd_783 wd_949 wd_781 wd_782 wd_88 pd_X7_takes rfl (ax_rm (by omega) rfl) ax_hf0 (Nat.le_of_ble_eq_true rfl) rfl dX0_readLine_85) (fun x18 T17 h => ?_)
        exact aw_zret dX0_readLine_88 rfl (Nat.le_refl _) (Nat.le_refl _) h
      · refine aw_aload_n 2 dX0_readLine_46 rfl rfl ?_
        refine aw_iconst 3 dX0_readLine_47 rfl ?_
        refine aw_aload_n 2 dX0_readLine_48 rfl rfl ?_
        refine aw_getI axc7 7 rfl rfl wd_141 dX0_readLine_49 h (fun x19 h => ?_)
        obtain ⟨hL20, h⟩ := ax_is_spec h
        refine aw_doneI (rest := []) h (fun r9 S9 hF => aw_runV (As := [.int 3, .int x19]) (rest := []) (L1_X7_fails N hF) axc7 hL20 wd_760 wd_947 wd_758 wd_759 wd_88 pd_X7_fails rfl (ax_rm (by omega) rfl) ax_hf0 (Nat.le_of_ble_eq_true rfl) rfl dX0_readLine_52) (fun x22 T21 h => ?_)
        exact aw_zret dX0_readLine_55 rfl (Nat.le_refl _) (Nat.le_refl _) h
    · refine aw_aload_n 2 dX0_readLine_27 rfl rfl ?_
      refine aw_iconst 2 dX0_readLine_28 rfl ?_
      refine aw_aload_n 2 dX0_readLine_29 rfl rfl ?_
      refine aw_getI axc7 7 rfl rfl wd_141 dX0_readLine_30 h (fun x23 h => ?_)
      obtain ⟨hL24, h⟩ := ax_is_spec h
      refine aw_doneI (rest := []) h (fun r9 S9 hF => aw_runV (As := [.int 2, .int x23]) (rest := []) (L1_X7_fails N hF) axc7 hL24 wd_760 wd_947 wd_758 wd_759 wd_88 pd_X7_fails rfl (ax_rm (by omega) rfl) ax_hf0 (Nat.le_of_ble_eq_true rfl) rfl dX0_readLine_33) (fun x26 T25 h => ?_)
      exact aw_zret dX0_readLine_36 rfl (Nat.le_refl _) (Nat.le_refl _) h
  · refine aw_iconst 0 dX0_readLine_13 rfl ?_
    exact aw_zret dX0_readLine_14 rfl (Nat.le_refl _) (Nat.le_refl _) h

theorem dX0_readFrom_0 : decode cX0_readFrom 0 = .ok (.aload_n 0, 1) := by decide +kernel
theorem dX0_readFrom_1 : decode cX0_readFrom 1 = .ok (.invokevirtual 19, 3) := by decide +kernel
theorem dX0_readFrom_4 : decode cX0_readFrom 4 = .ok (.iconst 0, 1) := by decide +kernel
theorem dX0_readFrom_5 : decode cX0_readFrom 5 = .ok (.istore_n 2, 1) := by decide +kernel
theorem dX0_readFrom_6 : decode cX0_readFrom 6 = .ok (.iload_n 2, 1) := by decide +kernel
theorem dX0_readFrom_7 : decode cX0_readFrom 7 = .ok (.bipush 100, 2) := by decide +kernel
theorem dX0_readFrom_9 : decode cX0_readFrom 9 = .ok (.if_icmp .ge 27, 3) := by decide +kernel
theorem dX0_readFrom_12 : decode cX0_readFrom 12 = .ok (.aload_n 1, 1) := by decide +kernel
theorem dX0_readFrom_13 : decode cX0_readFrom 13 = .ok (.invokevirtual 22, 3) := by decide +kernel
theorem dX0_readFrom_16 : decode cX0_readFrom 16 = .ok (.iconst (-1), 1) := by decide +kernel
theorem dX0_readFrom_17 : decode cX0_readFrom 17 = .ok (.if_icmp .eq 19, 3) := by decide +kernel
theorem dX0_readFrom_20 : decode cX0_readFrom 20 = .ok (.aload_n 0, 1) := by decide +kernel
theorem dX0_readFrom_21 : decode cX0_readFrom 21 = .ok (.aload_n 1, 1) := by decide +kernel
theorem dX0_readFrom_22 : decode cX0_readFrom 22 = .ok (.invokevirtual 28, 3) := by decide +kernel
theorem dX0_readFrom_25 : decode cX0_readFrom 25 = .ok (.ifCond .ne 5, 3) := by decide +kernel
theorem dX0_readFrom_28 : decode cX0_readFrom 28 = .ok (.iconst 0, 1) := by decide +kernel
theorem dX0_readFrom_29 : decode cX0_readFrom 29 = .ok (.ireturn, 1) := by decide +kernel
theorem dX0_readFrom_30 : decode cX0_readFrom 30 = .ok (.iinc 2 1, 3) := by decide +kernel
theorem dX0_readFrom_33 : decode cX0_readFrom 33 = .ok (.goto (-27), 3) := by decide +kernel
theorem dX0_readFrom_36 : decode cX0_readFrom 36 = .ok (.aload_n 1, 1) := by decide +kernel
theorem dX0_readFrom_37 : decode cX0_readFrom 37 = .ok (.getfield 32, 3) := by decide +kernel
theorem dX0_readFrom_40 : decode cX0_readFrom 40 = .ok (.ifCond .ne 7, 3) := by decide +kernel
theorem dX0_readFrom_43 : decode cX0_readFrom 43 = .ok (.iconst 1, 1) := by decide +kernel
theorem dX0_readFrom_44 : decode cX0_readFrom 44 = .ok (.goto 4, 3) := by decide +kernel
theorem dX0_readFrom_47 : decode cX0_readFrom 47 = .ok (.iconst 0, 1) := by decide +kernel
theorem dX0_readFrom_48 : decode cX0_readFrom 48 = .ok (.ireturn, 1) := by decide +kernel
abbrev mt_X0_readFrom : AxM := (RX0, cX0_readFrom, 3, (some .boolean), false, [])
theorem L1_X0_readFrom_36 {g : AxG} {l : Launch} {r9 : Int32} {S9 : AxS} (N : Nat)  (v1 : Nat) (S : AxS) (h : F_X0_readFrom_36 N  v1 S = some ((r9, S9))) : AW g l (axRm (4) 0 0) mt_X0_readFrom (axMQ g 0 0 (.inl (some (.int r9)), S9)) 0 0 S 36 [(1, .ref v1)] [] := by
  unfold F_X0_readFrom_36 at h
  refine aw_aload_n 0 dX0_readFrom_36 rfl rfl ?_
  refine aw_getI axc7 4 rfl rfl wd_130 dX0_readFrom_37 h (fun x1 h => ?_)
  refine aw_if_ne 47 dX0_readFrom_40 (by decide) h (fun h => ?_) (fun h => ?_)
  · refine aw_iconst 0 dX0_readFrom_47 rfl ?_
    exact aw_zret dX0_readFrom_48 rfl (Nat.le_refl _) (Nat.le_refl _) h
  · refine aw_iconst 1 dX0_readFrom_43 rfl ?_
    refine aw_goto 48 dX0_readFrom_44 (by decide) ?_
    exact aw_zret dX0_readFrom_48 rfl (Nat.le_refl _) (Nat.le_refl _) h
theorem L1_X0_readFrom_6b {g : AxG} {l : Launch} {r9 : Int32} {S9 : AxS} (N : Nat) (K6 : Nat → Nat → Int32 → AxS → Option (Int32 × AxS)) (hK6 : ∀ (v0 : Nat) (v1 : Nat) (v2 : Int32) (S : AxS), K6 v0 v1 v2 S = some ((r9, S9)) → AW g l (axRm (4) 0 0) mt_X0_readFrom (axMQ g 0 0 (.inl (some (.int r9)), S9)) 0 0 S 6 [(0, .ref v0), (1, .ref v1), (2, .int v2)] []) (v0 : Nat) (v1 : Nat) (v2 : Int32) (S : AxS) (h : F_X0_readFrom_6b N K6 v0 v1 v2 S = some ((r9, S9))) : AW g l (axRm (4) 0 0) mt_X0_readFrom (axMQ g 0 0 (.inl (some (.int r9)), S9)) 0 0 S 6 [(0, .ref v0), (1, .ref v1), (2, .int v2)] [] := by
  unfold F_X0_readFrom_6b at h
  refine aw_iload_n 2 dX0_readFrom_6 rfl rfl ?_
  refine aw_bipush 100 dX0_readFrom_7 (by decide) ?_
  refine aw_icmp_ge 36 dX0_readFrom_9 (by decide) h (fun h => ?_) (fun h => ?_)
  · refine aw_env [(1, .ref v1)] [1] rfl ?_
    exact L1_X0_readFrom_36 N  v1 S h
  · refine aw_aload_n 1 dX0_readFrom_12 rfl rfl ?_
    obtain ⟨hL1, h⟩ := ax_is_spec h
    refine aw_doneI (rest := []) h (fun r9 S9 hF => aw_runV (As := []) (rest := []) (L1_X7_sign N hF) axc7 hL1 wd_683 wd_940 wd_681 wd_682 wd_88 pd_X7_sign rfl (ax_rm (by omega) rfl) ax_hf0 (Nat.le_of_ble_eq_true rfl) rfl dX0_readFrom_13) (fun x3 T2 h => ?_)
    refine aw_iconst (-1) dX0_readFrom_16 rfl ?_
    refine aw_icmp_eq 36 dX0_readFrom_17 (by decide) h (fun h => ?_) (fun h => ?_)
    · refine aw_env [(1, .ref v1)] [1] rfl ?_
      exact L1_X0_readFrom_36 N  v1 T2 h
    · refine aw_aload_n 0 dX0_readFrom_20 rfl rfl ?_
      refine aw_aload_n 1 dX0_readFrom_21 rfl rfl ?_
      obtain ⟨hL4, h⟩ := ax_is_spec h
      refine aw_doneI (rest := []) h (fun r9 S9 hF => aw_runV (As := [.ref v1]) (rest := []) (L1_X0_readLine N hF) axc0 hL4 wd_944 wd_941 wd_943 wd_19 wd_91 pd_X0_readLine rfl (ax_rm (by omega) rfl) ax_hf0 (Nat.le_of_ble_eq_true rfl) rfl dX0_readFrom_22) (fun x6 T5 h => ?_)
      refine aw_if_ne 30 dX0_readFrom_25 (by decide) h (fun h => ?_) (fun h => ?_)
      · refine aw_iinc 2 [(2, .int (v2 + 1)), (0, .ref v0), (1, .ref v1)] (v2 + 1) dX0_readFrom_30 rfl rfl rfl rfl ?_
        refine aw_goto 6 dX0_readFrom_33 (by decide) ?_
        refine aw_env [(0, .ref v0), (1, .ref v1), (2, .int (v2 + 1))] [1, 2, 0] rfl ?_
        exact hK6 v0 v1 (v2 + 1) T5 h
      · refine aw_iconst 0 dX0_readFrom_28 rfl ?_
        exact aw_zret dX0_readFrom_29 rfl (Nat.le_refl _) (Nat.le_refl _) h
theorem L1_X0_readFrom_6 {g : AxG} {l : Launch} {r9 : Int32} {S9 : AxS} (N : Nat)  : ∀ (n : Nat) (v0 : Nat) (v1 : Nat) (v2 : Int32) (S : AxS), F_X0_readFrom_6 N  n v0 v1 v2 S = some ((r9, S9)) → AW g l (axRm (4) 0 0) mt_X0_readFrom (axMQ g 0 0 (.inl (some (.int r9)), S9)) 0 0 S 6 [(0, .ref v0), (1, .ref v1), (2, .int v2)] [] := by
  intro n
  induction n with
  | zero => intro v0 v1 v2 S h; cases h
  | succ n ih => intro v0 v1 v2 S h; exact L1_X0_readFrom_6b N (F_X0_readFrom_6 N  n) ih v0 v1 v2 S h
theorem L1_X0_readFrom {g : AxG} {l : Launch} (N : Nat) {v0 : Nat} {v1 : Nat} {S : AxS} {r9 : Int32} {S9 : AxS} (h : F_X0_readFrom N v0 v1 S = some ((r9, S9))) : AxMet g l yX0_readFrom cX0_readFrom 3 (some .boolean) (4) 0 0 [.ref v0, .ref v1] S ((.inl (some (.int r9)), S9)) := by
  refine ax_met (own := RX0) (ini := false) (by decide +kernel) rfl (fun h => nomatch h) rfl ?_
  show AW g l (axRm (4) 0 0) mt_X0_readFrom (axMQ g 0 0 (.inl (some (.int r9)), S9)) 0 0 S 0 [(0, .ref v0), (1, .ref v1)] []
  unfold F_X0_readFrom at h
  refine aw_aload_n 0 dX0_readFrom_0 rfl rfl ?_
  obtain ⟨hL1, h⟩ := ax_is_spec h
  refine aw_doneV (rest := []) h (fun S9 hF => aw_runV (As := []) (rest := []) (L1_X0_clear N hF) axc0 hL1 wd_447 wd_939 wd_445 wd_446 wd_91 pd_X0_clear rfl (ax_rm (by omega) rfl) ax_hf0 (Nat.le_of_ble_eq_true rfl) rfl dX0_readFrom_1) (fun T2 h => ?_)
  refine aw_iconst 0 dX0_readFrom_4 rfl ?_
  refine aw_istore_n 2 [(2, .int 0), (0, .ref v0), (1, .ref v1)] dX0_readFrom_5 rfl rfl rfl ?_
  refine aw_env [(0, .ref v0), (1, .ref v1), (2, .int 0)] [1, 2, 0] rfl ?_
  exact L1_X0_readFrom_6 N  N v0 v1 0 T2 h

theorem dX1_clear_0 : decode cX1_clear 0 = .ok (.aload_n 0, 1) := by decide +kernel
theorem dX1_clear_1 : decode cX1_clear 1 = .ok (.bipush 100, 2) := by decide +kernel
theorem dX1_clear_3 : decode cX1_clear 3 = .ok (.putfield 30, 3) := by decide +kernel
theorem dX1_clear_6 : decode cX1_clear 6 = .ok (.aload_n 0, 1) := by decide +kernel
theorem dX1_clear_7 : decode cX1_clear 7 = .ok (.iconst 5, 1) := by decide +kernel
theorem dX1_clear_8 : decode cX1_clear 8 = .ok (.putfield 34, 3) := by decide +kernel
theorem dX1_clear_11 : decode cX1_clear 11 = .ok (.aload_n 0, 1) := by decide +kernel
theorem dX1_clear_12 : decode cX1_clear 12 = .ok (.iconst 0, 1) := by decide +kernel
theorem dX1_clear_13 : decode cX1_clear 13 = .ok (.putfield 37, 3) := by decide +kernel
theorem dX1_clear_16 : decode cX1_clear 16 = .ok (.aload_n 0, 1) := by decide +kernel
theorem dX1_clear_17 : decode cX1_clear 17 = .ok (.iconst 0, 1) := by decide +kernel
theorem dX1_clear_18 : decode cX1_clear 18 = .ok (.putfield 40, 3) := by decide +kernel
theorem dX1_clear_21 : decode cX1_clear 21 = .ok (.aload_n 0, 1) := by decide +kernel
theorem dX1_clear_22 : decode cX1_clear 22 = .ok (.iconst 0, 1) := by decide +kernel
theorem dX1_clear_23 : decode cX1_clear 23 = .ok (.putfield 43, 3) := by decide +kernel
theorem dX1_clear_26 : decode cX1_clear 26 = .ok (.aload_n 0, 1) := by decide +kernel
theorem dX1_clear_27 : decode cX1_clear 27 = .ok (.iconst 0, 1) := by decide +kernel
theorem dX1_clear_28 : decode cX1_clear 28 = .ok (.putfield 46, 3) := by decide +kernel
theorem dX1_clear_31 : decode cX1_clear 31 = .ok (.aload_n 0, 1) := by decide +kernel
theorem dX1_clear_32 : decode cX1_clear 32 = .ok (.iconst 0, 1) := by decide +kernel
theorem dX1_clear_33 : decode cX1_clear 33 = .ok (.putfield 49, 3) := by decide +kernel
theorem dX1_clear_36 : decode cX1_clear 36 = .ok (.iconst 0, 1) := by decide +kernel
theorem dX1_clear_37 : decode cX1_clear 37 = .ok (.istore_n 1, 1) := by decide +kernel
theorem dX1_clear_38 : decode cX1_clear 38 = .ok (.iload_n 1, 1) := by decide +kernel
theorem dX1_clear_39 : decode cX1_clear 39 = .ok (.aload_n 0, 1) := by decide +kernel
theorem dX1_clear_40 : decode cX1_clear 40 = .ok (.getfield 9, 3) := by decide +kernel
theorem dX1_clear_43 : decode cX1_clear 43 = .ok (.arraylength, 1) := by decide +kernel
theorem dX1_clear_44 : decode cX1_clear 44 = .ok (.if_icmp .ge 16, 3) := by decide +kernel
theorem dX1_clear_47 : decode cX1_clear 47 = .ok (.aload_n 0, 1) := by decide +kernel
theorem dX1_clear_48 : decode cX1_clear 48 = .ok (.getfield 9, 3) := by decide +kernel
theorem dX1_clear_51 : decode cX1_clear 51 = .ok (.iload_n 1, 1) := by decide +kernel
theorem dX1_clear_52 : decode cX1_clear 52 = .ok (.iconst 0, 1) := by decide +kernel
theorem dX1_clear_53 : decode cX1_clear 53 = .ok (.iastore, 1) := by decide +kernel
theorem dX1_clear_54 : decode cX1_clear 54 = .ok (.iinc 1 1, 3) := by decide +kernel
theorem dX1_clear_57 : decode cX1_clear 57 = .ok (.goto (-19), 3) := by decide +kernel
theorem dX1_clear_60 : decode cX1_clear 60 = .ok (.return_, 1) := by decide +kernel
abbrev mt_X1_clear : AxM := (RX1, cX1_clear, 2, none, false, [])
theorem L1_X1_clear_38b {g : AxG} {l : Launch} {S9 : AxS} (N : Nat) (K38 : Nat → Int32 → AxS → Option (AxS)) (hK38 : ∀ (v0 : Nat) (v1 : Int32) (S : AxS), K38 v0 v1 S = some S9 → AW g l (axRm (0) 0 0) mt_X1_clear (axMQ g 0 0 (.inl none, S9)) 0 0 S 38 [(0, .ref v0), (1, .int v1)] []) (v0 : Nat) (v1 : Int32) (S : AxS) (h : F_X1_clear_38b N K38 v0 v1 S = some S9) : AW g l (axRm (0) 0 0) mt_X1_clear (axMQ g 0 0 (.inl none, S9)) 0 0 S 38 [(0, .ref v0), (1, .int v1)] [] := by
  unfold F_X1_clear_38b at h
  refine aw_iload_n 1 dX1_clear_38 rfl rfl ?_
  refine aw_aload_n 0 dX1_clear_39 rfl rfl ?_
  refine aw_getR axc1 7 rfl rfl wd_187 dX1_clear_40 h (fun a1 h => ?_)
  refine aw_alen dX1_clear_43 h (fun x2 h => ?_)
  refine aw_icmp_ge 60 dX1_clear_44 (by decide) h (fun h => ?_) (fun h => ?_)
  · exact aw_vret dX1_clear_60 rfl (Nat.le_refl _) (Nat.le_refl _) h
  · refine aw_aload_n 0 dX1_clear_47 rfl rfl ?_
    refine aw_getR axc1 7 rfl rfl wd_187 dX1_clear_48 h (fun a3 h => ?_)
    refine aw_iload_n 1 dX1_clear_51 rfl rfl ?_
    refine aw_iconst 0 dX1_clear_52 rfl ?_
    refine aw_iast dX1_clear_53 h (fun T4 h => ?_)
    refine aw_iinc 1 [(1, .int (v1 + 1)), (0, .ref v0)] (v1 + 1) dX1_clear_54 rfl rfl rfl rfl ?_
    refine aw_goto 38 dX1_clear_57 (by decide) ?_
    refine aw_env [(0, .ref v0), (1, .int (v1 + 1))] [1, 0] rfl ?_
    exact hK38 v0 (v1 + 1) T4 h
theorem L1_X1_clear_38 {g : AxG} {l : Launch} {S9 : AxS} (N : Nat)  : ∀ (n : Nat) (v0 : Nat) (v1 : Int32) (S : AxS), F_X1_clear_38 N  n v0 v1 S = some S9 → AW g l (axRm (0) 0 0) mt_X1_clear (axMQ g 0 0 (.inl none, S9)) 0 0 S 38 [(0, .ref v0), (1, .int v1)] [] := by
  intro n
  induction n with
  | zero => intro v0 v1 S h; cases h
  | succ n ih => intro v0 v1 S h; exact L1_X1_clear_38b N (F_X1_clear_38 N  n) ih v0 v1 S h
theorem L1_X1_clear {g : AxG} {l : Launch} (N : Nat) {v0 : Nat} {S : AxS} {S9 : AxS} (h : F_X1_clear N v0 S = some S9) : AxMet g l yX1_clear cX1_clear 2 none (0) 0 0 [.ref v0] S ((.inl none, S9)) := by
  refine ax_met (own := RX1) (ini := false) (by decide +kernel) rfl (fun h => nomatch h) rfl ?_
  show AW g l (axRm (0) 0 0) mt_X1_clear (axMQ g 0 0 (.inl none, S9)) 0 0 S 0 [(0, .ref v0)] []
  unfold F_X1_clear at h
  refine aw_aload_n 0 dX1_clear_0 rfl rfl ?_
  refine aw_bipush 100 dX1_clear_1 (by decide) ?_
  refine aw_putI axc1 0 rfl rfl wd_172 rfl rfl rfl dX1_clear_3 h (fun T1 h => ?_)
  refine aw_aload_n 0 dX1_clear_6 rfl rfl ?_
  refine aw_iconst 5 dX1_clear_7 rfl ?_
  refine aw_putI axc1 1 rfl rfl wd_173 rfl rfl rfl dX1_clear_8 h (fun T2 h => ?_)
  refine aw_aload_n 0 dX1_clear_11 rfl rfl ?_
  refine aw_iconst 0 dX1_clear_12 rfl ?_
  refine aw_putI axc1 2 rfl rfl wd_176 rfl rfl rfl dX1_clear_13 h (fun T3 h => ?_)
  refine aw_aload_n 0 dX1_clear_16 rfl rfl ?_
  refine aw_iconst 0 dX1_clear_17 rfl ?_
  refine aw_putI axc1 3 rfl rfl wd_177 rfl rfl rfl dX1_clear_18 h (fun T4 h => ?_)
  refine aw_aload_n 0 dX1_clear_21 rfl rfl ?_
  refine aw_iconst 0 dX1_clear_22 rfl ?_
  refine aw_putI axc1 4 rfl rfl wd_180 rfl rfl rfl dX1_clear_23 h (fun T5 h => ?_)
  refine aw_aload_n 0 dX1_clear_26 rfl rfl ?_
  refine aw_iconst 0 dX1_clear_27 rfl ?_
  refine aw_putI axc1 5 rfl rfl wd_182 rfl rfl rfl dX1_clear_28 h (fun T6 h => ?_)
  refine aw_aload_n 0 dX1_clear_31 rfl rfl ?_
  refine aw_iconst 0 dX1_clear_32 rfl ?_
  refine aw_putI axc1 6 rfl rfl wd_185 rfl rfl rfl dX1_clear_33 h (fun T7 h => ?_)
  refine aw_iconst 0 dX1_clear_36 rfl ?_
  refine aw_istore_n 1 [(1, .int 0), (0, .ref v0)] dX1_clear_37 rfl rfl rfl ?_
  refine aw_env [(0, .ref v0), (1, .int 0)] [1, 0] rfl ?_
  exact L1_X1_clear_38 N  N v0 0 T7 h

theorem dX7_word_0 : decode cX7_word 0 = .ok (.aload_n 0, 1) := by decide +kernel
theorem dX7_word_1 : decode cX7_word 1 = .ok (.invokevirtual 39, 3) := by decide +kernel
theorem dX7_word_4 : decode cX7_word 4 = .ok (.pop, 1) := by decide +kernel
theorem dX7_word_5 : decode cX7_word 5 = .ok (.aload_n 0, 1) := by decide +kernel
theorem dX7_word_6 : decode cX7_word 6 = .ok (.aload_n 0, 1) := by decide +kernel
theorem dX7_word_7 : decode cX7_word 7 = .ok (.getfield 29, 3) := by decide +kernel
theorem dX7_word_10 : decode cX7_word 10 = .ok (.putfield 61, 3) := by decide +kernel
theorem dX7_word_13 : decode cX7_word 13 = .ok (.aload_n 0, 1) := by decide +kernel
theorem dX7_word_14 : decode cX7_word 14 = .ok (.getfield 29, 3) := by decide +kernel
theorem dX7_word_17 : decode cX7_word 17 = .ok (.aload_n 0, 1) := by decide +kernel
theorem dX7_word_18 : decode cX7_word 18 = .ok (.getfield 26, 3) := by decide +kernel
theorem dX7_word_21 : decode cX7_word 21 = .ok (.if_icmp .ge 48, 3) := by decide +kernel
theorem dX7_word_24 : decode cX7_word 24 = .ok (.aload_n 0, 1) := by decide +kernel
theorem dX7_word_25 : decode cX7_word 25 = .ok (.getfield 9, 3) := by decide +kernel
theorem dX7_word_28 : decode cX7_word 28 = .ok (.aload_n 0, 1) := by decide +kernel
theorem dX7_word_29 : decode cX7_word 29 = .ok (.getfield 29, 3) := by decide +kernel
theorem dX7_word_32 : decode cX7_word 32 = .ok (.invokestatic 35, 3) := by decide +kernel
theorem dX7_word_35 : decode cX7_word 35 = .ok (.bipush 97, 2) := by decide +kernel
theorem dX7_word_37 : decode cX7_word 37 = .ok (.if_icmp .lt 32, 3) := by decide +kernel
theorem dX7_word_40 : decode cX7_word 40 = .ok (.aload_n 0, 1) := by decide +kernel
theorem dX7_word_41 : decode cX7_word 41 = .ok (.getfield 9, 3) := by decide +kernel
theorem dX7_word_44 : decode cX7_word 44 = .ok (.aload_n 0, 1) := by decide +kernel
theorem dX7_word_45 : decode cX7_word 45 = .ok (.getfield 29, 3) := by decide +kernel
theorem dX7_word_48 : decode cX7_word 48 = .ok (.invokestatic 35, 3) := by decide +kernel
theorem dX7_word_51 : decode cX7_word 51 = .ok (.bipush 122, 2) := by decide +kernel
theorem dX7_word_53 : decode cX7_word 53 = .ok (.if_icmp .gt 16, 3) := by decide +kernel
theorem dX7_word_56 : decode cX7_word 56 = .ok (.aload_n 0, 1) := by decide +kernel
theorem dX7_word_57 : decode cX7_word 57 = .ok (.dup, 1) := by decide +kernel
theorem dX7_word_58 : decode cX7_word 58 = .ok (.getfield 29, 3) := by decide +kernel
theorem dX7_word_61 : decode cX7_word 61 = .ok (.iconst 1, 1) := by decide +kernel
theorem dX7_word_62 : decode cX7_word 62 = .ok (.iadd, 1) := by decide +kernel
theorem dX7_word_63 : decode cX7_word 63 = .ok (.putfield 29, 3) := by decide +kernel
theorem dX7_word_66 : decode cX7_word 66 = .ok (.goto (-53), 3) := by decide +kernel
theorem dX7_word_69 : decode cX7_word 69 = .ok (.return_, 1) := by decide +kernel
abbrev mt_X7_word : AxM := (RX7, cX7_word, 1, none, false, [])
theorem L1_X7_word_13b {g : AxG} {l : Launch} {S9 : AxS} (N : Nat) (K13 : Nat → AxS → Option (AxS)) (hK13 : ∀ (v0 : Nat) (S : AxS), K13 v0 S = some S9 → AW g l (axRm (2) 0 0) mt_X7_word (axMQ g 0 0 (.inl none, S9)) 0 0 S 13 [(0, .ref v0)] []) (v0 : Nat) (S : AxS) (h : F_X7_word_13b N K13 v0 S = some S9) : AW g l (axRm (2) 0 0) mt_X7_word (axMQ g 0 0 (.inl none, S9)) 0 0 S 13 [(0, .ref v0)] [] := by
  unfold F_X7_word_13b at h
  refine aw_aload_n 0 dX7_word_13 rfl rfl ?_
  refine aw_getI axc7 3 rfl rfl wd_127 dX7_word_14 h (fun x1 h => ?_)
  refine aw_aload_n 0 dX7_word_17 rfl rfl ?_
  refine aw_getI axc7 2 rfl rfl wd_126 dX7_word_18 h (fun x2 h => ?_)
  refine aw_icmp_ge 69 dX7_word_21 (by decide) h (fun h => ?_) (fun h => ?_)
  · exact aw_vret dX7_word_69 rfl (Nat.le_refl _) (Nat.le_refl _) h
  · refine aw_aload_n 0 dX7_word_24 rfl rfl ?_
    refine aw_getR axc7 0 rfl rfl wd_123 dX7_word_25 h (fun a3 h => ?_)
    refine aw_aload_n 0 dX7_word_28 rfl rfl ?_
    refine aw_getI axc7 3 rfl rfl wd_127 dX7_word_29 h (fun x4 h => ?_)
    refine aw_doneI (rest := []) h (fun r9 S9 hF => aw_runSN (As := [.ref a3, .int x4]) (rest := []) (L1_X9_at N hF) wd_541 wd_684 wd_540 wd_87 pd_X9_at.2 rfl (ax_rm (by omega) rfl) ax_hf0 (Nat.le_of_ble_eq_true rfl) rfl dX7_word_32) (fun x6 T5 h => ?_)
    refine aw_bipush 97 dX7_word_35 (by decide) ?_
    refine aw_icmp_lt 69 dX7_word_37 (by decide) h (fun h => ?_) (fun h => ?_)
    · exact aw_vret dX7_word_69 rfl (Nat.le_refl _) (Nat.le_refl _) h
    · refine aw_aload_n 0 dX7_word_40 rfl rfl ?_
      refine aw_getR axc7 0 rfl rfl wd_123 dX7_word_41 h (fun a7 h => ?_)
      refine aw_aload_n 0 dX7_word_44 rfl rfl ?_
      refine aw_getI axc7 3 rfl rfl wd_127 dX7_word_45 h (fun x8 h => ?_)
      refine aw_doneI (rest := []) h (fun r9 S9 hF => aw_runSN (As := [.ref a7, .int x8]) (rest := []) (L1_X9_at N hF) wd_541 wd_684 wd_540 wd_87 pd_X9_at.2 rfl (ax_rm (by omega) rfl) ax_hf0 (Nat.le_of_ble_eq_true rfl) rfl dX7_word_48) (fun x10 T9 h => ?_)
      refine aw_bipush 122 dX7_word_51 (by decide) ?_
      refine aw_icmp_gt 69 dX7_word_53 (by decide) h (fun h => ?_) (fun h => ?_)
      · exact aw_vret dX7_word_69 rfl (Nat.le_refl _) (Nat.le_refl _) h
      · refine aw_aload_n 0 dX7_word_56 rfl rfl ?_
        refine aw_dup rfl dX7_word_57 ?_
        refine aw_getI axc7 3 rfl rfl wd_127 dX7_word_58 h (fun x11 h => ?_)
        refine aw_iconst 1 dX7_word_61 rfl ?_
        refine aw_iadd dX7_word_62 ?_
        refine aw_putI axc7 3 rfl rfl wd_127 rfl rfl rfl dX7_word_63 h (fun T12 h => ?_)
        refine aw_goto 13 dX7_word_66 (by decide) ?_
        refine aw_env [(0, .ref v0)] [0] rfl ?_
        exact hK13 v0 T12 h
theorem L1_X7_word_13 {g : AxG} {l : Launch} {S9 : AxS} (N : Nat)  : ∀ (n : Nat) (v0 : Nat) (S : AxS), F_X7_word_13 N  n v0 S = some S9 → AW g l (axRm (2) 0 0) mt_X7_word (axMQ g 0 0 (.inl none, S9)) 0 0 S 13 [(0, .ref v0)] [] := by
  intro n
  induction n with
  | zero => intro v0 S h; cases h
  | succ n ih => intro v0 S h; exact L1_X7_word_13b N (F_X7_word_13 N  n) ih v0 S h
theorem L1_X7_word {g : AxG} {l : Launch} (N : Nat) {v0 : Nat} {S : AxS} {S9 : AxS} (h : F_X7_word N v0 S = some S9) : AxMet g l yX7_word cX7_word 1 none (2) 0 0 [.ref v0] S ((.inl none, S9)) := by
  refine ax_met (own := RX7) (ini := false) (by decide +kernel) rfl (fun h => nomatch h) rfl ?_
  show AW g l (axRm (2) 0 0) mt_X7_word (axMQ g 0 0 (.inl none, S9)) 0 0 S 0 [(0, .ref v0)] []
  unfold F_X7_word at h
  refine aw_aload_n 0 dX7_word_0 rfl rfl ?_
  obtain ⟨hL1, h⟩ := ax_is_spec h
  refine aw_doneI (rest := []) h (fun r9 S9 hF => aw_runV (As := []) (rest := []) (L1_X7_sign N hF) axc7 hL1 wd_683 wd_693 wd_681 wd_682 wd_88 pd_X7_sign rfl (ax_rm (by omega) rfl) ax_hf0 (Nat.le_of_ble_eq_true rfl) rfl dX7_word_1) (fun x3 T2 h => ?_)
  refine aw_pop rfl dX7_word_4 ?_
  refine aw_aload_n 0 dX7_word_5 rfl rfl ?_
  refine aw_aload_n 0 dX7_word_6 rfl rfl ?_
  refine aw_getI axc7 3 rfl rfl wd_127 dX7_word_7 h (fun x4 h => ?_)
  refine aw_putI axc7 6 rfl rfl wd_140 rfl rfl rfl dX7_word_10 h (fun T5 h => ?_)
  refine aw_env [(0, .ref v0)] [0] rfl ?_
  exact L1_X7_word_13 N  N v0 T5 h

theorem dX7_isWord_0 : decode cX7_isWord 0 = .ok (.aload_n 0, 1) := by decide +kernel
theorem dX7_isWord_1 : decode cX7_isWord 1 = .ok (.getfield 29, 3) := by decide +kernel
theorem dX7_isWord_4 : decode cX7_isWord 4 = .ok (.aload_n 0, 1) := by decide +kernel
theorem dX7_isWord_5 : decode cX7_isWord 5 = .ok (.getfield 61, 3) := by decide +kernel
theorem dX7_isWord_8 : decode cX7_isWord 8 = .ok (.isub, 1) := by decide +kernel
theorem dX7_isWord_9 : decode cX7_isWord 9 = .ok (.aload_n 1, 1) := by decide +kernel
theorem dX7_isWord_10 : decode cX7_isWord 10 = .ok (.invokevirtual 64, 3) := by decide +kernel
theorem dX7_isWord_13 : decode cX7_isWord 13 = .ok (.if_icmp .eq 5, 3) := by decide +kernel
theorem dX7_isWord_16 : decode cX7_isWord 16 = .ok (.iconst 0, 1) := by decide +kernel
theorem dX7_isWord_17 : decode cX7_isWord 17 = .ok (.ireturn, 1) := by decide +kernel
theorem dX7_isWord_18 : decode cX7_isWord 18 = .ok (.iconst 0, 1) := by decide +kernel
theorem dX7_isWord_19 : decode cX7_isWord 19 = .ok (.istore_n 2, 1) := by decide +kernel
theorem dX7_isWord_20 : decode cX7_isWord 20 = .ok (.iload_n 2, 1) := by decide +kernel
theorem dX7_isWord_21 : decode cX7_isWord 21 = .ok (.aload_n 1, 1) := by decide +kernel
theorem dX7_isWord_22 : decode cX7_isWord 22 = .ok (.invokevirtual 64, 3) := by decide +kernel
theorem dX7_isWord_25 : decode cX7_isWord 25 = .ok (.if_icmp .ge 32, 3) := by decide +kernel
theorem dX7_isWord_28 : decode cX7_isWord 28 = .ok (.aload_n 0, 1) := by decide +kernel
theorem dX7_isWord_29 : decode cX7_isWord 29 = .ok (.getfield 9, 3) := by decide +kernel
theorem dX7_isWord_32 : decode cX7_isWord 32 = .ok (.aload_n 0, 1) := by decide +kernel
theorem dX7_isWord_33 : decode cX7_isWord 33 = .ok (.getfield 61, 3) := by decide +kernel
theorem dX7_isWord_36 : decode cX7_isWord 36 = .ok (.iload_n 2, 1) := by decide +kernel
theorem dX7_isWord_37 : decode cX7_isWord 37 = .ok (.iadd, 1) := by decide +kernel
theorem dX7_isWord_38 : decode cX7_isWord 38 = .ok (.invokestatic 35, 3) := by decide +kernel
theorem dX7_isWord_41 : decode cX7_isWord 41 = .ok (.aload_n 1, 1) := by decide +kernel
theorem dX7_isWord_42 : decode cX7_isWord 42 = .ok (.iload_n 2, 1) := by decide +kernel
theorem dX7_isWord_43 : decode cX7_isWord 43 = .ok (.invokevirtual 69, 3) := by decide +kernel
theorem dX7_isWord_46 : decode cX7_isWord 46 = .ok (.if_icmp .eq 5, 3) := by decide +kernel
theorem dX7_isWord_49 : decode cX7_isWord 49 = .ok (.iconst 0, 1) := by decide +kernel
theorem dX7_isWord_50 : decode cX7_isWord 50 = .ok (.ireturn, 1) := by decide +kernel
theorem dX7_isWord_51 : decode cX7_isWord 51 = .ok (.iinc 2 1, 3) := by decide +kernel
theorem dX7_isWord_54 : decode cX7_isWord 54 = .ok (.goto (-34), 3) := by decide +kernel
theorem dX7_isWord_57 : decode cX7_isWord 57 = .ok (.iconst 1, 1) := by decide +kernel
theorem dX7_isWord_58 : decode cX7_isWord 58 = .ok (.ireturn, 1) := by decide +kernel
abbrev mt_X7_isWord : AxM := (RX7, cX7_isWord, 3, (some .boolean), false, [])
theorem L1_X7_isWord_20b {g : AxG} {l : Launch} {r9 : Int32} {S9 : AxS} (N : Nat) (K20 : Nat → Nat → Int32 → AxS → Option (Int32 × AxS)) (hK20 : ∀ (v0 : Nat) (v1 : Nat) (v2 : Int32) (S : AxS), K20 v0 v1 v2 S = some ((r9, S9)) → AW g l (axRm (4) 0 0) mt_X7_isWord (axMQ g 0 0 (.inl (some (.int r9)), S9)) 0 0 S 20 [(0, .ref v0), (1, .ref v1), (2, .int v2)] []) (v0 : Nat) (v1 : Nat) (v2 : Int32) (S : AxS) (h : F_X7_isWord_20b N K20 v0 v1 v2 S = some ((r9, S9))) : AW g l (axRm (4) 0 0) mt_X7_isWord (axMQ g 0 0 (.inl (some (.int r9)), S9)) 0 0 S 20 [(0, .ref v0), (1, .ref v1), (2, .int v2)] [] := by
  unfold F_X7_isWord_20b at h
  refine aw_iload_n 2 dX7_isWord_20 rfl rfl ?_
  refine aw_aload_n 1 dX7_isWord_21 rfl rfl ?_
  refine aw_doneI (rest := [.int v2]) h (fun r9 S9 hF => aw_runT (As := []) (rest := [.int v2]) (L1_J0_length_8abf5 N hF) (Fl_spec hF).choose_spec.1 wd_705 wd_702 wd_703 wd_704 wd_102 pd_J0_length_8abf5 rfl (ax_rm (by omega) rfl) ax_hf0 (Nat.le_of_ble_eq_true rfl) rfl dX7_isWord_22) (fun x2 T1 h => ?_)
  refine aw_icmp_ge 57 dX7_isWord_25 (by decide) h (fun h => ?_) (fun h => ?_)
  · refine aw_iconst 1 dX7_isWord_57 rfl ?_
    exact aw_zret dX7_isWord_58 rfl (Nat.le_refl _) (Nat.le_refl _) h
  · refine aw_aload_n 0 dX7_isWord_28 rfl rfl ?_
    refine aw_getR axc7 0 rfl rfl wd_123 dX7_isWord_29 h (fun a3 h => ?_)
    refine aw_aload_n 0 dX7_isWord_32 rfl rfl ?_
    refine aw_getI axc7 6 rfl rfl wd_140 dX7_isWord_33 h (fun x4 h => ?_)
    refine aw_iload_n 2 dX7_isWord_36 rfl rfl ?_
    refine aw_iadd dX7_isWord_37 ?_
    refine aw_doneI (rest := []) h (fun r9 S9 hF => aw_runSN (As := [.ref a3, .int (x4 + v2)]) (rest := []) (L1_X9_at N hF) wd_541 wd_684 wd_540 wd_87 pd_X9_at.2 rfl (ax_rm (by omega) rfl) ax_hf0 (Nat.le_of_ble_eq_true rfl) rfl dX7_isWord_38) (fun x6 T5 h => ?_)
    refine aw_aload_n 1 dX7_isWord_41 rfl rfl ?_
    refine aw_iload_n 2 dX7_isWord_42 rfl rfl ?_
    refine aw_doneI (rest := [.int x6]) h (fun r9 S9 hF => aw_runT (As := [.int v2]) (rest := [.int x6]) (L1_J0_charAt_5068e N hF) (Fc_spec hF).choose_spec.1 wd_715 wd_712 wd_713 wd_714 wd_102 pd_J0_charAt_5068e rfl (ax_rm (by omega) rfl) ax_hf0 (Nat.le_of_ble_eq_true rfl) rfl dX7_isWord_43) (fun x8 T7 h => ?_)
    refine aw_icmp_eq 51 dX7_isWord_46 (by decide) h (fun h => ?_) (fun h => ?_)
    · refine aw_iinc 2 [(2, .int (v2 + 1)), (0, .ref v0), (1, .ref v1)] (v2 + 1) dX7_isWord_51 rfl rfl rfl rfl ?_
      refine aw_goto 20 dX7_isWord_54 (by decide) ?_
      refine aw_env [(0, .ref v0), (1, .ref v1), (2, .int (v2 + 1))] [1, 2, 0] rfl ?_
      exact hK20 v0 v1 (v2 + 1) T7 h
    · refine aw_iconst 0 dX7_isWord_49 rfl ?_
      exact aw_zret dX7_isWord_50 rfl (Nat.le_refl _) (Nat.le_refl _) h
theorem L1_X7_isWord_20 {g : AxG} {l : Launch} {r9 : Int32} {S9 : AxS} (N : Nat)  : ∀ (n : Nat) (v0 : Nat) (v1 : Nat) (v2 : Int32) (S : AxS), F_X7_isWord_20 N  n v0 v1 v2 S = some ((r9, S9)) → AW g l (axRm (4) 0 0) mt_X7_isWord (axMQ g 0 0 (.inl (some (.int r9)), S9)) 0 0 S 20 [(0, .ref v0), (1, .ref v1), (2, .int v2)] [] := by
  intro n
  induction n with
  | zero => intro v0 v1 v2 S h; cases h
  | succ n ih => intro v0 v1 v2 S h; exact L1_X7_isWord_20b N (F_X7_isWord_20 N  n) ih v0 v1 v2 S h
theorem L1_X7_isWord {g : AxG} {l : Launch} (N : Nat) {v0 : Nat} {v1 : Nat} {S : AxS} {r9 : Int32} {S9 : AxS} (h : F_X7_isWord N v0 v1 S = some ((r9, S9))) : AxMet g l yX7_isWord cX7_isWord 3 (some .boolean) (4) 0 0 [.ref v0, .ref v1] S ((.inl (some (.int r9)), S9)) := by
  refine ax_met (own := RX7) (ini := false) (by decide +kernel) rfl (fun h => nomatch h) rfl ?_
  show AW g l (axRm (4) 0 0) mt_X7_isWord (axMQ g 0 0 (.inl (some (.int r9)), S9)) 0 0 S 0 [(0, .ref v0), (1, .ref v1)] []
  unfold F_X7_isWord at h
  refine aw_aload_n 0 dX7_isWord_0 rfl rfl ?_
  refine aw_getI axc7 3 rfl rfl wd_127 dX7_isWord_1 h (fun x1 h => ?_)
  refine aw_aload_n 0 dX7_isWord_4 rfl rfl ?_
  refine aw_getI axc7 6 rfl rfl wd_140 dX7_isWord_5 h (fun x2 h => ?_)
  refine aw_isub dX7_isWord_8 ?_
  refine aw_aload_n 1 dX7_isWord_9 rfl rfl ?_
  refine aw_doneI (rest := [.int (x1 - x2)]) h (fun r9 S9 hF => aw_runT (As := []) (rest := [.int (x1 - x2)]) (L1_J0_length_8abf5 N hF) (Fl_spec hF).choose_spec.1 wd_705 wd_702 wd_703 wd_704 wd_102 pd_J0_length_8abf5 rfl (ax_rm (by omega) rfl) ax_hf0 (Nat.le_of_ble_eq_true rfl) rfl dX7_isWord_10) (fun x4 T3 h => ?_)
  refine aw_icmp_eq 18 dX7_isWord_13 (by decide) h (fun h => ?_) (fun h => ?_)
  · refine aw_iconst 0 dX7_isWord_18 rfl ?_
    refine aw_istore_n 2 [(2, .int 0), (0, .ref v0), (1, .ref v1)] dX7_isWord_19 rfl rfl rfl ?_
    refine aw_env [(0, .ref v0), (1, .ref v1), (2, .int 0)] [1, 2, 0] rfl ?_
    exact L1_X7_isWord_20 N  N v0 v1 0 T3 h
  · refine aw_iconst 0 dX7_isWord_16 rfl ?_
    exact aw_zret dX7_isWord_17 rfl (Nat.le_refl _) (Nat.le_refl _) h

theorem dX1_clauseKind_0 : decode cX1_clauseKind 0 = .ok (.aload_n 0, 1) := by decide +kernel
theorem dX1_clauseKind_1 : decode cX1_clauseKind 1 = .ok (.ldc 90, 2) := by decide +kernel
theorem dX1_clauseKind_3 : decode cX1_clauseKind 3 = .ok (.invokevirtual 91, 3) := by decide +kernel
theorem dX1_clauseKind_6 : decode cX1_clauseKind 6 = .ok (.ifCond .eq 5, 3) := by decide +kernel
theorem dX1_clauseKind_9 : decode cX1_clauseKind 9 = .ok (.iconst 1, 1) := by decide +kernel
theorem dX1_clauseKind_10 : decode cX1_clauseKind 10 = .ok (.ireturn, 1) := by decide +kernel
theorem dX1_clauseKind_11 : decode cX1_clauseKind 11 = .ok (.aload_n 0, 1) := by decide +kernel
theorem dX1_clauseKind_12 : decode cX1_clauseKind 12 = .ok (.ldc 95, 2) := by decide +kernel
theorem dX1_clauseKind_14 : decode cX1_clauseKind 14 = .ok (.invokevirtual 91, 3) := by decide +kernel
theorem dX1_clauseKind_17 : decode cX1_clauseKind 17 = .ok (.ifCond .eq 5, 3) := by decide +kernel
theorem dX1_clauseKind_20 : decode cX1_clauseKind 20 = .ok (.iconst 2, 1) := by decide +kernel
theorem dX1_clauseKind_21 : decode cX1_clauseKind 21 = .ok (.ireturn, 1) := by decide +kernel
theorem dX1_clauseKind_22 : decode cX1_clauseKind 22 = .ok (.aload_n 0, 1) := by decide +kernel
theorem dX1_clauseKind_23 : decode cX1_clauseKind 23 = .ok (.ldc 96, 2) := by decide +kernel
theorem dX1_clauseKind_25 : decode cX1_clauseKind 25 = .ok (.invokevirtual 91, 3) := by decide +kernel
theorem dX1_clauseKind_28 : decode cX1_clauseKind 28 = .ok (.ifCond .eq 5, 3) := by decide +kernel
theorem dX1_clauseKind_31 : decode cX1_clauseKind 31 = .ok (.iconst 3, 1) := by decide +kernel
theorem dX1_clauseKind_32 : decode cX1_clauseKind 32 = .ok (.ireturn, 1) := by decide +kernel
theorem dX1_clauseKind_33 : decode cX1_clauseKind 33 = .ok (.aload_n 0, 1) := by decide +kernel
theorem dX1_clauseKind_34 : decode cX1_clauseKind 34 = .ok (.ldc 97, 2) := by decide +kernel
theorem dX1_clauseKind_36 : decode cX1_clauseKind 36 = .ok (.invokevirtual 91, 3) := by decide +kernel
theorem dX1_clauseKind_39 : decode cX1_clauseKind 39 = .ok (.ifCond .eq 5, 3) := by decide +kernel
theorem dX1_clauseKind_42 : decode cX1_clauseKind 42 = .ok (.iconst 4, 1) := by decide +kernel
theorem dX1_clauseKind_43 : decode cX1_clauseKind 43 = .ok (.ireturn, 1) := by decide +kernel
theorem dX1_clauseKind_44 : decode cX1_clauseKind 44 = .ok (.aload_n 0, 1) := by decide +kernel
theorem dX1_clauseKind_45 : decode cX1_clauseKind 45 = .ok (.ldc 99, 2) := by decide +kernel
theorem dX1_clauseKind_47 : decode cX1_clauseKind 47 = .ok (.invokevirtual 91, 3) := by decide +kernel
theorem dX1_clauseKind_50 : decode cX1_clauseKind 50 = .ok (.ifCond .eq 5, 3) := by decide +kernel
theorem dX1_clauseKind_53 : decode cX1_clauseKind 53 = .ok (.iconst 5, 1) := by decide +kernel
theorem dX1_clauseKind_54 : decode cX1_clauseKind 54 = .ok (.ireturn, 1) := by decide +kernel
theorem dX1_clauseKind_55 : decode cX1_clauseKind 55 = .ok (.aload_n 0, 1) := by decide +kernel
theorem dX1_clauseKind_56 : decode cX1_clauseKind 56 = .ok (.ldc 101, 2) := by decide +kernel
theorem dX1_clauseKind_58 : decode cX1_clauseKind 58 = .ok (.invokevirtual 91, 3) := by decide +kernel
theorem dX1_clauseKind_61 : decode cX1_clauseKind 61 = .ok (.ifCond .eq 6, 3) := by decide +kernel
theorem dX1_clauseKind_64 : decode cX1_clauseKind 64 = .ok (.bipush 6, 2) := by decide +kernel
theorem dX1_clauseKind_66 : decode cX1_clauseKind 66 = .ok (.ireturn, 1) := by decide +kernel
theorem dX1_clauseKind_67 : decode cX1_clauseKind 67 = .ok (.aload_n 0, 1) := by decide +kernel
theorem dX1_clauseKind_68 : decode cX1_clauseKind 68 = .ok (.ldc 103, 2) := by decide +kernel
theorem dX1_clauseKind_70 : decode cX1_clauseKind 70 = .ok (.invokevirtual 91, 3) := by decide +kernel
theorem dX1_clauseKind_73 : decode cX1_clauseKind 73 = .ok (.ifCond .eq 6, 3) := by decide +kernel
theorem dX1_clauseKind_76 : decode cX1_clauseKind 76 = .ok (.bipush 7, 2) := by decide +kernel
theorem dX1_clauseKind_78 : decode cX1_clauseKind 78 = .ok (.ireturn, 1) := by decide +kernel
theorem dX1_clauseKind_79 : decode cX1_clauseKind 79 = .ok (.aload_n 0, 1) := by decide +kernel
theorem dX1_clauseKind_80 : decode cX1_clauseKind 80 = .ok (.ldc 105, 2) := by decide +kernel
theorem dX1_clauseKind_82 : decode cX1_clauseKind 82 = .ok (.invokevirtual 91, 3) := by decide +kernel
theorem dX1_clauseKind_85 : decode cX1_clauseKind 85 = .ok (.ifCond .eq 8, 3) := by decide +kernel
theorem dX1_clauseKind_88 : decode cX1_clauseKind 88 = .ok (.bipush 8, 2) := by decide +kernel
theorem dX1_clauseKind_90 : decode cX1_clauseKind 90 = .ok (.goto 4, 3) := by decide +kernel
theorem dX1_clauseKind_93 : decode cX1_clauseKind 93 = .ok (.iconst 0, 1) := by decide +kernel
theorem dX1_clauseKind_94 : decode cX1_clauseKind 94 = .ok (.ireturn, 1) := by decide +kernel
abbrev mt_X1_clauseKind : AxM := (RX1, cX1_clauseKind, 1, (some .int), false, [])
theorem L1_X1_clauseKind {g : AxG} {l : Launch} (N : Nat) {v0 : Nat} {S : AxS} {r9 : Int32} {S9 : AxS} (h : F_X1_clauseKind N v0 S = some ((r9, S9))) : AxMet g l yX1_clauseKind cX1_clauseKind 1 (some .int) (5) 0 0 [.ref v0] S ((.inl (some (.int r9)), S9)) := by
  refine ax_met (own := RX1) (ini := false) (by decide +kernel) rfl (fun h => nomatch h) rfl ?_
  show AW g l (axRm (5) 0 0) mt_X1_clauseKind (axMQ g 0 0 (.inl (some (.int r9)), S9)) 0 0 S 0 [(0, .ref v0)] []
  unfold F_X1_clauseKind at h
  refine aw_aload_n 0 dX1_clauseKind_0 rfl rfl ?_
  refine aw_ldcS 1 (i := 90) (tx := "owe") rfl dX1_clauseKind_1 ?_
  obtain ⟨hL1, h⟩ := ax_is_spec h
  refine aw_doneI (rest := []) h (fun r9 S9 hF => aw_runV (As := [.ref (axTx S 1)]) (rest := []) (L1_X7_isWord N hF) axc7 hL1 wd_701 wd_698 wd_699 wd_700 wd_88 pd_X7_isWord rfl (ax_rm (by omega) rfl) ax_hf0 (Nat.le_of_ble_eq_true rfl) rfl dX1_clauseKind_3) (fun x3 T2 h => ?_)
  refine aw_if_eq 11 dX1_clauseKind_6 (by decide) h (fun h => ?_) (fun h => ?_)
  · refine aw_aload_n 0 dX1_clauseKind_11 rfl rfl ?_
    refine aw_ldcS 2 (i := 95) (tx := "rate") rfl dX1_clauseKind_12 ?_
    obtain ⟨hL4, h⟩ := ax_is_spec h
    refine aw_doneI (rest := []) h (fun r9 S9 hF => aw_runV (As := [.ref (axTx T2 2)]) (rest := []) (L1_X7_isWord N hF) axc7 hL4 wd_701 wd_698 wd_699 wd_700 wd_88 pd_X7_isWord rfl (ax_rm (by omega) rfl) ax_hf0 (Nat.le_of_ble_eq_true rfl) rfl dX1_clauseKind_14) (fun x6 T5 h => ?_)
    refine aw_if_eq 22 dX1_clauseKind_17 (by decide) h (fun h => ?_) (fun h => ?_)
    · refine aw_aload_n 0 dX1_clauseKind_22 rfl rfl ?_
      refine aw_ldcS 3 (i := 96) (tx := "chest") rfl dX1_clauseKind_23 ?_
      obtain ⟨hL7, h⟩ := ax_is_spec h
      refine aw_doneI (rest := []) h (fun r9 S9 hF => aw_runV (As := [.ref (axTx T5 3)]) (rest := []) (L1_X7_isWord N hF) axc7 hL7 wd_701 wd_698 wd_699 wd_700 wd_88 pd_X7_isWord rfl (ax_rm (by omega) rfl) ax_hf0 (Nat.le_of_ble_eq_true rfl) rfl dX1_clauseKind_25) (fun x9 T8 h => ?_)
      refine aw_if_eq 33 dX1_clauseKind_28 (by decide) h (fun h => ?_) (fun h => ?_)
      · refine aw_aload_n 0 dX1_clauseKind_33 rfl rfl ?_
        refine aw_ldcS 4 (i := 97) (tx := "harvest") rfl dX1_clauseKind_34 ?_
        obtain ⟨hL10, h⟩ := ax_is_spec h
        refine aw_doneI (rest := []) h (fun r9 S9 hF => aw_runV (As := [.ref (axTx T8 4)]) (rest := []) (L1_X7_isWord N hF) axc7 hL10 wd_701 wd_698 wd_699 wd_700 wd_88 pd_X7_isWord rfl (ax_rm (by omega) rfl) ax_hf0 (Nat.le_of_ble_eq_true rfl) rfl dX1_clauseKind_36) (fun x12 T11 h => ?_)
        refine aw_if_eq 44 dX1_clauseKind_39 (by decide) h (fun h => ?_) (fun h => ?_)
        · refine aw_aload_n 0 dX1_clauseKind_44 rfl rfl ?_
          refine aw_ldcS 5 (i := 99) (tx := "village") rfl dX1_clauseKind_45 ?_
          obtain ⟨hL13, h⟩ := ax_is_spec h
          refine aw_doneI (rest := []) h (fun r9 S9 hF => aw_runV (As := [.ref (axTx T11 5)]) (rest := []) (L1_X7_isWord N hF) axc7 hL13 wd_701 wd_698 wd_699 wd_700 wd_88 pd_X7_isWord rfl (ax_rm (by omega) rfl) ax_hf0 (Nat.le_of_ble_eq_true rfl) rfl dX1_clauseKind_47) (fun x15 T14 h => ?_)
          refine aw_if_eq 55 dX1_clauseKind_50 (by decide) h (fun h => ?_) (fun h => ?_)
          · refine aw_aload_n 0 dX1_clauseKind_55 rfl rfl ?_
            refine aw_ldcS 6 (i := 101) (tx := "cell") rfl dX1_clauseKind_56 ?_
            obtain ⟨hL16, h⟩ := ax_is_spec h
            refine aw_doneI (rest := []) h (fun r9 S9 hF => aw_runV (As := [.ref (axTx T14 6)]) (rest := []) (L1_X7_isWord N hF) axc7 hL16 wd_701 wd_698 wd_699 wd_700 wd_88 pd_X7_isWord rfl (ax_rm (by omega) rfl) ax_hf0 (Nat.le_of_ble_eq_true rfl) rfl dX1_clauseKind_58) (fun x18 T17 h => ?_)
            refine aw_if_eq 67 dX1_clauseKind_61 (by decide) h (fun h => ?_) (fun h => ?_)
            · refine aw_aload_n 0 dX1_clauseKind_67 rfl rfl ?_
              refine aw_ldcS 7 (i := 103) (tx := "monk") rfl dX1_clauseKind_68 ?_
              obtain ⟨hL19, h⟩ := ax_is_spec h
              refine aw_doneI (rest := []) h (fun r9 S9 hF => aw_runV (As := [.ref (axTx T17 7)]) (rest := []) (L1_X7_isWord N hF) axc7 hL19 wd_701 wd_698 wd_699 wd_700 wd_88 pd_X7_isWord rfl (ax_rm (by omega) rfl) ax_hf0 (Nat.le_of_ble_eq_true rfl) rfl dX1_clauseKind_70) (fun x21 T20 h => ?_)
              refine aw_if_eq 79 dX1_clauseKind_73 (by decide) h (fun h => ?_) (fun h => ?_)
              · refine aw_aload_n 0 dX1_clauseKind_79 rfl rfl ?_
                refine aw_ldcS 8 (i := 105) (tx := "heir") rfl dX1_clauseKind_80 ?_
                obtain ⟨hL22, h⟩ := ax_is_spec h
                refine aw_doneI (rest := []) h (fun r9 S9 hF => aw_runV (As := [.ref (axTx T20 8)]) (rest := []) (L1_X7_isWord N hF) axc7 hL22 wd_701 wd_698 wd_699 wd_700 wd_88 pd_X7_isWord rfl (ax_rm (by omega) rfl) ax_hf0 (Nat.le_of_ble_eq_true rfl) rfl dX1_clauseKind_82) (fun x24 T23 h => ?_)
                refine aw_if_eq 93 dX1_clauseKind_85 (by decide) h (fun h => ?_) (fun h => ?_)
                · refine aw_iconst 0 dX1_clauseKind_93 rfl ?_
                  exact aw_iret dX1_clauseKind_94 rfl (Nat.le_refl _) (Nat.le_refl _) h
                · refine aw_bipush 8 dX1_clauseKind_88 (by decide) ?_
                  refine aw_goto 94 dX1_clauseKind_90 (by decide) ?_
                  exact aw_iret dX1_clauseKind_94 rfl (Nat.le_refl _) (Nat.le_refl _) h
              · refine aw_bipush 7 dX1_clauseKind_76 (by decide) ?_
                exact aw_iret dX1_clauseKind_78 rfl (Nat.le_refl _) (Nat.le_refl _) h
            · refine aw_bipush 6 dX1_clauseKind_64 (by decide) ?_
              exact aw_iret dX1_clauseKind_66 rfl (Nat.le_refl _) (Nat.le_refl _) h
          · refine aw_iconst 5 dX1_clauseKind_53 rfl ?_
            exact aw_iret dX1_clauseKind_54 rfl (Nat.le_refl _) (Nat.le_refl _) h
        · refine aw_iconst 4 dX1_clauseKind_42 rfl ?_
          exact aw_iret dX1_clauseKind_43 rfl (Nat.le_refl _) (Nat.le_refl _) h
      · refine aw_iconst 3 dX1_clauseKind_31 rfl ?_
        exact aw_iret dX1_clauseKind_32 rfl (Nat.le_refl _) (Nat.le_refl _) h
    · refine aw_iconst 2 dX1_clauseKind_20 rfl ?_
      exact aw_iret dX1_clauseKind_21 rfl (Nat.le_refl _) (Nat.le_refl _) h
  · refine aw_iconst 1 dX1_clauseKind_9 rfl ?_
    exact aw_iret dX1_clauseKind_10 rfl (Nat.le_refl _) (Nat.le_refl _) h

theorem dX1_isFull_0 : decode cX1_isFull 0 = .ok (.iload_n 1, 1) := by decide +kernel
theorem dX1_isFull_1 : decode cX1_isFull 1 = .ok (.tableswitch 101 5 8 #[31, 46, 61, 87], 31) := by decide +kernel
theorem dX1_isFull_32 : decode cX1_isFull 32 = .ok (.aload_n 0, 1) := by decide +kernel
theorem dX1_isFull_33 : decode cX1_isFull 33 = .ok (.getfield 40, 3) := by decide +kernel
theorem dX1_isFull_36 : decode cX1_isFull 36 = .ok (.bipush 6, 2) := by decide +kernel
theorem dX1_isFull_38 : decode cX1_isFull 38 = .ok (.if_icmp .lt 7, 3) := by decide +kernel
theorem dX1_isFull_41 : decode cX1_isFull 41 = .ok (.iconst 1, 1) := by decide +kernel
theorem dX1_isFull_42 : decode cX1_isFull 42 = .ok (.goto 4, 3) := by decide +kernel
theorem dX1_isFull_45 : decode cX1_isFull 45 = .ok (.iconst 0, 1) := by decide +kernel
theorem dX1_isFull_46 : decode cX1_isFull 46 = .ok (.ireturn, 1) := by decide +kernel
theorem dX1_isFull_47 : decode cX1_isFull 47 = .ok (.aload_n 0, 1) := by decide +kernel
theorem dX1_isFull_48 : decode cX1_isFull 48 = .ok (.getfield 43, 3) := by decide +kernel
theorem dX1_isFull_51 : decode cX1_isFull 51 = .ok (.bipush 8, 2) := by decide +kernel
theorem dX1_isFull_53 : decode cX1_isFull 53 = .ok (.if_icmp .lt 7, 3) := by decide +kernel
theorem dX1_isFull_56 : decode cX1_isFull 56 = .ok (.iconst 1, 1) := by decide +kernel
theorem dX1_isFull_57 : decode cX1_isFull 57 = .ok (.goto 4, 3) := by decide +kernel
theorem dX1_isFull_60 : decode cX1_isFull 60 = .ok (.iconst 0, 1) := by decide +kernel
theorem dX1_isFull_61 : decode cX1_isFull 61 = .ok (.ireturn, 1) := by decide +kernel
theorem dX1_isFull_62 : decode cX1_isFull 62 = .ok (.aload_n 0, 1) := by decide +kernel
theorem dX1_isFull_63 : decode cX1_isFull 63 = .ok (.getfield 46, 3) := by decide +kernel
theorem dX1_isFull_66 : decode cX1_isFull 66 = .ok (.bipush 8, 2) := by decide +kernel
theorem dX1_isFull_68 : decode cX1_isFull 68 = .ok (.if_icmp .ge 14, 3) := by decide +kernel
theorem dX1_isFull_71 : decode cX1_isFull 71 = .ok (.aload_n 0, 1) := by decide +kernel
theorem dX1_isFull_72 : decode cX1_isFull 72 = .ok (.getfield 46, 3) := by decide +kernel
theorem dX1_isFull_75 : decode cX1_isFull 75 = .ok (.aload_n 0, 1) := by decide +kernel
theorem dX1_isFull_76 : decode cX1_isFull 76 = .ok (.getfield 43, 3) := by decide +kernel
theorem dX1_isFull_79 : decode cX1_isFull 79 = .ok (.if_icmp .lt 7, 3) := by decide +kernel
theorem dX1_isFull_82 : decode cX1_isFull 82 = .ok (.iconst 1, 1) := by decide +kernel
theorem dX1_isFull_83 : decode cX1_isFull 83 = .ok (.goto 4, 3) := by decide +kernel
theorem dX1_isFull_86 : decode cX1_isFull 86 = .ok (.iconst 0, 1) := by decide +kernel
theorem dX1_isFull_87 : decode cX1_isFull 87 = .ok (.ireturn, 1) := by decide +kernel
theorem dX1_isFull_88 : decode cX1_isFull 88 = .ok (.aload_n 0, 1) := by decide +kernel
theorem dX1_isFull_89 : decode cX1_isFull 89 = .ok (.getfield 49, 3) := by decide +kernel
theorem dX1_isFull_92 : decode cX1_isFull 92 = .ok (.iconst 4, 1) := by decide +kernel
theorem dX1_isFull_93 : decode cX1_isFull 93 = .ok (.if_icmp .lt 7, 3) := by decide +kernel
theorem dX1_isFull_96 : decode cX1_isFull 96 = .ok (.iconst 1, 1) := by decide +kernel
theorem dX1_isFull_97 : decode cX1_isFull 97 = .ok (.goto 4, 3) := by decide +kernel
theorem dX1_isFull_100 : decode cX1_isFull 100 = .ok (.iconst 0, 1) := by decide +kernel
theorem dX1_isFull_101 : decode cX1_isFull 101 = .ok (.ireturn, 1) := by decide +kernel
theorem dX1_isFull_102 : decode cX1_isFull 102 = .ok (.iconst 0, 1) := by decide +kernel
theorem dX1_isFull_103 : decode cX1_isFull 103 = .ok (.ireturn, 1) := by decide +kernel
abbrev mt_X1_isFull : AxM := (RX1, cX1_isFull, 2, (some .boolean), false, [])
theorem L1_X1_isFull {g : AxG} {l : Launch} (N : Nat) {v0 : Nat} {v1 : Int32} {S : AxS} {r9 : Int32} {S9 : AxS} (h : F_X1_isFull N v0 v1 S = some ((r9, S9))) : AxMet g l yX1_isFull cX1_isFull 2 (some .boolean) (0) 0 0 [.ref v0, .int v1] S ((.inl (some (.int r9)), S9)) := by
  refine ax_met (own := RX1) (ini := false) (by decide +kernel) rfl (fun h => nomatch h) rfl ?_
  show AW g l (axRm (0) 0 0) mt_X1_isFull (axMQ g 0 0 (.inl (some (.int r9)), S9)) 0 0 S 0 [(0, .ref v0), (1, .int v1)] []
  unfold F_X1_isFull at h
  refine aw_iload_n 1 dX1_isFull_0 rfl rfl ?_
  refine aw_case 5 h (fun h => ?_) (fun c2 h => ?_)
  · refine aw_tswIn 32 (off := 31) dX1_isFull_1 (by decide) (by decide) (by decide) (by decide) ?_
    refine aw_aload_n 0 dX1_isFull_32 rfl rfl ?_
    refine aw_getI axc1 3 rfl rfl wd_177 dX1_isFull_33 h (fun x1 h => ?_)
    refine aw_bipush 6 dX1_isFull_36 (by decide) ?_
    refine aw_icmp_lt 45 dX1_isFull_38 (by decide) h (fun h => ?_) (fun h => ?_)
    · refine aw_iconst 0 dX1_isFull_45 rfl ?_
      exact aw_zret dX1_isFull_46 rfl (Nat.le_refl _) (Nat.le_refl _) h
    · refine aw_iconst 1 dX1_isFull_41 rfl ?_
      refine aw_goto 46 dX1_isFull_42 (by decide) ?_
      exact aw_zret dX1_isFull_46 rfl (Nat.le_refl _) (Nat.le_refl _) h
  refine aw_case 6 h (fun h => ?_) (fun c4 h => ?_)
  · refine aw_tswIn 47 (off := 46) dX1_isFull_1 (by decide) (by decide) (by decide) (by decide) ?_
    refine aw_aload_n 0 dX1_isFull_47 rfl rfl ?_
    refine aw_getI axc1 4 rfl rfl wd_180 dX1_isFull_48 h (fun x3 h => ?_)
    refine aw_bipush 8 dX1_isFull_51 (by decide) ?_
    refine aw_icmp_lt 60 dX1_isFull_53 (by decide) h (fun h => ?_) (fun h => ?_)
    · refine aw_iconst 0 dX1_isFull_60 rfl ?_
      exact aw_zret dX1_isFull_61 rfl (Nat.le_refl _) (Nat.le_refl _) h
    · refine aw_iconst 1 dX1_isFull_56 rfl ?_
      refine aw_goto 61 dX1_isFull_57 (by decide) ?_
      exact aw_zret dX1_isFull_61 rfl (Nat.le_refl _) (Nat.le_refl _) h
  refine aw_case 7 h (fun h => ?_) (fun c8 h => ?_)
  · refine aw_tswIn 62 (off := 61) dX1_isFull_1 (by decide) (by decide) (by decide) (by decide) ?_
    refine aw_aload_n 0 dX1_isFull_62 rfl rfl ?_
    refine aw_getI axc1 5 rfl rfl wd_182 dX1_isFull_63 h (fun x5 h => ?_)
    refine aw_bipush 8 dX1_isFull_66 (by decide) ?_
    refine aw_icmp_ge 82 dX1_isFull_68 (by decide) h (fun h => ?_) (fun h => ?_)
    · refine aw_iconst 1 dX1_isFull_82 rfl ?_
      refine aw_goto 87 dX1_isFull_83 (by decide) ?_
      exact aw_zret dX1_isFull_87 rfl (Nat.le_refl _) (Nat.le_refl _) h
    · refine aw_aload_n 0 dX1_isFull_71 rfl rfl ?_
      refine aw_getI axc1 5 rfl rfl wd_182 dX1_isFull_72 h (fun x6 h => ?_)
      refine aw_aload_n 0 dX1_isFull_75 rfl rfl ?_
      refine aw_getI axc1 4 rfl rfl wd_180 dX1_isFull_76 h (fun x7 h => ?_)
      refine aw_icmp_lt 86 dX1_isFull_79 (by decide) h (fun h => ?_) (fun h => ?_)
      · refine aw_iconst 0 dX1_isFull_86 rfl ?_
        exact aw_zret dX1_isFull_87 rfl (Nat.le_refl _) (Nat.le_refl _) h
      · refine aw_iconst 1 dX1_isFull_82 rfl ?_
        refine aw_goto 87 dX1_isFull_83 (by decide) ?_
        exact aw_zret dX1_isFull_87 rfl (Nat.le_refl _) (Nat.le_refl _) h
  refine aw_case 8 h (fun h => ?_) (fun c10 h => ?_)
  · refine aw_tswIn 88 (off := 87) dX1_isFull_1 (by decide) (by decide) (by decide) (by decide) ?_
    refine aw_aload_n 0 dX1_isFull_88 rfl rfl ?_
    refine aw_getI axc1 6 rfl rfl wd_185 dX1_isFull_89 h (fun x9 h => ?_)
    refine aw_iconst 4 dX1_isFull_92 rfl ?_
    refine aw_icmp_lt 100 dX1_isFull_93 (by decide) h (fun h => ?_) (fun h => ?_)
    · refine aw_iconst 0 dX1_isFull_100 rfl ?_
      exact aw_zret dX1_isFull_101 rfl (Nat.le_refl _) (Nat.le_refl _) h
    · refine aw_iconst 1 dX1_isFull_96 rfl ?_
      refine aw_goto 101 dX1_isFull_97 (by decide) ?_
      exact aw_zret dX1_isFull_101 rfl (Nat.le_refl _) (Nat.le_refl _) h
  refine aw_tswOut 102 dX1_isFull_1 (by have q0 := ax_i32ne c2 (v := 5) (i := 5) (by decide); have q1 := ax_i32ne c4 (v := 6) (i := 6) (by decide); have q2 := ax_i32ne c8 (v := 7) (i := 7) (by decide); have q3 := ax_i32ne c10 (v := 8) (i := 8) (by decide); omega) (by decide) ?_
  refine aw_iconst 0 dX1_isFull_102 rfl ?_
  exact aw_zret dX1_isFull_103 rfl (Nat.le_refl _) (Nat.le_refl _) h

theorem dX1_readNumbers_0 : decode cX1_readNumbers 0 = .ok (.iload_n 2, 1) := by decide +kernel
theorem dX1_readNumbers_1 : decode cX1_readNumbers 1 = .ok (.tableswitch 206 1 7 #[43, 58, 72, 87, 113, 144, 175], 43) := by decide +kernel
theorem dX1_readNumbers_44 : decode cX1_readNumbers 44 = .ok (.aload_n 0, 1) := by decide +kernel
theorem dX1_readNumbers_45 : decode cX1_readNumbers 45 = .ok (.aload_n 1, 1) := by decide +kernel
theorem dX1_readNumbers_46 : decode cX1_readNumbers 46 = .ok (.iconst 0, 1) := by decide +kernel
theorem dX1_readNumbers_47 : decode cX1_readNumbers 47 = .ok (.sipush 9999, 3) := by decide +kernel
theorem dX1_readNumbers_50 : decode cX1_readNumbers 50 = .ok (.invokevirtual 107, 3) := by decide +kernel
theorem dX1_readNumbers_53 : decode cX1_readNumbers 53 = .ok (.putfield 30, 3) := by decide +kernel
theorem dX1_readNumbers_56 : decode cX1_readNumbers 56 = .ok (.goto 179, 3) := by decide +kernel
theorem dX1_readNumbers_59 : decode cX1_readNumbers 59 = .ok (.aload_n 0, 1) := by decide +kernel
theorem dX1_readNumbers_60 : decode cX1_readNumbers 60 = .ok (.aload_n 1, 1) := by decide +kernel
theorem dX1_readNumbers_61 : decode cX1_readNumbers 61 = .ok (.iconst 0, 1) := by decide +kernel
theorem dX1_readNumbers_62 : decode cX1_readNumbers 62 = .ok (.bipush 20, 2) := by decide +kernel
theorem dX1_readNumbers_64 : decode cX1_readNumbers 64 = .ok (.invokevirtual 107, 3) := by decide +kernel
theorem dX1_readNumbers_67 : decode cX1_readNumbers 67 = .ok (.putfield 34, 3) := by decide +kernel
theorem dX1_readNumbers_70 : decode cX1_readNumbers 70 = .ok (.goto 165, 3) := by decide +kernel
theorem dX1_readNumbers_73 : decode cX1_readNumbers 73 = .ok (.aload_n 0, 1) := by decide +kernel
theorem dX1_readNumbers_74 : decode cX1_readNumbers 74 = .ok (.aload_n 1, 1) := by decide +kernel
theorem dX1_readNumbers_75 : decode cX1_readNumbers 75 = .ok (.iconst 0, 1) := by decide +kernel
theorem dX1_readNumbers_76 : decode cX1_readNumbers 76 = .ok (.sipush 999, 3) := by decide +kernel
theorem dX1_readNumbers_79 : decode cX1_readNumbers 79 = .ok (.invokevirtual 107, 3) := by decide +kernel
theorem dX1_readNumbers_82 : decode cX1_readNumbers 82 = .ok (.putfield 37, 3) := by decide +kernel
theorem dX1_readNumbers_85 : decode cX1_readNumbers 85 = .ok (.goto 150, 3) := by decide +kernel
theorem dX1_readNumbers_88 : decode cX1_readNumbers 88 = .ok (.aload_n 1, 1) := by decide +kernel
theorem dX1_readNumbers_89 : decode cX1_readNumbers 89 = .ok (.iconst 0, 1) := by decide +kernel
theorem dX1_readNumbers_90 : decode cX1_readNumbers 90 = .ok (.bipush 11, 2) := by decide +kernel
theorem dX1_readNumbers_92 : decode cX1_readNumbers 92 = .ok (.invokevirtual 107, 3) := by decide +kernel
theorem dX1_readNumbers_95 : decode cX1_readNumbers 95 = .ok (.istore_n 3, 1) := by decide +kernel
theorem dX1_readNumbers_96 : decode cX1_readNumbers 96 = .ok (.aload_n 0, 1) := by decide +kernel
theorem dX1_readNumbers_97 : decode cX1_readNumbers 97 = .ok (.getfield 9, 3) := by decide +kernel
theorem dX1_readNumbers_100 : decode cX1_readNumbers 100 = .ok (.iload_n 3, 1) := by decide +kernel
theorem dX1_readNumbers_101 : decode cX1_readNumbers 101 = .ok (.aload_n 1, 1) := by decide +kernel
theorem dX1_readNumbers_102 : decode cX1_readNumbers 102 = .ok (.iconst 0, 1) := by decide +kernel
theorem dX1_readNumbers_103 : decode cX1_readNumbers 103 = .ok (.bipush 99, 2) := by decide +kernel
theorem dX1_readNumbers_105 : decode cX1_readNumbers 105 = .ok (.invokevirtual 107, 3) := by decide +kernel
theorem dX1_readNumbers_108 : decode cX1_readNumbers 108 = .ok (.invokestatic 111, 3) := by decide +kernel
theorem dX1_readNumbers_111 : decode cX1_readNumbers 111 = .ok (.goto 124, 3) := by decide +kernel
theorem dX1_readNumbers_114 : decode cX1_readNumbers 114 = .ok (.aload_n 0, 1) := by decide +kernel
theorem dX1_readNumbers_115 : decode cX1_readNumbers 115 = .ok (.getfield 15, 3) := by decide +kernel
theorem dX1_readNumbers_118 : decode cX1_readNumbers 118 = .ok (.aload_n 0, 1) := by decide +kernel
theorem dX1_readNumbers_119 : decode cX1_readNumbers 119 = .ok (.getfield 40, 3) := by decide +kernel
theorem dX1_readNumbers_122 : decode cX1_readNumbers 122 = .ok (.aload_n 1, 1) := by decide +kernel
theorem dX1_readNumbers_123 : decode cX1_readNumbers 123 = .ok (.iconst 1, 1) := by decide +kernel
theorem dX1_readNumbers_124 : decode cX1_readNumbers 124 = .ok (.bipush 20, 2) := by decide +kernel
theorem dX1_readNumbers_126 : decode cX1_readNumbers 126 = .ok (.invokevirtual 107, 3) := by decide +kernel
theorem dX1_readNumbers_129 : decode cX1_readNumbers 129 = .ok (.invokestatic 111, 3) := by decide +kernel
theorem dX1_readNumbers_132 : decode cX1_readNumbers 132 = .ok (.aload_n 0, 1) := by decide +kernel
theorem dX1_readNumbers_133 : decode cX1_readNumbers 133 = .ok (.dup, 1) := by decide +kernel
theorem dX1_readNumbers_134 : decode cX1_readNumbers 134 = .ok (.getfield 40, 3) := by decide +kernel
theorem dX1_readNumbers_137 : decode cX1_readNumbers 137 = .ok (.iconst 1, 1) := by decide +kernel
theorem dX1_readNumbers_138 : decode cX1_readNumbers 138 = .ok (.iadd, 1) := by decide +kernel
theorem dX1_readNumbers_139 : decode cX1_readNumbers 139 = .ok (.putfield 40, 3) := by decide +kernel
theorem dX1_readNumbers_142 : decode cX1_readNumbers 142 = .ok (.goto 93, 3) := by decide +kernel
theorem dX1_readNumbers_145 : decode cX1_readNumbers 145 = .ok (.aload_n 0, 1) := by decide +kernel
theorem dX1_readNumbers_146 : decode cX1_readNumbers 146 = .ok (.getfield 18, 3) := by decide +kernel
theorem dX1_readNumbers_149 : decode cX1_readNumbers 149 = .ok (.aload_n 0, 1) := by decide +kernel
theorem dX1_readNumbers_150 : decode cX1_readNumbers 150 = .ok (.getfield 43, 3) := by decide +kernel
theorem dX1_readNumbers_153 : decode cX1_readNumbers 153 = .ok (.aload_n 1, 1) := by decide +kernel
theorem dX1_readNumbers_154 : decode cX1_readNumbers 154 = .ok (.iconst 0, 1) := by decide +kernel
theorem dX1_readNumbers_155 : decode cX1_readNumbers 155 = .ok (.bipush 9, 2) := by decide +kernel
theorem dX1_readNumbers_157 : decode cX1_readNumbers 157 = .ok (.invokevirtual 107, 3) := by decide +kernel
theorem dX1_readNumbers_160 : decode cX1_readNumbers 160 = .ok (.invokestatic 111, 3) := by decide +kernel
theorem dX1_readNumbers_163 : decode cX1_readNumbers 163 = .ok (.aload_n 0, 1) := by decide +kernel
theorem dX1_readNumbers_164 : decode cX1_readNumbers 164 = .ok (.dup, 1) := by decide +kernel
theorem dX1_readNumbers_165 : decode cX1_readNumbers 165 = .ok (.getfield 43, 3) := by decide +kernel
theorem dX1_readNumbers_168 : decode cX1_readNumbers 168 = .ok (.iconst 1, 1) := by decide +kernel
theorem dX1_readNumbers_169 : decode cX1_readNumbers 169 = .ok (.iadd, 1) := by decide +kernel
theorem dX1_readNumbers_170 : decode cX1_readNumbers 170 = .ok (.putfield 43, 3) := by decide +kernel
theorem dX1_readNumbers_173 : decode cX1_readNumbers 173 = .ok (.goto 62, 3) := by decide +kernel
theorem dX1_readNumbers_176 : decode cX1_readNumbers 176 = .ok (.aload_n 0, 1) := by decide +kernel
theorem dX1_readNumbers_177 : decode cX1_readNumbers 177 = .ok (.getfield 21, 3) := by decide +kernel
theorem dX1_readNumbers_180 : decode cX1_readNumbers 180 = .ok (.aload_n 0, 1) := by decide +kernel
theorem dX1_readNumbers_181 : decode cX1_readNumbers 181 = .ok (.getfield 46, 3) := by decide +kernel
theorem dX1_readNumbers_184 : decode cX1_readNumbers 184 = .ok (.aload_n 1, 1) := by decide +kernel
theorem dX1_readNumbers_185 : decode cX1_readNumbers 185 = .ok (.iconst 0, 1) := by decide +kernel
theorem dX1_readNumbers_186 : decode cX1_readNumbers 186 = .ok (.bipush 40, 2) := by decide +kernel
theorem dX1_readNumbers_188 : decode cX1_readNumbers 188 = .ok (.invokevirtual 107, 3) := by decide +kernel
theorem dX1_readNumbers_191 : decode cX1_readNumbers 191 = .ok (.invokestatic 111, 3) := by decide +kernel
theorem dX1_readNumbers_194 : decode cX1_readNumbers 194 = .ok (.aload_n 0, 1) := by decide +kernel
theorem dX1_readNumbers_195 : decode cX1_readNumbers 195 = .ok (.dup, 1) := by decide +kernel
theorem dX1_readNumbers_196 : decode cX1_readNumbers 196 = .ok (.getfield 46, 3) := by decide +kernel
theorem dX1_readNumbers_199 : decode cX1_readNumbers 199 = .ok (.iconst 1, 1) := by decide +kernel
theorem dX1_readNumbers_200 : decode cX1_readNumbers 200 = .ok (.iadd, 1) := by decide +kernel
theorem dX1_readNumbers_201 : decode cX1_readNumbers 201 = .ok (.putfield 46, 3) := by decide +kernel
theorem dX1_readNumbers_204 : decode cX1_readNumbers 204 = .ok (.goto 31, 3) := by decide +kernel
theorem dX1_readNumbers_207 : decode cX1_readNumbers 207 = .ok (.aload_n 0, 1) := by decide +kernel
theorem dX1_readNumbers_208 : decode cX1_readNumbers 208 = .ok (.getfield 24, 3) := by decide +kernel
theorem dX1_readNumbers_211 : decode cX1_readNumbers 211 = .ok (.aload_n 0, 1) := by decide +kernel
theorem dX1_readNumbers_212 : decode cX1_readNumbers 212 = .ok (.getfield 49, 3) := by decide +kernel
theorem dX1_readNumbers_215 : decode cX1_readNumbers 215 = .ok (.aload_n 1, 1) := by decide +kernel
theorem dX1_readNumbers_216 : decode cX1_readNumbers 216 = .ok (.iconst 1, 1) := by decide +kernel
theorem dX1_readNumbers_217 : decode cX1_readNumbers 217 = .ok (.bipush 99, 2) := by decide +kernel
theorem dX1_readNumbers_219 : decode cX1_readNumbers 219 = .ok (.invokevirtual 107, 3) := by decide +kernel
theorem dX1_readNumbers_222 : decode cX1_readNumbers 222 = .ok (.invokestatic 111, 3) := by decide +kernel
theorem dX1_readNumbers_225 : decode cX1_readNumbers 225 = .ok (.aload_n 0, 1) := by decide +kernel
theorem dX1_readNumbers_226 : decode cX1_readNumbers 226 = .ok (.dup, 1) := by decide +kernel
theorem dX1_readNumbers_227 : decode cX1_readNumbers 227 = .ok (.getfield 49, 3) := by decide +kernel
theorem dX1_readNumbers_230 : decode cX1_readNumbers 230 = .ok (.iconst 1, 1) := by decide +kernel
theorem dX1_readNumbers_231 : decode cX1_readNumbers 231 = .ok (.iadd, 1) := by decide +kernel
theorem dX1_readNumbers_232 : decode cX1_readNumbers 232 = .ok (.putfield 49, 3) := by decide +kernel
theorem dX1_readNumbers_235 : decode cX1_readNumbers 235 = .ok (.return_, 1) := by decide +kernel
abbrev mt_X1_readNumbers : AxM := (RX1, cX1_readNumbers, 4, none, false, [])
theorem L1_X1_readNumbers {g : AxG} {l : Launch} (N : Nat) {v0 : Nat} {v1 : Nat} {v2 : Int32} {S : AxS} {S9 : AxS} (h : F_X1_readNumbers N v0 v1 v2 S = some S9) : AxMet g l yX1_readNumbers cX1_readNumbers 4 none (3) 0 0 [.ref v0, .ref v1, .int v2] S ((.inl none, S9)) := by
  refine ax_met (own := RX1) (ini := false) (by decide +kernel) rfl (fun h => nomatch h) rfl ?_
  show AW g l (axRm (3) 0 0) mt_X1_readNumbers (axMQ g 0 0 (.inl none, S9)) 0 0 S 0 [(0, .ref v0), (1, .ref v1), (2, .int v2)] []
  unfold F_X1_readNumbers at h
  refine aw_iload_n 2 dX1_readNumbers_0 rfl rfl ?_
  refine aw_case 1 h (fun h => ?_) (fun c5 h => ?_)
  · refine aw_tswIn 44 (off := 43) dX1_readNumbers_1 (by decide) (by decide) (by decide) (by decide) ?_
    refine aw_aload_n 0 dX1_readNumbers_44 rfl rfl ?_
    refine aw_aload_n 1 dX1_readNumbers_45 rfl rfl ?_
    refine aw_iconst 0 dX1_readNumbers_46 rfl ?_
    refine aw_sipush 9999 dX1_readNumbers_47 (by decide) ?_
    obtain ⟨hL1, h⟩ := ax_is_spec h
    refine aw_doneI (rest := [.ref v0]) h (fun r9 S9 hF => aw_runV (As := [.int 0, .int 9999]) (rest := [.ref v0]) (L1_X7_number N hF) axc7 hL1 wd_772 wd_769 wd_770 wd_771 wd_88 pd_X7_number rfl (ax_rm (by omega) rfl) ax_hf0 (Nat.le_of_ble_eq_true rfl) rfl dX1_readNumbers_50) (fun x3 T2 h => ?_)
    refine aw_putI axc1 0 rfl rfl wd_172 rfl rfl rfl dX1_readNumbers_53 h (fun T4 h => ?_)
    refine aw_goto 235 dX1_readNumbers_56 (by decide) ?_
    exact aw_vret dX1_readNumbers_235 rfl (Nat.le_refl _) (Nat.le_refl _) h
  refine aw_case 2 h (fun h => ?_) (fun c10 h => ?_)
  · refine aw_tswIn 59 (off := 58) dX1_readNumbers_1 (by decide) (by decide) (by decide) (by decide) ?_
    refine aw_aload_n 0 dX1_readNumbers_59 rfl rfl ?_
    refine aw_aload_n 1 dX1_readNumbers_60 rfl rfl ?_
    refine aw_iconst 0 dX1_readNumbers_61 rfl ?_
    refine aw_bipush 20 dX1_readNumbers_62 (by decide) ?_
    obtain ⟨hL6, h⟩ := ax_is_spec h
    refine aw_doneI (rest := [.ref v0]) h (fun r9 S9 hF => aw_runV (As := [.int 0, .int 20]) (rest := [.ref v0]) (L1_X7_number N hF) axc7 hL6 wd_772 wd_769 wd_770 wd_771 wd_88 pd_X7_number rfl (ax_rm (by omega) rfl) ax_hf0 (Nat.le_of_ble_eq_true rfl) rfl dX1_readNumbers_64) (fun x8 T7 h => ?_)
    refine aw_putI axc1 1 rfl rfl wd_173 rfl rfl rfl dX1_readNumbers_67 h (fun T9 h => ?_)
    refine aw_goto 235 dX1_readNumbers_70 (by decide) ?_
    exact aw_vret dX1_readNumbers_235 rfl (Nat.le_refl _) (Nat.le_refl _) h
  refine aw_case 3 h (fun h => ?_) (fun c15 h => ?_)
  · refine aw_tswIn 73 (off := 72) dX1_readNumbers_1 (by decide) (by decide) (by decide) (by decide) ?_
    refine aw_aload_n 0 dX1_readNumbers_73 rfl rfl ?_
    refine aw_aload_n 1 dX1_readNumbers_74 rfl rfl ?_
    refine aw_iconst 0 dX1_readNumbers_75 rfl ?_
    refine aw_sipush 999 dX1_readNumbers_76 (by decide) ?_
    obtain ⟨hL11, h⟩ := ax_is_spec h
    refine aw_doneI (rest := [.ref v0]) h (fun r9 S9 hF => aw_runV (As := [.int 0, .int 999]) (rest := [.ref v0]) (L1_X7_number N hF) axc7 hL11 wd_772 wd_769 wd_770 wd_771 wd_88 pd_X7_number rfl (ax_rm (by omega) rfl) ax_hf0 (Nat.le_of_ble_eq_true rfl) rfl dX1_readNumbers_79) (fun x13 T12 h => ?_)
    refine aw_putI axc1 2 rfl rfl wd_176 rfl rfl rfl dX1_readNumbers_82 h (fun T14 h => ?_)
    refine aw_goto 235 dX1_readNumbers_85 (by decide) ?_
    exact aw_vret dX1_readNumbers_235 rfl (Nat.le_refl _) (Nat.le_refl _) h
  refine aw_case 4 h (fun h => ?_) (fun c25 h => ?_)
  · refine aw_tswIn 88 (off := 87) dX1_readNumbers_1 (by decide) (by decide) (by decide) (by decide) ?_
    refine aw_aload_n 1 dX1_readNumbers_88 rfl rfl ?_
    refine aw_iconst 0 dX1_readNumbers_89 rfl ?_
    refine aw_bipush 11 dX1_readNumbers_90 (by decide) ?_
    obtain ⟨hL16, h⟩ := ax_is_spec h
    refine aw_doneI (rest := []) h (fun r9 S9 hF => aw_runV (As := [.int 0, .int 11]) (rest := []) (L1_X7_number N hF) axc7 hL16 wd_772 wd_769 wd_770 wd_771 wd_88 pd_X7_number rfl (ax_rm (by omega) rfl) ax_hf0 (Nat.le_of_ble_eq_true rfl) rfl dX1_readNumbers_92) (fun x18 T17 h => ?_)
    refine aw_istore_n 3 [(3, .int x18), (0, .ref v0), (1, .ref v1), (2, .int v2)] dX1_readNumbers_95 rfl rfl rfl ?_
    refine aw_aload_n 1 dX1_readNumbers_96 rfl rfl ?_
    refine aw_getR axc1 7 rfl rfl wd_187 dX1_readNumbers_97 h (fun a19 h => ?_)
    refine aw_iload_n 0 dX1_readNumbers_100 rfl rfl ?_
    refine aw_aload_n 2 dX1_readNumbers_101 rfl rfl ?_
    refine aw_iconst 0 dX1_readNumbers_102 rfl ?_
    refine aw_bipush 99 dX1_readNumbers_103 (by decide) ?_
    obtain ⟨hL20, h⟩ := ax_is_spec h
    refine aw_doneI (rest := [.int x18, .ref a19]) h (fun r9 S9 hF => aw_runV (As := [.int 0, .int 99]) (rest := [.int x18, .ref a19]) (L1_X7_number N hF) axc7 hL20 wd_772 wd_769 wd_770 wd_771 wd_88 pd_X7_number rfl (ax_rm (by omega) rfl) ax_hf0 (Nat.le_of_ble_eq_true rfl) rfl dX1_readNumbers_105) (fun x22 T21 h => ?_)
    refine aw_doneV (rest := []) h (fun S9 hF => aw_runSN (As := [.ref a19, .int x18, .int x22]) (rest := []) (L1_X9_put N hF) wd_443 wd_779 wd_442 wd_87 pd_X9_put.2 rfl (ax_rm (by omega) rfl) ax_hf0 (Nat.le_of_ble_eq_true rfl) rfl dX1_readNumbers_108) (fun T23 h => ?_)
    refine aw_goto 235 dX1_readNumbers_111 (by decide) ?_
    exact aw_vret dX1_readNumbers_235 rfl (Nat.le_refl _) (Nat.le_refl _) h
  refine aw_case 5 h (fun h => ?_) (fun c35 h => ?_)
  · refine aw_tswIn 114 (off := 113) dX1_readNumbers_1 (by decide) (by decide) (by decide) (by decide) ?_
    refine aw_aload_n 0 dX1_readNumbers_114 rfl rfl ?_
    refine aw_getR axc1 8 rfl rfl wd_189 dX1_readNumbers_115 h (fun a26 h => ?_)
    refine aw_aload_n 0 dX1_readNumbers_118 rfl rfl ?_
    refine aw_getI axc1 3 rfl rfl wd_177 dX1_readNumbers_119 h (fun x27 h => ?_)
    refine aw_aload_n 1 dX1_readNumbers_122 rfl rfl ?_
    refine aw_iconst 1 dX1_readNumbers_123 rfl ?_
    refine aw_bipush 20 dX1_readNumbers_124 (by decide) ?_
    obtain ⟨hL28, h⟩ := ax_is_spec h
    refine aw_doneI (rest := [.int x27, .ref a26]) h (fun r9 S9 hF => aw_runV (As := [.int 1, .int 20]) (rest := [.int x27, .ref a26]) (L1_X7_number N hF) axc7 hL28 wd_772 wd_769 wd_770 wd_771 wd_88 pd_X7_number rfl (ax_rm (by omega) rfl) ax_hf0 (Nat.le_of_ble_eq_true rfl) rfl dX1_readNumbers_126) (fun x30 T29 h => ?_)
    refine aw_doneV (rest := []) h (fun S9 hF => aw_runSN (As := [.ref a26, .int x27, .int x30]) (rest := []) (L1_X9_put N hF) wd_443 wd_779 wd_442 wd_87 pd_X9_put.2 rfl (ax_rm (by omega) rfl) ax_hf0 (Nat.le_of_ble_eq_true rfl) rfl dX1_readNumbers_129) (fun T31 h => ?_)
    refine aw_aload_n 0 dX1_readNumbers_132 rfl rfl ?_
    refine aw_dup rfl dX1_readNumbers_133 ?_
    refine aw_getI axc1 3 rfl rfl wd_177 dX1_readNumbers_134 h (fun x33 h => ?_)
    refine aw_iconst 1 dX1_readNumbers_137 rfl ?_
    refine aw_iadd dX1_readNumbers_138 ?_
    refine aw_putI axc1 3 rfl rfl wd_177 rfl rfl rfl dX1_readNumbers_139 h (fun T34 h => ?_)
    refine aw_goto 235 dX1_readNumbers_142 (by decide) ?_
    exact aw_vret dX1_readNumbers_235 rfl (Nat.le_refl _) (Nat.le_refl _) h
  refine aw_case 6 h (fun h => ?_) (fun c45 h => ?_)
  · refine aw_tswIn 145 (off := 144) dX1_readNumbers_1 (by decide) (by decide) (by decide) (by decide) ?_
    refine aw_aload_n 0 dX1_readNumbers_145 rfl rfl ?_
    refine aw_getR axc1 9 rfl rfl wd_191 dX1_readNumbers_146 h (fun a36 h => ?_)
    refine aw_aload_n 0 dX1_readNumbers_149 rfl rfl ?_
    refine aw_getI axc1 4 rfl rfl wd_180 dX1_readNumbers_150 h (fun x37 h => ?_)
    refine aw_aload_n 1 dX1_readNumbers_153 rfl rfl ?_
    refine aw_iconst 0 dX1_readNumbers_154 rfl ?_
    refine aw_bipush 9 dX1_readNumbers_155 (by decide) ?_
    obtain ⟨hL38, h⟩ := ax_is_spec h
    refine aw_doneI (rest := [.int x37, .ref a36]) h (fun r9 S9 hF => aw_runV (As := [.int 0, .int 9]) (rest := [.int x37, .ref a36]) (L1_X7_number N hF) axc7 hL38 wd_772 wd_769 wd_770 wd_771 wd_88 pd_X7_number rfl (ax_rm (by omega) rfl) ax_hf0 (Nat.le_of_ble_eq_true rfl) rfl dX1_readNumbers_157) (fun x40 T39 h => ?_)
    refine aw_doneV (rest := []) h (fun S9 hF => aw_runSN (As := [.ref a36, .int x37, .int x40]) (rest := []) (L1_X9_put N hF) wd_443 wd_779 wd_442 wd_87 pd_X9_put.2 rfl (ax_rm (by omega) rfl) ax_hf0 (Nat.le_of_ble_eq_true rfl) rfl dX1_readNumbers_160) (fun T41 h => ?_)
    refine aw_aload_n 0 dX1_readNumbers_163 rfl rfl ?_
    refine aw_dup rfl dX1_readNumbers_164 ?_
    refine aw_getI axc1 4 rfl rfl wd_180 dX1_readNumbers_165 h (fun x43 h => ?_)
    refine aw_iconst 1 dX1_readNumbers_168 rfl ?_
    refine aw_iadd dX1_readNumbers_169 ?_
    refine aw_putI axc1 4 rfl rfl wd_180 rfl rfl rfl dX1_readNumbers_170 h (fun T44 h => ?_)
    refine aw_goto 235 dX1_readNumbers_173 (by decide) ?_
    exact aw_vret dX1_readNumbers_235 rfl (Nat.le_refl _) (Nat.le_refl _) h
  refine aw_case 7 h (fun h => ?_) (fun c55 h => ?_)
  · refine aw_tswIn 176 (off := 175) dX1_readNumbers_1 (by decide) (by decide) (by decide) (by decide) ?_
    refine aw_aload_n 0 dX1_readNumbers_176 rfl rfl ?_
    refine aw_getR axc1 10 rfl rfl wd_193 dX1_readNumbers_177 h (fun a46 h => ?_)
    refine aw_aload_n 0 dX1_readNumbers_180 rfl rfl ?_
    refine aw_getI axc1 5 rfl rfl wd_182 dX1_readNumbers_181 h (fun x47 h => ?_)
    refine aw_aload_n 1 dX1_readNumbers_184 rfl rfl ?_
    refine aw_iconst 0 dX1_readNumbers_185 rfl ?_
    refine aw_bipush 40 dX1_readNumbers_186 (by decide) ?_
    obtain ⟨hL48, h⟩ := ax_is_spec h
    refine aw_doneI (rest := [.int x47, .ref a46]) h (fun r9 S9 hF => aw_runV (As := [.int 0, .int 40]) (rest := [.int x47, .ref a46]) (L1_X7_number N hF) axc7 hL48 wd_772 wd_769 wd_770 wd_771 wd_88 pd_X7_number rfl (ax_rm (by omega) rfl) ax_hf0 (Nat.le_of_ble_eq_true rfl) rfl dX1_readNumbers_188) (fun x50 T49 h => ?_)
    refine aw_doneV (rest := []) h (fun S9 hF => aw_runSN (As := [.ref a46, .int x47, .int x50]) (rest := []) (L1_X9_put N hF) wd_443 wd_779 wd_442 wd_87 pd_X9_put.2 rfl (ax_rm (by omega) rfl) ax_hf0 (Nat.le_of_ble_eq_true rfl) rfl dX1_readNumbers_191) (fun T51 h => ?_)
    refine aw_aload_n 0 dX1_readNumbers_194 rfl rfl ?_
    refine aw_dup rfl dX1_readNumbers_195 ?_
    refine aw_getI axc1 5 rfl rfl wd_182 dX1_readNumbers_196 h (fun x53 h => ?_)
    refine aw_iconst 1 dX1_readNumbers_199 rfl ?_
    refine aw_iadd dX1_readNumbers_200 ?_
    refine aw_putI axc1 5 rfl rfl wd_182 rfl rfl rfl dX1_readNumbers_201 h (fun T54 h => ?_)
    refine aw_goto 235 dX1_readNumbers_204 (by decide) ?_
    exact aw_vret dX1_readNumbers_235 rfl (Nat.le_refl _) (Nat.le_refl _) h
  refine aw_tswOut 207 dX1_readNumbers_1 (by have q0 := ax_i32ne c5 (v := 1) (i := 1) (by decide); have q1 := ax_i32ne c10 (v := 2) (i := 2) (by decide); have q2 := ax_i32ne c15 (v := 3) (i := 3) (by decide); have q3 := ax_i32ne c25 (v := 4) (i := 4) (by decide); have q4 := ax_i32ne c35 (v := 5) (i := 5) (by decide); have q5 := ax_i32ne c45 (v := 6) (i := 6) (by decide); have q6 := ax_i32ne c55 (v := 7) (i := 7) (by decide); omega) (by decide) ?_
  refine aw_aload_n 0 dX1_readNumbers_207 rfl rfl ?_
  refine aw_getR axc1 11 rfl rfl wd_195 dX1_readNumbers_208 h (fun a56 h => ?_)
  refine aw_aload_n 0 dX1_readNumbers_211 rfl rfl ?_
  refine aw_getI axc1 6 rfl rfl wd_185 dX1_readNumbers_212 h (fun x57 h => ?_)
  refine aw_aload_n 1 dX1_readNumbers_215 rfl rfl ?_
  refine aw_iconst 1 dX1_readNumbers_216 rfl ?_
  refine aw_bipush 99 dX1_readNumbers_217 (by decide) ?_
  obtain ⟨hL58, h⟩ := ax_is_spec h
  refine aw_doneI (rest := [.int x57, .ref a56]) h (fun r9 S9 hF => aw_runV (As := [.int 1, .int 99]) (rest := [.int x57, .ref a56]) (L1_X7_number N hF) axc7 hL58 wd_772 wd_769 wd_770 wd_771 wd_88 pd_X7_number rfl (ax_rm (by omega) rfl) ax_hf0 (Nat.le_of_ble_eq_true rfl) rfl dX1_readNumbers_219) (fun x60 T59 h => ?_)
  refine aw_doneV (rest := []) h (fun S9 hF => aw_runSN (As := [.ref a56, .int x57, .int x60]) (rest := []) (L1_X9_put N hF) wd_443 wd_779 wd_442 wd_87 pd_X9_put.2 rfl (ax_rm (by omega) rfl) ax_hf0 (Nat.le_of_ble_eq_true rfl) rfl dX1_readNumbers_222) (fun T61 h => ?_)
  refine aw_aload_n 0 dX1_readNumbers_225 rfl rfl ?_
  refine aw_dup rfl dX1_readNumbers_226 ?_
  refine aw_getI axc1 6 rfl rfl wd_185 dX1_readNumbers_227 h (fun x63 h => ?_)
  refine aw_iconst 1 dX1_readNumbers_230 rfl ?_
  refine aw_iadd dX1_readNumbers_231 ?_
  refine aw_putI axc1 6 rfl rfl wd_185 rfl rfl rfl dX1_readNumbers_232 h (fun T64 h => ?_)
  exact aw_vret dX1_readNumbers_235 rfl (Nat.le_refl _) (Nat.le_refl _) h

theorem dX1_readClause_0 : decode cX1_readClause 0 = .ok (.aload_n 1, 1) := by decide +kernel
theorem dX1_readClause_1 : decode cX1_readClause 1 = .ok (.invokevirtual 65, 3) := by decide +kernel
theorem dX1_readClause_4 : decode cX1_readClause 4 = .ok (.aload_n 1, 1) := by decide +kernel
theorem dX1_readClause_5 : decode cX1_readClause 5 = .ok (.invokestatic 68, 3) := by decide +kernel
theorem dX1_readClause_8 : decode cX1_readClause 8 = .ok (.istore_n 3, 1) := by decide +kernel
theorem dX1_readClause_9 : decode cX1_readClause 9 = .ok (.iload_n 3, 1) := by decide +kernel
theorem dX1_readClause_10 : decode cX1_readClause 10 = .ok (.ifCond .ne 13, 3) := by decide +kernel
theorem dX1_readClause_13 : decode cX1_readClause 13 = .ok (.aload_n 1, 1) := by decide +kernel
theorem dX1_readClause_14 : decode cX1_readClause 14 = .ok (.iconst 1, 1) := by decide +kernel
theorem dX1_readClause_15 : decode cX1_readClause 15 = .ok (.aload_n 1, 1) := by decide +kernel
theorem dX1_readClause_16 : decode cX1_readClause 16 = .ok (.getfield 72, 3) := by decide +kernel
theorem dX1_readClause_19 : decode cX1_readClause 19 = .ok (.invokevirtual 75, 3) := by decide +kernel
theorem dX1_readClause_22 : decode cX1_readClause 22 = .ok (.ireturn, 1) := by decide +kernel
theorem dX1_readClause_23 : decode cX1_readClause 23 = .ok (.iload_n 2, 1) := by decide +kernel
theorem dX1_readClause_24 : decode cX1_readClause 24 = .ok (.ifCond .ne 11, 3) := by decide +kernel
theorem dX1_readClause_27 : decode cX1_readClause 27 = .ok (.aload_n 0, 1) := by decide +kernel
theorem dX1_readClause_28 : decode cX1_readClause 28 = .ok (.iload_n 3, 1) := by decide +kernel
theorem dX1_readClause_29 : decode cX1_readClause 29 = .ok (.invokevirtual 79, 3) := by decide +kernel
theorem dX1_readClause_32 : decode cX1_readClause 32 = .ok (.ifCond .eq 13, 3) := by decide +kernel
theorem dX1_readClause_35 : decode cX1_readClause 35 = .ok (.aload_n 1, 1) := by decide +kernel
theorem dX1_readClause_36 : decode cX1_readClause 36 = .ok (.iconst 3, 1) := by decide +kernel
theorem dX1_readClause_37 : decode cX1_readClause 37 = .ok (.aload_n 1, 1) := by decide +kernel
theorem dX1_readClause_38 : decode cX1_readClause 38 = .ok (.getfield 72, 3) := by decide +kernel
theorem dX1_readClause_41 : decode cX1_readClause 41 = .ok (.invokevirtual 75, 3) := by decide +kernel
theorem dX1_readClause_44 : decode cX1_readClause 44 = .ok (.ireturn, 1) := by decide +kernel
theorem dX1_readClause_45 : decode cX1_readClause 45 = .ok (.aload_n 0, 1) := by decide +kernel
theorem dX1_readClause_46 : decode cX1_readClause 46 = .ok (.aload_n 1, 1) := by decide +kernel
theorem dX1_readClause_47 : decode cX1_readClause 47 = .ok (.iload_n 3, 1) := by decide +kernel
theorem dX1_readClause_48 : decode cX1_readClause 48 = .ok (.invokevirtual 83, 3) := by decide +kernel
theorem dX1_readClause_51 : decode cX1_readClause 51 = .ok (.aload_n 1, 1) := by decide +kernel
theorem dX1_readClause_52 : decode cX1_readClause 52 = .ok (.bipush 59, 2) := by decide +kernel
theorem dX1_readClause_54 : decode cX1_readClause 54 = .ok (.invokevirtual 87, 3) := by decide +kernel
theorem dX1_readClause_57 : decode cX1_readClause 57 = .ok (.ireturn, 1) := by decide +kernel
abbrev mt_X1_readClause : AxM := (RX1, cX1_readClause, 4, (some .boolean), false, [])
theorem L1_X1_readClause_35 {g : AxG} {l : Launch} {r9 : Int32} {S9 : AxS} (N : Nat)  (v1 : Nat) (S : AxS) (h : F_X1_readClause_35 N  v1 S = some ((r9, S9))) : AW g l (axRm (6) 0 0) mt_X1_readClause (axMQ g 0 0 (.inl (some (.int r9)), S9)) 0 0 S 35 [(1, .ref v1)] [] := by
  unfold F_X1_readClause_35 at h
  refine aw_aload_n 0 dX1_readClause_35 rfl rfl ?_
  refine aw_iconst 3 dX1_readClause_36 rfl ?_
  refine aw_aload_n 0 dX1_readClause_37 rfl rfl ?_
  refine aw_getI axc7 6 rfl rfl wd_137 dX1_readClause_38 h (fun x1 h => ?_)
  obtain ⟨hL2, h⟩ := ax_is_spec h
  refine aw_doneI (rest := []) h (fun r9 S9 hF => aw_runV (As := [.int 3, .int x1]) (rest := []) (L1_X7_fails N hF) axc7 hL2 wd_760 wd_757 wd_758 wd_759 wd_88 pd_X7_fails rfl (ax_rm (by omega) rfl) ax_hf0 (Nat.le_of_ble_eq_true rfl) rfl dX1_readClause_41) (fun x4 T3 h => ?_)
  exact aw_zret dX1_readClause_44 rfl (Nat.le_refl _) (Nat.le_refl _) h
theorem L1_X1_readClause {g : AxG} {l : Launch} (N : Nat) {v0 : Nat} {v1 : Nat} {v2 : Int32} {S : AxS} {r9 : Int32} {S9 : AxS} (h : F_X1_readClause N v0 v1 v2 S = some ((r9, S9))) : AxMet g l yX1_readClause cX1_readClause 4 (some .boolean) (6) 0 0 [.ref v0, .ref v1, .int v2] S ((.inl (some (.int r9)), S9)) := by
  refine ax_met (own := RX1) (ini := false) (by decide +kernel) rfl (fun h => nomatch h) rfl ?_
  show AW g l (axRm (6) 0 0) mt_X1_readClause (axMQ g 0 0 (.inl (some (.int r9)), S9)) 0 0 S 0 [(0, .ref v0), (1, .ref v1), (2, .int v2)] []
  unfold F_X1_readClause at h
  refine aw_aload_n 1 dX1_readClause_0 rfl rfl ?_
  obtain ⟨hL1, h⟩ := ax_is_spec h
  refine aw_doneV (rest := []) h (fun S9 hF => aw_runV (As := []) (rest := []) (L1_X7_word N hF) axc7 hL1 wd_692 wd_689 wd_690 wd_691 wd_88 pd_X7_word rfl (ax_rm (by omega) rfl) ax_hf0 (Nat.le_of_ble_eq_true rfl) rfl dX1_readClause_1) (fun T2 h => ?_)
  refine aw_aload_n 1 dX1_readClause_4 rfl rfl ?_
  refine aw_doneI (rest := []) h (fun r9 S9 hF => aw_runS (As := [.ref v1]) (rest := []) (L1_X1_clauseKind N hF) wd_696 wd_694 wd_695 wd_89 pd_X1_clauseKind.2 rfl (ax_rm (by omega) rfl) ax_hf0 (Nat.le_of_ble_eq_true rfl) rfl dX1_readClause_5) (fun x5 T4 h => ?_)
  refine aw_istore_n 3 [(3, .int x5), (0, .ref v0), (1, .ref v1), (2, .int v2)] dX1_readClause_8 rfl rfl rfl ?_
  refine aw_iload_n 0 dX1_readClause_9 rfl rfl ?_
  refine aw_if_ne 23 dX1_readClause_10 (by decide) h (fun h => ?_) (fun h => ?_)
  · refine aw_iload_n 3 dX1_readClause_23 rfl rfl ?_
    refine aw_if_ne 35 dX1_readClause_24 (by decide) h (fun h => ?_) (fun h => ?_)
    · refine aw_env [(1, .ref v1)] [2] rfl ?_
      exact L1_X1_readClause_35 N  v1 T4 h
    · refine aw_aload_n 1 dX1_readClause_27 rfl rfl ?_
      refine aw_iload_n 0 dX1_readClause_28 rfl rfl ?_
      obtain ⟨hL6, h⟩ := ax_is_spec h
      refine aw_doneI (rest := []) h (fun r9 S9 hF => aw_runV (As := [.int x5]) (rest := []) (L1_X1_isFull N hF) axc1 hL6 wd_764 wd_761 wd_763 wd_6 wd_89 pd_X1_isFull rfl (ax_rm (by omega) rfl) ax_hf0 (Nat.le_of_ble_eq_true rfl) rfl dX1_readClause_29) (fun x8 T7 h => ?_)
      refine aw_if_eq 45 dX1_readClause_32 (by decide) h (fun h => ?_) (fun h => ?_)
      · refine aw_aload_n 1 dX1_readClause_45 rfl rfl ?_
        refine aw_aload_n 2 dX1_readClause_46 rfl rfl ?_
        refine aw_iload_n 0 dX1_readClause_47 rfl rfl ?_
        obtain ⟨hL9, h⟩ := ax_is_spec h
        refine aw_doneV (rest := []) h (fun S9 hF => aw_runV (As := [.ref v1, .int x5]) (rest := []) (L1_X1_readNumbers N hF) axc1 hL9 wd_768 wd_765 wd_767 wd_7 wd_89 pd_X1_readNumbers rfl (ax_rm (by omega) rfl) ax_hf0 (Nat.le_of_ble_eq_true rfl) rfl dX1_readClause_48) (fun T10 h => ?_)
        refine aw_aload_n 2 dX1_readClause_51 rfl rfl ?_
        refine aw_bipush 59 dX1_readClause_52 (by decide) ?_
        obtain ⟨hL12, h⟩ := ax_is_spec h
        refine aw_doneI (rest := []) h (fun r9 S9 hF => aw_runV (As := [.int 59]) (rest := []) (L1_X7_takes N hF) axc7 hL12 wd_783 wd_780 wd_781 wd_782 wd_88 pd_X7_takes rfl (ax_rm (by omega) rfl) ax_hf0 (Nat.le_of_ble_eq_true rfl) rfl dX1_readClause_54) (fun x14 T13 h => ?_)
        exact aw_zret dX1_readClause_57 rfl (Nat.le_refl _) (Nat.le_refl _) h
      · refine aw_env [(1, .ref v1)] [2] rfl ?_
        exact L1_X1_readClause_35 N  v1 T7 h
  · refine aw_aload_n 2 dX1_readClause_13 rfl rfl ?_
    refine aw_iconst 1 dX1_readClause_14 rfl ?_
    refine aw_aload_n 2 dX1_readClause_15 rfl rfl ?_
    refine aw_getI axc7 6 rfl rfl wd_137 dX1_readClause_16 h (fun x15 h => ?_)
    obtain ⟨hL16, h⟩ := ax_is_spec h
    refine aw_doneI (rest := []) h (fun r9 S9 hF => aw_runV (As := [.int 1, .int x15]) (rest := []) (L1_X7_fails N hF) axc7 hL16 wd_760 wd_757 wd_758 wd_759 wd_88 pd_X7_fails rfl (ax_rm (by omega) rfl) ax_hf0 (Nat.le_of_ble_eq_true rfl) rfl dX1_readClause_19) (fun x18 T17 h => ?_)
    exact aw_zret dX1_readClause_22 rfl (Nat.le_refl _) (Nat.le_refl _) h
