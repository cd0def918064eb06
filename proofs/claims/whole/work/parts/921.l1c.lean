theorem dX1_readFrom_0 : decode cX1_readFrom 0 = .ok (.aload_n 0, 1) := by decide +kernel
theorem dX1_readFrom_1 : decode cX1_readFrom 1 = .ok (.invokevirtual 27, 3) := by decide +kernel
theorem dX1_readFrom_4 : decode cX1_readFrom 4 = .ok (.iconst 0, 1) := by decide +kernel
theorem dX1_readFrom_5 : decode cX1_readFrom 5 = .ok (.istore_n 2, 1) := by decide +kernel
theorem dX1_readFrom_6 : decode cX1_readFrom 6 = .ok (.iload_n 2, 1) := by decide +kernel
theorem dX1_readFrom_7 : decode cX1_readFrom 7 = .ok (.sipush 600, 3) := by decide +kernel
theorem dX1_readFrom_10 : decode cX1_readFrom 10 = .ok (.if_icmp .ge 38, 3) := by decide +kernel
theorem dX1_readFrom_13 : decode cX1_readFrom 13 = .ok (.aload_n 1, 1) := by decide +kernel
theorem dX1_readFrom_14 : decode cX1_readFrom 14 = .ok (.invokevirtual 52, 3) := by decide +kernel
theorem dX1_readFrom_17 : decode cX1_readFrom 17 = .ok (.iconst (-1), 1) := by decide +kernel
theorem dX1_readFrom_18 : decode cX1_readFrom 18 = .ok (.if_icmp .eq 30, 3) := by decide +kernel
theorem dX1_readFrom_21 : decode cX1_readFrom 21 = .ok (.aload_n 0, 1) := by decide +kernel
theorem dX1_readFrom_22 : decode cX1_readFrom 22 = .ok (.aload_n 1, 1) := by decide +kernel
theorem dX1_readFrom_23 : decode cX1_readFrom 23 = .ok (.iload_n 2, 1) := by decide +kernel
theorem dX1_readFrom_24 : decode cX1_readFrom 24 = .ok (.bipush 60, 2) := by decide +kernel
theorem dX1_readFrom_26 : decode cX1_readFrom 26 = .ok (.if_icmp .lt 7, 3) := by decide +kernel
theorem dX1_readFrom_29 : decode cX1_readFrom 29 = .ok (.iconst 1, 1) := by decide +kernel
theorem dX1_readFrom_30 : decode cX1_readFrom 30 = .ok (.goto 4, 3) := by decide +kernel
theorem dX1_readFrom_33 : decode cX1_readFrom 33 = .ok (.iconst 0, 1) := by decide +kernel
theorem dX1_readFrom_34 : decode cX1_readFrom 34 = .ok (.invokevirtual 58, 3) := by decide +kernel
theorem dX1_readFrom_37 : decode cX1_readFrom 37 = .ok (.ifCond .ne 5, 3) := by decide +kernel
theorem dX1_readFrom_40 : decode cX1_readFrom 40 = .ok (.iconst 0, 1) := by decide +kernel
theorem dX1_readFrom_41 : decode cX1_readFrom 41 = .ok (.ireturn, 1) := by decide +kernel
theorem dX1_readFrom_42 : decode cX1_readFrom 42 = .ok (.iinc 2 1, 3) := by decide +kernel
theorem dX1_readFrom_45 : decode cX1_readFrom 45 = .ok (.goto (-39), 3) := by decide +kernel
theorem dX1_readFrom_48 : decode cX1_readFrom 48 = .ok (.aload_n 1, 1) := by decide +kernel
theorem dX1_readFrom_49 : decode cX1_readFrom 49 = .ok (.getfield 62, 3) := by decide +kernel
theorem dX1_readFrom_52 : decode cX1_readFrom 52 = .ok (.ifCond .ne 7, 3) := by decide +kernel
theorem dX1_readFrom_55 : decode cX1_readFrom 55 = .ok (.iconst 1, 1) := by decide +kernel
theorem dX1_readFrom_56 : decode cX1_readFrom 56 = .ok (.goto 4, 3) := by decide +kernel
theorem dX1_readFrom_59 : decode cX1_readFrom 59 = .ok (.iconst 0, 1) := by decide +kernel
theorem dX1_readFrom_60 : decode cX1_readFrom 60 = .ok (.ireturn, 1) := by decide +kernel
abbrev mt_X1_readFrom : AxM := (RX1, cX1_readFrom, 3, (some .boolean), false, [])
theorem L1_X1_readFrom_48 {g : AxG} {l : Launch} {r9 : Int32} {S9 : AxS} (N : Nat)  (v1 : Nat) (S : AxS) (h : F_X1_readFrom_48 N  v1 S = some ((r9, S9))) : AW g l (axRm (7) 0 0) mt_X1_readFrom (axMQ g 0 0 (.inl (some (.int r9)), S9)) 0 0 S 48 [(1, .ref v1)] [] := by
  unfold F_X1_readFrom_48 at h
  refine aw_aload_n 0 dX1_readFrom_48 rfl rfl ?_
  refine aw_getI axc7 4 rfl rfl wd_131 dX1_readFrom_49 h (fun x1 h => ?_)
  refine aw_if_ne 59 dX1_readFrom_52 (by decide) h (fun h => ?_) (fun h => ?_)
  · refine aw_iconst 0 dX1_readFrom_59 rfl ?_
    exact aw_zret dX1_readFrom_60 rfl (Nat.le_refl _) (Nat.le_refl _) h
  · refine aw_iconst 1 dX1_readFrom_55 rfl ?_
    refine aw_goto 60 dX1_readFrom_56 (by decide) ?_
    exact aw_zret dX1_readFrom_60 rfl (Nat.le_refl _) (Nat.le_refl _) h
theorem L1_X1_readFrom_34 {g : AxG} {l : Launch} {r9 : Int32} {S9 : AxS} (N : Nat) (K6 : Nat → Nat → Int32 → AxS → Option (Int32 × AxS)) (hK6 : ∀ (v0 : Nat) (v1 : Nat) (v2 : Int32) (S : AxS), K6 v0 v1 v2 S = some ((r9, S9)) → AW g l (axRm (7) 0 0) mt_X1_readFrom (axMQ g 0 0 (.inl (some (.int r9)), S9)) 0 0 S 6 [(0, .ref v0), (1, .ref v1), (2, .int v2)] []) (v0 : Nat) (v1 : Nat) (v2 : Int32) (w0 : Int32) (w1 : Nat) (w2 : Nat) (S : AxS) (h : F_X1_readFrom_34 N K6 v0 v1 v2 w0 w1 w2 S = some ((r9, S9))) : AW g l (axRm (7) 0 0) mt_X1_readFrom (axMQ g 0 0 (.inl (some (.int r9)), S9)) 0 0 S 34 [(0, .ref v0), (1, .ref v1), (2, .int v2)] [.int w0, .ref w1, .ref w2] := by
  unfold F_X1_readFrom_34 at h
  obtain ⟨hL1, h⟩ := ax_is_spec h
  refine aw_doneI (rest := []) h (fun r9 S9 hF => aw_runV (As := [.ref w1, .int w0]) (rest := []) (L1_X1_readClause N hF) axc1 hL1 wd_688 wd_685 wd_687 wd_5 wd_89 pd_X1_readClause rfl (ax_rm (by omega) rfl) ax_hf0 (Nat.le_of_ble_eq_true rfl) rfl dX1_readFrom_34) (fun x3 T2 h => ?_)
  refine aw_if_ne 42 dX1_readFrom_37 (by decide) h (fun h => ?_) (fun h => ?_)
  · refine aw_iinc 2 [(2, .int (v2 + 1)), (0, .ref v0), (1, .ref v1)] (v2 + 1) dX1_readFrom_42 rfl rfl rfl rfl ?_
    refine aw_goto 6 dX1_readFrom_45 (by decide) ?_
    refine aw_env [(0, .ref v0), (1, .ref v1), (2, .int (v2 + 1))] [1, 2, 0] rfl ?_
    exact hK6 v0 v1 (v2 + 1) T2 h
  · refine aw_iconst 0 dX1_readFrom_40 rfl ?_
    exact aw_zret dX1_readFrom_41 rfl (Nat.le_refl _) (Nat.le_refl _) h
theorem L1_X1_readFrom_6b {g : AxG} {l : Launch} {r9 : Int32} {S9 : AxS} (N : Nat) (K6 : Nat → Nat → Int32 → AxS → Option (Int32 × AxS)) (hK6 : ∀ (v0 : Nat) (v1 : Nat) (v2 : Int32) (S : AxS), K6 v0 v1 v2 S = some ((r9, S9)) → AW g l (axRm (7) 0 0) mt_X1_readFrom (axMQ g 0 0 (.inl (some (.int r9)), S9)) 0 0 S 6 [(0, .ref v0), (1, .ref v1), (2, .int v2)] []) (v0 : Nat) (v1 : Nat) (v2 : Int32) (S : AxS) (h : F_X1_readFrom_6b N K6 v0 v1 v2 S = some ((r9, S9))) : AW g l (axRm (7) 0 0) mt_X1_readFrom (axMQ g 0 0 (.inl (some (.int r9)), S9)) 0 0 S 6 [(0, .ref v0), (1, .ref v1), (2, .int v2)] [] := by
  unfold F_X1_readFrom_6b at h
  refine aw_iload_n 2 dX1_readFrom_6 rfl rfl ?_
  refine aw_sipush 600 dX1_readFrom_7 (by decide) ?_
  refine aw_icmp_ge 48 dX1_readFrom_10 (by decide) h (fun h => ?_) (fun h => ?_)
  · refine aw_env [(1, .ref v1)] [1] rfl ?_
    exact L1_X1_readFrom_48 N  v1 S h
  · refine aw_aload_n 1 dX1_readFrom_13 rfl rfl ?_
    obtain ⟨hL1, h⟩ := ax_is_spec h
    refine aw_doneI (rest := []) h (fun r9 S9 hF => aw_runV (As := []) (rest := []) (L1_X7_sign N hF) axc7 hL1 wd_683 wd_680 wd_681 wd_682 wd_88 pd_X7_sign rfl (ax_rm (by omega) rfl) ax_hf0 (Nat.le_of_ble_eq_true rfl) rfl dX1_readFrom_14) (fun x3 T2 h => ?_)
    refine aw_iconst (-1) dX1_readFrom_17 rfl ?_
    refine aw_icmp_eq 48 dX1_readFrom_18 (by decide) h (fun h => ?_) (fun h => ?_)
    · refine aw_env [(1, .ref v1)] [1] rfl ?_
      exact L1_X1_readFrom_48 N  v1 T2 h
    · refine aw_aload_n 0 dX1_readFrom_21 rfl rfl ?_
      refine aw_aload_n 1 dX1_readFrom_22 rfl rfl ?_
      refine aw_iload_n 2 dX1_readFrom_23 rfl rfl ?_
      refine aw_bipush 60 dX1_readFrom_24 (by decide) ?_
      refine aw_icmp_lt 33 dX1_readFrom_26 (by decide) h (fun h => ?_) (fun h => ?_)
      · refine aw_iconst 0 dX1_readFrom_33 rfl ?_
        refine aw_env [(0, .ref v0), (1, .ref v1), (2, .int v2)] [0, 1, 2] rfl ?_
        exact L1_X1_readFrom_34 N K6 hK6 v0 v1 v2 0 v1 v0 T2 h
      · refine aw_iconst 1 dX1_readFrom_29 rfl ?_
        refine aw_goto 34 dX1_readFrom_30 (by decide) ?_
        refine aw_env [(0, .ref v0), (1, .ref v1), (2, .int v2)] [0, 1, 2] rfl ?_
        exact L1_X1_readFrom_34 N K6 hK6 v0 v1 v2 1 v1 v0 T2 h
theorem L1_X1_readFrom_6 {g : AxG} {l : Launch} {r9 : Int32} {S9 : AxS} (N : Nat)  : ∀ (n : Nat) (v0 : Nat) (v1 : Nat) (v2 : Int32) (S : AxS), F_X1_readFrom_6 N  n v0 v1 v2 S = some ((r9, S9)) → AW g l (axRm (7) 0 0) mt_X1_readFrom (axMQ g 0 0 (.inl (some (.int r9)), S9)) 0 0 S 6 [(0, .ref v0), (1, .ref v1), (2, .int v2)] [] := by
  intro n
  induction n with
  | zero => intro v0 v1 v2 S h; cases h
  | succ n ih => intro v0 v1 v2 S h; exact L1_X1_readFrom_6b N (F_X1_readFrom_6 N  n) ih v0 v1 v2 S h
theorem L1_X1_readFrom {g : AxG} {l : Launch} (N : Nat) {v0 : Nat} {v1 : Nat} {S : AxS} {r9 : Int32} {S9 : AxS} (h : F_X1_readFrom N v0 v1 S = some ((r9, S9))) : AxMet g l yX1_readFrom cX1_readFrom 3 (some .boolean) (7) 0 0 [.ref v0, .ref v1] S ((.inl (some (.int r9)), S9)) := by
  refine ax_met (own := RX1) (ini := false) (by decide +kernel) rfl (fun h => nomatch h) rfl ?_
  show AW g l (axRm (7) 0 0) mt_X1_readFrom (axMQ g 0 0 (.inl (some (.int r9)), S9)) 0 0 S 0 [(0, .ref v0), (1, .ref v1)] []
  unfold F_X1_readFrom at h
  refine aw_aload_n 0 dX1_readFrom_0 rfl rfl ?_
  obtain ⟨hL1, h⟩ := ax_is_spec h
  refine aw_doneV (rest := []) h (fun S9 hF => aw_runV (As := []) (rest := []) (L1_X1_clear N hF) axc1 hL1 wd_170 wd_167 wd_168 wd_169 wd_89 pd_X1_clear rfl (ax_rm (by omega) rfl) ax_hf0 (Nat.le_of_ble_eq_true rfl) rfl dX1_readFrom_1) (fun T2 h => ?_)
  refine aw_iconst 0 dX1_readFrom_4 rfl ?_
  refine aw_istore_n 2 [(2, .int 0), (0, .ref v0), (1, .ref v1)] dX1_readFrom_5 rfl rfl rfl ?_
  refine aw_env [(0, .ref v0), (1, .ref v1), (2, .int 0)] [1, 2, 0] rfl ?_
  exact L1_X1_readFrom_6 N  N v0 v1 0 T2 h

theorem dX1_loud_0 : decode cX1_loud 0 = .ok (.iconst 1, 1) := by decide +kernel
theorem dX1_loud_1 : decode cX1_loud 1 = .ok (.aload_n 0, 1) := by decide +kernel
theorem dX1_loud_2 : decode cX1_loud 2 = .ok (.getfield 18, 3) := by decide +kernel
theorem dX1_loud_5 : decode cX1_loud 5 = .ok (.iload_n 1, 1) := by decide +kernel
theorem dX1_loud_6 : decode cX1_loud 6 = .ok (.invokestatic 115, 3) := by decide +kernel
theorem dX1_loud_9 : decode cX1_loud 9 = .ok (.iadd, 1) := by decide +kernel
theorem dX1_loud_10 : decode cX1_loud 10 = .ok (.istore_n 3, 1) := by decide +kernel
theorem dX1_loud_11 : decode cX1_loud 11 = .ok (.iload_n 3, 1) := by decide +kernel
theorem dX1_loud_12 : decode cX1_loud 12 = .ok (.ifCond .le 9, 3) := by decide +kernel
theorem dX1_loud_15 : decode cX1_loud 15 = .ok (.iload_n 2, 1) := by decide +kernel
theorem dX1_loud_16 : decode cX1_loud 16 = .ok (.iload_n 3, 1) := by decide +kernel
theorem dX1_loud_17 : decode cX1_loud 17 = .ok (.idiv, 1) := by decide +kernel
theorem dX1_loud_18 : decode cX1_loud 18 = .ok (.goto 4, 3) := by decide +kernel
theorem dX1_loud_21 : decode cX1_loud 21 = .ok (.iload_n 2, 1) := by decide +kernel
theorem dX1_loud_22 : decode cX1_loud 22 = .ok (.ireturn, 1) := by decide +kernel
abbrev mt_X1_loud : AxM := (RX1, cX1_loud, 4, (some .int), false, [])
theorem L1_X1_loud {g : AxG} {l : Launch} (N : Nat) {v0 : Nat} {v1 : Int32} {v2 : Int32} {S : AxS} {r9 : Int32} {S9 : AxS} (h : F_X1_loud N v0 v1 v2 S = some ((r9, S9))) : AxMet g l yX1_loud cX1_loud 4 (some .int) (1) 0 0 [.ref v0, .int v1, .int v2] S ((.inl (some (.int r9)), S9)) := by
  refine ax_met (own := RX1) (ini := false) (by decide +kernel) rfl (fun h => nomatch h) rfl ?_
  show AW g l (axRm (1) 0 0) mt_X1_loud (axMQ g 0 0 (.inl (some (.int r9)), S9)) 0 0 S 0 [(0, .ref v0), (1, .int v1), (2, .int v2)] []
  unfold F_X1_loud at h
  refine aw_iconst 1 dX1_loud_0 rfl ?_
  refine aw_aload_n 0 dX1_loud_1 rfl rfl ?_
  refine aw_getR axc1 9 rfl rfl wd_191 dX1_loud_2 h (fun a1 h => ?_)
  refine aw_iload_n 1 dX1_loud_5 rfl rfl ?_
  refine aw_doneI (rest := [.int 1]) h (fun r9 S9 hF => aw_runSN (As := [.ref a1, .int v1]) (rest := [.int 1]) (L1_X9_at N hF) wd_541 wd_917 wd_540 wd_87 pd_X9_at.2 rfl (ax_rm (by omega) rfl) ax_hf0 (Nat.le_of_ble_eq_true rfl) rfl dX1_loud_6) (fun x3 T2 h => ?_)
  refine aw_iadd dX1_loud_9 ?_
  refine aw_istore_n 3 [(3, .int (1 + x3)), (0, .ref v0), (1, .int v1), (2, .int v2)] dX1_loud_10 rfl rfl rfl ?_
  refine aw_iload_n 0 dX1_loud_11 rfl rfl ?_
  refine aw_if_le 21 dX1_loud_12 (by decide) h (fun h => ?_) (fun h => ?_)
  · refine aw_iload_n 3 dX1_loud_21 rfl rfl ?_
    exact aw_iret dX1_loud_22 rfl (Nat.le_refl _) (Nat.le_refl _) h
  · refine aw_iload_n 3 dX1_loud_15 rfl rfl ?_
    refine aw_iload_n 0 dX1_loud_16 rfl rfl ?_
    refine aw_idiv dX1_loud_17 h (fun h => ?_)
    refine aw_goto 22 dX1_loud_18 (by decide) ?_
    exact aw_iret dX1_loud_22 rfl (Nat.le_refl _) (Nat.le_refl _) h

theorem dX1_sleeps_0 : decode cX1_sleeps 0 = .ok (.aload_n 0, 1) := by decide +kernel
theorem dX1_sleeps_1 : decode cX1_sleeps 1 = .ok (.iload_n 2, 1) := by decide +kernel
theorem dX1_sleeps_2 : decode cX1_sleeps 2 = .ok (.iload_n 3, 1) := by decide +kernel
theorem dX1_sleeps_3 : decode cX1_sleeps 3 = .ok (.invokevirtual 119, 3) := by decide +kernel
theorem dX1_sleeps_6 : decode cX1_sleeps 6 = .ok (.aload_n 0, 1) := by decide +kernel
theorem dX1_sleeps_7 : decode cX1_sleeps 7 = .ok (.getfield 21, 3) := by decide +kernel
theorem dX1_sleeps_10 : decode cX1_sleeps 10 = .ok (.iload_n 1, 1) := by decide +kernel
theorem dX1_sleeps_11 : decode cX1_sleeps 11 = .ok (.invokestatic 115, 3) := by decide +kernel
theorem dX1_sleeps_14 : decode cX1_sleeps 14 = .ok (.if_icmp .gt 7, 3) := by decide +kernel
theorem dX1_sleeps_17 : decode cX1_sleeps 17 = .ok (.iconst 1, 1) := by decide +kernel
theorem dX1_sleeps_18 : decode cX1_sleeps 18 = .ok (.goto 4, 3) := by decide +kernel
theorem dX1_sleeps_21 : decode cX1_sleeps 21 = .ok (.iconst 0, 1) := by decide +kernel
theorem dX1_sleeps_22 : decode cX1_sleeps 22 = .ok (.ireturn, 1) := by decide +kernel
abbrev mt_X1_sleeps : AxM := (RX1, cX1_sleeps, 4, (some .boolean), false, [])
theorem L1_X1_sleeps {g : AxG} {l : Launch} (N : Nat) {v0 : Nat} {v1 : Int32} {v2 : Int32} {v3 : Int32} {S : AxS} {r9 : Int32} {S9 : AxS} (h : F_X1_sleeps N v0 v1 v2 v3 S = some ((r9, S9))) : AxMet g l yX1_sleeps cX1_sleeps 4 (some .boolean) (2) 0 0 [.ref v0, .int v1, .int v2, .int v3] S ((.inl (some (.int r9)), S9)) := by
  refine ax_met (own := RX1) (ini := false) (by decide +kernel) rfl (fun h => nomatch h) rfl ?_
  show AW g l (axRm (2) 0 0) mt_X1_sleeps (axMQ g 0 0 (.inl (some (.int r9)), S9)) 0 0 S 0 [(0, .ref v0), (1, .int v1), (2, .int v2), (3, .int v3)] []
  unfold F_X1_sleeps at h
  refine aw_aload_n 0 dX1_sleeps_0 rfl rfl ?_
  refine aw_iload_n 2 dX1_sleeps_1 rfl rfl ?_
  refine aw_iload_n 3 dX1_sleeps_2 rfl rfl ?_
  obtain ⟨hL1, h⟩ := ax_is_spec h
  refine aw_doneI (rest := []) h (fun r9 S9 hF => aw_runV (As := [.int v2, .int v3]) (rest := []) (L1_X1_loud N hF) axc1 hL1 wd_916 wd_1160 wd_914 wd_915 wd_89 pd_X1_loud rfl (ax_rm (by omega) rfl) ax_hf0 (Nat.le_of_ble_eq_true rfl) rfl dX1_sleeps_3) (fun x3 T2 h => ?_)
  refine aw_aload_n 0 dX1_sleeps_6 rfl rfl ?_
  refine aw_getR axc1 10 rfl rfl wd_193 dX1_sleeps_7 h (fun a4 h => ?_)
  refine aw_iload_n 1 dX1_sleeps_10 rfl rfl ?_
  refine aw_doneI (rest := [.int x3]) h (fun r9 S9 hF => aw_runSN (As := [.ref a4, .int v1]) (rest := [.int x3]) (L1_X9_at N hF) wd_541 wd_917 wd_540 wd_87 pd_X9_at.2 rfl (ax_rm (by omega) rfl) ax_hf0 (Nat.le_of_ble_eq_true rfl) rfl dX1_sleeps_11) (fun x6 T5 h => ?_)
  refine aw_icmp_gt 21 dX1_sleeps_14 (by decide) h (fun h => ?_) (fun h => ?_)
  · refine aw_iconst 0 dX1_sleeps_21 rfl ?_
    exact aw_zret dX1_sleeps_22 rfl (Nat.le_refl _) (Nat.le_refl _) h
  · refine aw_iconst 1 dX1_sleeps_17 rfl ?_
    refine aw_goto 22 dX1_sleeps_18 (by decide) ?_
    exact aw_zret dX1_sleeps_22 rfl (Nat.le_refl _) (Nat.le_refl _) h

theorem dX2_clear_0 : decode cX2_clear 0 = .ok (.aload_n 0, 1) := by decide +kernel
theorem dX2_clear_1 : decode cX2_clear 1 = .ok (.iconst 0, 1) := by decide +kernel
theorem dX2_clear_2 : decode cX2_clear 2 = .ok (.putfield 20, 3) := by decide +kernel
theorem dX2_clear_5 : decode cX2_clear 5 = .ok (.aload_n 0, 1) := by decide +kernel
theorem dX2_clear_6 : decode cX2_clear 6 = .ok (.iconst (-1), 1) := by decide +kernel
theorem dX2_clear_7 : decode cX2_clear 7 = .ok (.putfield 24, 3) := by decide +kernel
theorem dX2_clear_10 : decode cX2_clear 10 = .ok (.aload_n 0, 1) := by decide +kernel
theorem dX2_clear_11 : decode cX2_clear 11 = .ok (.iconst (-1), 1) := by decide +kernel
theorem dX2_clear_12 : decode cX2_clear 12 = .ok (.putfield 27, 3) := by decide +kernel
theorem dX2_clear_15 : decode cX2_clear 15 = .ok (.aload_n 0, 1) := by decide +kernel
theorem dX2_clear_16 : decode cX2_clear 16 = .ok (.iconst 0, 1) := by decide +kernel
theorem dX2_clear_17 : decode cX2_clear 17 = .ok (.putfield 30, 3) := by decide +kernel
theorem dX2_clear_20 : decode cX2_clear 20 = .ok (.iconst 0, 1) := by decide +kernel
theorem dX2_clear_21 : decode cX2_clear 21 = .ok (.istore_n 1, 1) := by decide +kernel
theorem dX2_clear_22 : decode cX2_clear 22 = .ok (.iload_n 1, 1) := by decide +kernel
theorem dX2_clear_23 : decode cX2_clear 23 = .ok (.aload_n 0, 1) := by decide +kernel
theorem dX2_clear_24 : decode cX2_clear 24 = .ok (.getfield 17, 3) := by decide +kernel
theorem dX2_clear_27 : decode cX2_clear 27 = .ok (.arraylength, 1) := by decide +kernel
theorem dX2_clear_28 : decode cX2_clear 28 = .ok (.if_icmp .ge 37, 3) := by decide +kernel
theorem dX2_clear_31 : decode cX2_clear 31 = .ok (.iconst 0, 1) := by decide +kernel
theorem dX2_clear_32 : decode cX2_clear 32 = .ok (.istore_n 2, 1) := by decide +kernel
theorem dX2_clear_33 : decode cX2_clear 33 = .ok (.iload_n 2, 1) := by decide +kernel
theorem dX2_clear_34 : decode cX2_clear 34 = .ok (.aload_n 0, 1) := by decide +kernel
theorem dX2_clear_35 : decode cX2_clear 35 = .ok (.getfield 17, 3) := by decide +kernel
theorem dX2_clear_38 : decode cX2_clear 38 = .ok (.iload_n 1, 1) := by decide +kernel
theorem dX2_clear_39 : decode cX2_clear 39 = .ok (.aaload, 1) := by decide +kernel
theorem dX2_clear_40 : decode cX2_clear 40 = .ok (.arraylength, 1) := by decide +kernel
theorem dX2_clear_41 : decode cX2_clear 41 = .ok (.if_icmp .ge 18, 3) := by decide +kernel
theorem dX2_clear_44 : decode cX2_clear 44 = .ok (.aload_n 0, 1) := by decide +kernel
theorem dX2_clear_45 : decode cX2_clear 45 = .ok (.getfield 17, 3) := by decide +kernel
theorem dX2_clear_48 : decode cX2_clear 48 = .ok (.iload_n 1, 1) := by decide +kernel
theorem dX2_clear_49 : decode cX2_clear 49 = .ok (.aaload, 1) := by decide +kernel
theorem dX2_clear_50 : decode cX2_clear 50 = .ok (.iload_n 2, 1) := by decide +kernel
theorem dX2_clear_51 : decode cX2_clear 51 = .ok (.iconst 0, 1) := by decide +kernel
theorem dX2_clear_52 : decode cX2_clear 52 = .ok (.iastore, 1) := by decide +kernel
theorem dX2_clear_53 : decode cX2_clear 53 = .ok (.iinc 2 1, 3) := by decide +kernel
theorem dX2_clear_56 : decode cX2_clear 56 = .ok (.goto (-23), 3) := by decide +kernel
theorem dX2_clear_59 : decode cX2_clear 59 = .ok (.iinc 1 1, 3) := by decide +kernel
theorem dX2_clear_62 : decode cX2_clear 62 = .ok (.goto (-40), 3) := by decide +kernel
theorem dX2_clear_65 : decode cX2_clear 65 = .ok (.return_, 1) := by decide +kernel
abbrev mt_X2_clear : AxM := (RX2, cX2_clear, 3, none, false, [])
theorem L1_X2_clear_33b {g : AxG} {l : Launch} {S9 : AxS} (N : Nat) (K22 : Nat → Int32 → AxS → Option (AxS)) (hK22 : ∀ (v0 : Nat) (v1 : Int32) (S : AxS), K22 v0 v1 S = some S9 → AW g l (axRm (0) 0 0) mt_X2_clear (axMQ g 0 0 (.inl none, S9)) 0 0 S 22 [(0, .ref v0), (1, .int v1)] []) (K33 : Nat → Int32 → Int32 → AxS → Option (AxS)) (hK33 : ∀ (v0 : Nat) (v1 : Int32) (v2 : Int32) (S : AxS), K33 v0 v1 v2 S = some S9 → AW g l (axRm (0) 0 0) mt_X2_clear (axMQ g 0 0 (.inl none, S9)) 0 0 S 33 [(0, .ref v0), (1, .int v1), (2, .int v2)] []) (v0 : Nat) (v1 : Int32) (v2 : Int32) (S : AxS) (h : F_X2_clear_33b N K22 K33 v0 v1 v2 S = some S9) : AW g l (axRm (0) 0 0) mt_X2_clear (axMQ g 0 0 (.inl none, S9)) 0 0 S 33 [(0, .ref v0), (1, .int v1), (2, .int v2)] [] := by
  unfold F_X2_clear_33b at h
  refine aw_iload_n 2 dX2_clear_33 rfl rfl ?_
  refine aw_aload_n 0 dX2_clear_34 rfl rfl ?_
  refine aw_getR axc2 8 rfl rfl wd_391 dX2_clear_35 h (fun a1 h => ?_)
  refine aw_iload_n 1 dX2_clear_38 rfl rfl ?_
  refine aw_aald dX2_clear_39 h (fun a2 h => ?_)
  refine aw_alen dX2_clear_40 h (fun x3 h => ?_)
  refine aw_icmp_ge 59 dX2_clear_41 (by decide) h (fun h => ?_) (fun h => ?_)
  · refine aw_iinc 1 [(1, .int (v1 + 1)), (0, .ref v0), (2, .int v2)] (v1 + 1) dX2_clear_59 rfl rfl rfl rfl ?_
    refine aw_goto 22 dX2_clear_62 (by decide) ?_
    refine aw_env [(0, .ref v0), (1, .int (v1 + 1))] [1, 0] rfl ?_
    exact hK22 v0 (v1 + 1) S h
  · refine aw_aload_n 0 dX2_clear_44 rfl rfl ?_
    refine aw_getR axc2 8 rfl rfl wd_391 dX2_clear_45 h (fun a4 h => ?_)
    refine aw_iload_n 1 dX2_clear_48 rfl rfl ?_
    refine aw_aald dX2_clear_49 h (fun a5 h => ?_)
    refine aw_iload_n 2 dX2_clear_50 rfl rfl ?_
    refine aw_iconst 0 dX2_clear_51 rfl ?_
    refine aw_iast dX2_clear_52 h (fun T6 h => ?_)
    refine aw_iinc 2 [(2, .int (v2 + 1)), (0, .ref v0), (1, .int v1)] (v2 + 1) dX2_clear_53 rfl rfl rfl rfl ?_
    refine aw_goto 33 dX2_clear_56 (by decide) ?_
    refine aw_env [(0, .ref v0), (1, .int v1), (2, .int (v2 + 1))] [1, 2, 0] rfl ?_
    exact hK33 v0 v1 (v2 + 1) T6 h
theorem L1_X2_clear_33 {g : AxG} {l : Launch} {S9 : AxS} (N : Nat) (K22 : Nat → Int32 → AxS → Option (AxS)) (hK22 : ∀ (v0 : Nat) (v1 : Int32) (S : AxS), K22 v0 v1 S = some S9 → AW g l (axRm (0) 0 0) mt_X2_clear (axMQ g 0 0 (.inl none, S9)) 0 0 S 22 [(0, .ref v0), (1, .int v1)] []) : ∀ (n : Nat) (v0 : Nat) (v1 : Int32) (v2 : Int32) (S : AxS), F_X2_clear_33 N K22 n v0 v1 v2 S = some S9 → AW g l (axRm (0) 0 0) mt_X2_clear (axMQ g 0 0 (.inl none, S9)) 0 0 S 33 [(0, .ref v0), (1, .int v1), (2, .int v2)] [] := by
  intro n
  induction n with
  | zero => intro v0 v1 v2 S h; cases h
  | succ n ih => intro v0 v1 v2 S h; exact L1_X2_clear_33b N K22 hK22 (F_X2_clear_33 N K22 n) ih v0 v1 v2 S h
theorem L1_X2_clear_22b {g : AxG} {l : Launch} {S9 : AxS} (N : Nat) (K22 : Nat → Int32 → AxS → Option (AxS)) (hK22 : ∀ (v0 : Nat) (v1 : Int32) (S : AxS), K22 v0 v1 S = some S9 → AW g l (axRm (0) 0 0) mt_X2_clear (axMQ g 0 0 (.inl none, S9)) 0 0 S 22 [(0, .ref v0), (1, .int v1)] []) (v0 : Nat) (v1 : Int32) (S : AxS) (h : F_X2_clear_22b N K22 v0 v1 S = some S9) : AW g l (axRm (0) 0 0) mt_X2_clear (axMQ g 0 0 (.inl none, S9)) 0 0 S 22 [(0, .ref v0), (1, .int v1)] [] := by
  unfold F_X2_clear_22b at h
  refine aw_iload_n 1 dX2_clear_22 rfl rfl ?_
  refine aw_aload_n 0 dX2_clear_23 rfl rfl ?_
  refine aw_getR axc2 8 rfl rfl wd_391 dX2_clear_24 h (fun a1 h => ?_)
  refine aw_alen dX2_clear_27 h (fun x2 h => ?_)
  refine aw_icmp_ge 65 dX2_clear_28 (by decide) h (fun h => ?_) (fun h => ?_)
  · exact aw_vret dX2_clear_65 rfl (Nat.le_refl _) (Nat.le_refl _) h
  · refine aw_iconst 0 dX2_clear_31 rfl ?_
    refine aw_istore_n 2 [(2, .int 0), (0, .ref v0), (1, .int v1)] dX2_clear_32 rfl rfl rfl ?_
    refine aw_env [(0, .ref v0), (1, .int v1), (2, .int 0)] [1, 2, 0] rfl ?_
    exact L1_X2_clear_33 N K22 hK22 N v0 v1 0 S h
theorem L1_X2_clear_22 {g : AxG} {l : Launch} {S9 : AxS} (N : Nat)  : ∀ (n : Nat) (v0 : Nat) (v1 : Int32) (S : AxS), F_X2_clear_22 N  n v0 v1 S = some S9 → AW g l (axRm (0) 0 0) mt_X2_clear (axMQ g 0 0 (.inl none, S9)) 0 0 S 22 [(0, .ref v0), (1, .int v1)] [] := by
  intro n
  induction n with
  | zero => intro v0 v1 S h; cases h
  | succ n ih => intro v0 v1 S h; exact L1_X2_clear_22b N (F_X2_clear_22 N  n) ih v0 v1 S h
theorem L1_X2_clear {g : AxG} {l : Launch} (N : Nat) {v0 : Nat} {S : AxS} {S9 : AxS} (h : F_X2_clear N v0 S = some S9) : AxMet g l yX2_clear cX2_clear 3 none (0) 0 0 [.ref v0] S ((.inl none, S9)) := by
  refine ax_met (own := RX2) (ini := false) (by decide +kernel) rfl (fun h => nomatch h) rfl ?_
  show AW g l (axRm (0) 0 0) mt_X2_clear (axMQ g 0 0 (.inl none, S9)) 0 0 S 0 [(0, .ref v0)] []
  unfold F_X2_clear at h
  refine aw_aload_n 0 dX2_clear_0 rfl rfl ?_
  refine aw_iconst 0 dX2_clear_1 rfl ?_
  refine aw_putI axc2 1 rfl rfl wd_377 rfl rfl rfl dX2_clear_2 h (fun T1 h => ?_)
  refine aw_aload_n 0 dX2_clear_5 rfl rfl ?_
  refine aw_iconst (-1) dX2_clear_6 rfl ?_
  refine aw_putI axc2 2 rfl rfl wd_379 rfl rfl rfl dX2_clear_7 h (fun T2 h => ?_)
  refine aw_aload_n 0 dX2_clear_10 rfl rfl ?_
  refine aw_iconst (-1) dX2_clear_11 rfl ?_
  refine aw_putI axc2 3 rfl rfl wd_381 rfl rfl rfl dX2_clear_12 h (fun T3 h => ?_)
  refine aw_aload_n 0 dX2_clear_15 rfl rfl ?_
  refine aw_iconst 0 dX2_clear_16 rfl ?_
  refine aw_putI axc2 4 rfl rfl wd_383 rfl rfl rfl dX2_clear_17 h (fun T4 h => ?_)
  refine aw_iconst 0 dX2_clear_20 rfl ?_
  refine aw_istore_n 1 [(1, .int 0), (0, .ref v0)] dX2_clear_21 rfl rfl rfl ?_
  refine aw_env [(0, .ref v0), (1, .int 0)] [1, 0] rfl ?_
  exact L1_X2_clear_22 N  N v0 0 T4 h

theorem dX2_add_0 : decode cX2_add 0 = .ok (.aload_n 0, 1) := by decide +kernel
theorem dX2_add_1 : decode cX2_add 1 = .ok (.getfield 20, 3) := by decide +kernel
theorem dX2_add_4 : decode cX2_add 4 = .ok (.ifCond .ne 13, 3) := by decide +kernel
theorem dX2_add_7 : decode cX2_add 7 = .ok (.aload_n 0, 1) := by decide +kernel
theorem dX2_add_8 : decode cX2_add 8 = .ok (.iload_n 1, 1) := by decide +kernel
theorem dX2_add_9 : decode cX2_add 9 = .ok (.putfield 24, 3) := by decide +kernel
theorem dX2_add_12 : decode cX2_add 12 = .ok (.aload_n 0, 1) := by decide +kernel
theorem dX2_add_13 : decode cX2_add 13 = .ok (.iload_n 2, 1) := by decide +kernel
theorem dX2_add_14 : decode cX2_add 14 = .ok (.putfield 27, 3) := by decide +kernel
theorem dX2_add_17 : decode cX2_add 17 = .ok (.aload_n 0, 1) := by decide +kernel
theorem dX2_add_18 : decode cX2_add 18 = .ok (.dup, 1) := by decide +kernel
theorem dX2_add_19 : decode cX2_add 19 = .ok (.getfield 20, 3) := by decide +kernel
theorem dX2_add_22 : decode cX2_add 22 = .ok (.iconst 1, 1) := by decide +kernel
theorem dX2_add_23 : decode cX2_add 23 = .ok (.iadd, 1) := by decide +kernel
theorem dX2_add_24 : decode cX2_add 24 = .ok (.putfield 20, 3) := by decide +kernel
theorem dX2_add_27 : decode cX2_add 27 = .ok (.iconst 0, 1) := by decide +kernel
theorem dX2_add_28 : decode cX2_add 28 = .ok (.istore_n 3, 1) := by decide +kernel
theorem dX2_add_29 : decode cX2_add 29 = .ok (.iload_n 3, 1) := by decide +kernel
theorem dX2_add_30 : decode cX2_add 30 = .ok (.aload_n 0, 1) := by decide +kernel
theorem dX2_add_31 : decode cX2_add 31 = .ok (.getfield 17, 3) := by decide +kernel
theorem dX2_add_34 : decode cX2_add 34 = .ok (.arraylength, 1) := by decide +kernel
theorem dX2_add_35 : decode cX2_add 35 = .ok (.if_icmp .ge 43, 3) := by decide +kernel
theorem dX2_add_38 : decode cX2_add 38 = .ok (.aload_n 0, 1) := by decide +kernel
theorem dX2_add_39 : decode cX2_add 39 = .ok (.getfield 9, 3) := by decide +kernel
theorem dX2_add_42 : decode cX2_add 42 = .ok (.iload_n 3, 1) := by decide +kernel
theorem dX2_add_43 : decode cX2_add 43 = .ok (.invokestatic 33, 3) := by decide +kernel
theorem dX2_add_46 : decode cX2_add 46 = .ok (.istore 4, 2) := by decide +kernel
theorem dX2_add_48 : decode cX2_add 48 = .ok (.aload_n 0, 1) := by decide +kernel
theorem dX2_add_49 : decode cX2_add 49 = .ok (.getfield 17, 3) := by decide +kernel
theorem dX2_add_52 : decode cX2_add 52 = .ok (.iload_n 3, 1) := by decide +kernel
theorem dX2_add_53 : decode cX2_add 53 = .ok (.aaload, 1) := by decide +kernel
theorem dX2_add_54 : decode cX2_add 54 = .ok (.iload 4, 2) := by decide +kernel
theorem dX2_add_56 : decode cX2_add 56 = .ok (.aload_n 0, 1) := by decide +kernel
theorem dX2_add_57 : decode cX2_add 57 = .ok (.getfield 17, 3) := by decide +kernel
theorem dX2_add_60 : decode cX2_add 60 = .ok (.iload_n 3, 1) := by decide +kernel
theorem dX2_add_61 : decode cX2_add 61 = .ok (.aaload, 1) := by decide +kernel
theorem dX2_add_62 : decode cX2_add 62 = .ok (.iload 4, 2) := by decide +kernel
theorem dX2_add_64 : decode cX2_add 64 = .ok (.invokestatic 33, 3) := by decide +kernel
theorem dX2_add_67 : decode cX2_add 67 = .ok (.iconst 1, 1) := by decide +kernel
theorem dX2_add_68 : decode cX2_add 68 = .ok (.iadd, 1) := by decide +kernel
theorem dX2_add_69 : decode cX2_add 69 = .ok (.invokestatic 37, 3) := by decide +kernel
theorem dX2_add_72 : decode cX2_add 72 = .ok (.iinc 3 1, 3) := by decide +kernel
theorem dX2_add_75 : decode cX2_add 75 = .ok (.goto (-46), 3) := by decide +kernel
theorem dX2_add_78 : decode cX2_add 78 = .ok (.return_, 1) := by decide +kernel
abbrev mt_X2_add : AxM := (RX2, cX2_add, 5, none, false, [])
theorem L1_X2_add_29b {g : AxG} {l : Launch} {S9 : AxS} (N : Nat) (K29 : Nat → Int32 → AxS → Option (AxS)) (hK29 : ∀ (v0 : Nat) (v3 : Int32) (S : AxS), K29 v0 v3 S = some S9 → AW g l (axRm (1) 0 0) mt_X2_add (axMQ g 0 0 (.inl none, S9)) 0 0 S 29 [(0, .ref v0), (3, .int v3)] []) (v0 : Nat) (v3 : Int32) (S : AxS) (h : F_X2_add_29b N K29 v0 v3 S = some S9) : AW g l (axRm (1) 0 0) mt_X2_add (axMQ g 0 0 (.inl none, S9)) 0 0 S 29 [(0, .ref v0), (3, .int v3)] [] := by
  unfold F_X2_add_29b at h
  refine aw_iload_n 1 dX2_add_29 rfl rfl ?_
  refine aw_aload_n 0 dX2_add_30 rfl rfl ?_
  refine aw_getR axc2 8 rfl rfl wd_391 dX2_add_31 h (fun a1 h => ?_)
  refine aw_alen dX2_add_34 h (fun x2 h => ?_)
  refine aw_icmp_ge 78 dX2_add_35 (by decide) h (fun h => ?_) (fun h => ?_)
  · exact aw_vret dX2_add_78 rfl (Nat.le_refl _) (Nat.le_refl _) h
  · refine aw_aload_n 0 dX2_add_38 rfl rfl ?_
    refine aw_getR axc2 7 rfl rfl wd_389 dX2_add_39 h (fun a3 h => ?_)
    refine aw_iload_n 1 dX2_add_42 rfl rfl ?_
    refine aw_doneI (rest := []) h (fun r9 S9 hF => aw_runSN (As := [.ref a3, .int v3]) (rest := []) (L1_X9_at N hF) wd_541 wd_1092 wd_540 wd_87 pd_X9_at.2 rfl (ax_rm (by omega) rfl) ax_hf0 (Nat.le_of_ble_eq_true rfl) rfl dX2_add_43) (fun x5 T4 h => ?_)
    refine aw_istore [(4, .int x5), (0, .ref v0), (3, .int v3)] dX2_add_46 rfl rfl ?_
    refine aw_aload_n 1 dX2_add_48 rfl rfl ?_
    refine aw_getR axc2 8 rfl rfl wd_391 dX2_add_49 h (fun a6 h => ?_)
    refine aw_iload_n 2 dX2_add_52 rfl rfl ?_
    refine aw_aald dX2_add_53 h (fun a7 h => ?_)
    refine aw_iload 0 dX2_add_54 rfl ?_
    refine aw_aload_n 1 dX2_add_56 rfl rfl ?_
    refine aw_getR axc2 8 rfl rfl wd_391 dX2_add_57 h (fun a8 h => ?_)
    refine aw_iload_n 2 dX2_add_60 rfl rfl ?_
    refine aw_aald dX2_add_61 h (fun a9 h => ?_)
    refine aw_iload 0 dX2_add_62 rfl ?_
    refine aw_doneI (rest := [.int x5, .ref a7]) h (fun r9 S9 hF => aw_runSN (As := [.ref a9, .int x5]) (rest := [.int x5, .ref a7]) (L1_X9_at N hF) wd_541 wd_1092 wd_540 wd_87 pd_X9_at.2 rfl (ax_rm (by omega) rfl) ax_hf0 (Nat.le_of_ble_eq_true rfl) rfl dX2_add_64) (fun x11 T10 h => ?_)
    refine aw_iconst 1 dX2_add_67 rfl ?_
    refine aw_iadd dX2_add_68 ?_
    refine aw_doneV (rest := []) h (fun S9 hF => aw_runSN (As := [.ref a7, .int x5, .int (x11 + 1)]) (rest := []) (L1_X9_put N hF) wd_443 wd_1093 wd_442 wd_87 pd_X9_put.2 rfl (ax_rm (by omega) rfl) ax_hf0 (Nat.le_of_ble_eq_true rfl) rfl dX2_add_69) (fun T12 h => ?_)
    refine aw_iinc 2 [(3, .int (v3 + 1)), (4, .int x5), (0, .ref v0)] (v3 + 1) dX2_add_72 rfl rfl rfl rfl ?_
    refine aw_goto 29 dX2_add_75 (by decide) ?_
    refine aw_env [(0, .ref v0), (3, .int (v3 + 1))] [2, 0] rfl ?_
    exact hK29 v0 (v3 + 1) T12 h
theorem L1_X2_add_29 {g : AxG} {l : Launch} {S9 : AxS} (N : Nat)  : ∀ (n : Nat) (v0 : Nat) (v3 : Int32) (S : AxS), F_X2_add_29 N  n v0 v3 S = some S9 → AW g l (axRm (1) 0 0) mt_X2_add (axMQ g 0 0 (.inl none, S9)) 0 0 S 29 [(0, .ref v0), (3, .int v3)] [] := by
  intro n
  induction n with
  | zero => intro v0 v3 S h; cases h
  | succ n ih => intro v0 v3 S h; exact L1_X2_add_29b N (F_X2_add_29 N  n) ih v0 v3 S h
theorem L1_X2_add_17 {g : AxG} {l : Launch} {S9 : AxS} (N : Nat)  (v0 : Nat) (S : AxS) (h : F_X2_add_17 N  v0 S = some S9) : AW g l (axRm (1) 0 0) mt_X2_add (axMQ g 0 0 (.inl none, S9)) 0 0 S 17 [(0, .ref v0)] [] := by
  unfold F_X2_add_17 at h
  refine aw_aload_n 0 dX2_add_17 rfl rfl ?_
  refine aw_dup rfl dX2_add_18 ?_
  refine aw_getI axc2 1 rfl rfl wd_377 dX2_add_19 h (fun x1 h => ?_)
  refine aw_iconst 1 dX2_add_22 rfl ?_
  refine aw_iadd dX2_add_23 ?_
  refine aw_putI axc2 1 rfl rfl wd_377 rfl rfl rfl dX2_add_24 h (fun T2 h => ?_)
  refine aw_iconst 0 dX2_add_27 rfl ?_
  refine aw_istore_n 3 [(3, .int 0), (0, .ref v0)] dX2_add_28 rfl rfl rfl ?_
  refine aw_env [(0, .ref v0), (3, .int 0)] [1, 0] rfl ?_
  exact L1_X2_add_29 N  N v0 0 T2 h
theorem L1_X2_add {g : AxG} {l : Launch} (N : Nat) {v0 : Nat} {v1 : Int32} {v2 : Int32} {S : AxS} {S9 : AxS} (h : F_X2_add N v0 v1 v2 S = some S9) : AxMet g l yX2_add cX2_add 5 none (1) 0 0 [.ref v0, .int v1, .int v2] S ((.inl none, S9)) := by
  refine ax_met (own := RX2) (ini := false) (by decide +kernel) rfl (fun h => nomatch h) rfl ?_
  show AW g l (axRm (1) 0 0) mt_X2_add (axMQ g 0 0 (.inl none, S9)) 0 0 S 0 [(0, .ref v0), (1, .int v1), (2, .int v2)] []
  unfold F_X2_add at h
  refine aw_aload_n 0 dX2_add_0 rfl rfl ?_
  refine aw_getI axc2 1 rfl rfl wd_377 dX2_add_1 h (fun x1 h => ?_)
  refine aw_if_ne 17 dX2_add_4 (by decide) h (fun h => ?_) (fun h => ?_)
  · refine aw_env [(0, .ref v0)] [0] rfl ?_
    exact L1_X2_add_17 N  v0 S h
  · refine aw_aload_n 0 dX2_add_7 rfl rfl ?_
    refine aw_iload_n 1 dX2_add_8 rfl rfl ?_
    refine aw_putI axc2 2 rfl rfl wd_379 rfl rfl rfl dX2_add_9 h (fun T2 h => ?_)
    refine aw_aload_n 0 dX2_add_12 rfl rfl ?_
    refine aw_iload_n 2 dX2_add_13 rfl rfl ?_
    refine aw_putI axc2 3 rfl rfl wd_381 rfl rfl rfl dX2_add_14 h (fun T3 h => ?_)
    refine aw_env [(0, .ref v0)] [0] rfl ?_
    exact L1_X2_add_17 N  v0 T3 h

theorem dJ9_max_7cf53_0 : decode cJ9_max_7cf53 0 = .ok (.iload_n 0, 1) := by decide +kernel
theorem dJ9_max_7cf53_1 : decode cJ9_max_7cf53 1 = .ok (.iload_n 1, 1) := by decide +kernel
theorem dJ9_max_7cf53_2 : decode cJ9_max_7cf53 2 = .ok (.if_icmp .lt 7, 3) := by decide +kernel
theorem dJ9_max_7cf53_5 : decode cJ9_max_7cf53 5 = .ok (.iload_n 0, 1) := by decide +kernel
theorem dJ9_max_7cf53_6 : decode cJ9_max_7cf53 6 = .ok (.goto 4, 3) := by decide +kernel
theorem dJ9_max_7cf53_9 : decode cJ9_max_7cf53 9 = .ok (.iload_n 1, 1) := by decide +kernel
theorem dJ9_max_7cf53_10 : decode cJ9_max_7cf53 10 = .ok (.ireturn, 1) := by decide +kernel
abbrev mt_J9_max_7cf53 : AxM := (RJ9, cJ9_max_7cf53, 2, (some .int), false, [])
theorem L1_J9_max_7cf53 {g : AxG} {l : Launch} (N : Nat) {v0 : Int32} {v1 : Int32} {S : AxS} {r9 : Int32} {S9 : AxS} (h : F_J9_max_7cf53 N v0 v1 S = some ((r9, S9))) : AxMet g l yJ9_max_7cf53 cJ9_max_7cf53 2 (some .int) (0) 0 0 [.int v0, .int v1] S ((.inl (some (.int r9)), S9)) := by
  refine ax_met (own := RJ9) (ini := false) (by decide +kernel) rfl (fun h => nomatch h) rfl ?_
  show AW g l (axRm (0) 0 0) mt_J9_max_7cf53 (axMQ g 0 0 (.inl (some (.int r9)), S9)) 0 0 S 0 [(0, .int v0), (1, .int v1)] []
  unfold F_J9_max_7cf53 at h
  refine aw_iload_n 0 dJ9_max_7cf53_0 rfl rfl ?_
  refine aw_iload_n 1 dJ9_max_7cf53_1 rfl rfl ?_
  refine aw_icmp_lt 9 dJ9_max_7cf53_2 (by decide) h (fun h => ?_) (fun h => ?_)
  · refine aw_iload_n 1 dJ9_max_7cf53_9 rfl rfl ?_
    exact aw_iret dJ9_max_7cf53_10 rfl (Nat.le_refl _) (Nat.le_refl _) h
  · refine aw_iload_n 0 dJ9_max_7cf53_5 rfl rfl ?_
    refine aw_goto 10 dJ9_max_7cf53_6 (by decide) ?_
    exact aw_iret dJ9_max_7cf53_10 rfl (Nat.le_refl _) (Nat.le_refl _) h

theorem dX2_choose_0 : decode cX2_choose 0 = .ok (.aload_n 0, 1) := by decide +kernel
theorem dX2_choose_1 : decode cX2_choose 1 = .ok (.iconst (-1), 1) := by decide +kernel
theorem dX2_choose_2 : decode cX2_choose 2 = .ok (.putfield 41, 3) := by decide +kernel
theorem dX2_choose_5 : decode cX2_choose 5 = .ok (.aload_n 0, 1) := by decide +kernel
theorem dX2_choose_6 : decode cX2_choose 6 = .ok (.iconst (-1), 1) := by decide +kernel
theorem dX2_choose_7 : decode cX2_choose 7 = .ok (.putfield 44, 3) := by decide +kernel
theorem dX2_choose_10 : decode cX2_choose 10 = .ok (.iconst 0, 1) := by decide +kernel
theorem dX2_choose_11 : decode cX2_choose 11 = .ok (.istore_n 2, 1) := by decide +kernel
theorem dX2_choose_12 : decode cX2_choose 12 = .ok (.iload_n 2, 1) := by decide +kernel
theorem dX2_choose_13 : decode cX2_choose 13 = .ok (.aload_n 0, 1) := by decide +kernel
theorem dX2_choose_14 : decode cX2_choose 14 = .ok (.getfield 17, 3) := by decide +kernel
theorem dX2_choose_17 : decode cX2_choose 17 = .ok (.arraylength, 1) := by decide +kernel
theorem dX2_choose_18 : decode cX2_choose 18 = .ok (.if_icmp .ge 87, 3) := by decide +kernel
theorem dX2_choose_21 : decode cX2_choose 21 = .ok (.aload_n 1, 1) := by decide +kernel
theorem dX2_choose_22 : decode cX2_choose 22 = .ok (.getfield 47, 3) := by decide +kernel
theorem dX2_choose_25 : decode cX2_choose 25 = .ok (.iload_n 2, 1) := by decide +kernel
theorem dX2_choose_26 : decode cX2_choose 26 = .ok (.invokestatic 33, 3) := by decide +kernel
theorem dX2_choose_29 : decode cX2_choose 29 = .ok (.iconst (-1), 1) := by decide +kernel
theorem dX2_choose_30 : decode cX2_choose 30 = .ok (.if_icmp .eq 6, 3) := by decide +kernel
theorem dX2_choose_33 : decode cX2_choose 33 = .ok (.goto 66, 3) := by decide +kernel
theorem dX2_choose_36 : decode cX2_choose 36 = .ok (.iconst 0, 1) := by decide +kernel
theorem dX2_choose_37 : decode cX2_choose 37 = .ok (.istore_n 3, 1) := by decide +kernel
theorem dX2_choose_38 : decode cX2_choose 38 = .ok (.iconst 0, 1) := by decide +kernel
theorem dX2_choose_39 : decode cX2_choose 39 = .ok (.istore 4, 2) := by decide +kernel
theorem dX2_choose_41 : decode cX2_choose 41 = .ok (.iload 4, 2) := by decide +kernel
theorem dX2_choose_43 : decode cX2_choose 43 = .ok (.aload_n 0, 1) := by decide +kernel
theorem dX2_choose_44 : decode cX2_choose 44 = .ok (.getfield 17, 3) := by decide +kernel
theorem dX2_choose_47 : decode cX2_choose 47 = .ok (.iload_n 2, 1) := by decide +kernel
theorem dX2_choose_48 : decode cX2_choose 48 = .ok (.aaload, 1) := by decide +kernel
theorem dX2_choose_49 : decode cX2_choose 49 = .ok (.arraylength, 1) := by decide +kernel
theorem dX2_choose_50 : decode cX2_choose 50 = .ok (.if_icmp .ge 23, 3) := by decide +kernel
theorem dX2_choose_53 : decode cX2_choose 53 = .ok (.iload_n 3, 1) := by decide +kernel
theorem dX2_choose_54 : decode cX2_choose 54 = .ok (.aload_n 0, 1) := by decide +kernel
theorem dX2_choose_55 : decode cX2_choose 55 = .ok (.getfield 17, 3) := by decide +kernel
theorem dX2_choose_58 : decode cX2_choose 58 = .ok (.iload_n 2, 1) := by decide +kernel
theorem dX2_choose_59 : decode cX2_choose 59 = .ok (.aaload, 1) := by decide +kernel
theorem dX2_choose_60 : decode cX2_choose 60 = .ok (.iload 4, 2) := by decide +kernel
theorem dX2_choose_62 : decode cX2_choose 62 = .ok (.iaload, 1) := by decide +kernel
theorem dX2_choose_63 : decode cX2_choose 63 = .ok (.invokestatic 52, 3) := by decide +kernel
theorem dX2_choose_66 : decode cX2_choose 66 = .ok (.istore_n 3, 1) := by decide +kernel
theorem dX2_choose_67 : decode cX2_choose 67 = .ok (.iinc 4 1, 3) := by decide +kernel
theorem dX2_choose_70 : decode cX2_choose 70 = .ok (.goto (-29), 3) := by decide +kernel
theorem dX2_choose_73 : decode cX2_choose 73 = .ok (.aload_n 0, 1) := by decide +kernel
theorem dX2_choose_74 : decode cX2_choose 74 = .ok (.getfield 41, 3) := by decide +kernel
theorem dX2_choose_77 : decode cX2_choose 77 = .ok (.iconst (-1), 1) := by decide +kernel
theorem dX2_choose_78 : decode cX2_choose 78 = .ok (.if_icmp .eq 11, 3) := by decide +kernel
theorem dX2_choose_81 : decode cX2_choose 81 = .ok (.iload_n 3, 1) := by decide +kernel
theorem dX2_choose_82 : decode cX2_choose 82 = .ok (.aload_n 0, 1) := by decide +kernel
theorem dX2_choose_83 : decode cX2_choose 83 = .ok (.getfield 44, 3) := by decide +kernel
theorem dX2_choose_86 : decode cX2_choose 86 = .ok (.if_icmp .ge 13, 3) := by decide +kernel
theorem dX2_choose_89 : decode cX2_choose 89 = .ok (.aload_n 0, 1) := by decide +kernel
theorem dX2_choose_90 : decode cX2_choose 90 = .ok (.iload_n 2, 1) := by decide +kernel
theorem dX2_choose_91 : decode cX2_choose 91 = .ok (.putfield 41, 3) := by decide +kernel
theorem dX2_choose_94 : decode cX2_choose 94 = .ok (.aload_n 0, 1) := by decide +kernel
theorem dX2_choose_95 : decode cX2_choose 95 = .ok (.iload_n 3, 1) := by decide +kernel
theorem dX2_choose_96 : decode cX2_choose 96 = .ok (.putfield 44, 3) := by decide +kernel
theorem dX2_choose_99 : decode cX2_choose 99 = .ok (.iinc 2 1, 3) := by decide +kernel
theorem dX2_choose_102 : decode cX2_choose 102 = .ok (.goto (-90), 3) := by decide +kernel
theorem dX2_choose_105 : decode cX2_choose 105 = .ok (.return_, 1) := by decide +kernel
abbrev mt_X2_choose : AxM := (RX2, cX2_choose, 5, none, false, [])
theorem L1_X2_choose_99 {g : AxG} {l : Launch} {S9 : AxS} (N : Nat) (K12 : Nat → Nat → Int32 → AxS → Option (AxS)) (hK12 : ∀ (v0 : Nat) (v1 : Nat) (v2 : Int32) (S : AxS), K12 v0 v1 v2 S = some S9 → AW g l (axRm (1) 0 0) mt_X2_choose (axMQ g 0 0 (.inl none, S9)) 0 0 S 12 [(0, .ref v0), (1, .ref v1), (2, .int v2)] []) (v0 : Nat) (v1 : Nat) (v2 : Int32) (S : AxS) (h : F_X2_choose_99 N K12 v0 v1 v2 S = some S9) : AW g l (axRm (1) 0 0) mt_X2_choose (axMQ g 0 0 (.inl none, S9)) 0 0 S 99 [(0, .ref v0), (1, .ref v1), (2, .int v2)] [] := by
  unfold F_X2_choose_99 at h
  refine aw_iinc 2 [(2, .int (v2 + 1)), (0, .ref v0), (1, .ref v1)] (v2 + 1) dX2_choose_99 rfl rfl rfl rfl ?_
  refine aw_goto 12 dX2_choose_102 (by decide) ?_
  refine aw_env [(0, .ref v0), (1, .ref v1), (2, .int (v2 + 1))] [1, 2, 0] rfl ?_
  exact hK12 v0 v1 (v2 + 1) S h
theorem L1_X2_choose_89 {g : AxG} {l : Launch} {S9 : AxS} (N : Nat) (K12 : Nat → Nat → Int32 → AxS → Option (AxS)) (hK12 : ∀ (v0 : Nat) (v1 : Nat) (v2 : Int32) (S : AxS), K12 v0 v1 v2 S = some S9 → AW g l (axRm (1) 0 0) mt_X2_choose (axMQ g 0 0 (.inl none, S9)) 0 0 S 12 [(0, .ref v0), (1, .ref v1), (2, .int v2)] []) (v0 : Nat) (v1 : Nat) (v2 : Int32) (v3 : Int32) (S : AxS) (h : F_X2_choose_89 N K12 v0 v1 v2 v3 S = some S9) : AW g l (axRm (1) 0 0) mt_X2_choose (axMQ g 0 0 (.inl none, S9)) 0 0 S 89 [(0, .ref v0), (1, .ref v1), (2, .int v2), (3, .int v3)] [] := by
  unfold F_X2_choose_89 at h
  refine aw_aload_n 0 dX2_choose_89 rfl rfl ?_
  refine aw_iload_n 2 dX2_choose_90 rfl rfl ?_
  refine aw_putI axc2 5 rfl rfl wd_385 rfl rfl rfl dX2_choose_91 h (fun T1 h => ?_)
  refine aw_aload_n 0 dX2_choose_94 rfl rfl ?_
  refine aw_iload_n 3 dX2_choose_95 rfl rfl ?_
  refine aw_putI axc2 6 rfl rfl wd_387 rfl rfl rfl dX2_choose_96 h (fun T2 h => ?_)
  refine aw_env [(0, .ref v0), (1, .ref v1), (2, .int v2)] [0, 1, 2] rfl ?_
  exact L1_X2_choose_99 N K12 hK12 v0 v1 v2 T2 h
theorem L1_X2_choose_41b {g : AxG} {l : Launch} {S9 : AxS} (N : Nat) (K12 : Nat → Nat → Int32 → AxS → Option (AxS)) (hK12 : ∀ (v0 : Nat) (v1 : Nat) (v2 : Int32) (S : AxS), K12 v0 v1 v2 S = some S9 → AW g l (axRm (1) 0 0) mt_X2_choose (axMQ g 0 0 (.inl none, S9)) 0 0 S 12 [(0, .ref v0), (1, .ref v1), (2, .int v2)] []) (K41 : Nat → Nat → Int32 → Int32 → Int32 → AxS → Option (AxS)) (hK41 : ∀ (v0 : Nat) (v1 : Nat) (v2 : Int32) (v3 : Int32) (v4 : Int32) (S : AxS), K41 v0 v1 v2 v3 v4 S = some S9 → AW g l (axRm (1) 0 0) mt_X2_choose (axMQ g 0 0 (.inl none, S9)) 0 0 S 41 [(0, .ref v0), (1, .ref v1), (2, .int v2), (3, .int v3), (4, .int v4)] []) (v0 : Nat) (v1 : Nat) (v2 : Int32) (v3 : Int32) (v4 : Int32) (S : AxS) (h : F_X2_choose_41b N K12 K41 v0 v1 v2 v3 v4 S = some S9) : AW g l (axRm (1) 0 0) mt_X2_choose (axMQ g 0 0 (.inl none, S9)) 0 0 S 41 [(0, .ref v0), (1, .ref v1), (2, .int v2), (3, .int v3), (4, .int v4)] [] := by
  unfold F_X2_choose_41b at h
  refine aw_iload 4 dX2_choose_41 rfl ?_
  refine aw_aload_n 0 dX2_choose_43 rfl rfl ?_
  refine aw_getR axc2 8 rfl rfl wd_391 dX2_choose_44 h (fun a1 h => ?_)
  refine aw_iload_n 2 dX2_choose_47 rfl rfl ?_
  refine aw_aald dX2_choose_48 h (fun a2 h => ?_)
  refine aw_alen dX2_choose_49 h (fun x3 h => ?_)
  refine aw_icmp_ge 73 dX2_choose_50 (by decide) h (fun h => ?_) (fun h => ?_)
  · refine aw_aload_n 0 dX2_choose_73 rfl rfl ?_
    refine aw_getI axc2 5 rfl rfl wd_385 dX2_choose_74 h (fun x4 h => ?_)
    refine aw_iconst (-1) dX2_choose_77 rfl ?_
    refine aw_icmp_eq 89 dX2_choose_78 (by decide) h (fun h => ?_) (fun h => ?_)
    · refine aw_env [(0, .ref v0), (1, .ref v1), (2, .int v2), (3, .int v3)] [0, 1, 2, 3] rfl ?_
      exact L1_X2_choose_89 N K12 hK12 v0 v1 v2 v3 S h
    · refine aw_iload_n 3 dX2_choose_81 rfl rfl ?_
      refine aw_aload_n 0 dX2_choose_82 rfl rfl ?_
      refine aw_getI axc2 6 rfl rfl wd_387 dX2_choose_83 h (fun x5 h => ?_)
      refine aw_icmp_ge 99 dX2_choose_86 (by decide) h (fun h => ?_) (fun h => ?_)
      · refine aw_env [(0, .ref v0), (1, .ref v1), (2, .int v2)] [0, 1, 2] rfl ?_
        exact L1_X2_choose_99 N K12 hK12 v0 v1 v2 S h
      · refine aw_env [(0, .ref v0), (1, .ref v1), (2, .int v2), (3, .int v3)] [0, 1, 2, 3] rfl ?_
        exact L1_X2_choose_89 N K12 hK12 v0 v1 v2 v3 S h
  · refine aw_iload_n 3 dX2_choose_53 rfl rfl ?_
    refine aw_aload_n 0 dX2_choose_54 rfl rfl ?_
    refine aw_getR axc2 8 rfl rfl wd_391 dX2_choose_55 h (fun a6 h => ?_)
    refine aw_iload_n 2 dX2_choose_58 rfl rfl ?_
    refine aw_aald dX2_choose_59 h (fun a7 h => ?_)
    refine aw_iload 4 dX2_choose_60 rfl ?_
    refine aw_iald dX2_choose_62 h (fun x8 h => ?_)
    refine aw_doneI (rest := []) h (fun r9 S9 hF => aw_runS (As := [.int v3, .int x8]) (rest := []) (L1_J9_max_7cf53 N hF) wd_552 wd_1098 wd_551 wd_106 pd_J9_max_7cf53.2 rfl (ax_rm (by omega) rfl) ax_hf0 (Nat.le_of_ble_eq_true rfl) rfl dX2_choose_63) (fun x10 T9 h => ?_)
    refine aw_istore_n 3 [(3, .int x10), (0, .ref v0), (1, .ref v1), (2, .int v2), (4, .int v4)] dX2_choose_66 rfl rfl rfl ?_
    refine aw_iinc 4 [(4, .int (v4 + 1)), (3, .int x10), (0, .ref v0), (1, .ref v1), (2, .int v2)] (v4 + 1) dX2_choose_67 rfl rfl rfl rfl ?_
    refine aw_goto 41 dX2_choose_70 (by decide) ?_
    refine aw_env [(0, .ref v0), (1, .ref v1), (2, .int v2), (3, .int x10), (4, .int (v4 + 1))] [2, 3, 4, 1, 0] rfl ?_
    exact hK41 v0 v1 v2 x10 (v4 + 1) T9 h
theorem L1_X2_choose_41 {g : AxG} {l : Launch} {S9 : AxS} (N : Nat) (K12 : Nat → Nat → Int32 → AxS → Option (AxS)) (hK12 : ∀ (v0 : Nat) (v1 : Nat) (v2 : Int32) (S : AxS), K12 v0 v1 v2 S = some S9 → AW g l (axRm (1) 0 0) mt_X2_choose (axMQ g 0 0 (.inl none, S9)) 0 0 S 12 [(0, .ref v0), (1, .ref v1), (2, .int v2)] []) : ∀ (n : Nat) (v0 : Nat) (v1 : Nat) (v2 : Int32) (v3 : Int32) (v4 : Int32) (S : AxS), F_X2_choose_41 N K12 n v0 v1 v2 v3 v4 S = some S9 → AW g l (axRm (1) 0 0) mt_X2_choose (axMQ g 0 0 (.inl none, S9)) 0 0 S 41 [(0, .ref v0), (1, .ref v1), (2, .int v2), (3, .int v3), (4, .int v4)] [] := by
  intro n
  induction n with
  | zero => intro v0 v1 v2 v3 v4 S h; cases h
  | succ n ih => intro v0 v1 v2 v3 v4 S h; exact L1_X2_choose_41b N K12 hK12 (F_X2_choose_41 N K12 n) ih v0 v1 v2 v3 v4 S h
theorem L1_X2_choose_12b {g : AxG} {l : Launch} {S9 : AxS} (N : Nat) (K12 : Nat → Nat → Int32 → AxS → Option (AxS)) (hK12 : ∀ (v0 : Nat) (v1 : Nat) (v2 : Int32) (S : AxS), K12 v0 v1 v2 S = some S9 → AW g l (axRm (1) 0 0) mt_X2_choose (axMQ g 0 0 (.inl none, S9)) 0 0 S 12 [(0, .ref v0), (1, .ref v1), (2, .int v2)] []) (v0 : Nat) (v1 : Nat) (v2 : Int32) (S : AxS) (h : F_X2_choose_12b N K12 v0 v1 v2 S = some S9) : AW g l (axRm (1) 0 0) mt_X2_choose (axMQ g 0 0 (.inl none, S9)) 0 0 S 12 [(0, .ref v0), (1, .ref v1), (2, .int v2)] [] := by
  unfold F_X2_choose_12b at h
  refine aw_iload_n 2 dX2_choose_12 rfl rfl ?_
  refine aw_aload_n 0 dX2_choose_13 rfl rfl ?_
  refine aw_getR axc2 8 rfl rfl wd_391 dX2_choose_14 h (fun a1 h => ?_)
  refine aw_alen dX2_choose_17 h (fun x2 h => ?_)
  refine aw_icmp_ge 105 dX2_choose_18 (by decide) h (fun h => ?_) (fun h => ?_)
  · exact aw_vret dX2_choose_105 rfl (Nat.le_refl _) (Nat.le_refl _) h
  · refine aw_aload_n 1 dX2_choose_21 rfl rfl ?_
    refine aw_getR axc0 0 rfl rfl wd_248 dX2_choose_22 h (fun a3 h => ?_)
    refine aw_iload_n 2 dX2_choose_25 rfl rfl ?_
    refine aw_doneI (rest := []) h (fun r9 S9 hF => aw_runSN (As := [.ref a3, .int v2]) (rest := []) (L1_X9_at N hF) wd_541 wd_1092 wd_540 wd_87 pd_X9_at.2 rfl (ax_rm (by omega) rfl) ax_hf0 (Nat.le_of_ble_eq_true rfl) rfl dX2_choose_26) (fun x5 T4 h => ?_)
    refine aw_iconst (-1) dX2_choose_29 rfl ?_
    refine aw_icmp_eq 36 dX2_choose_30 (by decide) h (fun h => ?_) (fun h => ?_)
    · refine aw_iconst 0 dX2_choose_36 rfl ?_
      refine aw_istore_n 3 [(3, .int 0), (0, .ref v0), (1, .ref v1), (2, .int v2)] dX2_choose_37 rfl rfl rfl ?_
      refine aw_iconst 0 dX2_choose_38 rfl ?_
      refine aw_istore [(4, .int 0), (3, .int 0), (0, .ref v0), (1, .ref v1), (2, .int v2)] dX2_choose_39 rfl rfl ?_
      refine aw_env [(0, .ref v0), (1, .ref v1), (2, .int v2), (3, .int 0), (4, .int 0)] [2, 3, 4, 1, 0] rfl ?_
      exact L1_X2_choose_41 N K12 hK12 N v0 v1 v2 0 0 T4 h
    · refine aw_goto 99 dX2_choose_33 (by decide) ?_
      refine aw_env [(0, .ref v0), (1, .ref v1), (2, .int v2)] [0, 1, 2] rfl ?_
      exact L1_X2_choose_99 N K12 hK12 v0 v1 v2 T4 h
theorem L1_X2_choose_12 {g : AxG} {l : Launch} {S9 : AxS} (N : Nat)  : ∀ (n : Nat) (v0 : Nat) (v1 : Nat) (v2 : Int32) (S : AxS), F_X2_choose_12 N  n v0 v1 v2 S = some S9 → AW g l (axRm (1) 0 0) mt_X2_choose (axMQ g 0 0 (.inl none, S9)) 0 0 S 12 [(0, .ref v0), (1, .ref v1), (2, .int v2)] [] := by
  intro n
  induction n with
  | zero => intro v0 v1 v2 S h; cases h
  | succ n ih => intro v0 v1 v2 S h; exact L1_X2_choose_12b N (F_X2_choose_12 N  n) ih v0 v1 v2 S h
theorem L1_X2_choose {g : AxG} {l : Launch} (N : Nat) {v0 : Nat} {v1 : Nat} {S : AxS} {S9 : AxS} (h : F_X2_choose N v0 v1 S = some S9) : AxMet g l yX2_choose cX2_choose 5 none (1) 0 0 [.ref v0, .ref v1] S ((.inl none, S9)) := by
  refine ax_met (own := RX2) (ini := false) (by decide +kernel) rfl (fun h => nomatch h) rfl ?_
  show AW g l (axRm (1) 0 0) mt_X2_choose (axMQ g 0 0 (.inl none, S9)) 0 0 S 0 [(0, .ref v0), (1, .ref v1)] []
  unfold F_X2_choose at h
  refine aw_aload_n 0 dX2_choose_0 rfl rfl ?_
  refine aw_iconst (-1) dX2_choose_1 rfl ?_
  refine aw_putI axc2 5 rfl rfl wd_385 rfl rfl rfl dX2_choose_2 h (fun T1 h => ?_)
  refine aw_aload_n 0 dX2_choose_5 rfl rfl ?_
  refine aw_iconst (-1) dX2_choose_6 rfl ?_
  refine aw_putI axc2 6 rfl rfl wd_387 rfl rfl rfl dX2_choose_7 h (fun T2 h => ?_)
  refine aw_iconst 0 dX2_choose_10 rfl ?_
  refine aw_istore_n 2 [(2, .int 0), (0, .ref v0), (1, .ref v1)] dX2_choose_11 rfl rfl rfl ?_
  refine aw_env [(0, .ref v0), (1, .ref v1), (2, .int 0)] [1, 2, 0] rfl ?_
  exact L1_X2_choose_12 N  N v0 v1 0 T2 h

theorem dX5_take_0 : decode cX5_take 0 = .ok (.aload_n 0, 1) := by decide +kernel
theorem dX5_take_1 : decode cX5_take 1 = .ok (.aload_n 1, 1) := by decide +kernel
theorem dX5_take_2 : decode cX5_take 2 = .ok (.getfield 24, 3) := by decide +kernel
theorem dX5_take_5 : decode cX5_take 5 = .ok (.putfield 24, 3) := by decide +kernel
theorem dX5_take_8 : decode cX5_take 8 = .ok (.aload_n 0, 1) := by decide +kernel
theorem dX5_take_9 : decode cX5_take 9 = .ok (.aload_n 1, 1) := by decide +kernel
theorem dX5_take_10 : decode cX5_take 10 = .ok (.getfield 30, 3) := by decide +kernel
theorem dX5_take_13 : decode cX5_take 13 = .ok (.putfield 30, 3) := by decide +kernel
theorem dX5_take_16 : decode cX5_take 16 = .ok (.aload_n 0, 1) := by decide +kernel
theorem dX5_take_17 : decode cX5_take 17 = .ok (.aload_n 1, 1) := by decide +kernel
theorem dX5_take_18 : decode cX5_take 18 = .ok (.getfield 31, 3) := by decide +kernel
theorem dX5_take_21 : decode cX5_take 21 = .ok (.putfield 31, 3) := by decide +kernel
theorem dX5_take_24 : decode cX5_take 24 = .ok (.aload_n 0, 1) := by decide +kernel
theorem dX5_take_25 : decode cX5_take 25 = .ok (.aload_n 1, 1) := by decide +kernel
theorem dX5_take_26 : decode cX5_take 26 = .ok (.getfield 34, 3) := by decide +kernel
theorem dX5_take_29 : decode cX5_take 29 = .ok (.putfield 34, 3) := by decide +kernel
theorem dX5_take_32 : decode cX5_take 32 = .ok (.aload_n 0, 1) := by decide +kernel
theorem dX5_take_33 : decode cX5_take 33 = .ok (.aload_n 1, 1) := by decide +kernel
theorem dX5_take_34 : decode cX5_take 34 = .ok (.getfield 37, 3) := by decide +kernel
theorem dX5_take_37 : decode cX5_take 37 = .ok (.putfield 37, 3) := by decide +kernel
theorem dX5_take_40 : decode cX5_take 40 = .ok (.aload_n 0, 1) := by decide +kernel
theorem dX5_take_41 : decode cX5_take 41 = .ok (.aload_n 1, 1) := by decide +kernel
theorem dX5_take_42 : decode cX5_take 42 = .ok (.getfield 40, 3) := by decide +kernel
theorem dX5_take_45 : decode cX5_take 45 = .ok (.putfield 40, 3) := by decide +kernel
theorem dX5_take_48 : decode cX5_take 48 = .ok (.aload_n 0, 1) := by decide +kernel
theorem dX5_take_49 : decode cX5_take 49 = .ok (.aload_n 1, 1) := by decide +kernel
theorem dX5_take_50 : decode cX5_take 50 = .ok (.getfield 43, 3) := by decide +kernel
theorem dX5_take_53 : decode cX5_take 53 = .ok (.putfield 43, 3) := by decide +kernel
theorem dX5_take_56 : decode cX5_take 56 = .ok (.aload_n 0, 1) := by decide +kernel
theorem dX5_take_57 : decode cX5_take 57 = .ok (.aload_n 1, 1) := by decide +kernel
theorem dX5_take_58 : decode cX5_take 58 = .ok (.getfield 46, 3) := by decide +kernel
theorem dX5_take_61 : decode cX5_take 61 = .ok (.putfield 46, 3) := by decide +kernel
theorem dX5_take_64 : decode cX5_take 64 = .ok (.aload_n 0, 1) := by decide +kernel
theorem dX5_take_65 : decode cX5_take 65 = .ok (.aload_n 1, 1) := by decide +kernel
theorem dX5_take_66 : decode cX5_take 66 = .ok (.getfield 49, 3) := by decide +kernel
theorem dX5_take_69 : decode cX5_take 69 = .ok (.putfield 49, 3) := by decide +kernel
theorem dX5_take_72 : decode cX5_take 72 = .ok (.aload_n 0, 1) := by decide +kernel
theorem dX5_take_73 : decode cX5_take 73 = .ok (.aload_n 1, 1) := by decide +kernel
theorem dX5_take_74 : decode cX5_take 74 = .ok (.getfield 52, 3) := by decide +kernel
theorem dX5_take_77 : decode cX5_take 77 = .ok (.putfield 52, 3) := by decide +kernel
theorem dX5_take_80 : decode cX5_take 80 = .ok (.aload_n 0, 1) := by decide +kernel
theorem dX5_take_81 : decode cX5_take 81 = .ok (.aload_n 1, 1) := by decide +kernel
theorem dX5_take_82 : decode cX5_take 82 = .ok (.getfield 55, 3) := by decide +kernel
theorem dX5_take_85 : decode cX5_take 85 = .ok (.putfield 55, 3) := by decide +kernel
theorem dX5_take_88 : decode cX5_take 88 = .ok (.aload_n 0, 1) := by decide +kernel
theorem dX5_take_89 : decode cX5_take 89 = .ok (.aload_n 1, 1) := by decide +kernel
theorem dX5_take_90 : decode cX5_take 90 = .ok (.getfield 58, 3) := by decide +kernel
theorem dX5_take_93 : decode cX5_take 93 = .ok (.putfield 58, 3) := by decide +kernel
theorem dX5_take_96 : decode cX5_take 96 = .ok (.iconst 0, 1) := by decide +kernel
theorem dX5_take_97 : decode cX5_take 97 = .ok (.istore_n 2, 1) := by decide +kernel
theorem dX5_take_98 : decode cX5_take 98 = .ok (.iload_n 2, 1) := by decide +kernel
theorem dX5_take_99 : decode cX5_take 99 = .ok (.bipush 8, 2) := by decide +kernel
theorem dX5_take_101 : decode cX5_take 101 = .ok (.if_icmp .ge 41, 3) := by decide +kernel
theorem dX5_take_104 : decode cX5_take 104 = .ok (.aload_n 0, 1) := by decide +kernel
theorem dX5_take_105 : decode cX5_take 105 = .ok (.getfield 9, 3) := by decide +kernel
theorem dX5_take_108 : decode cX5_take 108 = .ok (.iload_n 2, 1) := by decide +kernel
theorem dX5_take_109 : decode cX5_take 109 = .ok (.aload_n 1, 1) := by decide +kernel
theorem dX5_take_110 : decode cX5_take 110 = .ok (.getfield 9, 3) := by decide +kernel
theorem dX5_take_113 : decode cX5_take 113 = .ok (.iload_n 2, 1) := by decide +kernel
theorem dX5_take_114 : decode cX5_take 114 = .ok (.invokestatic 65, 3) := by decide +kernel
theorem dX5_take_117 : decode cX5_take 117 = .ok (.invokestatic 61, 3) := by decide +kernel
theorem dX5_take_120 : decode cX5_take 120 = .ok (.aload_n 0, 1) := by decide +kernel
theorem dX5_take_121 : decode cX5_take 121 = .ok (.getfield 15, 3) := by decide +kernel
theorem dX5_take_124 : decode cX5_take 124 = .ok (.iload_n 2, 1) := by decide +kernel
theorem dX5_take_125 : decode cX5_take 125 = .ok (.aload_n 1, 1) := by decide +kernel
theorem dX5_take_126 : decode cX5_take 126 = .ok (.getfield 15, 3) := by decide +kernel
theorem dX5_take_129 : decode cX5_take 129 = .ok (.iload_n 2, 1) := by decide +kernel
theorem dX5_take_130 : decode cX5_take 130 = .ok (.invokestatic 65, 3) := by decide +kernel
theorem dX5_take_133 : decode cX5_take 133 = .ok (.invokestatic 61, 3) := by decide +kernel
theorem dX5_take_136 : decode cX5_take 136 = .ok (.iinc 2 1, 3) := by decide +kernel
theorem dX5_take_139 : decode cX5_take 139 = .ok (.goto (-41), 3) := by decide +kernel
theorem dX5_take_142 : decode cX5_take 142 = .ok (.return_, 1) := by decide +kernel
abbrev mt_X5_take : AxM := (RX5, cX5_take, 3, none, false, [])
theorem L1_X5_take_98b {g : AxG} {l : Launch} {S9 : AxS} (N : Nat) (K98 : Nat → Nat → Int32 → AxS → Option (AxS)) (hK98 : ∀ (v0 : Nat) (v1 : Nat) (v2 : Int32) (S : AxS), K98 v0 v1 v2 S = some S9 → AW g l (axRm (1) 0 0) mt_X5_take (axMQ g 0 0 (.inl none, S9)) 0 0 S 98 [(0, .ref v0), (1, .ref v1), (2, .int v2)] []) (v0 : Nat) (v1 : Nat) (v2 : Int32) (S : AxS) (h : F_X5_take_98b N K98 v0 v1 v2 S = some S9) : AW g l (axRm (1) 0 0) mt_X5_take (axMQ g 0 0 (.inl none, S9)) 0 0 S 98 [(0, .ref v0), (1, .ref v1), (2, .int v2)] [] := by
  unfold F_X5_take_98b at h
  refine aw_iload_n 2 dX5_take_98 rfl rfl ?_
  refine aw_bipush 8 dX5_take_99 (by decide) ?_
  refine aw_icmp_ge 142 dX5_take_101 (by decide) h (fun h => ?_) (fun h => ?_)
  · exact aw_vret dX5_take_142 rfl (Nat.le_refl _) (Nat.le_refl _) h
  · refine aw_aload_n 0 dX5_take_104 rfl rfl ?_
    refine aw_getR axc5 12 rfl rfl wd_316 dX5_take_105 h (fun a1 h => ?_)
    refine aw_iload_n 2 dX5_take_108 rfl rfl ?_
    refine aw_aload_n 1 dX5_take_109 rfl rfl ?_
    refine aw_getR axc5 12 rfl rfl wd_316 dX5_take_110 h (fun a2 h => ?_)
    refine aw_iload_n 2 dX5_take_113 rfl rfl ?_
    refine aw_doneI (rest := [.int v2, .ref a1]) h (fun r9 S9 hF => aw_runSN (As := [.ref a2, .int v2]) (rest := [.int v2, .ref a1]) (L1_X9_at N hF) wd_541 wd_539 wd_540 wd_87 pd_X9_at.2 rfl (ax_rm (by omega) rfl) ax_hf0 (Nat.le_of_ble_eq_true rfl) rfl dX5_take_114) (fun x4 T3 h => ?_)
    refine aw_doneV (rest := []) h (fun S9 hF => aw_runSN (As := [.ref a1, .int v2, .int x4]) (rest := []) (L1_X9_put N hF) wd_443 wd_452 wd_442 wd_87 pd_X9_put.2 rfl (ax_rm (by omega) rfl) ax_hf0 (Nat.le_of_ble_eq_true rfl) rfl dX5_take_117) (fun T5 h => ?_)
    refine aw_aload_n 0 dX5_take_120 rfl rfl ?_
    refine aw_getR axc5 13 rfl rfl wd_318 dX5_take_121 h (fun a7 h => ?_)
    refine aw_iload_n 2 dX5_take_124 rfl rfl ?_
    refine aw_aload_n 1 dX5_take_125 rfl rfl ?_
    refine aw_getR axc5 13 rfl rfl wd_318 dX5_take_126 h (fun a8 h => ?_)
    refine aw_iload_n 2 dX5_take_129 rfl rfl ?_
    refine aw_doneI (rest := [.int v2, .ref a7]) h (fun r9 S9 hF => aw_runSN (As := [.ref a8, .int v2]) (rest := [.int v2, .ref a7]) (L1_X9_at N hF) wd_541 wd_539 wd_540 wd_87 pd_X9_at.2 rfl (ax_rm (by omega) rfl) ax_hf0 (Nat.le_of_ble_eq_true rfl) rfl dX5_take_130) (fun x10 T9 h => ?_)
    refine aw_doneV (rest := []) h (fun S9 hF => aw_runSN (As := [.ref a7, .int v2, .int x10]) (rest := []) (L1_X9_put N hF) wd_443 wd_452 wd_442 wd_87 pd_X9_put.2 rfl (ax_rm (by omega) rfl) ax_hf0 (Nat.le_of_ble_eq_true rfl) rfl dX5_take_133) (fun T11 h => ?_)
    refine aw_iinc 2 [(2, .int (v2 + 1)), (0, .ref v0), (1, .ref v1)] (v2 + 1) dX5_take_136 rfl rfl rfl rfl ?_
    refine aw_goto 98 dX5_take_139 (by decide) ?_
    refine aw_env [(0, .ref v0), (1, .ref v1), (2, .int (v2 + 1))] [1, 2, 0] rfl ?_
    exact hK98 v0 v1 (v2 + 1) T11 h
theorem L1_X5_take_98 {g : AxG} {l : Launch} {S9 : AxS} (N : Nat)  : ∀ (n : Nat) (v0 : Nat) (v1 : Nat) (v2 : Int32) (S : AxS), F_X5_take_98 N  n v0 v1 v2 S = some S9 → AW g l (axRm (1) 0 0) mt_X5_take (axMQ g 0 0 (.inl none, S9)) 0 0 S 98 [(0, .ref v0), (1, .ref v1), (2, .int v2)] [] := by
  intro n
  induction n with
  | zero => intro v0 v1 v2 S h; cases h
  | succ n ih => intro v0 v1 v2 S h; exact L1_X5_take_98b N (F_X5_take_98 N  n) ih v0 v1 v2 S h
theorem L1_X5_take {g : AxG} {l : Launch} (N : Nat) {v0 : Nat} {v1 : Nat} {S : AxS} {S9 : AxS} (h : F_X5_take N v0 v1 S = some S9) : AxMet g l yX5_take cX5_take 3 none (1) 0 0 [.ref v0, .ref v1] S ((.inl none, S9)) := by
  refine ax_met (own := RX5) (ini := false) (by decide +kernel) rfl (fun h => nomatch h) rfl ?_
  show AW g l (axRm (1) 0 0) mt_X5_take (axMQ g 0 0 (.inl none, S9)) 0 0 S 0 [(0, .ref v0), (1, .ref v1)] []
  unfold F_X5_take at h
  refine aw_aload_n 0 dX5_take_0 rfl rfl ?_
  refine aw_aload_n 1 dX5_take_1 rfl rfl ?_
  refine aw_getI axc5 0 rfl rfl wd_292 dX5_take_2 h (fun x1 h => ?_)
  refine aw_putI axc5 0 rfl rfl wd_292 rfl rfl rfl dX5_take_5 h (fun T2 h => ?_)
  refine aw_aload_n 0 dX5_take_8 rfl rfl ?_
  refine aw_aload_n 1 dX5_take_9 rfl rfl ?_
  refine aw_getI axc5 1 rfl rfl wd_294 dX5_take_10 h (fun x3 h => ?_)
  refine aw_putI axc5 1 rfl rfl wd_294 rfl rfl rfl dX5_take_13 h (fun T4 h => ?_)
  refine aw_aload_n 0 dX5_take_16 rfl rfl ?_
  refine aw_aload_n 1 dX5_take_17 rfl rfl ?_
  refine aw_getI axc5 2 rfl rfl wd_296 dX5_take_18 h (fun x5 h => ?_)
  refine aw_putI axc5 2 rfl rfl wd_296 rfl rfl rfl dX5_take_21 h (fun T6 h => ?_)
  refine aw_aload_n 0 dX5_take_24 rfl rfl ?_
  refine aw_aload_n 1 dX5_take_25 rfl rfl ?_
  refine aw_getI axc5 3 rfl rfl wd_298 dX5_take_26 h (fun x7 h => ?_)
  refine aw_putI axc5 3 rfl rfl wd_298 rfl rfl rfl dX5_take_29 h (fun T8 h => ?_)
  refine aw_aload_n 0 dX5_take_32 rfl rfl ?_
  refine aw_aload_n 1 dX5_take_33 rfl rfl ?_
  refine aw_getI axc5 4 rfl rfl wd_300 dX5_take_34 h (fun x9 h => ?_)
  refine aw_putI axc5 4 rfl rfl wd_300 rfl rfl rfl dX5_take_37 h (fun T10 h => ?_)
  refine aw_aload_n 0 dX5_take_40 rfl rfl ?_
  refine aw_aload_n 1 dX5_take_41 rfl rfl ?_
  refine aw_getI axc5 5 rfl rfl wd_302 dX5_take_42 h (fun x11 h => ?_)
  refine aw_putI axc5 5 rfl rfl wd_302 rfl rfl rfl dX5_take_45 h (fun T12 h => ?_)
  refine aw_aload_n 0 dX5_take_48 rfl rfl ?_
  refine aw_aload_n 1 dX5_take_49 rfl rfl ?_
  refine aw_getI axc5 6 rfl rfl wd_304 dX5_take_50 h (fun x13 h => ?_)
  refine aw_putI axc5 6 rfl rfl wd_304 rfl rfl rfl dX5_take_53 h (fun T14 h => ?_)
  refine aw_aload_n 0 dX5_take_56 rfl rfl ?_
  refine aw_aload_n 1 dX5_take_57 rfl rfl ?_
  refine aw_getI axc5 7 rfl rfl wd_306 dX5_take_58 h (fun x15 h => ?_)
  refine aw_putI axc5 7 rfl rfl wd_306 rfl rfl rfl dX5_take_61 h (fun T16 h => ?_)
  refine aw_aload_n 0 dX5_take_64 rfl rfl ?_
  refine aw_aload_n 1 dX5_take_65 rfl rfl ?_
  refine aw_getI axc5 8 rfl rfl wd_308 dX5_take_66 h (fun x17 h => ?_)
  refine aw_putI axc5 8 rfl rfl wd_308 rfl rfl rfl dX5_take_69 h (fun T18 h => ?_)
  refine aw_aload_n 0 dX5_take_72 rfl rfl ?_
  refine aw_aload_n 1 dX5_take_73 rfl rfl ?_
  refine aw_getI axc5 9 rfl rfl wd_310 dX5_take_74 h (fun x19 h => ?_)
  refine aw_putI axc5 9 rfl rfl wd_310 rfl rfl rfl dX5_take_77 h (fun T20 h => ?_)
  refine aw_aload_n 0 dX5_take_80 rfl rfl ?_
  refine aw_aload_n 1 dX5_take_81 rfl rfl ?_
  refine aw_getI axc5 10 rfl rfl wd_312 dX5_take_82 h (fun x21 h => ?_)
  refine aw_putI axc5 10 rfl rfl wd_312 rfl rfl rfl dX5_take_85 h (fun T22 h => ?_)
  refine aw_aload_n 0 dX5_take_88 rfl rfl ?_
  refine aw_aload_n 1 dX5_take_89 rfl rfl ?_
  refine aw_getI axc5 11 rfl rfl wd_314 dX5_take_90 h (fun x23 h => ?_)
  refine aw_putI axc5 11 rfl rfl wd_314 rfl rfl rfl dX5_take_93 h (fun T24 h => ?_)
  refine aw_iconst 0 dX5_take_96 rfl ?_
  refine aw_istore_n 2 [(2, .int 0), (0, .ref v0), (1, .ref v1)] dX5_take_97 rfl rfl rfl ?_
  refine aw_env [(0, .ref v0), (1, .ref v1), (2, .int 0)] [1, 2, 0] rfl ?_
  exact L1_X5_take_98 N  N v0 v1 0 T24 h

theorem dX8_take_0 : decode cX8_take 0 = .ok (.aload_n 0, 1) := by decide +kernel
theorem dX8_take_1 : decode cX8_take 1 = .ok (.aload_n 1, 1) := by decide +kernel
theorem dX8_take_2 : decode cX8_take 2 = .ok (.getfield 18, 3) := by decide +kernel
theorem dX8_take_5 : decode cX8_take 5 = .ok (.putfield 18, 3) := by decide +kernel
theorem dX8_take_8 : decode cX8_take 8 = .ok (.iconst 0, 1) := by decide +kernel
theorem dX8_take_9 : decode cX8_take 9 = .ok (.istore_n 2, 1) := by decide +kernel
theorem dX8_take_10 : decode cX8_take 10 = .ok (.iload_n 2, 1) := by decide +kernel
theorem dX8_take_11 : decode cX8_take 11 = .ok (.aload_n 0, 1) := by decide +kernel
theorem dX8_take_12 : decode cX8_take 12 = .ok (.getfield 18, 3) := by decide +kernel
theorem dX8_take_15 : decode cX8_take 15 = .ok (.if_icmp .ge 42, 3) := by decide +kernel
theorem dX8_take_18 : decode cX8_take 18 = .ok (.iload_n 2, 1) := by decide +kernel
theorem dX8_take_19 : decode cX8_take 19 = .ok (.aload_n 0, 1) := by decide +kernel
theorem dX8_take_20 : decode cX8_take 20 = .ok (.getfield 11, 3) := by decide +kernel
theorem dX8_take_23 : decode cX8_take 23 = .ok (.arraylength, 1) := by decide +kernel
theorem dX8_take_24 : decode cX8_take 24 = .ok (.if_icmp .ge 33, 3) := by decide +kernel
theorem dX8_take_27 : decode cX8_take 27 = .ok (.iload_n 2, 1) := by decide +kernel
theorem dX8_take_28 : decode cX8_take 28 = .ok (.aload_n 1, 1) := by decide +kernel
theorem dX8_take_29 : decode cX8_take 29 = .ok (.getfield 11, 3) := by decide +kernel
theorem dX8_take_32 : decode cX8_take 32 = .ok (.arraylength, 1) := by decide +kernel
theorem dX8_take_33 : decode cX8_take 33 = .ok (.if_icmp .ge 24, 3) := by decide +kernel
theorem dX8_take_36 : decode cX8_take 36 = .ok (.aload_n 0, 1) := by decide +kernel
theorem dX8_take_37 : decode cX8_take 37 = .ok (.getfield 11, 3) := by decide +kernel
theorem dX8_take_40 : decode cX8_take 40 = .ok (.iload_n 2, 1) := by decide +kernel
theorem dX8_take_41 : decode cX8_take 41 = .ok (.aaload, 1) := by decide +kernel
theorem dX8_take_42 : decode cX8_take 42 = .ok (.aload_n 1, 1) := by decide +kernel
theorem dX8_take_43 : decode cX8_take 43 = .ok (.getfield 11, 3) := by decide +kernel
theorem dX8_take_46 : decode cX8_take 46 = .ok (.iload_n 2, 1) := by decide +kernel
theorem dX8_take_47 : decode cX8_take 47 = .ok (.aaload, 1) := by decide +kernel
theorem dX8_take_48 : decode cX8_take 48 = .ok (.invokevirtual 22, 3) := by decide +kernel
theorem dX8_take_51 : decode cX8_take 51 = .ok (.iinc 2 1, 3) := by decide +kernel
theorem dX8_take_54 : decode cX8_take 54 = .ok (.goto (-44), 3) := by decide +kernel
theorem dX8_take_57 : decode cX8_take 57 = .ok (.return_, 1) := by decide +kernel
abbrev mt_X8_take : AxM := (RX8, cX8_take, 3, none, false, [])
theorem L1_X8_take_10b {g : AxG} {l : Launch} {S9 : AxS} (N : Nat) (K10 : Nat → Nat → Int32 → AxS → Option (AxS)) (hK10 : ∀ (v0 : Nat) (v1 : Nat) (v2 : Int32) (S : AxS), K10 v0 v1 v2 S = some S9 → AW g l (axRm (2) 0 0) mt_X8_take (axMQ g 0 0 (.inl none, S9)) 0 0 S 10 [(0, .ref v0), (1, .ref v1), (2, .int v2)] []) (v0 : Nat) (v1 : Nat) (v2 : Int32) (S : AxS) (h : F_X8_take_10b N K10 v0 v1 v2 S = some S9) : AW g l (axRm (2) 0 0) mt_X8_take (axMQ g 0 0 (.inl none, S9)) 0 0 S 10 [(0, .ref v0), (1, .ref v1), (2, .int v2)] [] := by
  unfold F_X8_take_10b at h
  refine aw_iload_n 2 dX8_take_10 rfl rfl ?_
  refine aw_aload_n 0 dX8_take_11 rfl rfl ?_
  refine aw_getI axc8 1 rfl rfl wd_359 dX8_take_12 h (fun x1 h => ?_)
  refine aw_icmp_ge 57 dX8_take_15 (by decide) h (fun h => ?_) (fun h => ?_)
  · exact aw_vret dX8_take_57 rfl (Nat.le_refl _) (Nat.le_refl _) h
  · refine aw_iload_n 2 dX8_take_18 rfl rfl ?_
    refine aw_aload_n 0 dX8_take_19 rfl rfl ?_
    refine aw_getR axc8 0 rfl rfl wd_358 dX8_take_20 h (fun a2 h => ?_)
    refine aw_alen dX8_take_23 h (fun x3 h => ?_)
    refine aw_icmp_ge 57 dX8_take_24 (by decide) h (fun h => ?_) (fun h => ?_)
    · exact aw_vret dX8_take_57 rfl (Nat.le_refl _) (Nat.le_refl _) h
    · refine aw_iload_n 2 dX8_take_27 rfl rfl ?_
      refine aw_aload_n 1 dX8_take_28 rfl rfl ?_
      refine aw_getR axc8 0 rfl rfl wd_358 dX8_take_29 h (fun a4 h => ?_)
      refine aw_alen dX8_take_32 h (fun x5 h => ?_)
      refine aw_icmp_ge 57 dX8_take_33 (by decide) h (fun h => ?_) (fun h => ?_)
      · exact aw_vret dX8_take_57 rfl (Nat.le_refl _) (Nat.le_refl _) h
      · refine aw_aload_n 0 dX8_take_36 rfl rfl ?_
        refine aw_getR axc8 0 rfl rfl wd_358 dX8_take_37 h (fun a6 h => ?_)
        refine aw_iload_n 2 dX8_take_40 rfl rfl ?_
        refine aw_aald dX8_take_41 h (fun a7 h => ?_)
        refine aw_aload_n 1 dX8_take_42 rfl rfl ?_
        refine aw_getR axc8 0 rfl rfl wd_358 dX8_take_43 h (fun a8 h => ?_)
        refine aw_iload_n 2 dX8_take_46 rfl rfl ?_
        refine aw_aald dX8_take_47 h (fun a9 h => ?_)
        obtain ⟨hL10, h⟩ := ax_is_spec h
        refine aw_doneV (rest := []) h (fun S9 hF => aw_runV (As := [.ref a9]) (rest := []) (L1_X5_take N hF) axc5 hL10 wd_538 wd_535 wd_536 wd_537 wd_93 pd_X5_take rfl (ax_rm (by omega) rfl) ax_hf0 (Nat.le_of_ble_eq_true rfl) rfl dX8_take_48) (fun T11 h => ?_)
        refine aw_iinc 2 [(2, .int (v2 + 1)), (0, .ref v0), (1, .ref v1)] (v2 + 1) dX8_take_51 rfl rfl rfl rfl ?_
        refine aw_goto 10 dX8_take_54 (by decide) ?_
        refine aw_env [(0, .ref v0), (1, .ref v1), (2, .int (v2 + 1))] [1, 2, 0] rfl ?_
        exact hK10 v0 v1 (v2 + 1) T11 h
theorem L1_X8_take_10 {g : AxG} {l : Launch} {S9 : AxS} (N : Nat)  : ∀ (n : Nat) (v0 : Nat) (v1 : Nat) (v2 : Int32) (S : AxS), F_X8_take_10 N  n v0 v1 v2 S = some S9 → AW g l (axRm (2) 0 0) mt_X8_take (axMQ g 0 0 (.inl none, S9)) 0 0 S 10 [(0, .ref v0), (1, .ref v1), (2, .int v2)] [] := by
  intro n
  induction n with
  | zero => intro v0 v1 v2 S h; cases h
  | succ n ih => intro v0 v1 v2 S h; exact L1_X8_take_10b N (F_X8_take_10 N  n) ih v0 v1 v2 S h
theorem L1_X8_take {g : AxG} {l : Launch} (N : Nat) {v0 : Nat} {v1 : Nat} {S : AxS} {S9 : AxS} (h : F_X8_take N v0 v1 S = some S9) : AxMet g l yX8_take cX8_take 3 none (2) 0 0 [.ref v0, .ref v1] S ((.inl none, S9)) := by
  refine ax_met (own := RX8) (ini := false) (by decide +kernel) rfl (fun h => nomatch h) rfl ?_
  show AW g l (axRm (2) 0 0) mt_X8_take (axMQ g 0 0 (.inl none, S9)) 0 0 S 0 [(0, .ref v0), (1, .ref v1)] []
  unfold F_X8_take at h
  refine aw_aload_n 0 dX8_take_0 rfl rfl ?_
  refine aw_aload_n 1 dX8_take_1 rfl rfl ?_
  refine aw_getI axc8 1 rfl rfl wd_359 dX8_take_2 h (fun x1 h => ?_)
  refine aw_putI axc8 1 rfl rfl wd_359 rfl rfl rfl dX8_take_5 h (fun T2 h => ?_)
  refine aw_iconst 0 dX8_take_8 rfl ?_
  refine aw_istore_n 2 [(2, .int 0), (0, .ref v0), (1, .ref v1)] dX8_take_9 rfl rfl rfl ?_
  refine aw_env [(0, .ref v0), (1, .ref v1), (2, .int 0)] [1, 2, 0] rfl ?_
  exact L1_X8_take_10 N  N v0 v1 0 T2 h

theorem dX3_take_0 : decode cX3_take 0 = .ok (.aload_n 0, 1) := by decide +kernel
theorem dX3_take_1 : decode cX3_take 1 = .ok (.getfield 10, 3) := by decide +kernel
theorem dX3_take_4 : decode cX3_take 4 = .ok (.aload_n 1, 1) := by decide +kernel
theorem dX3_take_5 : decode cX3_take 5 = .ok (.invokevirtual 23, 3) := by decide +kernel
theorem dX3_take_8 : decode cX3_take 8 = .ok (.aload_n 0, 1) := by decide +kernel
theorem dX3_take_9 : decode cX3_take 9 = .ok (.getfield 19, 3) := by decide +kernel
theorem dX3_take_12 : decode cX3_take 12 = .ok (.aload_n 2, 1) := by decide +kernel
theorem dX3_take_13 : decode cX3_take 13 = .ok (.invokevirtual 27, 3) := by decide +kernel
theorem dX3_take_16 : decode cX3_take 16 = .ok (.return_, 1) := by decide +kernel
abbrev mt_X3_take : AxM := (RX3, cX3_take, 3, none, false, [])
theorem L1_X3_take {g : AxG} {l : Launch} (N : Nat) {v0 : Nat} {v1 : Nat} {v2 : Nat} {S : AxS} {S9 : AxS} (h : F_X3_take N v0 v1 v2 S = some S9) : AxMet g l yX3_take cX3_take 3 none (3) 0 0 [.ref v0, .ref v1, .ref v2] S ((.inl none, S9)) := by
  refine ax_met (own := RX3) (ini := false) (by decide +kernel) rfl (fun h => nomatch h) rfl ?_
  show AW g l (axRm (3) 0 0) mt_X3_take (axMQ g 0 0 (.inl none, S9)) 0 0 S 0 [(0, .ref v0), (1, .ref v1), (2, .ref v2)] []
  unfold F_X3_take at h
  refine aw_aload_n 0 dX3_take_0 rfl rfl ?_
  refine aw_getR axc3 0 rfl rfl wd_420 dX3_take_1 h (fun a1 h => ?_)
  refine aw_aload_n 1 dX3_take_4 rfl rfl ?_
  obtain ⟨hL2, h⟩ := ax_is_spec h
  refine aw_doneV (rest := []) h (fun S9 hF => aw_runV (As := [.ref v1]) (rest := []) (L1_X5_take N hF) axc5 hL2 wd_538 wd_574 wd_536 wd_537 wd_93 pd_X5_take rfl (ax_rm (by omega) rfl) ax_hf0 (Nat.le_of_ble_eq_true rfl) rfl dX3_take_5) (fun T3 h => ?_)
  refine aw_aload_n 0 dX3_take_8 rfl rfl ?_
  refine aw_getR axc3 1 rfl rfl wd_422 dX3_take_9 h (fun a5 h => ?_)
  refine aw_aload_n 2 dX3_take_12 rfl rfl ?_
  obtain ⟨hL6, h⟩ := ax_is_spec h
  refine aw_doneV (rest := []) h (fun S9 hF => aw_runV (As := [.ref v2]) (rest := []) (L1_X8_take N hF) axc8 hL6 wd_578 wd_575 wd_576 wd_577 wd_94 pd_X8_take rfl (ax_rm (by omega) rfl) ax_hf0 (Nat.le_of_ble_eq_true rfl) rfl dX3_take_13) (fun T7 h => ?_)
  exact aw_vret dX3_take_16 rfl (Nat.le_refl _) (Nat.le_refl _) h

theorem dX4_emit_0 : decode cX4_emit 0 = .ok (.aload_n 0, 1) := by decide +kernel
theorem dX4_emit_1 : decode cX4_emit 1 = .ok (.getfield 9, 3) := by decide +kernel
theorem dX4_emit_4 : decode cX4_emit 4 = .ok (.aload_n 0, 1) := by decide +kernel
theorem dX4_emit_5 : decode cX4_emit 5 = .ok (.getfield 21, 3) := by decide +kernel
theorem dX4_emit_8 : decode cX4_emit 8 = .ok (.iload_n 1, 1) := by decide +kernel
theorem dX4_emit_9 : decode cX4_emit 9 = .ok (.invokestatic 46, 3) := by decide +kernel
theorem dX4_emit_12 : decode cX4_emit 12 = .ok (.aload_n 0, 1) := by decide +kernel
theorem dX4_emit_13 : decode cX4_emit 13 = .ok (.dup, 1) := by decide +kernel
theorem dX4_emit_14 : decode cX4_emit 14 = .ok (.getfield 21, 3) := by decide +kernel
theorem dX4_emit_17 : decode cX4_emit 17 = .ok (.iconst 1, 1) := by decide +kernel
theorem dX4_emit_18 : decode cX4_emit 18 = .ok (.iadd, 1) := by decide +kernel
theorem dX4_emit_19 : decode cX4_emit 19 = .ok (.putfield 21, 3) := by decide +kernel
theorem dX4_emit_22 : decode cX4_emit 22 = .ok (.return_, 1) := by decide +kernel
abbrev mt_X4_emit : AxM := (RX4, cX4_emit, 2, none, false, [])
theorem L1_X4_emit {g : AxG} {l : Launch} (N : Nat) {v0 : Nat} {v1 : Int32} {S : AxS} {S9 : AxS} (h : F_X4_emit N v0 v1 S = some S9) : AxMet g l yX4_emit cX4_emit 2 none (1) 0 0 [.ref v0, .int v1] S ((.inl none, S9)) := by
  refine ax_met (own := RX4) (ini := false) (by decide +kernel) rfl (fun h => nomatch h) rfl ?_
  show AW g l (axRm (1) 0 0) mt_X4_emit (axMQ g 0 0 (.inl none, S9)) 0 0 S 0 [(0, .ref v0), (1, .int v1)] []
  unfold F_X4_emit at h
  refine aw_aload_n 0 dX4_emit_0 rfl rfl ?_
  refine aw_getR axc4 0 rfl rfl wd_228 dX4_emit_1 h (fun a1 h => ?_)
  refine aw_aload_n 0 dX4_emit_4 rfl rfl ?_
  refine aw_getI axc4 3 rfl rfl wd_231 dX4_emit_5 h (fun x2 h => ?_)
  refine aw_iload_n 1 dX4_emit_8 rfl rfl ?_
  refine aw_doneV (rest := []) h (fun S9 hF => aw_runSN (As := [.ref a1, .int x2, .int v1]) (rest := []) (L1_X9_put N hF) wd_443 wd_441 wd_442 wd_87 pd_X9_put.2 rfl (ax_rm (by omega) rfl) ax_hf0 (Nat.le_of_ble_eq_true rfl) rfl dX4_emit_9) (fun T3 h => ?_)
  refine aw_aload_n 0 dX4_emit_12 rfl rfl ?_
  refine aw_dup rfl dX4_emit_13 ?_
  refine aw_getI axc4 3 rfl rfl wd_231 dX4_emit_14 h (fun x5 h => ?_)
  refine aw_iconst 1 dX4_emit_17 rfl ?_
  refine aw_iadd dX4_emit_18 ?_
  refine aw_putI axc4 3 rfl rfl wd_231 rfl rfl rfl dX4_emit_19 h (fun T6 h => ?_)
  exact aw_vret dX4_emit_22 rfl (Nat.le_refl _) (Nat.le_refl _) h

theorem dX4_tenth_0 : decode cX4_tenth 0 = .ok (.aload_n 0, 1) := by decide +kernel
theorem dX4_tenth_1 : decode cX4_tenth 1 = .ok (.iconst 0, 1) := by decide +kernel
theorem dX4_tenth_2 : decode cX4_tenth 2 = .ok (.putfield 21, 3) := by decide +kernel
theorem dX4_tenth_5 : decode cX4_tenth 5 = .ok (.aload_n 0, 1) := by decide +kernel
theorem dX4_tenth_6 : decode cX4_tenth 6 = .ok (.sipush 1000, 3) := by decide +kernel
theorem dX4_tenth_9 : decode cX4_tenth 9 = .ok (.invokevirtual 25, 3) := by decide +kernel
theorem dX4_tenth_12 : decode cX4_tenth 12 = .ok (.aload_n 0, 1) := by decide +kernel
theorem dX4_tenth_13 : decode cX4_tenth 13 = .ok (.bipush 10, 2) := by decide +kernel
theorem dX4_tenth_15 : decode cX4_tenth 15 = .ok (.invokevirtual 25, 3) := by decide +kernel
theorem dX4_tenth_18 : decode cX4_tenth 18 = .ok (.aload_n 0, 1) := by decide +kernel
theorem dX4_tenth_19 : decode cX4_tenth 19 = .ok (.sipush 2003, 3) := by decide +kernel
theorem dX4_tenth_22 : decode cX4_tenth 22 = .ok (.invokevirtual 25, 3) := by decide +kernel
theorem dX4_tenth_25 : decode cX4_tenth 25 = .ok (.return_, 1) := by decide +kernel
abbrev mt_X4_tenth : AxM := (RX4, cX4_tenth, 1, none, false, [])
theorem L1_X4_tenth {g : AxG} {l : Launch} (N : Nat) {v0 : Nat} {S : AxS} {S9 : AxS} (h : F_X4_tenth N v0 S = some S9) : AxMet g l yX4_tenth cX4_tenth 1 none (2) 0 0 [.ref v0] S ((.inl none, S9)) := by
  refine ax_met (own := RX4) (ini := false) (by decide +kernel) rfl (fun h => nomatch h) rfl ?_
  show AW g l (axRm (2) 0 0) mt_X4_tenth (axMQ g 0 0 (.inl none, S9)) 0 0 S 0 [(0, .ref v0)] []
  unfold F_X4_tenth at h
  refine aw_aload_n 0 dX4_tenth_0 rfl rfl ?_
  refine aw_iconst 0 dX4_tenth_1 rfl ?_
  refine aw_putI axc4 3 rfl rfl wd_231 rfl rfl rfl dX4_tenth_2 h (fun T1 h => ?_)
  refine aw_aload_n 0 dX4_tenth_5 rfl rfl ?_
  refine aw_sipush 1000 dX4_tenth_6 (by decide) ?_
  obtain ⟨hL2, h⟩ := ax_is_spec h
  refine aw_doneV (rest := []) h (fun S9 hF => aw_runV (As := [.int 1000]) (rest := []) (L1_X4_emit N hF) axc4 hL2 wd_440 wd_437 wd_439 wd_1 wd_90 pd_X4_emit rfl (ax_rm (by omega) rfl) ax_hf0 (Nat.le_of_ble_eq_true rfl) rfl dX4_tenth_9) (fun T3 h => ?_)
  refine aw_aload_n 0 dX4_tenth_12 rfl rfl ?_
  refine aw_bipush 10 dX4_tenth_13 (by decide) ?_
  obtain ⟨hL5, h⟩ := ax_is_spec h
  refine aw_doneV (rest := []) h (fun S9 hF => aw_runV (As := [.int 10]) (rest := []) (L1_X4_emit N hF) axc4 hL5 wd_440 wd_437 wd_439 wd_1 wd_90 pd_X4_emit rfl (ax_rm (by omega) rfl) ax_hf0 (Nat.le_of_ble_eq_true rfl) rfl dX4_tenth_15) (fun T6 h => ?_)
  refine aw_aload_n 0 dX4_tenth_18 rfl rfl ?_
  refine aw_sipush 2003 dX4_tenth_19 (by decide) ?_
  obtain ⟨hL8, h⟩ := ax_is_spec h
  refine aw_doneV (rest := []) h (fun S9 hF => aw_runV (As := [.int 2003]) (rest := []) (L1_X4_emit N hF) axc4 hL8 wd_440 wd_437 wd_439 wd_1 wd_90 pd_X4_emit rfl (ax_rm (by omega) rfl) ax_hf0 (Nat.le_of_ble_eq_true rfl) rfl dX4_tenth_22) (fun T9 h => ?_)
  exact aw_vret dX4_tenth_25 rfl (Nat.le_refl _) (Nat.le_refl _) h

theorem dX4_inputOf_0 : decode cX4_inputOf 0 = .ok (.aload_n 0, 1) := by decide +kernel
theorem dX4_inputOf_1 : decode cX4_inputOf 1 = .ok (.ldc 88, 2) := by decide +kernel
theorem dX4_inputOf_3 : decode cX4_inputOf 3 = .ok (.invokevirtual 75, 3) := by decide +kernel
theorem dX4_inputOf_6 : decode cX4_inputOf 6 = .ok (.ifCond .eq 5, 3) := by decide +kernel
theorem dX4_inputOf_9 : decode cX4_inputOf 9 = .ok (.iconst 0, 1) := by decide +kernel
theorem dX4_inputOf_10 : decode cX4_inputOf 10 = .ok (.ireturn, 1) := by decide +kernel
theorem dX4_inputOf_11 : decode cX4_inputOf 11 = .ok (.aload_n 0, 1) := by decide +kernel
theorem dX4_inputOf_12 : decode cX4_inputOf 12 = .ok (.ldc 90, 2) := by decide +kernel
theorem dX4_inputOf_14 : decode cX4_inputOf 14 = .ok (.invokevirtual 75, 3) := by decide +kernel
theorem dX4_inputOf_17 : decode cX4_inputOf 17 = .ok (.ifCond .eq 5, 3) := by decide +kernel
theorem dX4_inputOf_20 : decode cX4_inputOf 20 = .ok (.iconst 1, 1) := by decide +kernel
theorem dX4_inputOf_21 : decode cX4_inputOf 21 = .ok (.ireturn, 1) := by decide +kernel
theorem dX4_inputOf_22 : decode cX4_inputOf 22 = .ok (.aload_n 0, 1) := by decide +kernel
theorem dX4_inputOf_23 : decode cX4_inputOf 23 = .ok (.ldc 92, 2) := by decide +kernel
theorem dX4_inputOf_25 : decode cX4_inputOf 25 = .ok (.invokevirtual 75, 3) := by decide +kernel
theorem dX4_inputOf_28 : decode cX4_inputOf 28 = .ok (.ifCond .eq 5, 3) := by decide +kernel
theorem dX4_inputOf_31 : decode cX4_inputOf 31 = .ok (.iconst 2, 1) := by decide +kernel
theorem dX4_inputOf_32 : decode cX4_inputOf 32 = .ok (.ireturn, 1) := by decide +kernel
theorem dX4_inputOf_33 : decode cX4_inputOf 33 = .ok (.aload_n 0, 1) := by decide +kernel
theorem dX4_inputOf_34 : decode cX4_inputOf 34 = .ok (.ldc 94, 2) := by decide +kernel
theorem dX4_inputOf_36 : decode cX4_inputOf 36 = .ok (.invokevirtual 75, 3) := by decide +kernel
theorem dX4_inputOf_39 : decode cX4_inputOf 39 = .ok (.ifCond .eq 5, 3) := by decide +kernel
theorem dX4_inputOf_42 : decode cX4_inputOf 42 = .ok (.iconst 3, 1) := by decide +kernel
theorem dX4_inputOf_43 : decode cX4_inputOf 43 = .ok (.ireturn, 1) := by decide +kernel
theorem dX4_inputOf_44 : decode cX4_inputOf 44 = .ok (.aload_n 0, 1) := by decide +kernel
theorem dX4_inputOf_45 : decode cX4_inputOf 45 = .ok (.ldc 96, 2) := by decide +kernel
theorem dX4_inputOf_47 : decode cX4_inputOf 47 = .ok (.invokevirtual 75, 3) := by decide +kernel
theorem dX4_inputOf_50 : decode cX4_inputOf 50 = .ok (.ifCond .eq 5, 3) := by decide +kernel
theorem dX4_inputOf_53 : decode cX4_inputOf 53 = .ok (.iconst 4, 1) := by decide +kernel
theorem dX4_inputOf_54 : decode cX4_inputOf 54 = .ok (.ireturn, 1) := by decide +kernel
theorem dX4_inputOf_55 : decode cX4_inputOf 55 = .ok (.aload_n 0, 1) := by decide +kernel
theorem dX4_inputOf_56 : decode cX4_inputOf 56 = .ok (.ldc 98, 2) := by decide +kernel
theorem dX4_inputOf_58 : decode cX4_inputOf 58 = .ok (.invokevirtual 75, 3) := by decide +kernel
theorem dX4_inputOf_61 : decode cX4_inputOf 61 = .ok (.ifCond .eq 5, 3) := by decide +kernel
theorem dX4_inputOf_64 : decode cX4_inputOf 64 = .ok (.iconst 5, 1) := by decide +kernel
theorem dX4_inputOf_65 : decode cX4_inputOf 65 = .ok (.ireturn, 1) := by decide +kernel
theorem dX4_inputOf_66 : decode cX4_inputOf 66 = .ok (.aload_n 0, 1) := by decide +kernel
theorem dX4_inputOf_67 : decode cX4_inputOf 67 = .ok (.ldc 100, 2) := by decide +kernel
theorem dX4_inputOf_69 : decode cX4_inputOf 69 = .ok (.invokevirtual 75, 3) := by decide +kernel
theorem dX4_inputOf_72 : decode cX4_inputOf 72 = .ok (.ifCond .eq 8, 3) := by decide +kernel
theorem dX4_inputOf_75 : decode cX4_inputOf 75 = .ok (.bipush 6, 2) := by decide +kernel
theorem dX4_inputOf_77 : decode cX4_inputOf 77 = .ok (.goto 4, 3) := by decide +kernel
theorem dX4_inputOf_80 : decode cX4_inputOf 80 = .ok (.iconst (-1), 1) := by decide +kernel
theorem dX4_inputOf_81 : decode cX4_inputOf 81 = .ok (.ireturn, 1) := by decide +kernel
abbrev mt_X4_inputOf : AxM := (RX4, cX4_inputOf, 1, (some .int), false, [])
theorem L1_X4_inputOf {g : AxG} {l : Launch} (N : Nat) {v0 : Nat} {S : AxS} {r9 : Int32} {S9 : AxS} (h : F_X4_inputOf N v0 S = some ((r9, S9))) : AxMet g l yX4_inputOf cX4_inputOf 1 (some .int) (5) 0 0 [.ref v0] S ((.inl (some (.int r9)), S9)) := by
  refine ax_met (own := RX4) (ini := false) (by decide +kernel) rfl (fun h => nomatch h) rfl ?_
  show AW g l (axRm (5) 0 0) mt_X4_inputOf (axMQ g 0 0 (.inl (some (.int r9)), S9)) 0 0 S 0 [(0, .ref v0)] []
  unfold F_X4_inputOf at h
  refine aw_aload_n 0 dX4_inputOf_0 rfl rfl ?_
  refine aw_ldcS 11 (i := 88) (tx := "asks") rfl dX4_inputOf_1 ?_
  obtain ⟨hL1, h⟩ := ax_is_spec h
  refine aw_doneI (rest := []) h (fun r9 S9 hF => aw_runV (As := [.ref (axTx S 11)]) (rest := []) (L1_X7_isWord N hF) axc7 hL1 wd_701 wd_814 wd_699 wd_700 wd_88 pd_X7_isWord rfl (ax_rm (by omega) rfl) ax_hf0 (Nat.le_of_ble_eq_true rfl) rfl dX4_inputOf_3) (fun x3 T2 h => ?_)
  refine aw_if_eq 11 dX4_inputOf_6 (by decide) h (fun h => ?_) (fun h => ?_)
  · refine aw_aload_n 0 dX4_inputOf_11 rfl rfl ?_
    refine aw_ldcS 12 (i := 90) (tx := "paid") rfl dX4_inputOf_12 ?_
    obtain ⟨hL4, h⟩ := ax_is_spec h
    refine aw_doneI (rest := []) h (fun r9 S9 hF => aw_runV (As := [.ref (axTx T2 12)]) (rest := []) (L1_X7_isWord N hF) axc7 hL4 wd_701 wd_814 wd_699 wd_700 wd_88 pd_X7_isWord rfl (ax_rm (by omega) rfl) ax_hf0 (Nat.le_of_ble_eq_true rfl) rfl dX4_inputOf_14) (fun x6 T5 h => ?_)
    refine aw_if_eq 22 dX4_inputOf_17 (by decide) h (fun h => ?_) (fun h => ?_)
    · refine aw_aload_n 0 dX4_inputOf_22 rfl rfl ?_
      refine aw_ldcS 13 (i := 92) (tx := "night") rfl dX4_inputOf_23 ?_
      obtain ⟨hL7, h⟩ := ax_is_spec h
      refine aw_doneI (rest := []) h (fun r9 S9 hF => aw_runV (As := [.ref (axTx T5 13)]) (rest := []) (L1_X7_isWord N hF) axc7 hL7 wd_701 wd_814 wd_699 wd_700 wd_88 pd_X7_isWord rfl (ax_rm (by omega) rfl) ax_hf0 (Nat.le_of_ble_eq_true rfl) rfl dX4_inputOf_25) (fun x9 T8 h => ?_)
      refine aw_if_eq 33 dX4_inputOf_28 (by decide) h (fun h => ?_) (fun h => ?_)
      · refine aw_aload_n 0 dX4_inputOf_33 rfl rfl ?_
        refine aw_ldcS 14 (i := 94) (tx := "quiet") rfl dX4_inputOf_34 ?_
        obtain ⟨hL10, h⟩ := ax_is_spec h
        refine aw_doneI (rest := []) h (fun r9 S9 hF => aw_runV (As := [.ref (axTx T8 14)]) (rest := []) (L1_X7_isWord N hF) axc7 hL10 wd_701 wd_814 wd_699 wd_700 wd_88 pd_X7_isWord rfl (ax_rm (by omega) rfl) ax_hf0 (Nat.le_of_ble_eq_true rfl) rfl dX4_inputOf_36) (fun x12 T11 h => ?_)
        refine aw_if_eq 44 dX4_inputOf_39 (by decide) h (fun h => ?_) (fun h => ?_)
        · refine aw_aload_n 0 dX4_inputOf_44 rfl rfl ?_
          refine aw_ldcS 15 (i := 96) (tx := "wax") rfl dX4_inputOf_45 ?_
          obtain ⟨hL13, h⟩ := ax_is_spec h
          refine aw_doneI (rest := []) h (fun r9 S9 hF => aw_runV (As := [.ref (axTx T11 15)]) (rest := []) (L1_X7_isWord N hF) axc7 hL13 wd_701 wd_814 wd_699 wd_700 wd_88 pd_X7_isWord rfl (ax_rm (by omega) rfl) ax_hf0 (Nat.le_of_ble_eq_true rfl) rfl dX4_inputOf_47) (fun x15 T14 h => ?_)
          refine aw_if_eq 55 dX4_inputOf_50 (by decide) h (fun h => ?_) (fun h => ?_)
          · refine aw_aload_n 0 dX4_inputOf_55 rfl rfl ?_
            refine aw_ldcS 16 (i := 98) (tx := "storm") rfl dX4_inputOf_56 ?_
            obtain ⟨hL16, h⟩ := ax_is_spec h
            refine aw_doneI (rest := []) h (fun r9 S9 hF => aw_runV (As := [.ref (axTx T14 16)]) (rest := []) (L1_X7_isWord N hF) axc7 hL16 wd_701 wd_814 wd_699 wd_700 wd_88 pd_X7_isWord rfl (ax_rm (by omega) rfl) ax_hf0 (Nat.le_of_ble_eq_true rfl) rfl dX4_inputOf_58) (fun x18 T17 h => ?_)
            refine aw_if_eq 66 dX4_inputOf_61 (by decide) h (fun h => ?_) (fun h => ?_)
            · refine aw_aload_n 0 dX4_inputOf_66 rfl rfl ?_
              refine aw_ldcS 17 (i := 100) (tx := "chest") rfl dX4_inputOf_67 ?_
              obtain ⟨hL19, h⟩ := ax_is_spec h
              refine aw_doneI (rest := []) h (fun r9 S9 hF => aw_runV (As := [.ref (axTx T17 17)]) (rest := []) (L1_X7_isWord N hF) axc7 hL19 wd_701 wd_814 wd_699 wd_700 wd_88 pd_X7_isWord rfl (ax_rm (by omega) rfl) ax_hf0 (Nat.le_of_ble_eq_true rfl) rfl dX4_inputOf_69) (fun x21 T20 h => ?_)
              refine aw_if_eq 80 dX4_inputOf_72 (by decide) h (fun h => ?_) (fun h => ?_)
              · refine aw_iconst (-1) dX4_inputOf_80 rfl ?_
                exact aw_iret dX4_inputOf_81 rfl (Nat.le_refl _) (Nat.le_refl _) h
              · refine aw_bipush 6 dX4_inputOf_75 (by decide) ?_
                refine aw_goto 81 dX4_inputOf_77 (by decide) ?_
                exact aw_iret dX4_inputOf_81 rfl (Nat.le_refl _) (Nat.le_refl _) h
            · refine aw_iconst 5 dX4_inputOf_64 rfl ?_
              exact aw_iret dX4_inputOf_65 rfl (Nat.le_refl _) (Nat.le_refl _) h
          · refine aw_iconst 4 dX4_inputOf_53 rfl ?_
            exact aw_iret dX4_inputOf_54 rfl (Nat.le_refl _) (Nat.le_refl _) h
        · refine aw_iconst 3 dX4_inputOf_42 rfl ?_
          exact aw_iret dX4_inputOf_43 rfl (Nat.le_refl _) (Nat.le_refl _) h
      · refine aw_iconst 2 dX4_inputOf_31 rfl ?_
        exact aw_iret dX4_inputOf_32 rfl (Nat.le_refl _) (Nat.le_refl _) h
    · refine aw_iconst 1 dX4_inputOf_20 rfl ?_
      exact aw_iret dX4_inputOf_21 rfl (Nat.le_refl _) (Nat.le_refl _) h
  · refine aw_iconst 0 dX4_inputOf_9 rfl ?_
    exact aw_iret dX4_inputOf_10 rfl (Nat.le_refl _) (Nat.le_refl _) h

theorem dX4_readUnit_0 : decode cX4_readUnit 0 = .ok (.aload_n 1, 1) := by decide +kernel
theorem dX4_readUnit_1 : decode cX4_readUnit 1 = .ok (.invokevirtual 33, 3) := by decide +kernel
theorem dX4_readUnit_4 : decode cX4_readUnit 4 = .ok (.istore_n 3, 1) := by decide +kernel
theorem dX4_readUnit_5 : decode cX4_readUnit 5 = .ok (.iload_n 3, 1) := by decide +kernel
theorem dX4_readUnit_6 : decode cX4_readUnit 6 = .ok (.invokestatic 56, 3) := by decide +kernel
theorem dX4_readUnit_9 : decode cX4_readUnit 9 = .ok (.ifCond .eq 28, 3) := by decide +kernel
theorem dX4_readUnit_12 : decode cX4_readUnit 12 = .ok (.aload_n 0, 1) := by decide +kernel
theorem dX4_readUnit_13 : decode cX4_readUnit 13 = .ok (.aload_n 1, 1) := by decide +kernel
theorem dX4_readUnit_14 : decode cX4_readUnit 14 = .ok (.iconst 0, 1) := by decide +kernel
theorem dX4_readUnit_15 : decode cX4_readUnit 15 = .ok (.sipush 999, 3) := by decide +kernel
theorem dX4_readUnit_18 : decode cX4_readUnit 18 = .ok (.invokevirtual 60, 3) := by decide +kernel
theorem dX4_readUnit_21 : decode cX4_readUnit 21 = .ok (.invokevirtual 25, 3) := by decide +kernel
theorem dX4_readUnit_24 : decode cX4_readUnit 24 = .ok (.aload_n 1, 1) := by decide +kernel
theorem dX4_readUnit_25 : decode cX4_readUnit 25 = .ok (.getfield 64, 3) := by decide +kernel
theorem dX4_readUnit_28 : decode cX4_readUnit 28 = .ok (.ifCond .ne 7, 3) := by decide +kernel
theorem dX4_readUnit_31 : decode cX4_readUnit 31 = .ok (.iconst 1, 1) := by decide +kernel
theorem dX4_readUnit_32 : decode cX4_readUnit 32 = .ok (.goto 4, 3) := by decide +kernel
theorem dX4_readUnit_35 : decode cX4_readUnit 35 = .ok (.iconst 0, 1) := by decide +kernel
theorem dX4_readUnit_36 : decode cX4_readUnit 36 = .ok (.ireturn, 1) := by decide +kernel
theorem dX4_readUnit_37 : decode cX4_readUnit 37 = .ok (.iload_n 3, 1) := by decide +kernel
theorem dX4_readUnit_38 : decode cX4_readUnit 38 = .ok (.bipush 40, 2) := by decide +kernel
theorem dX4_readUnit_40 : decode cX4_readUnit 40 = .ok (.if_icmp .ne 55, 3) := by decide +kernel
theorem dX4_readUnit_43 : decode cX4_readUnit 43 = .ok (.iload_n 2, 1) := by decide +kernel
theorem dX4_readUnit_44 : decode cX4_readUnit 44 = .ok (.bipush 6, 2) := by decide +kernel
theorem dX4_readUnit_46 : decode cX4_readUnit 46 = .ok (.if_icmp .lt 13, 3) := by decide +kernel
theorem dX4_readUnit_49 : decode cX4_readUnit 49 = .ok (.aload_n 1, 1) := by decide +kernel
theorem dX4_readUnit_50 : decode cX4_readUnit 50 = .ok (.iconst 3, 1) := by decide +kernel
theorem dX4_readUnit_51 : decode cX4_readUnit 51 = .ok (.aload_n 1, 1) := by decide +kernel
theorem dX4_readUnit_52 : decode cX4_readUnit 52 = .ok (.getfield 39, 3) := by decide +kernel
theorem dX4_readUnit_55 : decode cX4_readUnit 55 = .ok (.invokevirtual 42, 3) := by decide +kernel
theorem dX4_readUnit_58 : decode cX4_readUnit 58 = .ok (.ireturn, 1) := by decide +kernel
theorem dX4_readUnit_59 : decode cX4_readUnit 59 = .ok (.aload_n 1, 1) := by decide +kernel
theorem dX4_readUnit_60 : decode cX4_readUnit 60 = .ok (.dup, 1) := by decide +kernel
theorem dX4_readUnit_61 : decode cX4_readUnit 61 = .ok (.getfield 39, 3) := by decide +kernel
theorem dX4_readUnit_64 : decode cX4_readUnit 64 = .ok (.iconst 1, 1) := by decide +kernel
theorem dX4_readUnit_65 : decode cX4_readUnit 65 = .ok (.iadd, 1) := by decide +kernel
theorem dX4_readUnit_66 : decode cX4_readUnit 66 = .ok (.putfield 39, 3) := by decide +kernel
theorem dX4_readUnit_69 : decode cX4_readUnit 69 = .ok (.aload_n 0, 1) := by decide +kernel
theorem dX4_readUnit_70 : decode cX4_readUnit 70 = .ok (.aload_n 1, 1) := by decide +kernel
theorem dX4_readUnit_71 : decode cX4_readUnit 71 = .ok (.iload_n 2, 1) := by decide +kernel
theorem dX4_readUnit_72 : decode cX4_readUnit 72 = .ok (.iconst 1, 1) := by decide +kernel
theorem dX4_readUnit_73 : decode cX4_readUnit 73 = .ok (.iadd, 1) := by decide +kernel
theorem dX4_readUnit_74 : decode cX4_readUnit 74 = .ok (.invokevirtual 29, 3) := by decide +kernel
theorem dX4_readUnit_77 : decode cX4_readUnit 77 = .ok (.ifCond .eq 16, 3) := by decide +kernel
theorem dX4_readUnit_80 : decode cX4_readUnit 80 = .ok (.aload_n 1, 1) := by decide +kernel
theorem dX4_readUnit_81 : decode cX4_readUnit 81 = .ok (.bipush 41, 2) := by decide +kernel
theorem dX4_readUnit_83 : decode cX4_readUnit 83 = .ok (.invokevirtual 67, 3) := by decide +kernel
theorem dX4_readUnit_86 : decode cX4_readUnit 86 = .ok (.ifCond .eq 7, 3) := by decide +kernel
theorem dX4_readUnit_89 : decode cX4_readUnit 89 = .ok (.iconst 1, 1) := by decide +kernel
theorem dX4_readUnit_90 : decode cX4_readUnit 90 = .ok (.goto 4, 3) := by decide +kernel
theorem dX4_readUnit_93 : decode cX4_readUnit 93 = .ok (.iconst 0, 1) := by decide +kernel
theorem dX4_readUnit_94 : decode cX4_readUnit 94 = .ok (.ireturn, 1) := by decide +kernel
theorem dX4_readUnit_95 : decode cX4_readUnit 95 = .ok (.aload_n 1, 1) := by decide +kernel
theorem dX4_readUnit_96 : decode cX4_readUnit 96 = .ok (.invokevirtual 70, 3) := by decide +kernel
theorem dX4_readUnit_99 : decode cX4_readUnit 99 = .ok (.aload_n 1, 1) := by decide +kernel
theorem dX4_readUnit_100 : decode cX4_readUnit 100 = .ok (.ldc 73, 2) := by decide +kernel
theorem dX4_readUnit_102 : decode cX4_readUnit 102 = .ok (.invokevirtual 75, 3) := by decide +kernel
theorem dX4_readUnit_105 : decode cX4_readUnit 105 = .ok (.istore 4, 2) := by decide +kernel
theorem dX4_readUnit_107 : decode cX4_readUnit 107 = .ok (.iload 4, 2) := by decide +kernel
theorem dX4_readUnit_109 : decode cX4_readUnit 109 = .ok (.ifCond .ne 12, 3) := by decide +kernel
theorem dX4_readUnit_112 : decode cX4_readUnit 112 = .ok (.aload_n 1, 1) := by decide +kernel
theorem dX4_readUnit_113 : decode cX4_readUnit 113 = .ok (.ldc 79, 2) := by decide +kernel
theorem dX4_readUnit_115 : decode cX4_readUnit 115 = .ok (.invokevirtual 75, 3) := by decide +kernel
theorem dX4_readUnit_118 : decode cX4_readUnit 118 = .ok (.ifCond .eq 96, 3) := by decide +kernel
theorem dX4_readUnit_121 : decode cX4_readUnit 121 = .ok (.iload_n 2, 1) := by decide +kernel
theorem dX4_readUnit_122 : decode cX4_readUnit 122 = .ok (.bipush 6, 2) := by decide +kernel
theorem dX4_readUnit_124 : decode cX4_readUnit 124 = .ok (.if_icmp .lt 13, 3) := by decide +kernel
theorem dX4_readUnit_127 : decode cX4_readUnit 127 = .ok (.aload_n 1, 1) := by decide +kernel
theorem dX4_readUnit_128 : decode cX4_readUnit 128 = .ok (.iconst 3, 1) := by decide +kernel
theorem dX4_readUnit_129 : decode cX4_readUnit 129 = .ok (.aload_n 1, 1) := by decide +kernel
theorem dX4_readUnit_130 : decode cX4_readUnit 130 = .ok (.getfield 81, 3) := by decide +kernel
theorem dX4_readUnit_133 : decode cX4_readUnit 133 = .ok (.invokevirtual 42, 3) := by decide +kernel
theorem dX4_readUnit_136 : decode cX4_readUnit 136 = .ok (.ireturn, 1) := by decide +kernel
theorem dX4_readUnit_137 : decode cX4_readUnit 137 = .ok (.aload_n 1, 1) := by decide +kernel
theorem dX4_readUnit_138 : decode cX4_readUnit 138 = .ok (.bipush 91, 2) := by decide +kernel
theorem dX4_readUnit_140 : decode cX4_readUnit 140 = .ok (.invokevirtual 67, 3) := by decide +kernel
theorem dX4_readUnit_143 : decode cX4_readUnit 143 = .ok (.ifCond .eq 47, 3) := by decide +kernel
theorem dX4_readUnit_146 : decode cX4_readUnit 146 = .ok (.aload_n 0, 1) := by decide +kernel
theorem dX4_readUnit_147 : decode cX4_readUnit 147 = .ok (.aload_n 1, 1) := by decide +kernel
theorem dX4_readUnit_148 : decode cX4_readUnit 148 = .ok (.iload_n 2, 1) := by decide +kernel
theorem dX4_readUnit_149 : decode cX4_readUnit 149 = .ok (.iconst 1, 1) := by decide +kernel
theorem dX4_readUnit_150 : decode cX4_readUnit 150 = .ok (.iadd, 1) := by decide +kernel
theorem dX4_readUnit_151 : decode cX4_readUnit 151 = .ok (.invokevirtual 29, 3) := by decide +kernel
theorem dX4_readUnit_154 : decode cX4_readUnit 154 = .ok (.ifCond .eq 36, 3) := by decide +kernel
theorem dX4_readUnit_157 : decode cX4_readUnit 157 = .ok (.aload_n 1, 1) := by decide +kernel
theorem dX4_readUnit_158 : decode cX4_readUnit 158 = .ok (.bipush 44, 2) := by decide +kernel
theorem dX4_readUnit_160 : decode cX4_readUnit 160 = .ok (.invokevirtual 67, 3) := by decide +kernel
theorem dX4_readUnit_163 : decode cX4_readUnit 163 = .ok (.ifCond .eq 27, 3) := by decide +kernel
theorem dX4_readUnit_166 : decode cX4_readUnit 166 = .ok (.aload_n 0, 1) := by decide +kernel
theorem dX4_readUnit_167 : decode cX4_readUnit 167 = .ok (.aload_n 1, 1) := by decide +kernel
theorem dX4_readUnit_168 : decode cX4_readUnit 168 = .ok (.iload_n 2, 1) := by decide +kernel
theorem dX4_readUnit_169 : decode cX4_readUnit 169 = .ok (.iconst 1, 1) := by decide +kernel
theorem dX4_readUnit_170 : decode cX4_readUnit 170 = .ok (.iadd, 1) := by decide +kernel
theorem dX4_readUnit_171 : decode cX4_readUnit 171 = .ok (.invokevirtual 29, 3) := by decide +kernel
theorem dX4_readUnit_174 : decode cX4_readUnit 174 = .ok (.ifCond .eq 16, 3) := by decide +kernel
theorem dX4_readUnit_177 : decode cX4_readUnit 177 = .ok (.aload_n 1, 1) := by decide +kernel
theorem dX4_readUnit_178 : decode cX4_readUnit 178 = .ok (.bipush 93, 2) := by decide +kernel
theorem dX4_readUnit_180 : decode cX4_readUnit 180 = .ok (.invokevirtual 67, 3) := by decide +kernel
theorem dX4_readUnit_183 : decode cX4_readUnit 183 = .ok (.ifCond .eq 7, 3) := by decide +kernel
theorem dX4_readUnit_186 : decode cX4_readUnit 186 = .ok (.iconst 1, 1) := by decide +kernel
theorem dX4_readUnit_187 : decode cX4_readUnit 187 = .ok (.goto 4, 3) := by decide +kernel
theorem dX4_readUnit_190 : decode cX4_readUnit 190 = .ok (.iconst 0, 1) := by decide +kernel
theorem dX4_readUnit_191 : decode cX4_readUnit 191 = .ok (.istore 5, 2) := by decide +kernel
theorem dX4_readUnit_193 : decode cX4_readUnit 193 = .ok (.aload_n 0, 1) := by decide +kernel
theorem dX4_readUnit_194 : decode cX4_readUnit 194 = .ok (.iload 4, 2) := by decide +kernel
theorem dX4_readUnit_196 : decode cX4_readUnit 196 = .ok (.ifCond .eq 9, 3) := by decide +kernel
theorem dX4_readUnit_199 : decode cX4_readUnit 199 = .ok (.sipush 2005, 3) := by decide +kernel
theorem dX4_readUnit_202 : decode cX4_readUnit 202 = .ok (.goto 6, 3) := by decide +kernel
theorem dX4_readUnit_205 : decode cX4_readUnit 205 = .ok (.sipush 2006, 3) := by decide +kernel
theorem dX4_readUnit_208 : decode cX4_readUnit 208 = .ok (.invokevirtual 25, 3) := by decide +kernel
theorem dX4_readUnit_211 : decode cX4_readUnit 211 = .ok (.iload 5, 2) := by decide +kernel
theorem dX4_readUnit_213 : decode cX4_readUnit 213 = .ok (.ireturn, 1) := by decide +kernel
theorem dX4_readUnit_214 : decode cX4_readUnit 214 = .ok (.aload_n 1, 1) := by decide +kernel
theorem dX4_readUnit_215 : decode cX4_readUnit 215 = .ok (.invokestatic 84, 3) := by decide +kernel
theorem dX4_readUnit_218 : decode cX4_readUnit 218 = .ok (.istore 5, 2) := by decide +kernel
theorem dX4_readUnit_220 : decode cX4_readUnit 220 = .ok (.iload 5, 2) := by decide +kernel
theorem dX4_readUnit_222 : decode cX4_readUnit 222 = .ok (.iconst (-1), 1) := by decide +kernel
theorem dX4_readUnit_223 : decode cX4_readUnit 223 = .ok (.if_icmp .ne 13, 3) := by decide +kernel
theorem dX4_readUnit_226 : decode cX4_readUnit 226 = .ok (.aload_n 1, 1) := by decide +kernel
theorem dX4_readUnit_227 : decode cX4_readUnit 227 = .ok (.iconst 1, 1) := by decide +kernel
theorem dX4_readUnit_228 : decode cX4_readUnit 228 = .ok (.aload_n 1, 1) := by decide +kernel
theorem dX4_readUnit_229 : decode cX4_readUnit 229 = .ok (.getfield 81, 3) := by decide +kernel
theorem dX4_readUnit_232 : decode cX4_readUnit 232 = .ok (.invokevirtual 42, 3) := by decide +kernel
theorem dX4_readUnit_235 : decode cX4_readUnit 235 = .ok (.ireturn, 1) := by decide +kernel
theorem dX4_readUnit_236 : decode cX4_readUnit 236 = .ok (.aload_n 0, 1) := by decide +kernel
theorem dX4_readUnit_237 : decode cX4_readUnit 237 = .ok (.sipush 1000, 3) := by decide +kernel
theorem dX4_readUnit_240 : decode cX4_readUnit 240 = .ok (.iload 5, 2) := by decide +kernel
theorem dX4_readUnit_242 : decode cX4_readUnit 242 = .ok (.iadd, 1) := by decide +kernel
theorem dX4_readUnit_243 : decode cX4_readUnit 243 = .ok (.invokevirtual 25, 3) := by decide +kernel
theorem dX4_readUnit_246 : decode cX4_readUnit 246 = .ok (.iconst 1, 1) := by decide +kernel
theorem dX4_readUnit_247 : decode cX4_readUnit 247 = .ok (.ireturn, 1) := by decide +kernel
abbrev mt_X4_readUnit : AxM := (RX4, cX4_readUnit, 6, (some .boolean), false, [])
theorem L1_X4_readUnit_208 {g : AxG} {l : Launch} {r9 : Int32} {S9 : AxS} (N : Nat) (kr : Nat → Nat → Int32 → AxS → Option (Int32 × AxS)) (d : Nat) (hkr : ∀ (a0 : Nat) (a1 : Nat) (a2 : Int32) (S : AxS) {r9 : Int32} {S9 : AxS}, kr a0 a1 a2 S = some ((r9, S9)) → AxMet g l yX4_readSum cX4_readSum 5 (some .boolean) d 0 0 [.ref a0, .ref a1, .int a2] S ((.inl (some (.int r9)), S9)))  (v5 : Int32) (w0 : Int32) (w1 : Nat) (S : AxS) (h : F_X4_readUnit_208 N kr  v5 w0 w1 S = some ((r9, S9))) : AW g l (axRm (d + 6) 0 0) mt_X4_readUnit (axMQ g 0 0 (.inl (some (.int r9)), S9)) 0 0 S 208 [(5, .int v5)] [.int w0, .ref w1] := by
  unfold F_X4_readUnit_208 at h
  obtain ⟨hL1, h⟩ := ax_is_spec h
  refine aw_doneV (rest := []) h (fun S9 hF => aw_runV (As := [.int w0]) (rest := []) (L1_X4_emit N hF) axc4 hL1 wd_440 wd_437 wd_439 wd_1 wd_90 pd_X4_emit rfl (ax_rm (by omega) rfl) ax_hf0 (Nat.le_of_ble_eq_true rfl) rfl dX4_readUnit_208) (fun T2 h => ?_)
  refine aw_iload 0 dX4_readUnit_211 rfl ?_
  exact aw_zret dX4_readUnit_213 rfl (Nat.le_refl _) (Nat.le_refl _) h
theorem L1_X4_readUnit_191 {g : AxG} {l : Launch} {r9 : Int32} {S9 : AxS} (N : Nat) (kr : Nat → Nat → Int32 → AxS → Option (Int32 × AxS)) (d : Nat) (hkr : ∀ (a0 : Nat) (a1 : Nat) (a2 : Int32) (S : AxS) {r9 : Int32} {S9 : AxS}, kr a0 a1 a2 S = some ((r9, S9)) → AxMet g l yX4_readSum cX4_readSum 5 (some .boolean) d 0 0 [.ref a0, .ref a1, .int a2] S ((.inl (some (.int r9)), S9)))  (v0 : Nat) (v4 : Int32) (w0 : Int32) (S : AxS) (h : F_X4_readUnit_191 N kr  v0 v4 w0 S = some ((r9, S9))) : AW g l (axRm (d + 6) 0 0) mt_X4_readUnit (axMQ g 0 0 (.inl (some (.int r9)), S9)) 0 0 S 191 [(0, .ref v0), (4, .int v4)] [.int w0] := by
  unfold F_X4_readUnit_191 at h
  refine aw_istore [(5, .int w0), (0, .ref v0), (4, .int v4)] dX4_readUnit_191 rfl rfl ?_
  refine aw_aload_n 1 dX4_readUnit_193 rfl rfl ?_
  refine aw_iload 2 dX4_readUnit_194 rfl ?_
  refine aw_if_eq 205 dX4_readUnit_196 (by decide) h (fun h => ?_) (fun h => ?_)
  · refine aw_sipush 2006 dX4_readUnit_205 (by decide) ?_
    refine aw_env [(5, .int w0)] [0] rfl ?_
    exact L1_X4_readUnit_208 N kr d hkr  w0 2006 v0 S h
  · refine aw_sipush 2005 dX4_readUnit_199 (by decide) ?_
    refine aw_goto 208 dX4_readUnit_202 (by decide) ?_
    refine aw_env [(5, .int w0)] [0] rfl ?_
    exact L1_X4_readUnit_208 N kr d hkr  w0 2005 v0 S h
theorem L1_X4_readUnit_190 {g : AxG} {l : Launch} {r9 : Int32} {S9 : AxS} (N : Nat) (kr : Nat → Nat → Int32 → AxS → Option (Int32 × AxS)) (d : Nat) (hkr : ∀ (a0 : Nat) (a1 : Nat) (a2 : Int32) (S : AxS) {r9 : Int32} {S9 : AxS}, kr a0 a1 a2 S = some ((r9, S9)) → AxMet g l yX4_readSum cX4_readSum 5 (some .boolean) d 0 0 [.ref a0, .ref a1, .int a2] S ((.inl (some (.int r9)), S9)))  (v0 : Nat) (v4 : Int32) (S : AxS) (h : F_X4_readUnit_190 N kr  v0 v4 S = some ((r9, S9))) : AW g l (axRm (d + 6) 0 0) mt_X4_readUnit (axMQ g 0 0 (.inl (some (.int r9)), S9)) 0 0 S 190 [(0, .ref v0), (4, .int v4)] [] := by
  unfold F_X4_readUnit_190 at h
  refine aw_iconst 0 dX4_readUnit_190 rfl ?_
  refine aw_env [(0, .ref v0), (4, .int v4)] [0, 1] rfl ?_
  exact L1_X4_readUnit_191 N kr d hkr  v0 v4 0 S h
theorem L1_X4_readUnit_121 {g : AxG} {l : Launch} {r9 : Int32} {S9 : AxS} (N : Nat) (kr : Nat → Nat → Int32 → AxS → Option (Int32 × AxS)) (d : Nat) (hkr : ∀ (a0 : Nat) (a1 : Nat) (a2 : Int32) (S : AxS) {r9 : Int32} {S9 : AxS}, kr a0 a1 a2 S = some ((r9, S9)) → AxMet g l yX4_readSum cX4_readSum 5 (some .boolean) d 0 0 [.ref a0, .ref a1, .int a2] S ((.inl (some (.int r9)), S9)))  (v0 : Nat) (v1 : Nat) (v2 : Int32) (v4 : Int32) (S : AxS) (h : F_X4_readUnit_121 N kr  v0 v1 v2 v4 S = some ((r9, S9))) : AW g l (axRm (d + 6) 0 0) mt_X4_readUnit (axMQ g 0 0 (.inl (some (.int r9)), S9)) 0 0 S 121 [(0, .ref v0), (1, .ref v1), (2, .int v2), (4, .int v4)] [] := by
  unfold F_X4_readUnit_121 at h
  refine aw_iload_n 2 dX4_readUnit_121 rfl rfl ?_
  refine aw_bipush 6 dX4_readUnit_122 (by decide) ?_
  refine aw_icmp_lt 137 dX4_readUnit_124 (by decide) h (fun h => ?_) (fun h => ?_)
  · refine aw_aload_n 1 dX4_readUnit_137 rfl rfl ?_
    refine aw_bipush 91 dX4_readUnit_138 (by decide) ?_
    obtain ⟨hL1, h⟩ := ax_is_spec h
    refine aw_doneI (rest := []) h (fun r9 S9 hF => aw_runV (As := [.int 91]) (rest := []) (L1_X7_takes N hF) axc7 hL1 wd_783 wd_811 wd_781 wd_782 wd_88 pd_X7_takes rfl (ax_rm (by omega) rfl) ax_hf0 (Nat.le_of_ble_eq_true rfl) rfl dX4_readUnit_140) (fun x3 T2 h => ?_)
    refine aw_if_eq 190 dX4_readUnit_143 (by decide) h (fun h => ?_) (fun h => ?_)
    · refine aw_env [(0, .ref v0), (4, .int v4)] [0, 3] rfl ?_
      exact L1_X4_readUnit_190 N kr d hkr  v0 v4 T2 h
    · refine aw_aload_n 0 dX4_readUnit_146 rfl rfl ?_
      refine aw_aload_n 1 dX4_readUnit_147 rfl rfl ?_
      refine aw_iload_n 2 dX4_readUnit_148 rfl rfl ?_
      refine aw_iconst 1 dX4_readUnit_149 rfl ?_
      refine aw_iadd dX4_readUnit_150 ?_
      obtain ⟨hL4, h⟩ := ax_is_spec h
      refine aw_doneI (rest := []) h (fun r9 S9 hF => aw_runV (As := [.ref v1, .int (v2 + 1)]) (rest := []) (hkr v0 v1 (v2 + 1) T2 hF) axc4 hL4 wd_798 wd_795 wd_797 wd_8 wd_90 pd_X4_readSum rfl (ax_rm (by omega) rfl) ax_hf0 (Nat.le_of_ble_eq_true rfl) rfl dX4_readUnit_151) (fun x6 T5 h => ?_)
      refine aw_if_eq 190 dX4_readUnit_154 (by decide) h (fun h => ?_) (fun h => ?_)
      · refine aw_env [(0, .ref v0), (4, .int v4)] [0, 3] rfl ?_
        exact L1_X4_readUnit_190 N kr d hkr  v0 v4 T5 h
      · refine aw_aload_n 1 dX4_readUnit_157 rfl rfl ?_
        refine aw_bipush 44 dX4_readUnit_158 (by decide) ?_
        obtain ⟨hL7, h⟩ := ax_is_spec h
        refine aw_doneI (rest := []) h (fun r9 S9 hF => aw_runV (As := [.int 44]) (rest := []) (L1_X7_takes N hF) axc7 hL7 wd_783 wd_811 wd_781 wd_782 wd_88 pd_X7_takes rfl (ax_rm (by omega) rfl) ax_hf0 (Nat.le_of_ble_eq_true rfl) rfl dX4_readUnit_160) (fun x9 T8 h => ?_)
        refine aw_if_eq 190 dX4_readUnit_163 (by decide) h (fun h => ?_) (fun h => ?_)
        · refine aw_env [(0, .ref v0), (4, .int v4)] [0, 3] rfl ?_
          exact L1_X4_readUnit_190 N kr d hkr  v0 v4 T8 h
        · refine aw_aload_n 0 dX4_readUnit_166 rfl rfl ?_
          refine aw_aload_n 1 dX4_readUnit_167 rfl rfl ?_
          refine aw_iload_n 2 dX4_readUnit_168 rfl rfl ?_
          refine aw_iconst 1 dX4_readUnit_169 rfl ?_
          refine aw_iadd dX4_readUnit_170 ?_
          obtain ⟨hL10, h⟩ := ax_is_spec h
          refine aw_doneI (rest := []) h (fun r9 S9 hF => aw_runV (As := [.ref v1, .int (v2 + 1)]) (rest := []) (hkr v0 v1 (v2 + 1) T8 hF) axc4 hL10 wd_798 wd_795 wd_797 wd_8 wd_90 pd_X4_readSum rfl (ax_rm (by omega) rfl) ax_hf0 (Nat.le_of_ble_eq_true rfl) rfl dX4_readUnit_171) (fun x12 T11 h => ?_)
          refine aw_if_eq 190 dX4_readUnit_174 (by decide) h (fun h => ?_) (fun h => ?_)
          · refine aw_env [(0, .ref v0), (4, .int v4)] [0, 3] rfl ?_
            exact L1_X4_readUnit_190 N kr d hkr  v0 v4 T11 h
          · refine aw_aload_n 1 dX4_readUnit_177 rfl rfl ?_
            refine aw_bipush 93 dX4_readUnit_178 (by decide) ?_
            obtain ⟨hL13, h⟩ := ax_is_spec h
            refine aw_doneI (rest := []) h (fun r9 S9 hF => aw_runV (As := [.int 93]) (rest := []) (L1_X7_takes N hF) axc7 hL13 wd_783 wd_811 wd_781 wd_782 wd_88 pd_X7_takes rfl (ax_rm (by omega) rfl) ax_hf0 (Nat.le_of_ble_eq_true rfl) rfl dX4_readUnit_180) (fun x15 T14 h => ?_)
            refine aw_if_eq 190 dX4_readUnit_183 (by decide) h (fun h => ?_) (fun h => ?_)
            · refine aw_env [(0, .ref v0), (4, .int v4)] [0, 3] rfl ?_
              exact L1_X4_readUnit_190 N kr d hkr  v0 v4 T14 h
            · refine aw_iconst 1 dX4_readUnit_186 rfl ?_
              refine aw_goto 191 dX4_readUnit_187 (by decide) ?_
              refine aw_env [(0, .ref v0), (4, .int v4)] [0, 3] rfl ?_
              exact L1_X4_readUnit_191 N kr d hkr  v0 v4 1 T14 h
  · refine aw_aload_n 1 dX4_readUnit_127 rfl rfl ?_
    refine aw_iconst 3 dX4_readUnit_128 rfl ?_
    refine aw_aload_n 1 dX4_readUnit_129 rfl rfl ?_
    refine aw_getI axc7 6 rfl rfl wd_139 dX4_readUnit_130 h (fun x16 h => ?_)
    obtain ⟨hL17, h⟩ := ax_is_spec h
    refine aw_doneI (rest := []) h (fun r9 S9 hF => aw_runV (As := [.int 3, .int x16]) (rest := []) (L1_X7_fails N hF) axc7 hL17 wd_760 wd_810 wd_758 wd_759 wd_88 pd_X7_fails rfl (ax_rm (by omega) rfl) ax_hf0 (Nat.le_of_ble_eq_true rfl) rfl dX4_readUnit_133) (fun x19 T18 h => ?_)
    exact aw_zret dX4_readUnit_136 rfl (Nat.le_refl _) (Nat.le_refl _) h
theorem L1_X4_readUnit {g : AxG} {l : Launch} (N : Nat) (kr : Nat → Nat → Int32 → AxS → Option (Int32 × AxS)) (d : Nat) (hkr : ∀ (a0 : Nat) (a1 : Nat) (a2 : Int32) (S : AxS) {r9 : Int32} {S9 : AxS}, kr a0 a1 a2 S = some ((r9, S9)) → AxMet g l yX4_readSum cX4_readSum 5 (some .boolean) d 0 0 [.ref a0, .ref a1, .int a2] S ((.inl (some (.int r9)), S9))) {v0 : Nat} {v1 : Nat} {v2 : Int32} {S : AxS} {r9 : Int32} {S9 : AxS} (h : F_X4_readUnit N kr v0 v1 v2 S = some ((r9, S9))) : AxMet g l yX4_readUnit cX4_readUnit 6 (some .boolean) (d + 6) 0 0 [.ref v0, .ref v1, .int v2] S ((.inl (some (.int r9)), S9)) := by
  refine ax_met (own := RX4) (ini := false) (by decide +kernel) rfl (fun h => nomatch h) rfl ?_
  show AW g l (axRm (d + 6) 0 0) mt_X4_readUnit (axMQ g 0 0 (.inl (some (.int r9)), S9)) 0 0 S 0 [(0, .ref v0), (1, .ref v1), (2, .int v2)] []
  unfold F_X4_readUnit at h
  refine aw_aload_n 1 dX4_readUnit_0 rfl rfl ?_
  obtain ⟨hL1, h⟩ := ax_is_spec h
  refine aw_doneI (rest := []) h (fun r9 S9 hF => aw_runV (As := []) (rest := []) (L1_X7_sign N hF) axc7 hL1 wd_683 wd_807 wd_681 wd_682 wd_88 pd_X7_sign rfl (ax_rm (by omega) rfl) ax_hf0 (Nat.le_of_ble_eq_true rfl) rfl dX4_readUnit_1) (fun x3 T2 h => ?_)
  refine aw_istore_n 3 [(3, .int x3), (0, .ref v0), (1, .ref v1), (2, .int v2)] dX4_readUnit_4 rfl rfl rfl ?_
  refine aw_iload_n 0 dX4_readUnit_5 rfl rfl ?_
  refine aw_doneI (rest := []) h (fun r9 S9 hF => aw_runS (As := [.int x3]) (rest := []) (L1_X7_isDigit N hF) wd_775 wd_808 wd_774 wd_88 pd_X7_isDigit.2 rfl (ax_rm (by omega) rfl) ax_hf0 (Nat.le_of_ble_eq_true rfl) rfl dX4_readUnit_6) (fun x5 T4 h => ?_)
  refine aw_if_eq 37 dX4_readUnit_9 (by decide) h (fun h => ?_) (fun h => ?_)
  · refine aw_iload_n 0 dX4_readUnit_37 rfl rfl ?_
    refine aw_bipush 40 dX4_readUnit_38 (by decide) ?_
    refine aw_icmp_ne 95 dX4_readUnit_40 (by decide) h (fun h => ?_) (fun h => ?_)
    · refine aw_aload_n 2 dX4_readUnit_95 rfl rfl ?_
      obtain ⟨hL6, h⟩ := ax_is_spec h
      refine aw_doneV (rest := []) h (fun S9 hF => aw_runV (As := []) (rest := []) (L1_X7_word N hF) axc7 hL6 wd_692 wd_812 wd_690 wd_691 wd_88 pd_X7_word rfl (ax_rm (by omega) rfl) ax_hf0 (Nat.le_of_ble_eq_true rfl) rfl dX4_readUnit_96) (fun T7 h => ?_)
      refine aw_aload_n 2 dX4_readUnit_99 rfl rfl ?_
      refine aw_ldcS 9 (i := 73) (tx := "least") rfl dX4_readUnit_100 ?_
      obtain ⟨hL9, h⟩ := ax_is_spec h
      refine aw_doneI (rest := []) h (fun r9 S9 hF => aw_runV (As := [.ref (axTx T7 9)]) (rest := []) (L1_X7_isWord N hF) axc7 hL9 wd_701 wd_814 wd_699 wd_700 wd_88 pd_X7_isWord rfl (ax_rm (by omega) rfl) ax_hf0 (Nat.le_of_ble_eq_true rfl) rfl dX4_readUnit_102) (fun x11 T10 h => ?_)
      refine aw_istore [(4, .int x11), (3, .int x3), (0, .ref v0), (1, .ref v1), (2, .int v2)] dX4_readUnit_105 rfl rfl ?_
      refine aw_iload 0 dX4_readUnit_107 rfl ?_
      refine aw_if_ne 121 dX4_readUnit_109 (by decide) h (fun h => ?_) (fun h => ?_)
      · refine aw_env [(0, .ref v0), (1, .ref v1), (2, .int v2), (4, .int x11)] [2, 3, 4, 0] rfl ?_
        exact L1_X4_readUnit_121 N kr d hkr  v0 v1 v2 x11 T10 h
      · refine aw_aload_n 3 dX4_readUnit_112 rfl rfl ?_
        refine aw_ldcS 10 (i := 79) (tx := "most") rfl dX4_readUnit_113 ?_
        obtain ⟨hL12, h⟩ := ax_is_spec h
        refine aw_doneI (rest := []) h (fun r9 S9 hF => aw_runV (As := [.ref (axTx T10 10)]) (rest := []) (L1_X7_isWord N hF) axc7 hL12 wd_701 wd_814 wd_699 wd_700 wd_88 pd_X7_isWord rfl (ax_rm (by omega) rfl) ax_hf0 (Nat.le_of_ble_eq_true rfl) rfl dX4_readUnit_115) (fun x14 T13 h => ?_)
        refine aw_if_eq 214 dX4_readUnit_118 (by decide) h (fun h => ?_) (fun h => ?_)
        · refine aw_aload_n 3 dX4_readUnit_214 rfl rfl ?_
          refine aw_doneI (rest := []) h (fun r9 S9 hF => aw_runS (As := [.ref v1]) (rest := []) (L1_X4_inputOf N hF) wd_818 wd_816 wd_817 wd_90 pd_X4_inputOf.2 rfl (ax_rm (by omega) rfl) ax_hf0 (Nat.le_of_ble_eq_true rfl) rfl dX4_readUnit_215) (fun x16 T15 h => ?_)
          refine aw_istore [(5, .int x16), (4, .int x11), (3, .int x3), (0, .ref v0), (1, .ref v1), (2, .int v2)] dX4_readUnit_218 rfl rfl ?_
          refine aw_iload 0 dX4_readUnit_220 rfl ?_
          refine aw_iconst (-1) dX4_readUnit_222 rfl ?_
          refine aw_icmp_ne 236 dX4_readUnit_223 (by decide) h (fun h => ?_) (fun h => ?_)
          · refine aw_aload_n 3 dX4_readUnit_236 rfl rfl ?_
            refine aw_sipush 1000 dX4_readUnit_237 (by decide) ?_
            refine aw_iload 0 dX4_readUnit_240 rfl ?_
            refine aw_iadd dX4_readUnit_242 ?_
            obtain ⟨hL17, h⟩ := ax_is_spec h
            refine aw_doneV (rest := []) h (fun S9 hF => aw_runV (As := [.int (1000 + x16)]) (rest := []) (L1_X4_emit N hF) axc4 hL17 wd_440 wd_437 wd_439 wd_1 wd_90 pd_X4_emit rfl (ax_rm (by omega) rfl) ax_hf0 (Nat.le_of_ble_eq_true rfl) rfl dX4_readUnit_243) (fun T18 h => ?_)
            refine aw_iconst 1 dX4_readUnit_246 rfl ?_
            exact aw_zret dX4_readUnit_247 rfl (Nat.le_refl _) (Nat.le_refl _) h
          · refine aw_aload_n 4 dX4_readUnit_226 rfl rfl ?_
            refine aw_iconst 1 dX4_readUnit_227 rfl ?_
            refine aw_aload_n 4 dX4_readUnit_228 rfl rfl ?_
            refine aw_getI axc7 6 rfl rfl wd_139 dX4_readUnit_229 h (fun x20 h => ?_)
            obtain ⟨hL21, h⟩ := ax_is_spec h
            refine aw_doneI (rest := []) h (fun r9 S9 hF => aw_runV (As := [.int 1, .int x20]) (rest := []) (L1_X7_fails N hF) axc7 hL21 wd_760 wd_810 wd_758 wd_759 wd_88 pd_X7_fails rfl (ax_rm (by omega) rfl) ax_hf0 (Nat.le_of_ble_eq_true rfl) rfl dX4_readUnit_232) (fun x23 T22 h => ?_)
            exact aw_zret dX4_readUnit_235 rfl (Nat.le_refl _) (Nat.le_refl _) h
        · refine aw_env [(0, .ref v0), (1, .ref v1), (2, .int v2), (4, .int x11)] [2, 3, 4, 0] rfl ?_
          exact L1_X4_readUnit_121 N kr d hkr  v0 v1 v2 x11 T13 h
    · refine aw_iload_n 3 dX4_readUnit_43 rfl rfl ?_
      refine aw_bipush 6 dX4_readUnit_44 (by decide) ?_
      refine aw_icmp_lt 59 dX4_readUnit_46 (by decide) h (fun h => ?_) (fun h => ?_)
      · refine aw_aload_n 2 dX4_readUnit_59 rfl rfl ?_
        refine aw_dup rfl dX4_readUnit_60 ?_
        refine aw_getI axc7 3 rfl rfl wd_128 dX4_readUnit_61 h (fun x24 h => ?_)
        refine aw_iconst 1 dX4_readUnit_64 rfl ?_
        refine aw_iadd dX4_readUnit_65 ?_
        refine aw_putI axc7 3 rfl rfl wd_128 rfl rfl rfl dX4_readUnit_66 h (fun T25 h => ?_)
        refine aw_aload_n 1 dX4_readUnit_69 rfl rfl ?_
        refine aw_aload_n 2 dX4_readUnit_70 rfl rfl ?_
        refine aw_iload_n 3 dX4_readUnit_71 rfl rfl ?_
        refine aw_iconst 1 dX4_readUnit_72 rfl ?_
        refine aw_iadd dX4_readUnit_73 ?_
        obtain ⟨hL26, h⟩ := ax_is_spec h
        refine aw_doneI (rest := []) h (fun r9 S9 hF => aw_runV (As := [.ref v1, .int (v2 + 1)]) (rest := []) (hkr v0 v1 (v2 + 1) T25 hF) axc4 hL26 wd_798 wd_795 wd_797 wd_8 wd_90 pd_X4_readSum rfl (ax_rm (by omega) rfl) ax_hf0 (Nat.le_of_ble_eq_true rfl) rfl dX4_readUnit_74) (fun x28 T27 h => ?_)
        refine aw_if_eq 93 dX4_readUnit_77 (by decide) h (fun h => ?_) (fun h => ?_)
        · refine aw_iconst 0 dX4_readUnit_93 rfl ?_
          exact aw_zret dX4_readUnit_94 rfl (Nat.le_refl _) (Nat.le_refl _) h
        · refine aw_aload_n 2 dX4_readUnit_80 rfl rfl ?_
          refine aw_bipush 41 dX4_readUnit_81 (by decide) ?_
          obtain ⟨hL29, h⟩ := ax_is_spec h
          refine aw_doneI (rest := []) h (fun r9 S9 hF => aw_runV (As := [.int 41]) (rest := []) (L1_X7_takes N hF) axc7 hL29 wd_783 wd_811 wd_781 wd_782 wd_88 pd_X7_takes rfl (ax_rm (by omega) rfl) ax_hf0 (Nat.le_of_ble_eq_true rfl) rfl dX4_readUnit_83) (fun x31 T30 h => ?_)
          refine aw_if_eq 93 dX4_readUnit_86 (by decide) h (fun h => ?_) (fun h => ?_)
          · refine aw_iconst 0 dX4_readUnit_93 rfl ?_
            exact aw_zret dX4_readUnit_94 rfl (Nat.le_refl _) (Nat.le_refl _) h
          · refine aw_iconst 1 dX4_readUnit_89 rfl ?_
            refine aw_goto 94 dX4_readUnit_90 (by decide) ?_
            exact aw_zret dX4_readUnit_94 rfl (Nat.le_refl _) (Nat.le_refl _) h
      · refine aw_aload_n 2 dX4_readUnit_49 rfl rfl ?_
        refine aw_iconst 3 dX4_readUnit_50 rfl ?_
        refine aw_aload_n 2 dX4_readUnit_51 rfl rfl ?_
        refine aw_getI axc7 3 rfl rfl wd_128 dX4_readUnit_52 h (fun x32 h => ?_)
        obtain ⟨hL33, h⟩ := ax_is_spec h
        refine aw_doneI (rest := []) h (fun r9 S9 hF => aw_runV (As := [.int 3, .int x32]) (rest := []) (L1_X7_fails N hF) axc7 hL33 wd_760 wd_810 wd_758 wd_759 wd_88 pd_X7_fails rfl (ax_rm (by omega) rfl) ax_hf0 (Nat.le_of_ble_eq_true rfl) rfl dX4_readUnit_55) (fun x35 T34 h => ?_)
        exact aw_zret dX4_readUnit_58 rfl (Nat.le_refl _) (Nat.le_refl _) h
  · refine aw_aload_n 1 dX4_readUnit_12 rfl rfl ?_
    refine aw_aload_n 2 dX4_readUnit_13 rfl rfl ?_
    refine aw_iconst 0 dX4_readUnit_14 rfl ?_
    refine aw_sipush 999 dX4_readUnit_15 (by decide) ?_
    obtain ⟨hL36, h⟩ := ax_is_spec h
    refine aw_doneI (rest := [.ref v0]) h (fun r9 S9 hF => aw_runV (As := [.int 0, .int 999]) (rest := [.ref v0]) (L1_X7_number N hF) axc7 hL36 wd_772 wd_809 wd_770 wd_771 wd_88 pd_X7_number rfl (ax_rm (by omega) rfl) ax_hf0 (Nat.le_of_ble_eq_true rfl) rfl dX4_readUnit_18) (fun x38 T37 h => ?_)
    obtain ⟨hL39, h⟩ := ax_is_spec h
    refine aw_doneV (rest := []) h (fun S9 hF => aw_runV (As := [.int x38]) (rest := []) (L1_X4_emit N hF) axc4 hL39 wd_440 wd_437 wd_439 wd_1 wd_90 pd_X4_emit rfl (ax_rm (by omega) rfl) ax_hf0 (Nat.le_of_ble_eq_true rfl) rfl dX4_readUnit_21) (fun T40 h => ?_)
    refine aw_aload_n 2 dX4_readUnit_24 rfl rfl ?_
    refine aw_getI axc7 4 rfl rfl wd_134 dX4_readUnit_25 h (fun x42 h => ?_)
    refine aw_if_ne 35 dX4_readUnit_28 (by decide) h (fun h => ?_) (fun h => ?_)
    · refine aw_iconst 0 dX4_readUnit_35 rfl ?_
      exact aw_zret dX4_readUnit_36 rfl (Nat.le_refl _) (Nat.le_refl _) h
    · refine aw_iconst 1 dX4_readUnit_31 rfl ?_
      refine aw_goto 36 dX4_readUnit_32 (by decide) ?_
      exact aw_zret dX4_readUnit_36 rfl (Nat.le_refl _) (Nat.le_refl _) h

theorem dX4_readProduct_0 : decode cX4_readProduct 0 = .ok (.aload_n 0, 1) := by decide +kernel
theorem dX4_readProduct_1 : decode cX4_readProduct 1 = .ok (.aload_n 1, 1) := by decide +kernel
theorem dX4_readProduct_2 : decode cX4_readProduct 2 = .ok (.iload_n 2, 1) := by decide +kernel
theorem dX4_readProduct_3 : decode cX4_readProduct 3 = .ok (.invokevirtual 53, 3) := by decide +kernel
theorem dX4_readProduct_6 : decode cX4_readProduct 6 = .ok (.ifCond .ne 5, 3) := by decide +kernel
theorem dX4_readProduct_9 : decode cX4_readProduct 9 = .ok (.iconst 0, 1) := by decide +kernel
theorem dX4_readProduct_10 : decode cX4_readProduct 10 = .ok (.ireturn, 1) := by decide +kernel
theorem dX4_readProduct_11 : decode cX4_readProduct 11 = .ok (.iconst 0, 1) := by decide +kernel
theorem dX4_readProduct_12 : decode cX4_readProduct 12 = .ok (.istore_n 3, 1) := by decide +kernel
theorem dX4_readProduct_13 : decode cX4_readProduct 13 = .ok (.iload_n 3, 1) := by decide +kernel
theorem dX4_readProduct_14 : decode cX4_readProduct 14 = .ok (.sipush 150, 3) := by decide +kernel
theorem dX4_readProduct_17 : decode cX4_readProduct 17 = .ok (.if_icmp .ge 92, 3) := by decide +kernel
theorem dX4_readProduct_20 : decode cX4_readProduct 20 = .ok (.aload_n 1, 1) := by decide +kernel
theorem dX4_readProduct_21 : decode cX4_readProduct 21 = .ok (.invokevirtual 33, 3) := by decide +kernel
theorem dX4_readProduct_24 : decode cX4_readProduct 24 = .ok (.istore 4, 2) := by decide +kernel
theorem dX4_readProduct_26 : decode cX4_readProduct 26 = .ok (.iload 4, 2) := by decide +kernel
theorem dX4_readProduct_28 : decode cX4_readProduct 28 = .ok (.bipush 42, 2) := by decide +kernel
theorem dX4_readProduct_30 : decode cX4_readProduct 30 = .ok (.if_icmp .eq 19, 3) := by decide +kernel
theorem dX4_readProduct_33 : decode cX4_readProduct 33 = .ok (.iload 4, 2) := by decide +kernel
theorem dX4_readProduct_35 : decode cX4_readProduct 35 = .ok (.bipush 47, 2) := by decide +kernel
theorem dX4_readProduct_37 : decode cX4_readProduct 37 = .ok (.if_icmp .eq 12, 3) := by decide +kernel
theorem dX4_readProduct_40 : decode cX4_readProduct 40 = .ok (.iload 4, 2) := by decide +kernel
theorem dX4_readProduct_42 : decode cX4_readProduct 42 = .ok (.bipush 37, 2) := by decide +kernel
theorem dX4_readProduct_44 : decode cX4_readProduct 44 = .ok (.if_icmp .eq 5, 3) := by decide +kernel
theorem dX4_readProduct_47 : decode cX4_readProduct 47 = .ok (.iconst 1, 1) := by decide +kernel
theorem dX4_readProduct_48 : decode cX4_readProduct 48 = .ok (.ireturn, 1) := by decide +kernel
theorem dX4_readProduct_49 : decode cX4_readProduct 49 = .ok (.aload_n 1, 1) := by decide +kernel
theorem dX4_readProduct_50 : decode cX4_readProduct 50 = .ok (.dup, 1) := by decide +kernel
theorem dX4_readProduct_51 : decode cX4_readProduct 51 = .ok (.getfield 39, 3) := by decide +kernel
theorem dX4_readProduct_54 : decode cX4_readProduct 54 = .ok (.iconst 1, 1) := by decide +kernel
theorem dX4_readProduct_55 : decode cX4_readProduct 55 = .ok (.iadd, 1) := by decide +kernel
theorem dX4_readProduct_56 : decode cX4_readProduct 56 = .ok (.putfield 39, 3) := by decide +kernel
theorem dX4_readProduct_59 : decode cX4_readProduct 59 = .ok (.aload_n 0, 1) := by decide +kernel
theorem dX4_readProduct_60 : decode cX4_readProduct 60 = .ok (.aload_n 1, 1) := by decide +kernel
theorem dX4_readProduct_61 : decode cX4_readProduct 61 = .ok (.iload_n 2, 1) := by decide +kernel
theorem dX4_readProduct_62 : decode cX4_readProduct 62 = .ok (.invokevirtual 53, 3) := by decide +kernel
theorem dX4_readProduct_65 : decode cX4_readProduct 65 = .ok (.ifCond .ne 5, 3) := by decide +kernel
theorem dX4_readProduct_68 : decode cX4_readProduct 68 = .ok (.iconst 0, 1) := by decide +kernel
theorem dX4_readProduct_69 : decode cX4_readProduct 69 = .ok (.ireturn, 1) := by decide +kernel
theorem dX4_readProduct_70 : decode cX4_readProduct 70 = .ok (.aload_n 0, 1) := by decide +kernel
theorem dX4_readProduct_71 : decode cX4_readProduct 71 = .ok (.iload 4, 2) := by decide +kernel
theorem dX4_readProduct_73 : decode cX4_readProduct 73 = .ok (.bipush 42, 2) := by decide +kernel
theorem dX4_readProduct_75 : decode cX4_readProduct 75 = .ok (.if_icmp .ne 9, 3) := by decide +kernel
theorem dX4_readProduct_78 : decode cX4_readProduct 78 = .ok (.sipush 2002, 3) := by decide +kernel
theorem dX4_readProduct_81 : decode cX4_readProduct 81 = .ok (.goto 19, 3) := by decide +kernel
theorem dX4_readProduct_84 : decode cX4_readProduct 84 = .ok (.iload 4, 2) := by decide +kernel
theorem dX4_readProduct_86 : decode cX4_readProduct 86 = .ok (.bipush 47, 2) := by decide +kernel
theorem dX4_readProduct_88 : decode cX4_readProduct 88 = .ok (.if_icmp .ne 9, 3) := by decide +kernel
theorem dX4_readProduct_91 : decode cX4_readProduct 91 = .ok (.sipush 2003, 3) := by decide +kernel
theorem dX4_readProduct_94 : decode cX4_readProduct 94 = .ok (.goto 6, 3) := by decide +kernel
theorem dX4_readProduct_97 : decode cX4_readProduct 97 = .ok (.sipush 2004, 3) := by decide +kernel
theorem dX4_readProduct_100 : decode cX4_readProduct 100 = .ok (.invokevirtual 25, 3) := by decide +kernel
theorem dX4_readProduct_103 : decode cX4_readProduct 103 = .ok (.iinc 3 1, 3) := by decide +kernel
theorem dX4_readProduct_106 : decode cX4_readProduct 106 = .ok (.goto (-93), 3) := by decide +kernel
theorem dX4_readProduct_109 : decode cX4_readProduct 109 = .ok (.iconst 1, 1) := by decide +kernel
theorem dX4_readProduct_110 : decode cX4_readProduct 110 = .ok (.ireturn, 1) := by decide +kernel
abbrev mt_X4_readProduct : AxM := (RX4, cX4_readProduct, 5, (some .boolean), false, [])
theorem L1_X4_readProduct_100 {g : AxG} {l : Launch} {r9 : Int32} {S9 : AxS} (N : Nat) (kr : Nat → Nat → Int32 → AxS → Option (Int32 × AxS)) (d : Nat) (hkr : ∀ (a0 : Nat) (a1 : Nat) (a2 : Int32) (S : AxS) {r9 : Int32} {S9 : AxS}, kr a0 a1 a2 S = some ((r9, S9)) → AxMet g l yX4_readSum cX4_readSum 5 (some .boolean) d 0 0 [.ref a0, .ref a1, .int a2] S ((.inl (some (.int r9)), S9))) (K13 : Nat → Nat → Int32 → Int32 → AxS → Option (Int32 × AxS)) (hK13 : ∀ (v0 : Nat) (v1 : Nat) (v2 : Int32) (v3 : Int32) (S : AxS), K13 v0 v1 v2 v3 S = some ((r9, S9)) → AW g l (axRm (d + 7) 0 0) mt_X4_readProduct (axMQ g 0 0 (.inl (some (.int r9)), S9)) 0 0 S 13 [(0, .ref v0), (1, .ref v1), (2, .int v2), (3, .int v3)] []) (v0 : Nat) (v1 : Nat) (v2 : Int32) (v3 : Int32) (w0 : Int32) (w1 : Nat) (S : AxS) (h : F_X4_readProduct_100 N kr K13 v0 v1 v2 v3 w0 w1 S = some ((r9, S9))) : AW g l (axRm (d + 7) 0 0) mt_X4_readProduct (axMQ g 0 0 (.inl (some (.int r9)), S9)) 0 0 S 100 [(0, .ref v0), (1, .ref v1), (2, .int v2), (3, .int v3)] [.int w0, .ref w1] := by
  unfold F_X4_readProduct_100 at h
  obtain ⟨hL1, h⟩ := ax_is_spec h
  refine aw_doneV (rest := []) h (fun S9 hF => aw_runV (As := [.int w0]) (rest := []) (L1_X4_emit N hF) axc4 hL1 wd_440 wd_437 wd_439 wd_1 wd_90 pd_X4_emit rfl (ax_rm (by omega) rfl) ax_hf0 (Nat.le_of_ble_eq_true rfl) rfl dX4_readProduct_100) (fun T2 h => ?_)
  refine aw_iinc 3 [(3, .int (v3 + 1)), (0, .ref v0), (1, .ref v1), (2, .int v2)] (v3 + 1) dX4_readProduct_103 rfl rfl rfl rfl ?_
  refine aw_goto 13 dX4_readProduct_106 (by decide) ?_
  refine aw_env [(0, .ref v0), (1, .ref v1), (2, .int v2), (3, .int (v3 + 1))] [1, 2, 3, 0] rfl ?_
  exact hK13 v0 v1 v2 (v3 + 1) T2 h
theorem L1_X4_readProduct_49 {g : AxG} {l : Launch} {r9 : Int32} {S9 : AxS} (N : Nat) (kr : Nat → Nat → Int32 → AxS → Option (Int32 × AxS)) (d : Nat) (hkr : ∀ (a0 : Nat) (a1 : Nat) (a2 : Int32) (S : AxS) {r9 : Int32} {S9 : AxS}, kr a0 a1 a2 S = some ((r9, S9)) → AxMet g l yX4_readSum cX4_readSum 5 (some .boolean) d 0 0 [.ref a0, .ref a1, .int a2] S ((.inl (some (.int r9)), S9))) (K13 : Nat → Nat → Int32 → Int32 → AxS → Option (Int32 × AxS)) (hK13 : ∀ (v0 : Nat) (v1 : Nat) (v2 : Int32) (v3 : Int32) (S : AxS), K13 v0 v1 v2 v3 S = some ((r9, S9)) → AW g l (axRm (d + 7) 0 0) mt_X4_readProduct (axMQ g 0 0 (.inl (some (.int r9)), S9)) 0 0 S 13 [(0, .ref v0), (1, .ref v1), (2, .int v2), (3, .int v3)] []) (v0 : Nat) (v1 : Nat) (v2 : Int32) (v3 : Int32) (v4 : Int32) (S : AxS) (h : F_X4_readProduct_49 N kr K13 v0 v1 v2 v3 v4 S = some ((r9, S9))) : AW g l (axRm (d + 7) 0 0) mt_X4_readProduct (axMQ g 0 0 (.inl (some (.int r9)), S9)) 0 0 S 49 [(0, .ref v0), (1, .ref v1), (2, .int v2), (3, .int v3), (4, .int v4)] [] := by
  unfold F_X4_readProduct_49 at h
  refine aw_aload_n 1 dX4_readProduct_49 rfl rfl ?_
  refine aw_dup rfl dX4_readProduct_50 ?_
  refine aw_getI axc7 3 rfl rfl wd_128 dX4_readProduct_51 h (fun x1 h => ?_)
  refine aw_iconst 1 dX4_readProduct_54 rfl ?_
  refine aw_iadd dX4_readProduct_55 ?_
  refine aw_putI axc7 3 rfl rfl wd_128 rfl rfl rfl dX4_readProduct_56 h (fun T2 h => ?_)
  refine aw_aload_n 0 dX4_readProduct_59 rfl rfl ?_
  refine aw_aload_n 1 dX4_readProduct_60 rfl rfl ?_
  refine aw_iload_n 2 dX4_readProduct_61 rfl rfl ?_
  obtain ⟨hL3, h⟩ := ax_is_spec h
  refine aw_doneI (rest := []) h (fun r9 S9 hF => aw_runV (As := [.ref v1, .int v2]) (rest := []) (L1_X4_readUnit N kr d hkr hF) axc4 hL3 wd_806 wd_803 wd_805 wd_10 wd_90 pd_X4_readUnit rfl (ax_rm (by omega) rfl) ax_hf0 (Nat.le_of_ble_eq_true rfl) rfl dX4_readProduct_62) (fun x5 T4 h => ?_)
  refine aw_if_ne 70 dX4_readProduct_65 (by decide) h (fun h => ?_) (fun h => ?_)
  · refine aw_aload_n 0 dX4_readProduct_70 rfl rfl ?_
    refine aw_iload 4 dX4_readProduct_71 rfl ?_
    refine aw_bipush 42 dX4_readProduct_73 (by decide) ?_
    refine aw_icmp_ne 84 dX4_readProduct_75 (by decide) h (fun h => ?_) (fun h => ?_)
    · refine aw_iload 4 dX4_readProduct_84 rfl ?_
      refine aw_bipush 47 dX4_readProduct_86 (by decide) ?_
      refine aw_icmp_ne 97 dX4_readProduct_88 (by decide) h (fun h => ?_) (fun h => ?_)
      · refine aw_sipush 2004 dX4_readProduct_97 (by decide) ?_
        refine aw_env [(0, .ref v0), (1, .ref v1), (2, .int v2), (3, .int v3)] [0, 1, 2, 3] rfl ?_
        exact L1_X4_readProduct_100 N kr d hkr K13 hK13 v0 v1 v2 v3 2004 v0 T4 h
      · refine aw_sipush 2003 dX4_readProduct_91 (by decide) ?_
        refine aw_goto 100 dX4_readProduct_94 (by decide) ?_
        refine aw_env [(0, .ref v0), (1, .ref v1), (2, .int v2), (3, .int v3)] [0, 1, 2, 3] rfl ?_
        exact L1_X4_readProduct_100 N kr d hkr K13 hK13 v0 v1 v2 v3 2003 v0 T4 h
    · refine aw_sipush 2002 dX4_readProduct_78 (by decide) ?_
      refine aw_goto 100 dX4_readProduct_81 (by decide) ?_
      refine aw_env [(0, .ref v0), (1, .ref v1), (2, .int v2), (3, .int v3)] [0, 1, 2, 3] rfl ?_
      exact L1_X4_readProduct_100 N kr d hkr K13 hK13 v0 v1 v2 v3 2002 v0 T4 h
  · refine aw_iconst 0 dX4_readProduct_68 rfl ?_
    exact aw_zret dX4_readProduct_69 rfl (Nat.le_refl _) (Nat.le_refl _) h
theorem L1_X4_readProduct_13b {g : AxG} {l : Launch} {r9 : Int32} {S9 : AxS} (N : Nat) (kr : Nat → Nat → Int32 → AxS → Option (Int32 × AxS)) (d : Nat) (hkr : ∀ (a0 : Nat) (a1 : Nat) (a2 : Int32) (S : AxS) {r9 : Int32} {S9 : AxS}, kr a0 a1 a2 S = some ((r9, S9)) → AxMet g l yX4_readSum cX4_readSum 5 (some .boolean) d 0 0 [.ref a0, .ref a1, .int a2] S ((.inl (some (.int r9)), S9))) (K13 : Nat → Nat → Int32 → Int32 → AxS → Option (Int32 × AxS)) (hK13 : ∀ (v0 : Nat) (v1 : Nat) (v2 : Int32) (v3 : Int32) (S : AxS), K13 v0 v1 v2 v3 S = some ((r9, S9)) → AW g l (axRm (d + 7) 0 0) mt_X4_readProduct (axMQ g 0 0 (.inl (some (.int r9)), S9)) 0 0 S 13 [(0, .ref v0), (1, .ref v1), (2, .int v2), (3, .int v3)] []) (v0 : Nat) (v1 : Nat) (v2 : Int32) (v3 : Int32) (S : AxS) (h : F_X4_readProduct_13b N kr K13 v0 v1 v2 v3 S = some ((r9, S9))) : AW g l (axRm (d + 7) 0 0) mt_X4_readProduct (axMQ g 0 0 (.inl (some (.int r9)), S9)) 0 0 S 13 [(0, .ref v0), (1, .ref v1), (2, .int v2), (3, .int v3)] [] := by
  unfold F_X4_readProduct_13b at h
  refine aw_iload_n 3 dX4_readProduct_13 rfl rfl ?_
  refine aw_sipush 150 dX4_readProduct_14 (by decide) ?_
  refine aw_icmp_ge 109 dX4_readProduct_17 (by decide) h (fun h => ?_) (fun h => ?_)
  · refine aw_iconst 1 dX4_readProduct_109 rfl ?_
    exact aw_zret dX4_readProduct_110 rfl (Nat.le_refl _) (Nat.le_refl _) h
  · refine aw_aload_n 1 dX4_readProduct_20 rfl rfl ?_
    obtain ⟨hL1, h⟩ := ax_is_spec h
    refine aw_doneI (rest := []) h (fun r9 S9 hF => aw_runV (As := []) (rest := []) (L1_X7_sign N hF) axc7 hL1 wd_683 wd_807 wd_681 wd_682 wd_88 pd_X7_sign rfl (ax_rm (by omega) rfl) ax_hf0 (Nat.le_of_ble_eq_true rfl) rfl dX4_readProduct_21) (fun x3 T2 h => ?_)
    refine aw_istore [(4, .int x3), (0, .ref v0), (1, .ref v1), (2, .int v2), (3, .int v3)] dX4_readProduct_24 rfl rfl ?_
    refine aw_iload 0 dX4_readProduct_26 rfl ?_
    refine aw_bipush 42 dX4_readProduct_28 (by decide) ?_
    refine aw_icmp_eq 49 dX4_readProduct_30 (by decide) h (fun h => ?_) (fun h => ?_)
    · refine aw_env [(0, .ref v0), (1, .ref v1), (2, .int v2), (3, .int v3), (4, .int x3)] [1, 2, 3, 4, 0] rfl ?_
      exact L1_X4_readProduct_49 N kr d hkr K13 hK13 v0 v1 v2 v3 x3 T2 h
    · refine aw_iload 0 dX4_readProduct_33 rfl ?_
      refine aw_bipush 47 dX4_readProduct_35 (by decide) ?_
      refine aw_icmp_eq 49 dX4_readProduct_37 (by decide) h (fun h => ?_) (fun h => ?_)
      · refine aw_env [(0, .ref v0), (1, .ref v1), (2, .int v2), (3, .int v3), (4, .int x3)] [1, 2, 3, 4, 0] rfl ?_
        exact L1_X4_readProduct_49 N kr d hkr K13 hK13 v0 v1 v2 v3 x3 T2 h
      · refine aw_iload 0 dX4_readProduct_40 rfl ?_
        refine aw_bipush 37 dX4_readProduct_42 (by decide) ?_
        refine aw_icmp_eq 49 dX4_readProduct_44 (by decide) h (fun h => ?_) (fun h => ?_)
        · refine aw_env [(0, .ref v0), (1, .ref v1), (2, .int v2), (3, .int v3), (4, .int x3)] [1, 2, 3, 4, 0] rfl ?_
          exact L1_X4_readProduct_49 N kr d hkr K13 hK13 v0 v1 v2 v3 x3 T2 h
        · refine aw_iconst 1 dX4_readProduct_47 rfl ?_
          exact aw_zret dX4_readProduct_48 rfl (Nat.le_refl _) (Nat.le_refl _) h
theorem L1_X4_readProduct_13 {g : AxG} {l : Launch} {r9 : Int32} {S9 : AxS} (N : Nat) (kr : Nat → Nat → Int32 → AxS → Option (Int32 × AxS)) (d : Nat) (hkr : ∀ (a0 : Nat) (a1 : Nat) (a2 : Int32) (S : AxS) {r9 : Int32} {S9 : AxS}, kr a0 a1 a2 S = some ((r9, S9)) → AxMet g l yX4_readSum cX4_readSum 5 (some .boolean) d 0 0 [.ref a0, .ref a1, .int a2] S ((.inl (some (.int r9)), S9)))  : ∀ (n : Nat) (v0 : Nat) (v1 : Nat) (v2 : Int32) (v3 : Int32) (S : AxS), F_X4_readProduct_13 N kr  n v0 v1 v2 v3 S = some ((r9, S9)) → AW g l (axRm (d + 7) 0 0) mt_X4_readProduct (axMQ g 0 0 (.inl (some (.int r9)), S9)) 0 0 S 13 [(0, .ref v0), (1, .ref v1), (2, .int v2), (3, .int v3)] [] := by
  intro n
  induction n with
  | zero => intro v0 v1 v2 v3 S h; cases h
  | succ n ih => intro v0 v1 v2 v3 S h; exact L1_X4_readProduct_13b N kr d hkr (F_X4_readProduct_13 N kr  n) ih v0 v1 v2 v3 S h
theorem L1_X4_readProduct {g : AxG} {l : Launch} (N : Nat) (kr : Nat → Nat → Int32 → AxS → Option (Int32 × AxS)) (d : Nat) (hkr : ∀ (a0 : Nat) (a1 : Nat) (a2 : Int32) (S : AxS) {r9 : Int32} {S9 : AxS}, kr a0 a1 a2 S = some ((r9, S9)) → AxMet g l yX4_readSum cX4_readSum 5 (some .boolean) d 0 0 [.ref a0, .ref a1, .int a2] S ((.inl (some (.int r9)), S9))) {v0 : Nat} {v1 : Nat} {v2 : Int32} {S : AxS} {r9 : Int32} {S9 : AxS} (h : F_X4_readProduct N kr v0 v1 v2 S = some ((r9, S9))) : AxMet g l yX4_readProduct cX4_readProduct 5 (some .boolean) (d + 7) 0 0 [.ref v0, .ref v1, .int v2] S ((.inl (some (.int r9)), S9)) := by
  refine ax_met (own := RX4) (ini := false) (by decide +kernel) rfl (fun h => nomatch h) rfl ?_
  show AW g l (axRm (d + 7) 0 0) mt_X4_readProduct (axMQ g 0 0 (.inl (some (.int r9)), S9)) 0 0 S 0 [(0, .ref v0), (1, .ref v1), (2, .int v2)] []
  unfold F_X4_readProduct at h
  refine aw_aload_n 0 dX4_readProduct_0 rfl rfl ?_
  refine aw_aload_n 1 dX4_readProduct_1 rfl rfl ?_
  refine aw_iload_n 2 dX4_readProduct_2 rfl rfl ?_
  obtain ⟨hL1, h⟩ := ax_is_spec h
  refine aw_doneI (rest := []) h (fun r9 S9 hF => aw_runV (As := [.ref v1, .int v2]) (rest := []) (L1_X4_readUnit N kr d hkr hF) axc4 hL1 wd_806 wd_803 wd_805 wd_10 wd_90 pd_X4_readUnit rfl (ax_rm (by omega) rfl) ax_hf0 (Nat.le_of_ble_eq_true rfl) rfl dX4_readProduct_3) (fun x3 T2 h => ?_)
  refine aw_if_ne 11 dX4_readProduct_6 (by decide) h (fun h => ?_) (fun h => ?_)
  · refine aw_iconst 0 dX4_readProduct_11 rfl ?_
    refine aw_istore_n 3 [(3, .int 0), (0, .ref v0), (1, .ref v1), (2, .int v2)] dX4_readProduct_12 rfl rfl rfl ?_
    refine aw_env [(0, .ref v0), (1, .ref v1), (2, .int v2), (3, .int 0)] [1, 2, 3, 0] rfl ?_
    exact L1_X4_readProduct_13 N kr d hkr  N v0 v1 v2 0 T2 h
  · refine aw_iconst 0 dX4_readProduct_9 rfl ?_
    exact aw_zret dX4_readProduct_10 rfl (Nat.le_refl _) (Nat.le_refl _) h
