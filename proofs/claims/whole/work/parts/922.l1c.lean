theorem dX4_readSum_0 : decode cX4_readSum 0 = .ok (.aload_n 0, 1) := by decide +kernel
theorem dX4_readSum_1 : decode cX4_readSum 1 = .ok (.aload_n 1, 1) := by decide +kernel
theorem dX4_readSum_2 : decode cX4_readSum 2 = .ok (.iload_n 2, 1) := by decide +kernel
theorem dX4_readSum_3 : decode cX4_readSum 3 = .ok (.invokevirtual 50, 3) := by decide +kernel
theorem dX4_readSum_6 : decode cX4_readSum 6 = .ok (.ifCond .ne 5, 3) := by decide +kernel
theorem dX4_readSum_9 : decode cX4_readSum 9 = .ok (.iconst 0, 1) := by decide +kernel
theorem dX4_readSum_10 : decode cX4_readSum 10 = .ok (.ireturn, 1) := by decide +kernel
theorem dX4_readSum_11 : decode cX4_readSum 11 = .ok (.iconst 0, 1) := by decide +kernel
theorem dX4_readSum_12 : decode cX4_readSum 12 = .ok (.istore_n 3, 1) := by decide +kernel
theorem dX4_readSum_13 : decode cX4_readSum 13 = .ok (.iload_n 3, 1) := by decide +kernel
theorem dX4_readSum_14 : decode cX4_readSum 14 = .ok (.sipush 150, 3) := by decide +kernel
theorem dX4_readSum_17 : decode cX4_readSum 17 = .ok (.if_icmp .ge 72, 3) := by decide +kernel
theorem dX4_readSum_20 : decode cX4_readSum 20 = .ok (.aload_n 1, 1) := by decide +kernel
theorem dX4_readSum_21 : decode cX4_readSum 21 = .ok (.invokevirtual 33, 3) := by decide +kernel
theorem dX4_readSum_24 : decode cX4_readSum 24 = .ok (.istore 4, 2) := by decide +kernel
theorem dX4_readSum_26 : decode cX4_readSum 26 = .ok (.iload 4, 2) := by decide +kernel
theorem dX4_readSum_28 : decode cX4_readSum 28 = .ok (.bipush 43, 2) := by decide +kernel
theorem dX4_readSum_30 : decode cX4_readSum 30 = .ok (.if_icmp .eq 12, 3) := by decide +kernel
theorem dX4_readSum_33 : decode cX4_readSum 33 = .ok (.iload 4, 2) := by decide +kernel
theorem dX4_readSum_35 : decode cX4_readSum 35 = .ok (.bipush 45, 2) := by decide +kernel
theorem dX4_readSum_37 : decode cX4_readSum 37 = .ok (.if_icmp .eq 5, 3) := by decide +kernel
theorem dX4_readSum_40 : decode cX4_readSum 40 = .ok (.iconst 1, 1) := by decide +kernel
theorem dX4_readSum_41 : decode cX4_readSum 41 = .ok (.ireturn, 1) := by decide +kernel
theorem dX4_readSum_42 : decode cX4_readSum 42 = .ok (.aload_n 1, 1) := by decide +kernel
theorem dX4_readSum_43 : decode cX4_readSum 43 = .ok (.dup, 1) := by decide +kernel
theorem dX4_readSum_44 : decode cX4_readSum 44 = .ok (.getfield 39, 3) := by decide +kernel
theorem dX4_readSum_47 : decode cX4_readSum 47 = .ok (.iconst 1, 1) := by decide +kernel
theorem dX4_readSum_48 : decode cX4_readSum 48 = .ok (.iadd, 1) := by decide +kernel
theorem dX4_readSum_49 : decode cX4_readSum 49 = .ok (.putfield 39, 3) := by decide +kernel
theorem dX4_readSum_52 : decode cX4_readSum 52 = .ok (.aload_n 0, 1) := by decide +kernel
theorem dX4_readSum_53 : decode cX4_readSum 53 = .ok (.aload_n 1, 1) := by decide +kernel
theorem dX4_readSum_54 : decode cX4_readSum 54 = .ok (.iload_n 2, 1) := by decide +kernel
theorem dX4_readSum_55 : decode cX4_readSum 55 = .ok (.invokevirtual 50, 3) := by decide +kernel
theorem dX4_readSum_58 : decode cX4_readSum 58 = .ok (.ifCond .ne 5, 3) := by decide +kernel
theorem dX4_readSum_61 : decode cX4_readSum 61 = .ok (.iconst 0, 1) := by decide +kernel
theorem dX4_readSum_62 : decode cX4_readSum 62 = .ok (.ireturn, 1) := by decide +kernel
theorem dX4_readSum_63 : decode cX4_readSum 63 = .ok (.aload_n 0, 1) := by decide +kernel
theorem dX4_readSum_64 : decode cX4_readSum 64 = .ok (.iload 4, 2) := by decide +kernel
theorem dX4_readSum_66 : decode cX4_readSum 66 = .ok (.bipush 43, 2) := by decide +kernel
theorem dX4_readSum_68 : decode cX4_readSum 68 = .ok (.if_icmp .ne 9, 3) := by decide +kernel
theorem dX4_readSum_71 : decode cX4_readSum 71 = .ok (.sipush 2000, 3) := by decide +kernel
theorem dX4_readSum_74 : decode cX4_readSum 74 = .ok (.goto 6, 3) := by decide +kernel
theorem dX4_readSum_77 : decode cX4_readSum 77 = .ok (.sipush 2001, 3) := by decide +kernel
theorem dX4_readSum_80 : decode cX4_readSum 80 = .ok (.invokevirtual 25, 3) := by decide +kernel
theorem dX4_readSum_83 : decode cX4_readSum 83 = .ok (.iinc 3 1, 3) := by decide +kernel
theorem dX4_readSum_86 : decode cX4_readSum 86 = .ok (.goto (-73), 3) := by decide +kernel
theorem dX4_readSum_89 : decode cX4_readSum 89 = .ok (.iconst 1, 1) := by decide +kernel
theorem dX4_readSum_90 : decode cX4_readSum 90 = .ok (.ireturn, 1) := by decide +kernel
abbrev mt_X4_readSum : AxM := (RX4, cX4_readSum, 5, (some .boolean), false, [])
theorem L1_X4_readSum_80 {g : AxG} {l : Launch} {r9 : Int32} {S9 : AxS} (N : Nat) (kr : Nat → Nat → Int32 → AxS → Option (Int32 × AxS)) (d : Nat) (hkr : ∀ (a0 : Nat) (a1 : Nat) (a2 : Int32) (S : AxS) {r9 : Int32} {S9 : AxS}, kr a0 a1 a2 S = some ((r9, S9)) → AxMet g l yX4_readSum cX4_readSum 5 (some .boolean) d 0 0 [.ref a0, .ref a1, .int a2] S ((.inl (some (.int r9)), S9))) (K13 : Nat → Nat → Int32 → Int32 → AxS → Option (Int32 × AxS)) (hK13 : ∀ (v0 : Nat) (v1 : Nat) (v2 : Int32) (v3 : Int32) (S : AxS), K13 v0 v1 v2 v3 S = some ((r9, S9)) → AW g l (axRm (d + 8) 0 0) mt_X4_readSum (axMQ g 0 0 (.inl (some (.int r9)), S9)) 0 0 S 13 [(0, .ref v0), (1, .ref v1), (2, .int v2), (3, .int v3)] []) (v0 : Nat) (v1 : Nat) (v2 : Int32) (v3 : Int32) (w0 : Int32) (w1 : Nat) (S : AxS) (h : F_X4_readSum_80 N kr K13 v0 v1 v2 v3 w0 w1 S = some ((r9, S9))) : AW g l (axRm (d + 8) 0 0) mt_X4_readSum (axMQ g 0 0 (.inl (some (.int r9)), S9)) 0 0 S 80 [(0, .ref v0), (1, .ref v1), (2, .int v2), (3, .int v3)] [.int w0, .ref w1] := by
  unfold F_X4_readSum_80 at h
  obtain ⟨hL1, h⟩ := ax_is_spec h
  refine aw_doneV (rest := []) h (fun S9 hF => aw_runV (As := [.int w0]) (rest := []) (L1_X4_emit N hF) axc4 hL1 wd_440 wd_437 wd_439 wd_1 wd_90 pd_X4_emit rfl (ax_rm (by omega) rfl) ax_hf0 (Nat.le_of_ble_eq_true rfl) rfl dX4_readSum_80) (fun T2 h => ?_)
  refine aw_iinc 3 [(3, .int (v3 + 1)), (0, .ref v0), (1, .ref v1), (2, .int v2)] (v3 + 1) dX4_readSum_83 rfl rfl rfl rfl ?_
  refine aw_goto 13 dX4_readSum_86 (by decide) ?_
  refine aw_env [(0, .ref v0), (1, .ref v1), (2, .int v2), (3, .int (v3 + 1))] [1, 2, 3, 0] rfl ?_
  exact hK13 v0 v1 v2 (v3 + 1) T2 h
theorem L1_X4_readSum_42 {g : AxG} {l : Launch} {r9 : Int32} {S9 : AxS} (N : Nat) (kr : Nat → Nat → Int32 → AxS → Option (Int32 × AxS)) (d : Nat) (hkr : ∀ (a0 : Nat) (a1 : Nat) (a2 : Int32) (S : AxS) {r9 : Int32} {S9 : AxS}, kr a0 a1 a2 S = some ((r9, S9)) → AxMet g l yX4_readSum cX4_readSum 5 (some .boolean) d 0 0 [.ref a0, .ref a1, .int a2] S ((.inl (some (.int r9)), S9))) (K13 : Nat → Nat → Int32 → Int32 → AxS → Option (Int32 × AxS)) (hK13 : ∀ (v0 : Nat) (v1 : Nat) (v2 : Int32) (v3 : Int32) (S : AxS), K13 v0 v1 v2 v3 S = some ((r9, S9)) → AW g l (axRm (d + 8) 0 0) mt_X4_readSum (axMQ g 0 0 (.inl (some (.int r9)), S9)) 0 0 S 13 [(0, .ref v0), (1, .ref v1), (2, .int v2), (3, .int v3)] []) (v0 : Nat) (v1 : Nat) (v2 : Int32) (v3 : Int32) (v4 : Int32) (S : AxS) (h : F_X4_readSum_42 N kr K13 v0 v1 v2 v3 v4 S = some ((r9, S9))) : AW g l (axRm (d + 8) 0 0) mt_X4_readSum (axMQ g 0 0 (.inl (some (.int r9)), S9)) 0 0 S 42 [(0, .ref v0), (1, .ref v1), (2, .int v2), (3, .int v3), (4, .int v4)] [] := by
  unfold F_X4_readSum_42 at h
  refine aw_aload_n 1 dX4_readSum_42 rfl rfl ?_
  refine aw_dup rfl dX4_readSum_43 ?_
  refine aw_getI axc7 3 rfl rfl wd_128 dX4_readSum_44 h (fun x1 h => ?_)
  refine aw_iconst 1 dX4_readSum_47 rfl ?_
  refine aw_iadd dX4_readSum_48 ?_
  refine aw_putI axc7 3 rfl rfl wd_128 rfl rfl rfl dX4_readSum_49 h (fun T2 h => ?_)
  refine aw_aload_n 0 dX4_readSum_52 rfl rfl ?_
  refine aw_aload_n 1 dX4_readSum_53 rfl rfl ?_
  refine aw_iload_n 2 dX4_readSum_54 rfl rfl ?_
  obtain ⟨hL3, h⟩ := ax_is_spec h
  refine aw_doneI (rest := []) h (fun r9 S9 hF => aw_runV (As := [.ref v1, .int v2]) (rest := []) (L1_X4_readProduct N kr d hkr hF) axc4 hL3 wd_802 wd_799 wd_801 wd_9 wd_90 pd_X4_readProduct rfl (ax_rm (by omega) rfl) ax_hf0 (Nat.le_of_ble_eq_true rfl) rfl dX4_readSum_55) (fun x5 T4 h => ?_)
  refine aw_if_ne 63 dX4_readSum_58 (by decide) h (fun h => ?_) (fun h => ?_)
  · refine aw_aload_n 0 dX4_readSum_63 rfl rfl ?_
    refine aw_iload 4 dX4_readSum_64 rfl ?_
    refine aw_bipush 43 dX4_readSum_66 (by decide) ?_
    refine aw_icmp_ne 77 dX4_readSum_68 (by decide) h (fun h => ?_) (fun h => ?_)
    · refine aw_sipush 2001 dX4_readSum_77 (by decide) ?_
      refine aw_env [(0, .ref v0), (1, .ref v1), (2, .int v2), (3, .int v3)] [0, 1, 2, 3] rfl ?_
      exact L1_X4_readSum_80 N kr d hkr K13 hK13 v0 v1 v2 v3 2001 v0 T4 h
    · refine aw_sipush 2000 dX4_readSum_71 (by decide) ?_
      refine aw_goto 80 dX4_readSum_74 (by decide) ?_
      refine aw_env [(0, .ref v0), (1, .ref v1), (2, .int v2), (3, .int v3)] [0, 1, 2, 3] rfl ?_
      exact L1_X4_readSum_80 N kr d hkr K13 hK13 v0 v1 v2 v3 2000 v0 T4 h
  · refine aw_iconst 0 dX4_readSum_61 rfl ?_
    exact aw_zret dX4_readSum_62 rfl (Nat.le_refl _) (Nat.le_refl _) h
theorem L1_X4_readSum_13b {g : AxG} {l : Launch} {r9 : Int32} {S9 : AxS} (N : Nat) (kr : Nat → Nat → Int32 → AxS → Option (Int32 × AxS)) (d : Nat) (hkr : ∀ (a0 : Nat) (a1 : Nat) (a2 : Int32) (S : AxS) {r9 : Int32} {S9 : AxS}, kr a0 a1 a2 S = some ((r9, S9)) → AxMet g l yX4_readSum cX4_readSum 5 (some .boolean) d 0 0 [.ref a0, .ref a1, .int a2] S ((.inl (some (.int r9)), S9))) (K13 : Nat → Nat → Int32 → Int32 → AxS → Option (Int32 × AxS)) (hK13 : ∀ (v0 : Nat) (v1 : Nat) (v2 : Int32) (v3 : Int32) (S : AxS), K13 v0 v1 v2 v3 S = some ((r9, S9)) → AW g l (axRm (d + 8) 0 0) mt_X4_readSum (axMQ g 0 0 (.inl (some (.int r9)), S9)) 0 0 S 13 [(0, .ref v0), (1, .ref v1), (2, .int v2), (3, .int v3)] []) (v0 : Nat) (v1 : Nat) (v2 : Int32) (v3 : Int32) (S : AxS) (h : F_X4_readSum_13b N kr K13 v0 v1 v2 v3 S = some ((r9, S9))) : AW g l (axRm (d + 8) 0 0) mt_X4_readSum (axMQ g 0 0 (.inl (some (.int r9)), S9)) 0 0 S 13 [(0, .ref v0), (1, .ref v1), (2, .int v2), (3, .int v3)] [] := by
  unfold F_X4_readSum_13b at h
  refine aw_iload_n 3 dX4_readSum_13 rfl rfl ?_
  refine aw_sipush 150 dX4_readSum_14 (by decide) ?_
  refine aw_icmp_ge 89 dX4_readSum_17 (by decide) h (fun h => ?_) (fun h => ?_)
  · refine aw_iconst 1 dX4_readSum_89 rfl ?_
    exact aw_zret dX4_readSum_90 rfl (Nat.le_refl _) (Nat.le_refl _) h
  · refine aw_aload_n 1 dX4_readSum_20 rfl rfl ?_
    obtain ⟨hL1, h⟩ := ax_is_spec h
    refine aw_doneI (rest := []) h (fun r9 S9 hF => aw_runV (As := []) (rest := []) (L1_X7_sign N hF) axc7 hL1 wd_683 wd_807 wd_681 wd_682 wd_88 pd_X7_sign rfl (ax_rm (by omega) rfl) ax_hf0 (Nat.le_of_ble_eq_true rfl) rfl dX4_readSum_21) (fun x3 T2 h => ?_)
    refine aw_istore [(4, .int x3), (0, .ref v0), (1, .ref v1), (2, .int v2), (3, .int v3)] dX4_readSum_24 rfl rfl ?_
    refine aw_iload 0 dX4_readSum_26 rfl ?_
    refine aw_bipush 43 dX4_readSum_28 (by decide) ?_
    refine aw_icmp_eq 42 dX4_readSum_30 (by decide) h (fun h => ?_) (fun h => ?_)
    · refine aw_env [(0, .ref v0), (1, .ref v1), (2, .int v2), (3, .int v3), (4, .int x3)] [1, 2, 3, 4, 0] rfl ?_
      exact L1_X4_readSum_42 N kr d hkr K13 hK13 v0 v1 v2 v3 x3 T2 h
    · refine aw_iload 0 dX4_readSum_33 rfl ?_
      refine aw_bipush 45 dX4_readSum_35 (by decide) ?_
      refine aw_icmp_eq 42 dX4_readSum_37 (by decide) h (fun h => ?_) (fun h => ?_)
      · refine aw_env [(0, .ref v0), (1, .ref v1), (2, .int v2), (3, .int v3), (4, .int x3)] [1, 2, 3, 4, 0] rfl ?_
        exact L1_X4_readSum_42 N kr d hkr K13 hK13 v0 v1 v2 v3 x3 T2 h
      · refine aw_iconst 1 dX4_readSum_40 rfl ?_
        exact aw_zret dX4_readSum_41 rfl (Nat.le_refl _) (Nat.le_refl _) h
theorem L1_X4_readSum_13 {g : AxG} {l : Launch} {r9 : Int32} {S9 : AxS} (N : Nat) (kr : Nat → Nat → Int32 → AxS → Option (Int32 × AxS)) (d : Nat) (hkr : ∀ (a0 : Nat) (a1 : Nat) (a2 : Int32) (S : AxS) {r9 : Int32} {S9 : AxS}, kr a0 a1 a2 S = some ((r9, S9)) → AxMet g l yX4_readSum cX4_readSum 5 (some .boolean) d 0 0 [.ref a0, .ref a1, .int a2] S ((.inl (some (.int r9)), S9)))  : ∀ (n : Nat) (v0 : Nat) (v1 : Nat) (v2 : Int32) (v3 : Int32) (S : AxS), F_X4_readSum_13 N kr  n v0 v1 v2 v3 S = some ((r9, S9)) → AW g l (axRm (d + 8) 0 0) mt_X4_readSum (axMQ g 0 0 (.inl (some (.int r9)), S9)) 0 0 S 13 [(0, .ref v0), (1, .ref v1), (2, .int v2), (3, .int v3)] [] := by
  intro n
  induction n with
  | zero => intro v0 v1 v2 v3 S h; cases h
  | succ n ih => intro v0 v1 v2 v3 S h; exact L1_X4_readSum_13b N kr d hkr (F_X4_readSum_13 N kr  n) ih v0 v1 v2 v3 S h
theorem L1_X4_readSum {g : AxG} {l : Launch} (N : Nat) (kr : Nat → Nat → Int32 → AxS → Option (Int32 × AxS)) (d : Nat) (hkr : ∀ (a0 : Nat) (a1 : Nat) (a2 : Int32) (S : AxS) {r9 : Int32} {S9 : AxS}, kr a0 a1 a2 S = some ((r9, S9)) → AxMet g l yX4_readSum cX4_readSum 5 (some .boolean) d 0 0 [.ref a0, .ref a1, .int a2] S ((.inl (some (.int r9)), S9))) {v0 : Nat} {v1 : Nat} {v2 : Int32} {S : AxS} {r9 : Int32} {S9 : AxS} (h : F_X4_readSum N kr v0 v1 v2 S = some ((r9, S9))) : AxMet g l yX4_readSum cX4_readSum 5 (some .boolean) (d + 8) 0 0 [.ref v0, .ref v1, .int v2] S ((.inl (some (.int r9)), S9)) := by
  refine ax_met (own := RX4) (ini := false) (by decide +kernel) rfl (fun h => nomatch h) rfl ?_
  show AW g l (axRm (d + 8) 0 0) mt_X4_readSum (axMQ g 0 0 (.inl (some (.int r9)), S9)) 0 0 S 0 [(0, .ref v0), (1, .ref v1), (2, .int v2)] []
  unfold F_X4_readSum at h
  refine aw_aload_n 0 dX4_readSum_0 rfl rfl ?_
  refine aw_aload_n 1 dX4_readSum_1 rfl rfl ?_
  refine aw_iload_n 2 dX4_readSum_2 rfl rfl ?_
  obtain ⟨hL1, h⟩ := ax_is_spec h
  refine aw_doneI (rest := []) h (fun r9 S9 hF => aw_runV (As := [.ref v1, .int v2]) (rest := []) (L1_X4_readProduct N kr d hkr hF) axc4 hL1 wd_802 wd_799 wd_801 wd_9 wd_90 pd_X4_readProduct rfl (ax_rm (by omega) rfl) ax_hf0 (Nat.le_of_ble_eq_true rfl) rfl dX4_readSum_3) (fun x3 T2 h => ?_)
  refine aw_if_ne 11 dX4_readSum_6 (by decide) h (fun h => ?_) (fun h => ?_)
  · refine aw_iconst 0 dX4_readSum_11 rfl ?_
    refine aw_istore_n 3 [(3, .int 0), (0, .ref v0), (1, .ref v1), (2, .int v2)] dX4_readSum_12 rfl rfl rfl ?_
    refine aw_env [(0, .ref v0), (1, .ref v1), (2, .int v2), (3, .int 0)] [1, 2, 3, 0] rfl ?_
    exact L1_X4_readSum_13 N kr d hkr  N v0 v1 v2 0 T2 h
  · refine aw_iconst 0 dX4_readSum_9 rfl ?_
    exact aw_zret dX4_readSum_10 rfl (Nat.le_refl _) (Nat.le_refl _) h
theorem L1GG_X4_readSum {g : AxG} {l : Launch} (N : Nat) : ∀ (n : Nat) (v0 : Nat) (v1 : Nat) (v2 : Int32) (S : AxS) {r9 : Int32} {S9 : AxS}, GG_X4_readSum N n v0 v1 v2 S = some ((r9, S9)) → AxMet g l yX4_readSum cX4_readSum 5 (some .boolean) (8 * n) 0 0 [.ref v0, .ref v1, .int v2] S ((.inl (some (.int r9)), S9)) := by
  intro n
  induction n with
  | zero => intro v0 v1 v2 S r9 S9 h; cases h
  | succ n ih =>
    intro v0 v1 v2 S r9 S9 h
    have h9 := L1_X4_readSum (g := g) (l := l) N (GG_X4_readSum N n) (8 * n) (fun a0 a1 a2 S r9 S9 h => ih a0 a1 a2 S h) h
    exact h9
theorem L1G_X4_readSum {g : AxG} {l : Launch} (N : Nat) {v0 : Nat} {v1 : Nat} {v2 : Int32} {S : AxS} {r9 : Int32} {S9 : AxS} (h : G_X4_readSum N v0 v1 v2 S = some ((r9, S9))) : AxMet g l yX4_readSum cX4_readSum 5 (some .boolean) (72) 0 0 [.ref v0, .ref v1, .int v2] S ((.inl (some (.int r9)), S9)) := L1GG_X4_readSum N 9 v0 v1 v2 S h


theorem dX4_readFrom_0 : decode cX4_readFrom 0 = .ok (.aload_n 0, 1) := by decide +kernel
theorem dX4_readFrom_1 : decode cX4_readFrom 1 = .ok (.iconst 0, 1) := by decide +kernel
theorem dX4_readFrom_2 : decode cX4_readFrom 2 = .ok (.putfield 21, 3) := by decide +kernel
theorem dX4_readFrom_5 : decode cX4_readFrom 5 = .ok (.aload_n 0, 1) := by decide +kernel
theorem dX4_readFrom_6 : decode cX4_readFrom 6 = .ok (.aload_n 1, 1) := by decide +kernel
theorem dX4_readFrom_7 : decode cX4_readFrom 7 = .ok (.iconst 0, 1) := by decide +kernel
theorem dX4_readFrom_8 : decode cX4_readFrom 8 = .ok (.invokevirtual 29, 3) := by decide +kernel
theorem dX4_readFrom_11 : decode cX4_readFrom 11 = .ok (.ifCond .ne 5, 3) := by decide +kernel
theorem dX4_readFrom_14 : decode cX4_readFrom 14 = .ok (.iconst 0, 1) := by decide +kernel
theorem dX4_readFrom_15 : decode cX4_readFrom 15 = .ok (.ireturn, 1) := by decide +kernel
theorem dX4_readFrom_16 : decode cX4_readFrom 16 = .ok (.aload_n 1, 1) := by decide +kernel
theorem dX4_readFrom_17 : decode cX4_readFrom 17 = .ok (.invokevirtual 33, 3) := by decide +kernel
theorem dX4_readFrom_20 : decode cX4_readFrom 20 = .ok (.iconst (-1), 1) := by decide +kernel
theorem dX4_readFrom_21 : decode cX4_readFrom 21 = .ok (.if_icmp .eq 15, 3) := by decide +kernel
theorem dX4_readFrom_24 : decode cX4_readFrom 24 = .ok (.aload_n 1, 1) := by decide +kernel
theorem dX4_readFrom_25 : decode cX4_readFrom 25 = .ok (.iconst 1, 1) := by decide +kernel
theorem dX4_readFrom_26 : decode cX4_readFrom 26 = .ok (.aload_n 1, 1) := by decide +kernel
theorem dX4_readFrom_27 : decode cX4_readFrom 27 = .ok (.getfield 39, 3) := by decide +kernel
theorem dX4_readFrom_30 : decode cX4_readFrom 30 = .ok (.invokevirtual 42, 3) := by decide +kernel
theorem dX4_readFrom_33 : decode cX4_readFrom 33 = .ok (.ifCond .eq 7, 3) := by decide +kernel
theorem dX4_readFrom_36 : decode cX4_readFrom 36 = .ok (.iconst 1, 1) := by decide +kernel
theorem dX4_readFrom_37 : decode cX4_readFrom 37 = .ok (.goto 4, 3) := by decide +kernel
theorem dX4_readFrom_40 : decode cX4_readFrom 40 = .ok (.iconst 0, 1) := by decide +kernel
theorem dX4_readFrom_41 : decode cX4_readFrom 41 = .ok (.ireturn, 1) := by decide +kernel
abbrev mt_X4_readFrom : AxM := (RX4, cX4_readFrom, 2, (some .boolean), false, [])
theorem L1_X4_readFrom {g : AxG} {l : Launch} (N : Nat) {v0 : Nat} {v1 : Nat} {S : AxS} {r9 : Int32} {S9 : AxS} (h : F_X4_readFrom N v0 v1 S = some ((r9, S9))) : AxMet g l yX4_readFrom cX4_readFrom 2 (some .boolean) (73) 0 0 [.ref v0, .ref v1] S ((.inl (some (.int r9)), S9)) := by
  refine ax_met (own := RX4) (ini := false) (by decide +kernel) rfl (fun h => nomatch h) rfl ?_
  show AW g l (axRm (73) 0 0) mt_X4_readFrom (axMQ g 0 0 (.inl (some (.int r9)), S9)) 0 0 S 0 [(0, .ref v0), (1, .ref v1)] []
  unfold F_X4_readFrom at h
  refine aw_aload_n 0 dX4_readFrom_0 rfl rfl ?_
  refine aw_iconst 0 dX4_readFrom_1 rfl ?_
  refine aw_putI axc4 3 rfl rfl wd_231 rfl rfl rfl dX4_readFrom_2 h (fun T1 h => ?_)
  refine aw_aload_n 0 dX4_readFrom_5 rfl rfl ?_
  refine aw_aload_n 1 dX4_readFrom_6 rfl rfl ?_
  refine aw_iconst 0 dX4_readFrom_7 rfl ?_
  obtain ⟨hL2, h⟩ := ax_is_spec h
  refine aw_doneI (rest := []) h (fun r9 S9 hF => aw_runV (As := [.ref v1, .int 0]) (rest := []) (L1G_X4_readSum N hF) axc4 hL2 wd_798 wd_795 wd_797 wd_8 wd_90 pd_X4_readSum rfl (ax_rm (by omega) rfl) ax_hf0 (Nat.le_of_ble_eq_true rfl) rfl dX4_readFrom_8) (fun x4 T3 h => ?_)
  refine aw_if_ne 16 dX4_readFrom_11 (by decide) h (fun h => ?_) (fun h => ?_)
  · refine aw_aload_n 1 dX4_readFrom_16 rfl rfl ?_
    obtain ⟨hL5, h⟩ := ax_is_spec h
    refine aw_doneI (rest := []) h (fun r9 S9 hF => aw_runV (As := []) (rest := []) (L1_X7_sign N hF) axc7 hL5 wd_683 wd_807 wd_681 wd_682 wd_88 pd_X7_sign rfl (ax_rm (by omega) rfl) ax_hf0 (Nat.le_of_ble_eq_true rfl) rfl dX4_readFrom_17) (fun x7 T6 h => ?_)
    refine aw_iconst (-1) dX4_readFrom_20 rfl ?_
    refine aw_icmp_eq 36 dX4_readFrom_21 (by decide) h (fun h => ?_) (fun h => ?_)
    · refine aw_iconst 1 dX4_readFrom_36 rfl ?_
      refine aw_goto 41 dX4_readFrom_37 (by decide) ?_
      exact aw_zret dX4_readFrom_41 rfl (Nat.le_refl _) (Nat.le_refl _) h
    · refine aw_aload_n 1 dX4_readFrom_24 rfl rfl ?_
      refine aw_iconst 1 dX4_readFrom_25 rfl ?_
      refine aw_aload_n 1 dX4_readFrom_26 rfl rfl ?_
      refine aw_getI axc7 3 rfl rfl wd_128 dX4_readFrom_27 h (fun x8 h => ?_)
      obtain ⟨hL9, h⟩ := ax_is_spec h
      refine aw_doneI (rest := []) h (fun r9 S9 hF => aw_runV (As := [.int 1, .int x8]) (rest := []) (L1_X7_fails N hF) axc7 hL9 wd_760 wd_810 wd_758 wd_759 wd_88 pd_X7_fails rfl (ax_rm (by omega) rfl) ax_hf0 (Nat.le_of_ble_eq_true rfl) rfl dX4_readFrom_30) (fun x11 T10 h => ?_)
      refine aw_if_eq 40 dX4_readFrom_33 (by decide) h (fun h => ?_) (fun h => ?_)
      · refine aw_iconst 0 dX4_readFrom_40 rfl ?_
        exact aw_zret dX4_readFrom_41 rfl (Nat.le_refl _) (Nat.le_refl _) h
      · refine aw_iconst 1 dX4_readFrom_36 rfl ?_
        refine aw_goto 41 dX4_readFrom_37 (by decide) ?_
        exact aw_zret dX4_readFrom_41 rfl (Nat.le_refl _) (Nat.le_refl _) h
  · refine aw_iconst 0 dX4_readFrom_14 rfl ?_
    exact aw_zret dX4_readFrom_15 rfl (Nat.le_refl _) (Nat.le_refl _) h

theorem dX4_done_0 : decode cX4_done 0 = .ok (.iload_n 0, 1) := by decide +kernel
theorem dX4_done_1 : decode cX4_done 1 = .ok (.tableswitch 81 2000 2005 #[39, 43, 47, 51, 63, 75], 39) := by decide +kernel
theorem dX4_done_40 : decode cX4_done 40 = .ok (.iload_n 1, 1) := by decide +kernel
theorem dX4_done_41 : decode cX4_done 41 = .ok (.iload_n 2, 1) := by decide +kernel
theorem dX4_done_42 : decode cX4_done 42 = .ok (.iadd, 1) := by decide +kernel
theorem dX4_done_43 : decode cX4_done 43 = .ok (.ireturn, 1) := by decide +kernel
theorem dX4_done_44 : decode cX4_done 44 = .ok (.iload_n 1, 1) := by decide +kernel
theorem dX4_done_45 : decode cX4_done 45 = .ok (.iload_n 2, 1) := by decide +kernel
theorem dX4_done_46 : decode cX4_done 46 = .ok (.isub, 1) := by decide +kernel
theorem dX4_done_47 : decode cX4_done 47 = .ok (.ireturn, 1) := by decide +kernel
theorem dX4_done_48 : decode cX4_done 48 = .ok (.iload_n 1, 1) := by decide +kernel
theorem dX4_done_49 : decode cX4_done 49 = .ok (.iload_n 2, 1) := by decide +kernel
theorem dX4_done_50 : decode cX4_done 50 = .ok (.imul, 1) := by decide +kernel
theorem dX4_done_51 : decode cX4_done 51 = .ok (.ireturn, 1) := by decide +kernel
theorem dX4_done_52 : decode cX4_done 52 = .ok (.iload_n 2, 1) := by decide +kernel
theorem dX4_done_53 : decode cX4_done 53 = .ok (.ifCond .ne 7, 3) := by decide +kernel
theorem dX4_done_56 : decode cX4_done 56 = .ok (.iconst 0, 1) := by decide +kernel
theorem dX4_done_57 : decode cX4_done 57 = .ok (.goto 6, 3) := by decide +kernel
theorem dX4_done_60 : decode cX4_done 60 = .ok (.iload_n 1, 1) := by decide +kernel
theorem dX4_done_61 : decode cX4_done 61 = .ok (.iload_n 2, 1) := by decide +kernel
theorem dX4_done_62 : decode cX4_done 62 = .ok (.idiv, 1) := by decide +kernel
theorem dX4_done_63 : decode cX4_done 63 = .ok (.ireturn, 1) := by decide +kernel
theorem dX4_done_64 : decode cX4_done 64 = .ok (.iload_n 2, 1) := by decide +kernel
theorem dX4_done_65 : decode cX4_done 65 = .ok (.ifCond .ne 7, 3) := by decide +kernel
theorem dX4_done_68 : decode cX4_done 68 = .ok (.iconst 0, 1) := by decide +kernel
theorem dX4_done_69 : decode cX4_done 69 = .ok (.goto 6, 3) := by decide +kernel
theorem dX4_done_72 : decode cX4_done 72 = .ok (.iload_n 1, 1) := by decide +kernel
theorem dX4_done_73 : decode cX4_done 73 = .ok (.iload_n 2, 1) := by decide +kernel
theorem dX4_done_74 : decode cX4_done 74 = .ok (.irem, 1) := by decide +kernel
theorem dX4_done_75 : decode cX4_done 75 = .ok (.ireturn, 1) := by decide +kernel
theorem dX4_done_76 : decode cX4_done 76 = .ok (.iload_n 1, 1) := by decide +kernel
theorem dX4_done_77 : decode cX4_done 77 = .ok (.iload_n 2, 1) := by decide +kernel
theorem dX4_done_78 : decode cX4_done 78 = .ok (.invokestatic 110, 3) := by decide +kernel
theorem dX4_done_81 : decode cX4_done 81 = .ok (.ireturn, 1) := by decide +kernel
theorem dX4_done_82 : decode cX4_done 82 = .ok (.iload_n 1, 1) := by decide +kernel
theorem dX4_done_83 : decode cX4_done 83 = .ok (.iload_n 2, 1) := by decide +kernel
theorem dX4_done_84 : decode cX4_done 84 = .ok (.invokestatic 115, 3) := by decide +kernel
theorem dX4_done_87 : decode cX4_done 87 = .ok (.ireturn, 1) := by decide +kernel
abbrev mt_X4_done : AxM := (RX4, cX4_done, 3, (some .int), false, [])
theorem L1_X4_done {g : AxG} {l : Launch} (N : Nat) {v0 : Int32} {v1 : Int32} {v2 : Int32} {S : AxS} {r9 : Int32} {S9 : AxS} (h : F_X4_done N v0 v1 v2 S = some ((r9, S9))) : AxMet g l yX4_done cX4_done 3 (some .int) (1) 0 0 [.int v0, .int v1, .int v2] S ((.inl (some (.int r9)), S9)) := by
  refine ax_met (own := RX4) (ini := false) (by decide +kernel) rfl (fun h => nomatch h) rfl ?_
  show AW g l (axRm (1) 0 0) mt_X4_done (axMQ g 0 0 (.inl (some (.int r9)), S9)) 0 0 S 0 [(0, .int v0), (1, .int v1), (2, .int v2)] []
  unfold F_X4_done at h
  refine aw_iload_n 0 dX4_done_0 rfl rfl ?_
  refine aw_case 2000 h (fun h => ?_) (fun c1 h => ?_)
  · refine aw_tswIn 40 (off := 39) dX4_done_1 (by decide) (by decide) (by decide) (by decide) ?_
    refine aw_iload_n 1 dX4_done_40 rfl rfl ?_
    refine aw_iload_n 2 dX4_done_41 rfl rfl ?_
    refine aw_iadd dX4_done_42 ?_
    exact aw_iret dX4_done_43 rfl (Nat.le_refl _) (Nat.le_refl _) h
  refine aw_case 2001 h (fun h => ?_) (fun c2 h => ?_)
  · refine aw_tswIn 44 (off := 43) dX4_done_1 (by decide) (by decide) (by decide) (by decide) ?_
    refine aw_iload_n 1 dX4_done_44 rfl rfl ?_
    refine aw_iload_n 2 dX4_done_45 rfl rfl ?_
    refine aw_isub dX4_done_46 ?_
    exact aw_iret dX4_done_47 rfl (Nat.le_refl _) (Nat.le_refl _) h
  refine aw_case 2002 h (fun h => ?_) (fun c3 h => ?_)
  · refine aw_tswIn 48 (off := 47) dX4_done_1 (by decide) (by decide) (by decide) (by decide) ?_
    refine aw_iload_n 1 dX4_done_48 rfl rfl ?_
    refine aw_iload_n 2 dX4_done_49 rfl rfl ?_
    refine aw_imul dX4_done_50 ?_
    exact aw_iret dX4_done_51 rfl (Nat.le_refl _) (Nat.le_refl _) h
  refine aw_case 2003 h (fun h => ?_) (fun c4 h => ?_)
  · refine aw_tswIn 52 (off := 51) dX4_done_1 (by decide) (by decide) (by decide) (by decide) ?_
    refine aw_iload_n 2 dX4_done_52 rfl rfl ?_
    refine aw_if_ne 60 dX4_done_53 (by decide) h (fun h => ?_) (fun h => ?_)
    · refine aw_iload_n 1 dX4_done_60 rfl rfl ?_
      refine aw_iload_n 2 dX4_done_61 rfl rfl ?_
      refine aw_idiv dX4_done_62 h (fun h => ?_)
      exact aw_iret dX4_done_63 rfl (Nat.le_refl _) (Nat.le_refl _) h
    · refine aw_iconst 0 dX4_done_56 rfl ?_
      refine aw_goto 63 dX4_done_57 (by decide) ?_
      exact aw_iret dX4_done_63 rfl (Nat.le_refl _) (Nat.le_refl _) h
  refine aw_case 2004 h (fun h => ?_) (fun c5 h => ?_)
  · refine aw_tswIn 64 (off := 63) dX4_done_1 (by decide) (by decide) (by decide) (by decide) ?_
    refine aw_iload_n 2 dX4_done_64 rfl rfl ?_
    refine aw_if_ne 72 dX4_done_65 (by decide) h (fun h => ?_) (fun h => ?_)
    · refine aw_iload_n 1 dX4_done_72 rfl rfl ?_
      refine aw_iload_n 2 dX4_done_73 rfl rfl ?_
      refine aw_irem dX4_done_74 h (fun h => ?_)
      exact aw_iret dX4_done_75 rfl (Nat.le_refl _) (Nat.le_refl _) h
    · refine aw_iconst 0 dX4_done_68 rfl ?_
      refine aw_goto 75 dX4_done_69 (by decide) ?_
      exact aw_iret dX4_done_75 rfl (Nat.le_refl _) (Nat.le_refl _) h
  refine aw_case 2005 h (fun h => ?_) (fun c8 h => ?_)
  · refine aw_tswIn 76 (off := 75) dX4_done_1 (by decide) (by decide) (by decide) (by decide) ?_
    refine aw_iload_n 1 dX4_done_76 rfl rfl ?_
    refine aw_iload_n 2 dX4_done_77 rfl rfl ?_
    refine aw_doneI (rest := []) h (fun r9 S9 hF => aw_runS (As := [.int v1, .int v2]) (rest := []) (L1_J9_min_7cf53 N hF) wd_563 wd_561 wd_562 wd_106 pd_J9_min_7cf53.2 rfl (ax_rm (by omega) rfl) ax_hf0 (Nat.le_of_ble_eq_true rfl) rfl dX4_done_78) (fun x7 T6 h => ?_)
    exact aw_iret dX4_done_81 rfl (Nat.le_refl _) (Nat.le_refl _) h
  refine aw_tswOut 82 dX4_done_1 (by have q0 := ax_i32ne c1 (v := 2000) (i := 2000) (by decide); have q1 := ax_i32ne c2 (v := 2001) (i := 2001) (by decide); have q2 := ax_i32ne c3 (v := 2002) (i := 2002) (by decide); have q3 := ax_i32ne c4 (v := 2003) (i := 2003) (by decide); have q4 := ax_i32ne c5 (v := 2004) (i := 2004) (by decide); have q5 := ax_i32ne c8 (v := 2005) (i := 2005) (by decide); omega) (by decide) ?_
  refine aw_iload_n 1 dX4_done_82 rfl rfl ?_
  refine aw_iload_n 2 dX4_done_83 rfl rfl ?_
  refine aw_doneI (rest := []) h (fun r9 S9 hF => aw_runS (As := [.int v1, .int v2]) (rest := []) (L1_J9_max_7cf53 N hF) wd_552 wd_564 wd_551 wd_106 pd_J9_max_7cf53.2 rfl (ax_rm (by omega) rfl) ax_hf0 (Nat.le_of_ble_eq_true rfl) rfl dX4_done_84) (fun x10 T9 h => ?_)
  exact aw_iret dX4_done_87 rfl (Nat.le_refl _) (Nat.le_refl _) h

theorem dX4_tolls_0 : decode cX4_tolls 0 = .ok (.aload_n 0, 1) := by decide +kernel
theorem dX4_tolls_1 : decode cX4_tolls 1 = .ok (.getfield 15, 3) := by decide +kernel
theorem dX4_tolls_4 : decode cX4_tolls 4 = .ok (.iconst 0, 1) := by decide +kernel
theorem dX4_tolls_5 : decode cX4_tolls 5 = .ok (.iload_n 1, 1) := by decide +kernel
theorem dX4_tolls_6 : decode cX4_tolls 6 = .ok (.invokestatic 46, 3) := by decide +kernel
theorem dX4_tolls_9 : decode cX4_tolls 9 = .ok (.aload_n 0, 1) := by decide +kernel
theorem dX4_tolls_10 : decode cX4_tolls 10 = .ok (.getfield 15, 3) := by decide +kernel
theorem dX4_tolls_13 : decode cX4_tolls 13 = .ok (.iconst 1, 1) := by decide +kernel
theorem dX4_tolls_14 : decode cX4_tolls 14 = .ok (.iload_n 2, 1) := by decide +kernel
theorem dX4_tolls_15 : decode cX4_tolls 15 = .ok (.invokestatic 46, 3) := by decide +kernel
theorem dX4_tolls_18 : decode cX4_tolls 18 = .ok (.aload_n 0, 1) := by decide +kernel
theorem dX4_tolls_19 : decode cX4_tolls 19 = .ok (.getfield 15, 3) := by decide +kernel
theorem dX4_tolls_22 : decode cX4_tolls 22 = .ok (.iconst 2, 1) := by decide +kernel
theorem dX4_tolls_23 : decode cX4_tolls 23 = .ok (.iload_n 3, 1) := by decide +kernel
theorem dX4_tolls_24 : decode cX4_tolls 24 = .ok (.invokestatic 46, 3) := by decide +kernel
theorem dX4_tolls_27 : decode cX4_tolls 27 = .ok (.aload_n 0, 1) := by decide +kernel
theorem dX4_tolls_28 : decode cX4_tolls 28 = .ok (.getfield 15, 3) := by decide +kernel
theorem dX4_tolls_31 : decode cX4_tolls 31 = .ok (.iconst 3, 1) := by decide +kernel
theorem dX4_tolls_32 : decode cX4_tolls 32 = .ok (.iload 4, 2) := by decide +kernel
theorem dX4_tolls_34 : decode cX4_tolls 34 = .ok (.invokestatic 46, 3) := by decide +kernel
theorem dX4_tolls_37 : decode cX4_tolls 37 = .ok (.aload_n 0, 1) := by decide +kernel
theorem dX4_tolls_38 : decode cX4_tolls 38 = .ok (.getfield 15, 3) := by decide +kernel
theorem dX4_tolls_41 : decode cX4_tolls 41 = .ok (.iconst 4, 1) := by decide +kernel
theorem dX4_tolls_42 : decode cX4_tolls 42 = .ok (.iload 5, 2) := by decide +kernel
theorem dX4_tolls_44 : decode cX4_tolls 44 = .ok (.invokestatic 46, 3) := by decide +kernel
theorem dX4_tolls_47 : decode cX4_tolls 47 = .ok (.aload_n 0, 1) := by decide +kernel
theorem dX4_tolls_48 : decode cX4_tolls 48 = .ok (.getfield 15, 3) := by decide +kernel
theorem dX4_tolls_51 : decode cX4_tolls 51 = .ok (.iconst 5, 1) := by decide +kernel
theorem dX4_tolls_52 : decode cX4_tolls 52 = .ok (.iload 6, 2) := by decide +kernel
theorem dX4_tolls_54 : decode cX4_tolls 54 = .ok (.invokestatic 46, 3) := by decide +kernel
theorem dX4_tolls_57 : decode cX4_tolls 57 = .ok (.aload_n 0, 1) := by decide +kernel
theorem dX4_tolls_58 : decode cX4_tolls 58 = .ok (.getfield 15, 3) := by decide +kernel
theorem dX4_tolls_61 : decode cX4_tolls 61 = .ok (.bipush 6, 2) := by decide +kernel
theorem dX4_tolls_63 : decode cX4_tolls 63 = .ok (.iload 7, 2) := by decide +kernel
theorem dX4_tolls_65 : decode cX4_tolls 65 = .ok (.invokestatic 46, 3) := by decide +kernel
theorem dX4_tolls_68 : decode cX4_tolls 68 = .ok (.iconst 0, 1) := by decide +kernel
theorem dX4_tolls_69 : decode cX4_tolls 69 = .ok (.istore 8, 2) := by decide +kernel
theorem dX4_tolls_71 : decode cX4_tolls 71 = .ok (.iconst 0, 1) := by decide +kernel
theorem dX4_tolls_72 : decode cX4_tolls 72 = .ok (.istore 9, 2) := by decide +kernel
theorem dX4_tolls_74 : decode cX4_tolls 74 = .ok (.iload 9, 2) := by decide +kernel
theorem dX4_tolls_76 : decode cX4_tolls 76 = .ok (.aload_n 0, 1) := by decide +kernel
theorem dX4_tolls_77 : decode cX4_tolls 77 = .ok (.getfield 21, 3) := by decide +kernel
theorem dX4_tolls_80 : decode cX4_tolls 80 = .ok (.if_icmp .ge 108, 3) := by decide +kernel
theorem dX4_tolls_83 : decode cX4_tolls 83 = .ok (.aload_n 0, 1) := by decide +kernel
theorem dX4_tolls_84 : decode cX4_tolls 84 = .ok (.getfield 9, 3) := by decide +kernel
theorem dX4_tolls_87 : decode cX4_tolls 87 = .ok (.iload 9, 2) := by decide +kernel
theorem dX4_tolls_89 : decode cX4_tolls 89 = .ok (.invokestatic 102, 3) := by decide +kernel
theorem dX4_tolls_92 : decode cX4_tolls 92 = .ok (.istore 10, 2) := by decide +kernel
theorem dX4_tolls_94 : decode cX4_tolls 94 = .ok (.iload 10, 2) := by decide +kernel
theorem dX4_tolls_96 : decode cX4_tolls 96 = .ok (.sipush 2000, 3) := by decide +kernel
theorem dX4_tolls_99 : decode cX4_tolls 99 = .ok (.if_icmp .lt 45, 3) := by decide +kernel
theorem dX4_tolls_102 : decode cX4_tolls 102 = .ok (.iinc 8 (-1), 3) := by decide +kernel
theorem dX4_tolls_105 : decode cX4_tolls 105 = .ok (.aload_n 0, 1) := by decide +kernel
theorem dX4_tolls_106 : decode cX4_tolls 106 = .ok (.getfield 18, 3) := by decide +kernel
theorem dX4_tolls_109 : decode cX4_tolls 109 = .ok (.iload 8, 2) := by decide +kernel
theorem dX4_tolls_111 : decode cX4_tolls 111 = .ok (.iconst 1, 1) := by decide +kernel
theorem dX4_tolls_112 : decode cX4_tolls 112 = .ok (.isub, 1) := by decide +kernel
theorem dX4_tolls_113 : decode cX4_tolls 113 = .ok (.iload 10, 2) := by decide +kernel
theorem dX4_tolls_115 : decode cX4_tolls 115 = .ok (.aload_n 0, 1) := by decide +kernel
theorem dX4_tolls_116 : decode cX4_tolls 116 = .ok (.getfield 18, 3) := by decide +kernel
theorem dX4_tolls_119 : decode cX4_tolls 119 = .ok (.iload 8, 2) := by decide +kernel
theorem dX4_tolls_121 : decode cX4_tolls 121 = .ok (.iconst 1, 1) := by decide +kernel
theorem dX4_tolls_122 : decode cX4_tolls 122 = .ok (.isub, 1) := by decide +kernel
theorem dX4_tolls_123 : decode cX4_tolls 123 = .ok (.invokestatic 102, 3) := by decide +kernel
theorem dX4_tolls_126 : decode cX4_tolls 126 = .ok (.aload_n 0, 1) := by decide +kernel
theorem dX4_tolls_127 : decode cX4_tolls 127 = .ok (.getfield 18, 3) := by decide +kernel
theorem dX4_tolls_130 : decode cX4_tolls 130 = .ok (.iload 8, 2) := by decide +kernel
theorem dX4_tolls_132 : decode cX4_tolls 132 = .ok (.invokestatic 102, 3) := by decide +kernel
theorem dX4_tolls_135 : decode cX4_tolls 135 = .ok (.invokestatic 106, 3) := by decide +kernel
theorem dX4_tolls_138 : decode cX4_tolls 138 = .ok (.invokestatic 46, 3) := by decide +kernel
theorem dX4_tolls_141 : decode cX4_tolls 141 = .ok (.goto 41, 3) := by decide +kernel
theorem dX4_tolls_144 : decode cX4_tolls 144 = .ok (.aload_n 0, 1) := by decide +kernel
theorem dX4_tolls_145 : decode cX4_tolls 145 = .ok (.getfield 18, 3) := by decide +kernel
theorem dX4_tolls_148 : decode cX4_tolls 148 = .ok (.iload 8, 2) := by decide +kernel
theorem dX4_tolls_150 : decode cX4_tolls 150 = .ok (.iload 10, 2) := by decide +kernel
theorem dX4_tolls_152 : decode cX4_tolls 152 = .ok (.sipush 1000, 3) := by decide +kernel
theorem dX4_tolls_155 : decode cX4_tolls 155 = .ok (.if_icmp .ge 8, 3) := by decide +kernel
theorem dX4_tolls_158 : decode cX4_tolls 158 = .ok (.iload 10, 2) := by decide +kernel
theorem dX4_tolls_160 : decode cX4_tolls 160 = .ok (.goto 16, 3) := by decide +kernel
theorem dX4_tolls_163 : decode cX4_tolls 163 = .ok (.aload_n 0, 1) := by decide +kernel
theorem dX4_tolls_164 : decode cX4_tolls 164 = .ok (.getfield 15, 3) := by decide +kernel
theorem dX4_tolls_167 : decode cX4_tolls 167 = .ok (.iload 10, 2) := by decide +kernel
theorem dX4_tolls_169 : decode cX4_tolls 169 = .ok (.sipush 1000, 3) := by decide +kernel
theorem dX4_tolls_172 : decode cX4_tolls 172 = .ok (.isub, 1) := by decide +kernel
theorem dX4_tolls_173 : decode cX4_tolls 173 = .ok (.invokestatic 102, 3) := by decide +kernel
theorem dX4_tolls_176 : decode cX4_tolls 176 = .ok (.invokestatic 46, 3) := by decide +kernel
theorem dX4_tolls_179 : decode cX4_tolls 179 = .ok (.iinc 8 1, 3) := by decide +kernel
theorem dX4_tolls_182 : decode cX4_tolls 182 = .ok (.iinc 9 1, 3) := by decide +kernel
theorem dX4_tolls_185 : decode cX4_tolls 185 = .ok (.goto (-111), 3) := by decide +kernel
theorem dX4_tolls_188 : decode cX4_tolls 188 = .ok (.iconst 0, 1) := by decide +kernel
theorem dX4_tolls_189 : decode cX4_tolls 189 = .ok (.sipush 999, 3) := by decide +kernel
theorem dX4_tolls_192 : decode cX4_tolls 192 = .ok (.aload_n 0, 1) := by decide +kernel
theorem dX4_tolls_193 : decode cX4_tolls 193 = .ok (.getfield 18, 3) := by decide +kernel
theorem dX4_tolls_196 : decode cX4_tolls 196 = .ok (.iconst 0, 1) := by decide +kernel
theorem dX4_tolls_197 : decode cX4_tolls 197 = .ok (.invokestatic 102, 3) := by decide +kernel
theorem dX4_tolls_200 : decode cX4_tolls 200 = .ok (.invokestatic 110, 3) := by decide +kernel
theorem dX4_tolls_203 : decode cX4_tolls 203 = .ok (.invokestatic 115, 3) := by decide +kernel
theorem dX4_tolls_206 : decode cX4_tolls 206 = .ok (.ireturn, 1) := by decide +kernel
abbrev mt_X4_tolls : AxM := (RX4, cX4_tolls, 11, (some .int), false, [])
theorem L1_X4_tolls_182 {g : AxG} {l : Launch} {r9 : Int32} {S9 : AxS} (N : Nat) (K74 : Nat → Int32 → Int32 → AxS → Option (Int32 × AxS)) (hK74 : ∀ (v0 : Nat) (v8 : Int32) (v9 : Int32) (S : AxS), K74 v0 v8 v9 S = some ((r9, S9)) → AW g l (axRm (2) 0 0) mt_X4_tolls (axMQ g 0 0 (.inl (some (.int r9)), S9)) 0 0 S 74 [(0, .ref v0), (8, .int v8), (9, .int v9)] []) (v0 : Nat) (v8 : Int32) (v9 : Int32) (S : AxS) (h : F_X4_tolls_182 N K74 v0 v8 v9 S = some ((r9, S9))) : AW g l (axRm (2) 0 0) mt_X4_tolls (axMQ g 0 0 (.inl (some (.int r9)), S9)) 0 0 S 182 [(0, .ref v0), (8, .int v8), (9, .int v9)] [] := by
  unfold F_X4_tolls_182 at h
  refine aw_iinc 2 [(9, .int (v9 + 1)), (0, .ref v0), (8, .int v8)] (v9 + 1) dX4_tolls_182 rfl rfl rfl rfl ?_
  refine aw_goto 74 dX4_tolls_185 (by decide) ?_
  refine aw_env [(0, .ref v0), (8, .int v8), (9, .int (v9 + 1))] [1, 2, 0] rfl ?_
  exact hK74 v0 v8 (v9 + 1) S h
theorem L1_X4_tolls_176 {g : AxG} {l : Launch} {r9 : Int32} {S9 : AxS} (N : Nat) (K74 : Nat → Int32 → Int32 → AxS → Option (Int32 × AxS)) (hK74 : ∀ (v0 : Nat) (v8 : Int32) (v9 : Int32) (S : AxS), K74 v0 v8 v9 S = some ((r9, S9)) → AW g l (axRm (2) 0 0) mt_X4_tolls (axMQ g 0 0 (.inl (some (.int r9)), S9)) 0 0 S 74 [(0, .ref v0), (8, .int v8), (9, .int v9)] []) (v0 : Nat) (v8 : Int32) (v9 : Int32) (w0 : Int32) (w1 : Int32) (w2 : Nat) (S : AxS) (h : F_X4_tolls_176 N K74 v0 v8 v9 w0 w1 w2 S = some ((r9, S9))) : AW g l (axRm (2) 0 0) mt_X4_tolls (axMQ g 0 0 (.inl (some (.int r9)), S9)) 0 0 S 176 [(0, .ref v0), (8, .int v8), (9, .int v9)] [.int w0, .int w1, .ref w2] := by
  unfold F_X4_tolls_176 at h
  refine aw_doneV (rest := []) h (fun S9 hF => aw_runSN (As := [.ref w2, .int w1, .int w0]) (rest := []) (L1_X9_put N hF) wd_443 wd_441 wd_442 wd_87 pd_X9_put.2 rfl (ax_rm (by omega) rfl) ax_hf0 (Nat.le_of_ble_eq_true rfl) rfl dX4_tolls_176) (fun T1 h => ?_)
  refine aw_iinc 1 [(8, .int (v8 + 1)), (0, .ref v0), (9, .int v9)] (v8 + 1) dX4_tolls_179 rfl rfl rfl rfl ?_
  refine aw_env [(0, .ref v0), (8, .int (v8 + 1)), (9, .int v9)] [1, 0, 2] rfl ?_
  exact L1_X4_tolls_182 N K74 hK74 v0 (v8 + 1) v9 T1 h
theorem L1_X4_tolls_74b {g : AxG} {l : Launch} {r9 : Int32} {S9 : AxS} (N : Nat) (K74 : Nat → Int32 → Int32 → AxS → Option (Int32 × AxS)) (hK74 : ∀ (v0 : Nat) (v8 : Int32) (v9 : Int32) (S : AxS), K74 v0 v8 v9 S = some ((r9, S9)) → AW g l (axRm (2) 0 0) mt_X4_tolls (axMQ g 0 0 (.inl (some (.int r9)), S9)) 0 0 S 74 [(0, .ref v0), (8, .int v8), (9, .int v9)] []) (v0 : Nat) (v8 : Int32) (v9 : Int32) (S : AxS) (h : F_X4_tolls_74b N K74 v0 v8 v9 S = some ((r9, S9))) : AW g l (axRm (2) 0 0) mt_X4_tolls (axMQ g 0 0 (.inl (some (.int r9)), S9)) 0 0 S 74 [(0, .ref v0), (8, .int v8), (9, .int v9)] [] := by
  unfold F_X4_tolls_74b at h
  refine aw_iload 2 dX4_tolls_74 rfl ?_
  refine aw_aload_n 0 dX4_tolls_76 rfl rfl ?_
  refine aw_getI axc4 3 rfl rfl wd_231 dX4_tolls_77 h (fun x1 h => ?_)
  refine aw_icmp_ge 188 dX4_tolls_80 (by decide) h (fun h => ?_) (fun h => ?_)
  · refine aw_iconst 0 dX4_tolls_188 rfl ?_
    refine aw_sipush 999 dX4_tolls_189 (by decide) ?_
    refine aw_aload_n 0 dX4_tolls_192 rfl rfl ?_
    refine aw_getR axc4 2 rfl rfl wd_230 dX4_tolls_193 h (fun a2 h => ?_)
    refine aw_iconst 0 dX4_tolls_196 rfl ?_
    refine aw_doneI (rest := [.int 999, .int 0]) h (fun r9 S9 hF => aw_runSN (As := [.ref a2, .int 0]) (rest := [.int 999, .int 0]) (L1_X9_at N hF) wd_541 wd_557 wd_540 wd_87 pd_X9_at.2 rfl (ax_rm (by omega) rfl) ax_hf0 (Nat.le_of_ble_eq_true rfl) rfl dX4_tolls_197) (fun x4 T3 h => ?_)
    refine aw_doneI (rest := [.int 0]) h (fun r9 S9 hF => aw_runS (As := [.int 999, .int x4]) (rest := [.int 0]) (L1_J9_min_7cf53 N hF) wd_563 wd_561 wd_562 wd_106 pd_J9_min_7cf53.2 rfl (ax_rm (by omega) rfl) ax_hf0 (Nat.le_of_ble_eq_true rfl) rfl dX4_tolls_200) (fun x6 T5 h => ?_)
    refine aw_doneI (rest := []) h (fun r9 S9 hF => aw_runS (As := [.int 0, .int x6]) (rest := []) (L1_J9_max_7cf53 N hF) wd_552 wd_564 wd_551 wd_106 pd_J9_max_7cf53.2 rfl (ax_rm (by omega) rfl) ax_hf0 (Nat.le_of_ble_eq_true rfl) rfl dX4_tolls_203) (fun x8 T7 h => ?_)
    exact aw_iret dX4_tolls_206 rfl (Nat.le_refl _) (Nat.le_refl _) h
  · refine aw_aload_n 0 dX4_tolls_83 rfl rfl ?_
    refine aw_getR axc4 0 rfl rfl wd_228 dX4_tolls_84 h (fun a9 h => ?_)
    refine aw_iload 2 dX4_tolls_87 rfl ?_
    refine aw_doneI (rest := []) h (fun r9 S9 hF => aw_runSN (As := [.ref a9, .int v9]) (rest := []) (L1_X9_at N hF) wd_541 wd_557 wd_540 wd_87 pd_X9_at.2 rfl (ax_rm (by omega) rfl) ax_hf0 (Nat.le_of_ble_eq_true rfl) rfl dX4_tolls_89) (fun x11 T10 h => ?_)
    refine aw_istore [(10, .int x11), (0, .ref v0), (8, .int v8), (9, .int v9)] dX4_tolls_92 rfl rfl ?_
    refine aw_iload 0 dX4_tolls_94 rfl ?_
    refine aw_sipush 2000 dX4_tolls_96 (by decide) ?_
    refine aw_icmp_lt 144 dX4_tolls_99 (by decide) h (fun h => ?_) (fun h => ?_)
    · refine aw_aload_n 1 dX4_tolls_144 rfl rfl ?_
      refine aw_getR axc4 2 rfl rfl wd_230 dX4_tolls_145 h (fun a12 h => ?_)
      refine aw_iload 2 dX4_tolls_148 rfl ?_
      refine aw_iload 0 dX4_tolls_150 rfl ?_
      refine aw_sipush 1000 dX4_tolls_152 (by decide) ?_
      refine aw_icmp_ge 163 dX4_tolls_155 (by decide) h (fun h => ?_) (fun h => ?_)
      · refine aw_aload_n 1 dX4_tolls_163 rfl rfl ?_
        refine aw_getR axc4 1 rfl rfl wd_229 dX4_tolls_164 h (fun a13 h => ?_)
        refine aw_iload 0 dX4_tolls_167 rfl ?_
        refine aw_sipush 1000 dX4_tolls_169 (by decide) ?_
        refine aw_isub dX4_tolls_172 ?_
        refine aw_doneI (rest := [.int v8, .ref a12]) h (fun r9 S9 hF => aw_runSN (As := [.ref a13, .int (x11 - 1000)]) (rest := [.int v8, .ref a12]) (L1_X9_at N hF) wd_541 wd_557 wd_540 wd_87 pd_X9_at.2 rfl (ax_rm (by omega) rfl) ax_hf0 (Nat.le_of_ble_eq_true rfl) rfl dX4_tolls_173) (fun x15 T14 h => ?_)
        refine aw_env [(0, .ref v0), (8, .int v8), (9, .int v9)] [1, 2, 3] rfl ?_
        exact L1_X4_tolls_176 N K74 hK74 v0 v8 v9 x15 v8 a12 T14 h
      · refine aw_iload 0 dX4_tolls_158 rfl ?_
        refine aw_goto 176 dX4_tolls_160 (by decide) ?_
        refine aw_env [(0, .ref v0), (8, .int v8), (9, .int v9)] [1, 2, 3] rfl ?_
        exact L1_X4_tolls_176 N K74 hK74 v0 v8 v9 x11 v8 a12 T10 h
    · refine aw_iinc 2 [(8, .int (v8 + (-1))), (10, .int x11), (0, .ref v0), (9, .int v9)] (v8 + (-1)) dX4_tolls_102 rfl rfl rfl rfl ?_
      refine aw_aload_n 2 dX4_tolls_105 rfl rfl ?_
      refine aw_getR axc4 2 rfl rfl wd_230 dX4_tolls_106 h (fun a16 h => ?_)
      refine aw_iload 0 dX4_tolls_109 rfl ?_
      refine aw_iconst 1 dX4_tolls_111 rfl ?_
      refine aw_isub dX4_tolls_112 ?_
      refine aw_iload 1 dX4_tolls_113 rfl ?_
      refine aw_aload_n 2 dX4_tolls_115 rfl rfl ?_
      refine aw_getR axc4 2 rfl rfl wd_230 dX4_tolls_116 h (fun a17 h => ?_)
      refine aw_iload 0 dX4_tolls_119 rfl ?_
      refine aw_iconst 1 dX4_tolls_121 rfl ?_
      refine aw_isub dX4_tolls_122 ?_
      refine aw_doneI (rest := [.int x11, .int ((v8 + (-1)) - 1), .ref a16]) h (fun r9 S9 hF => aw_runSN (As := [.ref a17, .int ((v8 + (-1)) - 1)]) (rest := [.int x11, .int ((v8 + (-1)) - 1), .ref a16]) (L1_X9_at N hF) wd_541 wd_557 wd_540 wd_87 pd_X9_at.2 rfl (ax_rm (by omega) rfl) ax_hf0 (Nat.le_of_ble_eq_true rfl) rfl dX4_tolls_123) (fun x19 T18 h => ?_)
      refine aw_aload_n 2 dX4_tolls_126 rfl rfl ?_
      refine aw_getR axc4 2 rfl rfl wd_230 dX4_tolls_127 h (fun a20 h => ?_)
      refine aw_iload 0 dX4_tolls_130 rfl ?_
      refine aw_doneI (rest := [.int x19, .int x11, .int ((v8 + (-1)) - 1), .ref a16]) h (fun r9 S9 hF => aw_runSN (As := [.ref a20, .int (v8 + (-1))]) (rest := [.int x19, .int x11, .int ((v8 + (-1)) - 1), .ref a16]) (L1_X9_at N hF) wd_541 wd_557 wd_540 wd_87 pd_X9_at.2 rfl (ax_rm (by omega) rfl) ax_hf0 (Nat.le_of_ble_eq_true rfl) rfl dX4_tolls_132) (fun x22 T21 h => ?_)
      refine aw_doneI (rest := [.int ((v8 + (-1)) - 1), .ref a16]) h (fun r9 S9 hF => aw_runS (As := [.int x11, .int x19, .int x22]) (rest := [.int ((v8 + (-1)) - 1), .ref a16]) (L1_X4_done N hF) wd_560 wd_558 wd_559 wd_90 pd_X4_done.2 rfl (ax_rm (by omega) rfl) ax_hf0 (Nat.le_of_ble_eq_true rfl) rfl dX4_tolls_135) (fun x24 T23 h => ?_)
      refine aw_doneV (rest := []) h (fun S9 hF => aw_runSN (As := [.ref a16, .int ((v8 + (-1)) - 1), .int x24]) (rest := []) (L1_X9_put N hF) wd_443 wd_441 wd_442 wd_87 pd_X9_put.2 rfl (ax_rm (by omega) rfl) ax_hf0 (Nat.le_of_ble_eq_true rfl) rfl dX4_tolls_138) (fun T25 h => ?_)
      refine aw_goto 182 dX4_tolls_141 (by decide) ?_
      refine aw_env [(0, .ref v0), (8, .int (v8 + (-1))), (9, .int v9)] [2, 0, 3] rfl ?_
      exact L1_X4_tolls_182 N K74 hK74 v0 (v8 + (-1)) v9 T25 h
theorem L1_X4_tolls_74 {g : AxG} {l : Launch} {r9 : Int32} {S9 : AxS} (N : Nat)  : ∀ (n : Nat) (v0 : Nat) (v8 : Int32) (v9 : Int32) (S : AxS), F_X4_tolls_74 N  n v0 v8 v9 S = some ((r9, S9)) → AW g l (axRm (2) 0 0) mt_X4_tolls (axMQ g 0 0 (.inl (some (.int r9)), S9)) 0 0 S 74 [(0, .ref v0), (8, .int v8), (9, .int v9)] [] := by
  intro n
  induction n with
  | zero => intro v0 v8 v9 S h; cases h
  | succ n ih => intro v0 v8 v9 S h; exact L1_X4_tolls_74b N (F_X4_tolls_74 N  n) ih v0 v8 v9 S h
theorem L1_X4_tolls {g : AxG} {l : Launch} (N : Nat) {v0 : Nat} {v1 : Int32} {v2 : Int32} {v3 : Int32} {v4 : Int32} {v5 : Int32} {v6 : Int32} {v7 : Int32} {S : AxS} {r9 : Int32} {S9 : AxS} (h : F_X4_tolls N v0 v1 v2 v3 v4 v5 v6 v7 S = some ((r9, S9))) : AxMet g l yX4_tolls cX4_tolls 11 (some .int) (2) 0 0 [.ref v0, .int v1, .int v2, .int v3, .int v4, .int v5, .int v6, .int v7] S ((.inl (some (.int r9)), S9)) := by
  refine ax_met (own := RX4) (ini := false) (by decide +kernel) rfl (fun h => nomatch h) rfl ?_
  show AW g l (axRm (2) 0 0) mt_X4_tolls (axMQ g 0 0 (.inl (some (.int r9)), S9)) 0 0 S 0 [(0, .ref v0), (1, .int v1), (2, .int v2), (3, .int v3), (4, .int v4), (5, .int v5), (6, .int v6), (7, .int v7)] []
  unfold F_X4_tolls at h
  refine aw_aload_n 0 dX4_tolls_0 rfl rfl ?_
  refine aw_getR axc4 1 rfl rfl wd_229 dX4_tolls_1 h (fun a1 h => ?_)
  refine aw_iconst 0 dX4_tolls_4 rfl ?_
  refine aw_iload_n 1 dX4_tolls_5 rfl rfl ?_
  refine aw_doneV (rest := []) h (fun S9 hF => aw_runSN (As := [.ref a1, .int 0, .int v1]) (rest := []) (L1_X9_put N hF) wd_443 wd_441 wd_442 wd_87 pd_X9_put.2 rfl (ax_rm (by omega) rfl) ax_hf0 (Nat.le_of_ble_eq_true rfl) rfl dX4_tolls_6) (fun T2 h => ?_)
  refine aw_aload_n 0 dX4_tolls_9 rfl rfl ?_
  refine aw_getR axc4 1 rfl rfl wd_229 dX4_tolls_10 h (fun a4 h => ?_)
  refine aw_iconst 1 dX4_tolls_13 rfl ?_
  refine aw_iload_n 2 dX4_tolls_14 rfl rfl ?_
  refine aw_doneV (rest := []) h (fun S9 hF => aw_runSN (As := [.ref a4, .int 1, .int v2]) (rest := []) (L1_X9_put N hF) wd_443 wd_441 wd_442 wd_87 pd_X9_put.2 rfl (ax_rm (by omega) rfl) ax_hf0 (Nat.le_of_ble_eq_true rfl) rfl dX4_tolls_15) (fun T5 h => ?_)
  refine aw_aload_n 0 dX4_tolls_18 rfl rfl ?_
  refine aw_getR axc4 1 rfl rfl wd_229 dX4_tolls_19 h (fun a7 h => ?_)
  refine aw_iconst 2 dX4_tolls_22 rfl ?_
  refine aw_iload_n 3 dX4_tolls_23 rfl rfl ?_
  refine aw_doneV (rest := []) h (fun S9 hF => aw_runSN (As := [.ref a7, .int 2, .int v3]) (rest := []) (L1_X9_put N hF) wd_443 wd_441 wd_442 wd_87 pd_X9_put.2 rfl (ax_rm (by omega) rfl) ax_hf0 (Nat.le_of_ble_eq_true rfl) rfl dX4_tolls_24) (fun T8 h => ?_)
  refine aw_aload_n 0 dX4_tolls_27 rfl rfl ?_
  refine aw_getR axc4 1 rfl rfl wd_229 dX4_tolls_28 h (fun a10 h => ?_)
  refine aw_iconst 3 dX4_tolls_31 rfl ?_
  refine aw_iload 4 dX4_tolls_32 rfl ?_
  refine aw_doneV (rest := []) h (fun S9 hF => aw_runSN (As := [.ref a10, .int 3, .int v4]) (rest := []) (L1_X9_put N hF) wd_443 wd_441 wd_442 wd_87 pd_X9_put.2 rfl (ax_rm (by omega) rfl) ax_hf0 (Nat.le_of_ble_eq_true rfl) rfl dX4_tolls_34) (fun T11 h => ?_)
  refine aw_aload_n 0 dX4_tolls_37 rfl rfl ?_
  refine aw_getR axc4 1 rfl rfl wd_229 dX4_tolls_38 h (fun a13 h => ?_)
  refine aw_iconst 4 dX4_tolls_41 rfl ?_
  refine aw_iload 5 dX4_tolls_42 rfl ?_
  refine aw_doneV (rest := []) h (fun S9 hF => aw_runSN (As := [.ref a13, .int 4, .int v5]) (rest := []) (L1_X9_put N hF) wd_443 wd_441 wd_442 wd_87 pd_X9_put.2 rfl (ax_rm (by omega) rfl) ax_hf0 (Nat.le_of_ble_eq_true rfl) rfl dX4_tolls_44) (fun T14 h => ?_)
  refine aw_aload_n 0 dX4_tolls_47 rfl rfl ?_
  refine aw_getR axc4 1 rfl rfl wd_229 dX4_tolls_48 h (fun a16 h => ?_)
  refine aw_iconst 5 dX4_tolls_51 rfl ?_
  refine aw_iload 6 dX4_tolls_52 rfl ?_
  refine aw_doneV (rest := []) h (fun S9 hF => aw_runSN (As := [.ref a16, .int 5, .int v6]) (rest := []) (L1_X9_put N hF) wd_443 wd_441 wd_442 wd_87 pd_X9_put.2 rfl (ax_rm (by omega) rfl) ax_hf0 (Nat.le_of_ble_eq_true rfl) rfl dX4_tolls_54) (fun T17 h => ?_)
  refine aw_aload_n 0 dX4_tolls_57 rfl rfl ?_
  refine aw_getR axc4 1 rfl rfl wd_229 dX4_tolls_58 h (fun a19 h => ?_)
  refine aw_bipush 6 dX4_tolls_61 (by decide) ?_
  refine aw_iload 7 dX4_tolls_63 rfl ?_
  refine aw_doneV (rest := []) h (fun S9 hF => aw_runSN (As := [.ref a19, .int 6, .int v7]) (rest := []) (L1_X9_put N hF) wd_443 wd_441 wd_442 wd_87 pd_X9_put.2 rfl (ax_rm (by omega) rfl) ax_hf0 (Nat.le_of_ble_eq_true rfl) rfl dX4_tolls_65) (fun T20 h => ?_)
  refine aw_iconst 0 dX4_tolls_68 rfl ?_
  refine aw_istore [(8, .int 0), (0, .ref v0), (1, .int v1), (2, .int v2), (3, .int v3), (4, .int v4), (5, .int v5), (6, .int v6), (7, .int v7)] dX4_tolls_69 rfl rfl ?_
  refine aw_iconst 0 dX4_tolls_71 rfl ?_
  refine aw_istore [(9, .int 0), (8, .int 0), (0, .ref v0), (1, .int v1), (2, .int v2), (3, .int v3), (4, .int v4), (5, .int v5), (6, .int v6), (7, .int v7)] dX4_tolls_72 rfl rfl ?_
  refine aw_env [(0, .ref v0), (8, .int 0), (9, .int 0)] [2, 1, 0] rfl ?_
  exact L1_X4_tolls_74 N  N v0 0 0 T20 h

theorem dX5_begin_0 : decode cX5_begin 0 = .ok (.aload_n 0, 1) := by decide +kernel
theorem dX5_begin_1 : decode cX5_begin 1 = .ok (.aload_n 1, 1) := by decide +kernel
theorem dX5_begin_2 : decode cX5_begin 2 = .ok (.getfield 18, 3) := by decide +kernel
theorem dX5_begin_5 : decode cX5_begin 5 = .ok (.putfield 24, 3) := by decide +kernel
theorem dX5_begin_8 : decode cX5_begin 8 = .ok (.aload_n 0, 1) := by decide +kernel
theorem dX5_begin_9 : decode cX5_begin 9 = .ok (.aload_n 1, 1) := by decide +kernel
theorem dX5_begin_10 : decode cX5_begin 10 = .ok (.getfield 27, 3) := by decide +kernel
theorem dX5_begin_13 : decode cX5_begin 13 = .ok (.putfield 30, 3) := by decide +kernel
theorem dX5_begin_16 : decode cX5_begin 16 = .ok (.aload_n 0, 1) := by decide +kernel
theorem dX5_begin_17 : decode cX5_begin 17 = .ok (.iconst 0, 1) := by decide +kernel
theorem dX5_begin_18 : decode cX5_begin 18 = .ok (.putfield 31, 3) := by decide +kernel
theorem dX5_begin_21 : decode cX5_begin 21 = .ok (.aload_n 0, 1) := by decide +kernel
theorem dX5_begin_22 : decode cX5_begin 22 = .ok (.iconst 0, 1) := by decide +kernel
theorem dX5_begin_23 : decode cX5_begin 23 = .ok (.putfield 34, 3) := by decide +kernel
theorem dX5_begin_26 : decode cX5_begin 26 = .ok (.aload_n 0, 1) := by decide +kernel
theorem dX5_begin_27 : decode cX5_begin 27 = .ok (.iconst 0, 1) := by decide +kernel
theorem dX5_begin_28 : decode cX5_begin 28 = .ok (.putfield 37, 3) := by decide +kernel
theorem dX5_begin_31 : decode cX5_begin 31 = .ok (.aload_n 0, 1) := by decide +kernel
theorem dX5_begin_32 : decode cX5_begin 32 = .ok (.iconst 0, 1) := by decide +kernel
theorem dX5_begin_33 : decode cX5_begin 33 = .ok (.putfield 40, 3) := by decide +kernel
theorem dX5_begin_36 : decode cX5_begin 36 = .ok (.aload_n 0, 1) := by decide +kernel
theorem dX5_begin_37 : decode cX5_begin 37 = .ok (.iconst 0, 1) := by decide +kernel
theorem dX5_begin_38 : decode cX5_begin 38 = .ok (.putfield 43, 3) := by decide +kernel
theorem dX5_begin_41 : decode cX5_begin 41 = .ok (.aload_n 0, 1) := by decide +kernel
theorem dX5_begin_42 : decode cX5_begin 42 = .ok (.iconst 0, 1) := by decide +kernel
theorem dX5_begin_43 : decode cX5_begin 43 = .ok (.putfield 46, 3) := by decide +kernel
theorem dX5_begin_46 : decode cX5_begin 46 = .ok (.aload_n 0, 1) := by decide +kernel
theorem dX5_begin_47 : decode cX5_begin 47 = .ok (.iconst 0, 1) := by decide +kernel
theorem dX5_begin_48 : decode cX5_begin 48 = .ok (.putfield 49, 3) := by decide +kernel
theorem dX5_begin_51 : decode cX5_begin 51 = .ok (.aload_n 0, 1) := by decide +kernel
theorem dX5_begin_52 : decode cX5_begin 52 = .ok (.iconst 0, 1) := by decide +kernel
theorem dX5_begin_53 : decode cX5_begin 53 = .ok (.putfield 52, 3) := by decide +kernel
theorem dX5_begin_56 : decode cX5_begin 56 = .ok (.aload_n 0, 1) := by decide +kernel
theorem dX5_begin_57 : decode cX5_begin 57 = .ok (.iconst 0, 1) := by decide +kernel
theorem dX5_begin_58 : decode cX5_begin 58 = .ok (.putfield 55, 3) := by decide +kernel
theorem dX5_begin_61 : decode cX5_begin 61 = .ok (.aload_n 0, 1) := by decide +kernel
theorem dX5_begin_62 : decode cX5_begin 62 = .ok (.iconst 0, 1) := by decide +kernel
theorem dX5_begin_63 : decode cX5_begin 63 = .ok (.putfield 58, 3) := by decide +kernel
theorem dX5_begin_66 : decode cX5_begin 66 = .ok (.iconst 0, 1) := by decide +kernel
theorem dX5_begin_67 : decode cX5_begin 67 = .ok (.istore_n 2, 1) := by decide +kernel
theorem dX5_begin_68 : decode cX5_begin 68 = .ok (.iload_n 2, 1) := by decide +kernel
theorem dX5_begin_69 : decode cX5_begin 69 = .ok (.bipush 8, 2) := by decide +kernel
theorem dX5_begin_71 : decode cX5_begin 71 = .ok (.if_icmp .ge 27, 3) := by decide +kernel
theorem dX5_begin_74 : decode cX5_begin 74 = .ok (.aload_n 0, 1) := by decide +kernel
theorem dX5_begin_75 : decode cX5_begin 75 = .ok (.getfield 9, 3) := by decide +kernel
theorem dX5_begin_78 : decode cX5_begin 78 = .ok (.iload_n 2, 1) := by decide +kernel
theorem dX5_begin_79 : decode cX5_begin 79 = .ok (.iload_n 2, 1) := by decide +kernel
theorem dX5_begin_80 : decode cX5_begin 80 = .ok (.invokestatic 61, 3) := by decide +kernel
theorem dX5_begin_83 : decode cX5_begin 83 = .ok (.aload_n 0, 1) := by decide +kernel
theorem dX5_begin_84 : decode cX5_begin 84 = .ok (.getfield 15, 3) := by decide +kernel
theorem dX5_begin_87 : decode cX5_begin 87 = .ok (.iload_n 2, 1) := by decide +kernel
theorem dX5_begin_88 : decode cX5_begin 88 = .ok (.iconst 0, 1) := by decide +kernel
theorem dX5_begin_89 : decode cX5_begin 89 = .ok (.invokestatic 61, 3) := by decide +kernel
theorem dX5_begin_92 : decode cX5_begin 92 = .ok (.iinc 2 1, 3) := by decide +kernel
theorem dX5_begin_95 : decode cX5_begin 95 = .ok (.goto (-27), 3) := by decide +kernel
theorem dX5_begin_98 : decode cX5_begin 98 = .ok (.return_, 1) := by decide +kernel
abbrev mt_X5_begin : AxM := (RX5, cX5_begin, 3, none, false, [])
theorem L1_X5_begin_68b {g : AxG} {l : Launch} {S9 : AxS} (N : Nat) (K68 : Nat → Int32 → AxS → Option (AxS)) (hK68 : ∀ (v0 : Nat) (v2 : Int32) (S : AxS), K68 v0 v2 S = some S9 → AW g l (axRm (1) 0 0) mt_X5_begin (axMQ g 0 0 (.inl none, S9)) 0 0 S 68 [(0, .ref v0), (2, .int v2)] []) (v0 : Nat) (v2 : Int32) (S : AxS) (h : F_X5_begin_68b N K68 v0 v2 S = some S9) : AW g l (axRm (1) 0 0) mt_X5_begin (axMQ g 0 0 (.inl none, S9)) 0 0 S 68 [(0, .ref v0), (2, .int v2)] [] := by
  unfold F_X5_begin_68b at h
  refine aw_iload_n 1 dX5_begin_68 rfl rfl ?_
  refine aw_bipush 8 dX5_begin_69 (by decide) ?_
  refine aw_icmp_ge 98 dX5_begin_71 (by decide) h (fun h => ?_) (fun h => ?_)
  · exact aw_vret dX5_begin_98 rfl (Nat.le_refl _) (Nat.le_refl _) h
  · refine aw_aload_n 0 dX5_begin_74 rfl rfl ?_
    refine aw_getR axc5 12 rfl rfl wd_316 dX5_begin_75 h (fun a1 h => ?_)
    refine aw_iload_n 1 dX5_begin_78 rfl rfl ?_
    refine aw_iload_n 1 dX5_begin_79 rfl rfl ?_
    refine aw_doneV (rest := []) h (fun S9 hF => aw_runSN (As := [.ref a1, .int v2, .int v2]) (rest := []) (L1_X9_put N hF) wd_443 wd_452 wd_442 wd_87 pd_X9_put.2 rfl (ax_rm (by omega) rfl) ax_hf0 (Nat.le_of_ble_eq_true rfl) rfl dX5_begin_80) (fun T2 h => ?_)
    refine aw_aload_n 0 dX5_begin_83 rfl rfl ?_
    refine aw_getR axc5 13 rfl rfl wd_318 dX5_begin_84 h (fun a4 h => ?_)
    refine aw_iload_n 1 dX5_begin_87 rfl rfl ?_
    refine aw_iconst 0 dX5_begin_88 rfl ?_
    refine aw_doneV (rest := []) h (fun S9 hF => aw_runSN (As := [.ref a4, .int v2, .int 0]) (rest := []) (L1_X9_put N hF) wd_443 wd_452 wd_442 wd_87 pd_X9_put.2 rfl (ax_rm (by omega) rfl) ax_hf0 (Nat.le_of_ble_eq_true rfl) rfl dX5_begin_89) (fun T5 h => ?_)
    refine aw_iinc 1 [(2, .int (v2 + 1)), (0, .ref v0)] (v2 + 1) dX5_begin_92 rfl rfl rfl rfl ?_
    refine aw_goto 68 dX5_begin_95 (by decide) ?_
    refine aw_env [(0, .ref v0), (2, .int (v2 + 1))] [1, 0] rfl ?_
    exact hK68 v0 (v2 + 1) T5 h
theorem L1_X5_begin_68 {g : AxG} {l : Launch} {S9 : AxS} (N : Nat)  : ∀ (n : Nat) (v0 : Nat) (v2 : Int32) (S : AxS), F_X5_begin_68 N  n v0 v2 S = some S9 → AW g l (axRm (1) 0 0) mt_X5_begin (axMQ g 0 0 (.inl none, S9)) 0 0 S 68 [(0, .ref v0), (2, .int v2)] [] := by
  intro n
  induction n with
  | zero => intro v0 v2 S h; cases h
  | succ n ih => intro v0 v2 S h; exact L1_X5_begin_68b N (F_X5_begin_68 N  n) ih v0 v2 S h
theorem L1_X5_begin {g : AxG} {l : Launch} (N : Nat) {v0 : Nat} {v1 : Nat} {S : AxS} {S9 : AxS} (h : F_X5_begin N v0 v1 S = some S9) : AxMet g l yX5_begin cX5_begin 3 none (1) 0 0 [.ref v0, .ref v1] S ((.inl none, S9)) := by
  refine ax_met (own := RX5) (ini := false) (by decide +kernel) rfl (fun h => nomatch h) rfl ?_
  show AW g l (axRm (1) 0 0) mt_X5_begin (axMQ g 0 0 (.inl none, S9)) 0 0 S 0 [(0, .ref v0), (1, .ref v1)] []
  unfold F_X5_begin at h
  refine aw_aload_n 0 dX5_begin_0 rfl rfl ?_
  refine aw_aload_n 1 dX5_begin_1 rfl rfl ?_
  refine aw_getI axc1 0 rfl rfl wd_171 dX5_begin_2 h (fun x1 h => ?_)
  refine aw_putI axc5 0 rfl rfl wd_292 rfl rfl rfl dX5_begin_5 h (fun T2 h => ?_)
  refine aw_aload_n 0 dX5_begin_8 rfl rfl ?_
  refine aw_aload_n 1 dX5_begin_9 rfl rfl ?_
  refine aw_getI axc1 2 rfl rfl wd_175 dX5_begin_10 h (fun x3 h => ?_)
  refine aw_putI axc5 1 rfl rfl wd_294 rfl rfl rfl dX5_begin_13 h (fun T4 h => ?_)
  refine aw_aload_n 0 dX5_begin_16 rfl rfl ?_
  refine aw_iconst 0 dX5_begin_17 rfl ?_
  refine aw_putI axc5 2 rfl rfl wd_296 rfl rfl rfl dX5_begin_18 h (fun T5 h => ?_)
  refine aw_aload_n 0 dX5_begin_21 rfl rfl ?_
  refine aw_iconst 0 dX5_begin_22 rfl ?_
  refine aw_putI axc5 3 rfl rfl wd_298 rfl rfl rfl dX5_begin_23 h (fun T6 h => ?_)
  refine aw_aload_n 0 dX5_begin_26 rfl rfl ?_
  refine aw_iconst 0 dX5_begin_27 rfl ?_
  refine aw_putI axc5 4 rfl rfl wd_300 rfl rfl rfl dX5_begin_28 h (fun T7 h => ?_)
  refine aw_aload_n 0 dX5_begin_31 rfl rfl ?_
  refine aw_iconst 0 dX5_begin_32 rfl ?_
  refine aw_putI axc5 5 rfl rfl wd_302 rfl rfl rfl dX5_begin_33 h (fun T8 h => ?_)
  refine aw_aload_n 0 dX5_begin_36 rfl rfl ?_
  refine aw_iconst 0 dX5_begin_37 rfl ?_
  refine aw_putI axc5 6 rfl rfl wd_304 rfl rfl rfl dX5_begin_38 h (fun T9 h => ?_)
  refine aw_aload_n 0 dX5_begin_41 rfl rfl ?_
  refine aw_iconst 0 dX5_begin_42 rfl ?_
  refine aw_putI axc5 7 rfl rfl wd_306 rfl rfl rfl dX5_begin_43 h (fun T10 h => ?_)
  refine aw_aload_n 0 dX5_begin_46 rfl rfl ?_
  refine aw_iconst 0 dX5_begin_47 rfl ?_
  refine aw_putI axc5 8 rfl rfl wd_308 rfl rfl rfl dX5_begin_48 h (fun T11 h => ?_)
  refine aw_aload_n 0 dX5_begin_51 rfl rfl ?_
  refine aw_iconst 0 dX5_begin_52 rfl ?_
  refine aw_putI axc5 9 rfl rfl wd_310 rfl rfl rfl dX5_begin_53 h (fun T12 h => ?_)
  refine aw_aload_n 0 dX5_begin_56 rfl rfl ?_
  refine aw_iconst 0 dX5_begin_57 rfl ?_
  refine aw_putI axc5 10 rfl rfl wd_312 rfl rfl rfl dX5_begin_58 h (fun T13 h => ?_)
  refine aw_aload_n 0 dX5_begin_61 rfl rfl ?_
  refine aw_iconst 0 dX5_begin_62 rfl ?_
  refine aw_putI axc5 11 rfl rfl wd_314 rfl rfl rfl dX5_begin_63 h (fun T14 h => ?_)
  refine aw_iconst 0 dX5_begin_66 rfl ?_
  refine aw_istore_n 2 [(2, .int 0), (0, .ref v0), (1, .ref v1)] dX5_begin_67 rfl rfl rfl ?_
  refine aw_env [(0, .ref v0), (2, .int 0)] [1, 0] rfl ?_
  exact L1_X5_begin_68 N  N v0 0 T14 h

theorem dX5_pays_0 : decode cX5_pays 0 = .ok (.iload_n 1, 1) := by decide +kernel
theorem dX5_pays_1 : decode cX5_pays 1 = .ok (.aload_n 0, 1) := by decide +kernel
theorem dX5_pays_2 : decode cX5_pays 2 = .ok (.getfield 30, 3) := by decide +kernel
theorem dX5_pays_5 : decode cX5_pays 5 = .ok (.if_icmp .gt 11, 3) := by decide +kernel
theorem dX5_pays_8 : decode cX5_pays 8 = .ok (.iload_n 1, 1) := by decide +kernel
theorem dX5_pays_9 : decode cX5_pays 9 = .ok (.aload_n 0, 1) := by decide +kernel
theorem dX5_pays_10 : decode cX5_pays 10 = .ok (.getfield 24, 3) := by decide +kernel
theorem dX5_pays_13 : decode cX5_pays 13 = .ok (.if_icmp .le 5, 3) := by decide +kernel
theorem dX5_pays_16 : decode cX5_pays 16 = .ok (.iconst 0, 1) := by decide +kernel
theorem dX5_pays_17 : decode cX5_pays 17 = .ok (.ireturn, 1) := by decide +kernel
theorem dX5_pays_18 : decode cX5_pays 18 = .ok (.aload_n 0, 1) := by decide +kernel
theorem dX5_pays_19 : decode cX5_pays 19 = .ok (.dup, 1) := by decide +kernel
theorem dX5_pays_20 : decode cX5_pays 20 = .ok (.getfield 30, 3) := by decide +kernel
theorem dX5_pays_23 : decode cX5_pays 23 = .ok (.iload_n 1, 1) := by decide +kernel
theorem dX5_pays_24 : decode cX5_pays 24 = .ok (.isub, 1) := by decide +kernel
theorem dX5_pays_25 : decode cX5_pays 25 = .ok (.putfield 30, 3) := by decide +kernel
theorem dX5_pays_28 : decode cX5_pays 28 = .ok (.aload_n 0, 1) := by decide +kernel
theorem dX5_pays_29 : decode cX5_pays 29 = .ok (.dup, 1) := by decide +kernel
theorem dX5_pays_30 : decode cX5_pays 30 = .ok (.getfield 24, 3) := by decide +kernel
theorem dX5_pays_33 : decode cX5_pays 33 = .ok (.iload_n 1, 1) := by decide +kernel
theorem dX5_pays_34 : decode cX5_pays 34 = .ok (.isub, 1) := by decide +kernel
theorem dX5_pays_35 : decode cX5_pays 35 = .ok (.putfield 24, 3) := by decide +kernel
theorem dX5_pays_38 : decode cX5_pays 38 = .ok (.aload_n 0, 1) := by decide +kernel
theorem dX5_pays_39 : decode cX5_pays 39 = .ok (.dup, 1) := by decide +kernel
theorem dX5_pays_40 : decode cX5_pays 40 = .ok (.getfield 37, 3) := by decide +kernel
theorem dX5_pays_43 : decode cX5_pays 43 = .ok (.iload_n 1, 1) := by decide +kernel
theorem dX5_pays_44 : decode cX5_pays 44 = .ok (.iadd, 1) := by decide +kernel
theorem dX5_pays_45 : decode cX5_pays 45 = .ok (.putfield 37, 3) := by decide +kernel
theorem dX5_pays_48 : decode cX5_pays 48 = .ok (.iconst 1, 1) := by decide +kernel
theorem dX5_pays_49 : decode cX5_pays 49 = .ok (.ireturn, 1) := by decide +kernel
abbrev mt_X5_pays : AxM := (RX5, cX5_pays, 2, (some .boolean), false, [])
theorem L1_X5_pays {g : AxG} {l : Launch} (N : Nat) {v0 : Nat} {v1 : Int32} {S : AxS} {r9 : Int32} {S9 : AxS} (h : F_X5_pays N v0 v1 S = some ((r9, S9))) : AxMet g l yX5_pays cX5_pays 2 (some .boolean) (0) 0 0 [.ref v0, .int v1] S ((.inl (some (.int r9)), S9)) := by
  refine ax_met (own := RX5) (ini := false) (by decide +kernel) rfl (fun h => nomatch h) rfl ?_
  show AW g l (axRm (0) 0 0) mt_X5_pays (axMQ g 0 0 (.inl (some (.int r9)), S9)) 0 0 S 0 [(0, .ref v0), (1, .int v1)] []
  unfold F_X5_pays at h
  refine aw_iload_n 1 dX5_pays_0 rfl rfl ?_
  refine aw_aload_n 0 dX5_pays_1 rfl rfl ?_
  refine aw_getI axc5 1 rfl rfl wd_294 dX5_pays_2 h (fun x1 h => ?_)
  refine aw_icmp_gt 16 dX5_pays_5 (by decide) h (fun h => ?_) (fun h => ?_)
  · refine aw_iconst 0 dX5_pays_16 rfl ?_
    exact aw_zret dX5_pays_17 rfl (Nat.le_refl _) (Nat.le_refl _) h
  · refine aw_iload_n 1 dX5_pays_8 rfl rfl ?_
    refine aw_aload_n 0 dX5_pays_9 rfl rfl ?_
    refine aw_getI axc5 0 rfl rfl wd_292 dX5_pays_10 h (fun x2 h => ?_)
    refine aw_icmp_le 18 dX5_pays_13 (by decide) h (fun h => ?_) (fun h => ?_)
    · refine aw_aload_n 0 dX5_pays_18 rfl rfl ?_
      refine aw_dup rfl dX5_pays_19 ?_
      refine aw_getI axc5 1 rfl rfl wd_294 dX5_pays_20 h (fun x3 h => ?_)
      refine aw_iload_n 1 dX5_pays_23 rfl rfl ?_
      refine aw_isub dX5_pays_24 ?_
      refine aw_putI axc5 1 rfl rfl wd_294 rfl rfl rfl dX5_pays_25 h (fun T4 h => ?_)
      refine aw_aload_n 0 dX5_pays_28 rfl rfl ?_
      refine aw_dup rfl dX5_pays_29 ?_
      refine aw_getI axc5 0 rfl rfl wd_292 dX5_pays_30 h (fun x5 h => ?_)
      refine aw_iload_n 1 dX5_pays_33 rfl rfl ?_
      refine aw_isub dX5_pays_34 ?_
      refine aw_putI axc5 0 rfl rfl wd_292 rfl rfl rfl dX5_pays_35 h (fun T6 h => ?_)
      refine aw_aload_n 0 dX5_pays_38 rfl rfl ?_
      refine aw_dup rfl dX5_pays_39 ?_
      refine aw_getI axc5 4 rfl rfl wd_300 dX5_pays_40 h (fun x7 h => ?_)
      refine aw_iload_n 1 dX5_pays_43 rfl rfl ?_
      refine aw_iadd dX5_pays_44 ?_
      refine aw_putI axc5 4 rfl rfl wd_300 rfl rfl rfl dX5_pays_45 h (fun T8 h => ?_)
      refine aw_iconst 1 dX5_pays_48 rfl ?_
      exact aw_zret dX5_pays_49 rfl (Nat.le_refl _) (Nat.le_refl _) h
    · refine aw_iconst 0 dX5_pays_16 rfl ?_
      exact aw_zret dX5_pays_17 rfl (Nat.le_refl _) (Nat.le_refl _) h

theorem dX5_gives_0 : decode cX5_gives 0 = .ok (.aload_n 0, 1) := by decide +kernel
theorem dX5_gives_1 : decode cX5_gives 1 = .ok (.getfield 52, 3) := by decide +kernel
theorem dX5_gives_4 : decode cX5_gives 4 = .ok (.iload_n 1, 1) := by decide +kernel
theorem dX5_gives_5 : decode cX5_gives 5 = .ok (.ishr, 1) := by decide +kernel
theorem dX5_gives_6 : decode cX5_gives 6 = .ok (.iconst 1, 1) := by decide +kernel
theorem dX5_gives_7 : decode cX5_gives 7 = .ok (.iand, 1) := by decide +kernel
theorem dX5_gives_8 : decode cX5_gives 8 = .ok (.iconst 1, 1) := by decide +kernel
theorem dX5_gives_9 : decode cX5_gives 9 = .ok (.if_icmp .ne 5, 3) := by decide +kernel
theorem dX5_gives_12 : decode cX5_gives 12 = .ok (.iconst 0, 1) := by decide +kernel
theorem dX5_gives_13 : decode cX5_gives 13 = .ok (.ireturn, 1) := by decide +kernel
theorem dX5_gives_14 : decode cX5_gives 14 = .ok (.aload_n 0, 1) := by decide +kernel
theorem dX5_gives_15 : decode cX5_gives 15 = .ok (.dup, 1) := by decide +kernel
theorem dX5_gives_16 : decode cX5_gives 16 = .ok (.getfield 52, 3) := by decide +kernel
theorem dX5_gives_19 : decode cX5_gives 19 = .ok (.iconst 1, 1) := by decide +kernel
theorem dX5_gives_20 : decode cX5_gives 20 = .ok (.iload_n 1, 1) := by decide +kernel
theorem dX5_gives_21 : decode cX5_gives 21 = .ok (.ishl, 1) := by decide +kernel
theorem dX5_gives_22 : decode cX5_gives 22 = .ok (.ior, 1) := by decide +kernel
theorem dX5_gives_23 : decode cX5_gives 23 = .ok (.putfield 52, 3) := by decide +kernel
theorem dX5_gives_26 : decode cX5_gives 26 = .ok (.aload_n 0, 1) := by decide +kernel
theorem dX5_gives_27 : decode cX5_gives 27 = .ok (.sipush 9999, 3) := by decide +kernel
theorem dX5_gives_30 : decode cX5_gives 30 = .ok (.aload_n 0, 1) := by decide +kernel
theorem dX5_gives_31 : decode cX5_gives 31 = .ok (.getfield 30, 3) := by decide +kernel
theorem dX5_gives_34 : decode cX5_gives 34 = .ok (.iload_n 2, 1) := by decide +kernel
theorem dX5_gives_35 : decode cX5_gives 35 = .ok (.iadd, 1) := by decide +kernel
theorem dX5_gives_36 : decode cX5_gives 36 = .ok (.invokestatic 69, 3) := by decide +kernel
theorem dX5_gives_39 : decode cX5_gives 39 = .ok (.putfield 30, 3) := by decide +kernel
theorem dX5_gives_42 : decode cX5_gives 42 = .ok (.iconst 1, 1) := by decide +kernel
theorem dX5_gives_43 : decode cX5_gives 43 = .ok (.ireturn, 1) := by decide +kernel
abbrev mt_X5_gives : AxM := (RX5, cX5_gives, 3, (some .boolean), false, [])
theorem L1_X5_gives {g : AxG} {l : Launch} (N : Nat) {v0 : Nat} {v1 : Int32} {v2 : Int32} {S : AxS} {r9 : Int32} {S9 : AxS} (h : F_X5_gives N v0 v1 v2 S = some ((r9, S9))) : AxMet g l yX5_gives cX5_gives 3 (some .boolean) (1) 0 0 [.ref v0, .int v1, .int v2] S ((.inl (some (.int r9)), S9)) := by
  refine ax_met (own := RX5) (ini := false) (by decide +kernel) rfl (fun h => nomatch h) rfl ?_
  show AW g l (axRm (1) 0 0) mt_X5_gives (axMQ g 0 0 (.inl (some (.int r9)), S9)) 0 0 S 0 [(0, .ref v0), (1, .int v1), (2, .int v2)] []
  unfold F_X5_gives at h
  refine aw_aload_n 0 dX5_gives_0 rfl rfl ?_
  refine aw_getI axc5 9 rfl rfl wd_310 dX5_gives_1 h (fun x1 h => ?_)
  refine aw_iload_n 1 dX5_gives_4 rfl rfl ?_
  refine aw_ishr dX5_gives_5 ?_
  refine aw_iconst 1 dX5_gives_6 rfl ?_
  refine aw_iand dX5_gives_7 ?_
  refine aw_iconst 1 dX5_gives_8 rfl ?_
  refine aw_icmp_ne 14 dX5_gives_9 (by decide) h (fun h => ?_) (fun h => ?_)
  · refine aw_aload_n 0 dX5_gives_14 rfl rfl ?_
    refine aw_dup rfl dX5_gives_15 ?_
    refine aw_getI axc5 9 rfl rfl wd_310 dX5_gives_16 h (fun x2 h => ?_)
    refine aw_iconst 1 dX5_gives_19 rfl ?_
    refine aw_iload_n 1 dX5_gives_20 rfl rfl ?_
    refine aw_ishl dX5_gives_21 ?_
    refine aw_ior dX5_gives_22 ?_
    refine aw_putI axc5 9 rfl rfl wd_310 rfl rfl rfl dX5_gives_23 h (fun T3 h => ?_)
    refine aw_aload_n 0 dX5_gives_26 rfl rfl ?_
    refine aw_sipush 9999 dX5_gives_27 (by decide) ?_
    refine aw_aload_n 0 dX5_gives_30 rfl rfl ?_
    refine aw_getI axc5 1 rfl rfl wd_294 dX5_gives_31 h (fun x4 h => ?_)
    refine aw_iload_n 2 dX5_gives_34 rfl rfl ?_
    refine aw_iadd dX5_gives_35 ?_
    refine aw_doneI (rest := [.ref v0]) h (fun r9 S9 hF => aw_runS (As := [.int 9999, .int (x4 + v2)]) (rest := [.ref v0]) (L1_J9_min_7cf53 N hF) wd_563 wd_892 wd_562 wd_106 pd_J9_min_7cf53.2 rfl (ax_rm (by omega) rfl) ax_hf0 (Nat.le_of_ble_eq_true rfl) rfl dX5_gives_36) (fun x6 T5 h => ?_)
    refine aw_putI axc5 1 rfl rfl wd_294 rfl rfl rfl dX5_gives_39 h (fun T7 h => ?_)
    refine aw_iconst 1 dX5_gives_42 rfl ?_
    exact aw_zret dX5_gives_43 rfl (Nat.le_refl _) (Nat.le_refl _) h
  · refine aw_iconst 0 dX5_gives_12 rfl ?_
    exact aw_zret dX5_gives_13 rfl (Nat.le_refl _) (Nat.le_refl _) h

theorem dX5_waxes_0 : decode cX5_waxes 0 = .ok (.aload_n 0, 1) := by decide +kernel
theorem dX5_waxes_1 : decode cX5_waxes 1 = .ok (.getfield 40, 3) := by decide +kernel
theorem dX5_waxes_4 : decode cX5_waxes 4 = .ok (.iconst 1, 1) := by decide +kernel
theorem dX5_waxes_5 : decode cX5_waxes 5 = .ok (.if_icmp .ne 5, 3) := by decide +kernel
theorem dX5_waxes_8 : decode cX5_waxes 8 = .ok (.iconst 0, 1) := by decide +kernel
theorem dX5_waxes_9 : decode cX5_waxes 9 = .ok (.ireturn, 1) := by decide +kernel
theorem dX5_waxes_10 : decode cX5_waxes 10 = .ok (.aload_n 0, 1) := by decide +kernel
theorem dX5_waxes_11 : decode cX5_waxes 11 = .ok (.iconst 1, 1) := by decide +kernel
theorem dX5_waxes_12 : decode cX5_waxes 12 = .ok (.putfield 40, 3) := by decide +kernel
theorem dX5_waxes_15 : decode cX5_waxes 15 = .ok (.iconst 1, 1) := by decide +kernel
theorem dX5_waxes_16 : decode cX5_waxes 16 = .ok (.ireturn, 1) := by decide +kernel
abbrev mt_X5_waxes : AxM := (RX5, cX5_waxes, 1, (some .boolean), false, [])
theorem L1_X5_waxes {g : AxG} {l : Launch} (N : Nat) {v0 : Nat} {S : AxS} {r9 : Int32} {S9 : AxS} (h : F_X5_waxes N v0 S = some ((r9, S9))) : AxMet g l yX5_waxes cX5_waxes 1 (some .boolean) (0) 0 0 [.ref v0] S ((.inl (some (.int r9)), S9)) := by
  refine ax_met (own := RX5) (ini := false) (by decide +kernel) rfl (fun h => nomatch h) rfl ?_
  show AW g l (axRm (0) 0 0) mt_X5_waxes (axMQ g 0 0 (.inl (some (.int r9)), S9)) 0 0 S 0 [(0, .ref v0)] []
  unfold F_X5_waxes at h
  refine aw_aload_n 0 dX5_waxes_0 rfl rfl ?_
  refine aw_getI axc5 5 rfl rfl wd_302 dX5_waxes_1 h (fun x1 h => ?_)
  refine aw_iconst 1 dX5_waxes_4 rfl ?_
  refine aw_icmp_ne 10 dX5_waxes_5 (by decide) h (fun h => ?_) (fun h => ?_)
  · refine aw_aload_n 0 dX5_waxes_10 rfl rfl ?_
    refine aw_iconst 1 dX5_waxes_11 rfl ?_
    refine aw_putI axc5 5 rfl rfl wd_302 rfl rfl rfl dX5_waxes_12 h (fun T2 h => ?_)
    refine aw_iconst 1 dX5_waxes_15 rfl ?_
    exact aw_zret dX5_waxes_16 rfl (Nat.le_refl _) (Nat.le_refl _) h
  · refine aw_iconst 0 dX5_waxes_8 rfl ?_
    exact aw_zret dX5_waxes_9 rfl (Nat.le_refl _) (Nat.le_refl _) h

theorem dX5_hangUp_0 : decode cX5_hangUp 0 = .ok (.aload_n 0, 1) := by decide +kernel
theorem dX5_hangUp_1 : decode cX5_hangUp 1 = .ok (.getfield 43, 3) := by decide +kernel
theorem dX5_hangUp_4 : decode cX5_hangUp 4 = .ok (.ifCond .le 5, 3) := by decide +kernel
theorem dX5_hangUp_7 : decode cX5_hangUp 7 = .ok (.iconst 0, 1) := by decide +kernel
theorem dX5_hangUp_8 : decode cX5_hangUp 8 = .ok (.ireturn, 1) := by decide +kernel
theorem dX5_hangUp_9 : decode cX5_hangUp 9 = .ok (.aload_n 0, 1) := by decide +kernel
theorem dX5_hangUp_10 : decode cX5_hangUp 10 = .ok (.iload_n 1, 1) := by decide +kernel
theorem dX5_hangUp_11 : decode cX5_hangUp 11 = .ok (.putfield 43, 3) := by decide +kernel
theorem dX5_hangUp_14 : decode cX5_hangUp 14 = .ok (.aload_n 0, 1) := by decide +kernel
theorem dX5_hangUp_15 : decode cX5_hangUp 15 = .ok (.bipush 7, 2) := by decide +kernel
theorem dX5_hangUp_17 : decode cX5_hangUp 17 = .ok (.putfield 46, 3) := by decide +kernel
theorem dX5_hangUp_20 : decode cX5_hangUp 20 = .ok (.iconst 1, 1) := by decide +kernel
theorem dX5_hangUp_21 : decode cX5_hangUp 21 = .ok (.ireturn, 1) := by decide +kernel
abbrev mt_X5_hangUp : AxM := (RX5, cX5_hangUp, 2, (some .boolean), false, [])
theorem L1_X5_hangUp {g : AxG} {l : Launch} (N : Nat) {v0 : Nat} {v1 : Int32} {S : AxS} {r9 : Int32} {S9 : AxS} (h : F_X5_hangUp N v0 v1 S = some ((r9, S9))) : AxMet g l yX5_hangUp cX5_hangUp 2 (some .boolean) (0) 0 0 [.ref v0, .int v1] S ((.inl (some (.int r9)), S9)) := by
  refine ax_met (own := RX5) (ini := false) (by decide +kernel) rfl (fun h => nomatch h) rfl ?_
  show AW g l (axRm (0) 0 0) mt_X5_hangUp (axMQ g 0 0 (.inl (some (.int r9)), S9)) 0 0 S 0 [(0, .ref v0), (1, .int v1)] []
  unfold F_X5_hangUp at h
  refine aw_aload_n 0 dX5_hangUp_0 rfl rfl ?_
  refine aw_getI axc5 6 rfl rfl wd_304 dX5_hangUp_1 h (fun x1 h => ?_)
  refine aw_if_le 9 dX5_hangUp_4 (by decide) h (fun h => ?_) (fun h => ?_)
  · refine aw_aload_n 0 dX5_hangUp_9 rfl rfl ?_
    refine aw_iload_n 1 dX5_hangUp_10 rfl rfl ?_
    refine aw_putI axc5 6 rfl rfl wd_304 rfl rfl rfl dX5_hangUp_11 h (fun T2 h => ?_)
    refine aw_aload_n 0 dX5_hangUp_14 rfl rfl ?_
    refine aw_bipush 7 dX5_hangUp_15 (by decide) ?_
    refine aw_putI axc5 7 rfl rfl wd_306 rfl rfl rfl dX5_hangUp_17 h (fun T3 h => ?_)
    refine aw_iconst 1 dX5_hangUp_20 rfl ?_
    exact aw_zret dX5_hangUp_21 rfl (Nat.le_refl _) (Nat.le_refl _) h
  · refine aw_iconst 0 dX5_hangUp_7 rfl ?_
    exact aw_zret dX5_hangUp_8 rfl (Nat.le_refl _) (Nat.le_refl _) h

theorem dX5_swaps_0 : decode cX5_swaps 0 = .ok (.iload_n 1, 1) := by decide +kernel
theorem dX5_swaps_1 : decode cX5_swaps 1 = .ok (.iload_n 2, 1) := by decide +kernel
theorem dX5_swaps_2 : decode cX5_swaps 2 = .ok (.if_icmp .ne 5, 3) := by decide +kernel
theorem dX5_swaps_5 : decode cX5_swaps 5 = .ok (.iconst 0, 1) := by decide +kernel
theorem dX5_swaps_6 : decode cX5_swaps 6 = .ok (.ireturn, 1) := by decide +kernel
theorem dX5_swaps_7 : decode cX5_swaps 7 = .ok (.aload_n 0, 1) := by decide +kernel
theorem dX5_swaps_8 : decode cX5_swaps 8 = .ok (.getfield 9, 3) := by decide +kernel
theorem dX5_swaps_11 : decode cX5_swaps 11 = .ok (.iload_n 1, 1) := by decide +kernel
theorem dX5_swaps_12 : decode cX5_swaps 12 = .ok (.invokestatic 65, 3) := by decide +kernel
theorem dX5_swaps_15 : decode cX5_swaps 15 = .ok (.istore_n 3, 1) := by decide +kernel
theorem dX5_swaps_16 : decode cX5_swaps 16 = .ok (.aload_n 0, 1) := by decide +kernel
theorem dX5_swaps_17 : decode cX5_swaps 17 = .ok (.getfield 9, 3) := by decide +kernel
theorem dX5_swaps_20 : decode cX5_swaps 20 = .ok (.iload_n 1, 1) := by decide +kernel
theorem dX5_swaps_21 : decode cX5_swaps 21 = .ok (.aload_n 0, 1) := by decide +kernel
theorem dX5_swaps_22 : decode cX5_swaps 22 = .ok (.getfield 9, 3) := by decide +kernel
theorem dX5_swaps_25 : decode cX5_swaps 25 = .ok (.iload_n 2, 1) := by decide +kernel
theorem dX5_swaps_26 : decode cX5_swaps 26 = .ok (.invokestatic 65, 3) := by decide +kernel
theorem dX5_swaps_29 : decode cX5_swaps 29 = .ok (.invokestatic 61, 3) := by decide +kernel
theorem dX5_swaps_32 : decode cX5_swaps 32 = .ok (.aload_n 0, 1) := by decide +kernel
theorem dX5_swaps_33 : decode cX5_swaps 33 = .ok (.getfield 9, 3) := by decide +kernel
theorem dX5_swaps_36 : decode cX5_swaps 36 = .ok (.iload_n 2, 1) := by decide +kernel
theorem dX5_swaps_37 : decode cX5_swaps 37 = .ok (.iload_n 3, 1) := by decide +kernel
theorem dX5_swaps_38 : decode cX5_swaps 38 = .ok (.invokestatic 61, 3) := by decide +kernel
theorem dX5_swaps_41 : decode cX5_swaps 41 = .ok (.iconst 1, 1) := by decide +kernel
theorem dX5_swaps_42 : decode cX5_swaps 42 = .ok (.ireturn, 1) := by decide +kernel
abbrev mt_X5_swaps : AxM := (RX5, cX5_swaps, 4, (some .boolean), false, [])
theorem L1_X5_swaps {g : AxG} {l : Launch} (N : Nat) {v0 : Nat} {v1 : Int32} {v2 : Int32} {S : AxS} {r9 : Int32} {S9 : AxS} (h : F_X5_swaps N v0 v1 v2 S = some ((r9, S9))) : AxMet g l yX5_swaps cX5_swaps 4 (some .boolean) (1) 0 0 [.ref v0, .int v1, .int v2] S ((.inl (some (.int r9)), S9)) := by
  refine ax_met (own := RX5) (ini := false) (by decide +kernel) rfl (fun h => nomatch h) rfl ?_
  show AW g l (axRm (1) 0 0) mt_X5_swaps (axMQ g 0 0 (.inl (some (.int r9)), S9)) 0 0 S 0 [(0, .ref v0), (1, .int v1), (2, .int v2)] []
  unfold F_X5_swaps at h
  refine aw_iload_n 1 dX5_swaps_0 rfl rfl ?_
  refine aw_iload_n 2 dX5_swaps_1 rfl rfl ?_
  refine aw_icmp_ne 7 dX5_swaps_2 (by decide) h (fun h => ?_) (fun h => ?_)
  · refine aw_aload_n 0 dX5_swaps_7 rfl rfl ?_
    refine aw_getR axc5 12 rfl rfl wd_316 dX5_swaps_8 h (fun a1 h => ?_)
    refine aw_iload_n 1 dX5_swaps_11 rfl rfl ?_
    refine aw_doneI (rest := []) h (fun r9 S9 hF => aw_runSN (As := [.ref a1, .int v1]) (rest := []) (L1_X9_at N hF) wd_541 wd_539 wd_540 wd_87 pd_X9_at.2 rfl (ax_rm (by omega) rfl) ax_hf0 (Nat.le_of_ble_eq_true rfl) rfl dX5_swaps_12) (fun x3 T2 h => ?_)
    refine aw_istore_n 3 [(3, .int x3), (0, .ref v0), (1, .int v1), (2, .int v2)] dX5_swaps_15 rfl rfl rfl ?_
    refine aw_aload_n 1 dX5_swaps_16 rfl rfl ?_
    refine aw_getR axc5 12 rfl rfl wd_316 dX5_swaps_17 h (fun a4 h => ?_)
    refine aw_iload_n 2 dX5_swaps_20 rfl rfl ?_
    refine aw_aload_n 1 dX5_swaps_21 rfl rfl ?_
    refine aw_getR axc5 12 rfl rfl wd_316 dX5_swaps_22 h (fun a5 h => ?_)
    refine aw_iload_n 3 dX5_swaps_25 rfl rfl ?_
    refine aw_doneI (rest := [.int v1, .ref a4]) h (fun r9 S9 hF => aw_runSN (As := [.ref a5, .int v2]) (rest := [.int v1, .ref a4]) (L1_X9_at N hF) wd_541 wd_539 wd_540 wd_87 pd_X9_at.2 rfl (ax_rm (by omega) rfl) ax_hf0 (Nat.le_of_ble_eq_true rfl) rfl dX5_swaps_26) (fun x7 T6 h => ?_)
    refine aw_doneV (rest := []) h (fun S9 hF => aw_runSN (As := [.ref a4, .int v1, .int x7]) (rest := []) (L1_X9_put N hF) wd_443 wd_452 wd_442 wd_87 pd_X9_put.2 rfl (ax_rm (by omega) rfl) ax_hf0 (Nat.le_of_ble_eq_true rfl) rfl dX5_swaps_29) (fun T8 h => ?_)
    refine aw_aload_n 1 dX5_swaps_32 rfl rfl ?_
    refine aw_getR axc5 12 rfl rfl wd_316 dX5_swaps_33 h (fun a10 h => ?_)
    refine aw_iload_n 3 dX5_swaps_36 rfl rfl ?_
    refine aw_iload_n 0 dX5_swaps_37 rfl rfl ?_
    refine aw_doneV (rest := []) h (fun S9 hF => aw_runSN (As := [.ref a10, .int v2, .int x3]) (rest := []) (L1_X9_put N hF) wd_443 wd_452 wd_442 wd_87 pd_X9_put.2 rfl (ax_rm (by omega) rfl) ax_hf0 (Nat.le_of_ble_eq_true rfl) rfl dX5_swaps_38) (fun T11 h => ?_)
    refine aw_iconst 1 dX5_swaps_41 rfl ?_
    exact aw_zret dX5_swaps_42 rfl (Nat.le_refl _) (Nat.le_refl _) h
  · refine aw_iconst 0 dX5_swaps_5 rfl ?_
    exact aw_zret dX5_swaps_6 rfl (Nat.le_refl _) (Nat.le_refl _) h

theorem dX5_takeDown_0 : decode cX5_takeDown 0 = .ok (.aload_n 0, 1) := by decide +kernel
theorem dX5_takeDown_1 : decode cX5_takeDown 1 = .ok (.iconst 0, 1) := by decide +kernel
theorem dX5_takeDown_2 : decode cX5_takeDown 2 = .ok (.putfield 49, 3) := by decide +kernel
theorem dX5_takeDown_5 : decode cX5_takeDown 5 = .ok (.aload_n 0, 1) := by decide +kernel
theorem dX5_takeDown_6 : decode cX5_takeDown 6 = .ok (.getfield 43, 3) := by decide +kernel
theorem dX5_takeDown_9 : decode cX5_takeDown 9 = .ok (.ifCond .ne 4, 3) := by decide +kernel
theorem dX5_takeDown_12 : decode cX5_takeDown 12 = .ok (.return_, 1) := by decide +kernel
theorem dX5_takeDown_13 : decode cX5_takeDown 13 = .ok (.aload_n 0, 1) := by decide +kernel
theorem dX5_takeDown_14 : decode cX5_takeDown 14 = .ok (.dup, 1) := by decide +kernel
theorem dX5_takeDown_15 : decode cX5_takeDown 15 = .ok (.getfield 46, 3) := by decide +kernel
theorem dX5_takeDown_18 : decode cX5_takeDown 18 = .ok (.iconst 1, 1) := by decide +kernel
theorem dX5_takeDown_19 : decode cX5_takeDown 19 = .ok (.isub, 1) := by decide +kernel
theorem dX5_takeDown_20 : decode cX5_takeDown 20 = .ok (.putfield 46, 3) := by decide +kernel
theorem dX5_takeDown_23 : decode cX5_takeDown 23 = .ok (.aload_n 0, 1) := by decide +kernel
theorem dX5_takeDown_24 : decode cX5_takeDown 24 = .ok (.getfield 46, 3) := by decide +kernel
theorem dX5_takeDown_27 : decode cX5_takeDown 27 = .ok (.ifCond .gt 21, 3) := by decide +kernel
theorem dX5_takeDown_30 : decode cX5_takeDown 30 = .ok (.aload_n 0, 1) := by decide +kernel
theorem dX5_takeDown_31 : decode cX5_takeDown 31 = .ok (.aload_n 0, 1) := by decide +kernel
theorem dX5_takeDown_32 : decode cX5_takeDown 32 = .ok (.getfield 43, 3) := by decide +kernel
theorem dX5_takeDown_35 : decode cX5_takeDown 35 = .ok (.putfield 49, 3) := by decide +kernel
theorem dX5_takeDown_38 : decode cX5_takeDown 38 = .ok (.aload_n 0, 1) := by decide +kernel
theorem dX5_takeDown_39 : decode cX5_takeDown 39 = .ok (.iconst 0, 1) := by decide +kernel
theorem dX5_takeDown_40 : decode cX5_takeDown 40 = .ok (.putfield 43, 3) := by decide +kernel
theorem dX5_takeDown_43 : decode cX5_takeDown 43 = .ok (.aload_n 0, 1) := by decide +kernel
theorem dX5_takeDown_44 : decode cX5_takeDown 44 = .ok (.iconst 0, 1) := by decide +kernel
theorem dX5_takeDown_45 : decode cX5_takeDown 45 = .ok (.putfield 46, 3) := by decide +kernel
theorem dX5_takeDown_48 : decode cX5_takeDown 48 = .ok (.return_, 1) := by decide +kernel
abbrev mt_X5_takeDown : AxM := (RX5, cX5_takeDown, 1, none, false, [])
theorem L1_X5_takeDown {g : AxG} {l : Launch} (N : Nat) {v0 : Nat} {S : AxS} {S9 : AxS} (h : F_X5_takeDown N v0 S = some S9) : AxMet g l yX5_takeDown cX5_takeDown 1 none (0) 0 0 [.ref v0] S ((.inl none, S9)) := by
  refine ax_met (own := RX5) (ini := false) (by decide +kernel) rfl (fun h => nomatch h) rfl ?_
  show AW g l (axRm (0) 0 0) mt_X5_takeDown (axMQ g 0 0 (.inl none, S9)) 0 0 S 0 [(0, .ref v0)] []
  unfold F_X5_takeDown at h
  refine aw_aload_n 0 dX5_takeDown_0 rfl rfl ?_
  refine aw_iconst 0 dX5_takeDown_1 rfl ?_
  refine aw_putI axc5 8 rfl rfl wd_308 rfl rfl rfl dX5_takeDown_2 h (fun T1 h => ?_)
  refine aw_aload_n 0 dX5_takeDown_5 rfl rfl ?_
  refine aw_getI axc5 6 rfl rfl wd_304 dX5_takeDown_6 h (fun x2 h => ?_)
  refine aw_if_ne 13 dX5_takeDown_9 (by decide) h (fun h => ?_) (fun h => ?_)
  · refine aw_aload_n 0 dX5_takeDown_13 rfl rfl ?_
    refine aw_dup rfl dX5_takeDown_14 ?_
    refine aw_getI axc5 7 rfl rfl wd_306 dX5_takeDown_15 h (fun x3 h => ?_)
    refine aw_iconst 1 dX5_takeDown_18 rfl ?_
    refine aw_isub dX5_takeDown_19 ?_
    refine aw_putI axc5 7 rfl rfl wd_306 rfl rfl rfl dX5_takeDown_20 h (fun T4 h => ?_)
    refine aw_aload_n 0 dX5_takeDown_23 rfl rfl ?_
    refine aw_getI axc5 7 rfl rfl wd_306 dX5_takeDown_24 h (fun x5 h => ?_)
    refine aw_if_gt 48 dX5_takeDown_27 (by decide) h (fun h => ?_) (fun h => ?_)
    · exact aw_vret dX5_takeDown_48 rfl (Nat.le_refl _) (Nat.le_refl _) h
    · refine aw_aload_n 0 dX5_takeDown_30 rfl rfl ?_
      refine aw_aload_n 0 dX5_takeDown_31 rfl rfl ?_
      refine aw_getI axc5 6 rfl rfl wd_304 dX5_takeDown_32 h (fun x6 h => ?_)
      refine aw_putI axc5 8 rfl rfl wd_308 rfl rfl rfl dX5_takeDown_35 h (fun T7 h => ?_)
      refine aw_aload_n 0 dX5_takeDown_38 rfl rfl ?_
      refine aw_iconst 0 dX5_takeDown_39 rfl ?_
      refine aw_putI axc5 6 rfl rfl wd_304 rfl rfl rfl dX5_takeDown_40 h (fun T8 h => ?_)
      refine aw_aload_n 0 dX5_takeDown_43 rfl rfl ?_
      refine aw_iconst 0 dX5_takeDown_44 rfl ?_
      refine aw_putI axc5 7 rfl rfl wd_306 rfl rfl rfl dX5_takeDown_45 h (fun T9 h => ?_)
      exact aw_vret dX5_takeDown_48 rfl (Nat.le_refl _) (Nat.le_refl _) h
  · exact aw_vret dX5_takeDown_12 rfl (Nat.le_refl _) (Nat.le_refl _) h

theorem dX5_turn_0 : decode cX5_turn 0 = .ok (.aload_n 0, 1) := by decide +kernel
theorem dX5_turn_1 : decode cX5_turn 1 = .ok (.dup, 1) := by decide +kernel
theorem dX5_turn_2 : decode cX5_turn 2 = .ok (.getfield 55, 3) := by decide +kernel
theorem dX5_turn_5 : decode cX5_turn 5 = .ok (.iload_n 1, 1) := by decide +kernel
theorem dX5_turn_6 : decode cX5_turn 6 = .ok (.iadd, 1) := by decide +kernel
theorem dX5_turn_7 : decode cX5_turn 7 = .ok (.putfield 55, 3) := by decide +kernel
theorem dX5_turn_10 : decode cX5_turn 10 = .ok (.aload_n 0, 1) := by decide +kernel
theorem dX5_turn_11 : decode cX5_turn 11 = .ok (.iload_n 1, 1) := by decide +kernel
theorem dX5_turn_12 : decode cX5_turn 12 = .ok (.ifCond .ne 12, 3) := by decide +kernel
theorem dX5_turn_15 : decode cX5_turn 15 = .ok (.aload_n 0, 1) := by decide +kernel
theorem dX5_turn_16 : decode cX5_turn 16 = .ok (.getfield 34, 3) := by decide +kernel
theorem dX5_turn_19 : decode cX5_turn 19 = .ok (.iconst 1, 1) := by decide +kernel
theorem dX5_turn_20 : decode cX5_turn 20 = .ok (.iadd, 1) := by decide +kernel
theorem dX5_turn_21 : decode cX5_turn 21 = .ok (.goto 4, 3) := by decide +kernel
theorem dX5_turn_24 : decode cX5_turn 24 = .ok (.iconst 0, 1) := by decide +kernel
theorem dX5_turn_25 : decode cX5_turn 25 = .ok (.putfield 34, 3) := by decide +kernel
theorem dX5_turn_28 : decode cX5_turn 28 = .ok (.aload_n 0, 1) := by decide +kernel
theorem dX5_turn_29 : decode cX5_turn 29 = .ok (.iconst 0, 1) := by decide +kernel
theorem dX5_turn_30 : decode cX5_turn 30 = .ok (.putfield 40, 3) := by decide +kernel
theorem dX5_turn_33 : decode cX5_turn 33 = .ok (.aload_n 0, 1) := by decide +kernel
theorem dX5_turn_34 : decode cX5_turn 34 = .ok (.iconst 0, 1) := by decide +kernel
theorem dX5_turn_35 : decode cX5_turn 35 = .ok (.putfield 52, 3) := by decide +kernel
theorem dX5_turn_38 : decode cX5_turn 38 = .ok (.aload_n 0, 1) := by decide +kernel
theorem dX5_turn_39 : decode cX5_turn 39 = .ok (.iconst 0, 1) := by decide +kernel
theorem dX5_turn_40 : decode cX5_turn 40 = .ok (.putfield 37, 3) := by decide +kernel
theorem dX5_turn_43 : decode cX5_turn 43 = .ok (.aload_n 0, 1) := by decide +kernel
theorem dX5_turn_44 : decode cX5_turn 44 = .ok (.invokevirtual 75, 3) := by decide +kernel
theorem dX5_turn_47 : decode cX5_turn 47 = .ok (.aload_n 0, 1) := by decide +kernel
theorem dX5_turn_48 : decode cX5_turn 48 = .ok (.getfield 31, 3) := by decide +kernel
theorem dX5_turn_51 : decode cX5_turn 51 = .ok (.bipush 12, 2) := by decide +kernel
theorem dX5_turn_53 : decode cX5_turn 53 = .ok (.irem, 1) := by decide +kernel
theorem dX5_turn_54 : decode cX5_turn 54 = .ok (.istore 4, 2) := by decide +kernel
theorem dX5_turn_56 : decode cX5_turn 56 = .ok (.aload_n 0, 1) := by decide +kernel
theorem dX5_turn_57 : decode cX5_turn 57 = .ok (.sipush 9999, 3) := by decide +kernel
theorem dX5_turn_60 : decode cX5_turn 60 = .ok (.aload_n 0, 1) := by decide +kernel
theorem dX5_turn_61 : decode cX5_turn 61 = .ok (.getfield 30, 3) := by decide +kernel
theorem dX5_turn_64 : decode cX5_turn 64 = .ok (.aload_n 2, 1) := by decide +kernel
theorem dX5_turn_65 : decode cX5_turn 65 = .ok (.getfield 78, 3) := by decide +kernel
theorem dX5_turn_68 : decode cX5_turn 68 = .ok (.iload 4, 2) := by decide +kernel
theorem dX5_turn_70 : decode cX5_turn 70 = .ok (.invokestatic 65, 3) := by decide +kernel
theorem dX5_turn_73 : decode cX5_turn 73 = .ok (.iadd, 1) := by decide +kernel
theorem dX5_turn_74 : decode cX5_turn 74 = .ok (.invokestatic 69, 3) := by decide +kernel
theorem dX5_turn_77 : decode cX5_turn 77 = .ok (.putfield 30, 3) := by decide +kernel
theorem dX5_turn_80 : decode cX5_turn 80 = .ok (.iload 4, 2) := by decide +kernel
theorem dX5_turn_82 : decode cX5_turn 82 = .ok (.bipush 11, 2) := by decide +kernel
theorem dX5_turn_84 : decode cX5_turn 84 = .ok (.if_icmp .ne 26, 3) := by decide +kernel
theorem dX5_turn_87 : decode cX5_turn 87 = .ok (.aload_n 0, 1) := by decide +kernel
theorem dX5_turn_88 : decode cX5_turn 88 = .ok (.ldc 81, 2) := by decide +kernel
theorem dX5_turn_90 : decode cX5_turn 90 = .ok (.aload_n 0, 1) := by decide +kernel
theorem dX5_turn_91 : decode cX5_turn 91 = .ok (.getfield 24, 3) := by decide +kernel
theorem dX5_turn_94 : decode cX5_turn 94 = .ok (.aload_n 0, 1) := by decide +kernel
theorem dX5_turn_95 : decode cX5_turn 95 = .ok (.getfield 24, 3) := by decide +kernel
theorem dX5_turn_98 : decode cX5_turn 98 = .ok (.iload_n 3, 1) := by decide +kernel
theorem dX5_turn_99 : decode cX5_turn 99 = .ok (.imul, 1) := by decide +kernel
theorem dX5_turn_100 : decode cX5_turn 100 = .ok (.bipush 100, 2) := by decide +kernel
theorem dX5_turn_102 : decode cX5_turn 102 = .ok (.idiv, 1) := by decide +kernel
theorem dX5_turn_103 : decode cX5_turn 103 = .ok (.iadd, 1) := by decide +kernel
theorem dX5_turn_104 : decode cX5_turn 104 = .ok (.invokestatic 69, 3) := by decide +kernel
theorem dX5_turn_107 : decode cX5_turn 107 = .ok (.putfield 24, 3) := by decide +kernel
theorem dX5_turn_110 : decode cX5_turn 110 = .ok (.aload_n 0, 1) := by decide +kernel
theorem dX5_turn_111 : decode cX5_turn 111 = .ok (.dup, 1) := by decide +kernel
theorem dX5_turn_112 : decode cX5_turn 112 = .ok (.getfield 31, 3) := by decide +kernel
theorem dX5_turn_115 : decode cX5_turn 115 = .ok (.iconst 1, 1) := by decide +kernel
theorem dX5_turn_116 : decode cX5_turn 116 = .ok (.iadd, 1) := by decide +kernel
theorem dX5_turn_117 : decode cX5_turn 117 = .ok (.putfield 31, 3) := by decide +kernel
theorem dX5_turn_120 : decode cX5_turn 120 = .ok (.return_, 1) := by decide +kernel
abbrev mt_X5_turn : AxM := (RX5, cX5_turn, 5, none, false, [])
theorem L1_X5_turn_25 {g : AxG} {l : Launch} {S9 : AxS} (N : Nat)  (v0 : Nat) (v2 : Nat) (v3 : Int32) (w0 : Int32) (w1 : Nat) (S : AxS) (h : F_X5_turn_25 N  v0 v2 v3 w0 w1 S = some S9) : AW g l (axRm (1) 0 0) mt_X5_turn (axMQ g 0 0 (.inl none, S9)) 0 0 S 25 [(0, .ref v0), (2, .ref v2), (3, .int v3)] [.int w0, .ref w1] := by
  unfold F_X5_turn_25 at h
  refine aw_putI axc5 3 rfl rfl wd_298 rfl rfl rfl dX5_turn_25 h (fun T1 h => ?_)
  refine aw_aload_n 0 dX5_turn_28 rfl rfl ?_
  refine aw_iconst 0 dX5_turn_29 rfl ?_
  refine aw_putI axc5 5 rfl rfl wd_302 rfl rfl rfl dX5_turn_30 h (fun T2 h => ?_)
  refine aw_aload_n 0 dX5_turn_33 rfl rfl ?_
  refine aw_iconst 0 dX5_turn_34 rfl ?_
  refine aw_putI axc5 9 rfl rfl wd_310 rfl rfl rfl dX5_turn_35 h (fun T3 h => ?_)
  refine aw_aload_n 0 dX5_turn_38 rfl rfl ?_
  refine aw_iconst 0 dX5_turn_39 rfl ?_
  refine aw_putI axc5 4 rfl rfl wd_300 rfl rfl rfl dX5_turn_40 h (fun T4 h => ?_)
  refine aw_aload_n 0 dX5_turn_43 rfl rfl ?_
  obtain ⟨hL5, h⟩ := ax_is_spec h
  refine aw_doneV (rest := []) h (fun S9 hF => aw_runV (As := []) (rest := []) (L1_X5_takeDown N hF) axc5 hL5 wd_926 wd_923 wd_925 wd_18 wd_93 pd_X5_takeDown rfl (ax_rm (by omega) rfl) ax_hf0 (Nat.le_of_ble_eq_true rfl) rfl dX5_turn_44) (fun T6 h => ?_)
  refine aw_aload_n 0 dX5_turn_47 rfl rfl ?_
  refine aw_getI axc5 2 rfl rfl wd_296 dX5_turn_48 h (fun x8 h => ?_)
  refine aw_bipush 12 dX5_turn_51 (by decide) ?_
  refine aw_irem dX5_turn_53 h (fun h => ?_)
  refine aw_istore [(4, .int (x8 - x8 / 12 * 12)), (0, .ref v0), (2, .ref v2), (3, .int v3)] dX5_turn_54 rfl rfl ?_
  refine aw_aload_n 1 dX5_turn_56 rfl rfl ?_
  refine aw_sipush 9999 dX5_turn_57 (by decide) ?_
  refine aw_aload_n 1 dX5_turn_60 rfl rfl ?_
  refine aw_getI axc5 1 rfl rfl wd_294 dX5_turn_61 h (fun x9 h => ?_)
  refine aw_aload_n 2 dX5_turn_64 rfl rfl ?_
  refine aw_getR axc1 7 rfl rfl wd_188 dX5_turn_65 h (fun a10 h => ?_)
  refine aw_iload 0 dX5_turn_68 rfl ?_
  refine aw_doneI (rest := [.int x9, .int 9999, .ref v0]) h (fun r9 S9 hF => aw_runSN (As := [.ref a10, .int (x8 - x8 / 12 * 12)]) (rest := [.int x9, .int 9999, .ref v0]) (L1_X9_at N hF) wd_541 wd_539 wd_540 wd_87 pd_X9_at.2 rfl (ax_rm (by omega) rfl) ax_hf0 (Nat.le_of_ble_eq_true rfl) rfl dX5_turn_70) (fun x12 T11 h => ?_)
  refine aw_iadd dX5_turn_73 ?_
  refine aw_doneI (rest := [.ref v0]) h (fun r9 S9 hF => aw_runS (As := [.int 9999, .int (x9 + x12)]) (rest := [.ref v0]) (L1_J9_min_7cf53 N hF) wd_563 wd_892 wd_562 wd_106 pd_J9_min_7cf53.2 rfl (ax_rm (by omega) rfl) ax_hf0 (Nat.le_of_ble_eq_true rfl) rfl dX5_turn_74) (fun x14 T13 h => ?_)
  refine aw_putI axc5 1 rfl rfl wd_294 rfl rfl rfl dX5_turn_77 h (fun T15 h => ?_)
  refine aw_iload 0 dX5_turn_80 rfl ?_
  refine aw_bipush 11 dX5_turn_82 (by decide) ?_
  refine aw_icmp_ne 110 dX5_turn_84 (by decide) h (fun h => ?_) (fun h => ?_)
  · refine aw_aload_n 1 dX5_turn_110 rfl rfl ?_
    refine aw_dup rfl dX5_turn_111 ?_
    refine aw_getI axc5 2 rfl rfl wd_296 dX5_turn_112 h (fun x16 h => ?_)
    refine aw_iconst 1 dX5_turn_115 rfl ?_
    refine aw_iadd dX5_turn_116 ?_
    refine aw_putI axc5 2 rfl rfl wd_296 rfl rfl rfl dX5_turn_117 h (fun T17 h => ?_)
    exact aw_vret dX5_turn_120 rfl (Nat.le_refl _) (Nat.le_refl _) h
  · refine aw_aload_n 1 dX5_turn_87 rfl rfl ?_
    refine aw_ldcI wd_927 dX5_turn_88 ?_
    refine aw_aload_n 1 dX5_turn_90 rfl rfl ?_
    refine aw_getI axc5 0 rfl rfl wd_292 dX5_turn_91 h (fun x18 h => ?_)
    refine aw_aload_n 1 dX5_turn_94 rfl rfl ?_
    refine aw_getI axc5 0 rfl rfl wd_292 dX5_turn_95 h (fun x19 h => ?_)
    refine aw_iload_n 3 dX5_turn_98 rfl rfl ?_
    refine aw_imul dX5_turn_99 ?_
    refine aw_bipush 100 dX5_turn_100 (by decide) ?_
    refine aw_idiv dX5_turn_102 h (fun h => ?_)
    refine aw_iadd dX5_turn_103 ?_
    refine aw_doneI (rest := [.ref v0]) h (fun r9 S9 hF => aw_runS (As := [.int 99999, .int (x18 + ((x19 * v3) / 100))]) (rest := [.ref v0]) (L1_J9_min_7cf53 N hF) wd_563 wd_892 wd_562 wd_106 pd_J9_min_7cf53.2 rfl (ax_rm (by omega) rfl) ax_hf0 (Nat.le_of_ble_eq_true rfl) rfl dX5_turn_104) (fun x21 T20 h => ?_)
    refine aw_putI axc5 0 rfl rfl wd_292 rfl rfl rfl dX5_turn_107 h (fun T22 h => ?_)
    refine aw_aload_n 1 dX5_turn_110 rfl rfl ?_
    refine aw_dup rfl dX5_turn_111 ?_
    refine aw_getI axc5 2 rfl rfl wd_296 dX5_turn_112 h (fun x23 h => ?_)
    refine aw_iconst 1 dX5_turn_115 rfl ?_
    refine aw_iadd dX5_turn_116 ?_
    refine aw_putI axc5 2 rfl rfl wd_296 rfl rfl rfl dX5_turn_117 h (fun T24 h => ?_)
    exact aw_vret dX5_turn_120 rfl (Nat.le_refl _) (Nat.le_refl _) h
theorem L1_X5_turn {g : AxG} {l : Launch} (N : Nat) {v0 : Nat} {v1 : Int32} {v2 : Nat} {v3 : Int32} {S : AxS} {S9 : AxS} (h : F_X5_turn N v0 v1 v2 v3 S = some S9) : AxMet g l yX5_turn cX5_turn 5 none (1) 0 0 [.ref v0, .int v1, .ref v2, .int v3] S ((.inl none, S9)) := by
  refine ax_met (own := RX5) (ini := false) (by decide +kernel) rfl (fun h => nomatch h) rfl ?_
  show AW g l (axRm (1) 0 0) mt_X5_turn (axMQ g 0 0 (.inl none, S9)) 0 0 S 0 [(0, .ref v0), (1, .int v1), (2, .ref v2), (3, .int v3)] []
  unfold F_X5_turn at h
  refine aw_aload_n 0 dX5_turn_0 rfl rfl ?_
  refine aw_dup rfl dX5_turn_1 ?_
  refine aw_getI axc5 10 rfl rfl wd_312 dX5_turn_2 h (fun x1 h => ?_)
  refine aw_iload_n 1 dX5_turn_5 rfl rfl ?_
  refine aw_iadd dX5_turn_6 ?_
  refine aw_putI axc5 10 rfl rfl wd_312 rfl rfl rfl dX5_turn_7 h (fun T2 h => ?_)
  refine aw_aload_n 0 dX5_turn_10 rfl rfl ?_
  refine aw_iload_n 1 dX5_turn_11 rfl rfl ?_
  refine aw_if_ne 24 dX5_turn_12 (by decide) h (fun h => ?_) (fun h => ?_)
  · refine aw_iconst 0 dX5_turn_24 rfl ?_
    refine aw_env [(0, .ref v0), (2, .ref v2), (3, .int v3)] [0, 2, 3] rfl ?_
    exact L1_X5_turn_25 N  v0 v2 v3 0 v0 T2 h
  · refine aw_aload_n 0 dX5_turn_15 rfl rfl ?_
    refine aw_getI axc5 3 rfl rfl wd_298 dX5_turn_16 h (fun x3 h => ?_)
    refine aw_iconst 1 dX5_turn_19 rfl ?_
    refine aw_iadd dX5_turn_20 ?_
    refine aw_goto 25 dX5_turn_21 (by decide) ?_
    refine aw_env [(0, .ref v0), (2, .ref v2), (3, .int v3)] [0, 2, 3] rfl ?_
    exact L1_X5_turn_25 N  v0 v2 v3 (x3 + 1) v0 T2 h

theorem dX6_stepKind_0 : decode cX6_stepKind 0 = .ok (.aload_n 0, 1) := by decide +kernel
theorem dX6_stepKind_1 : decode cX6_stepKind 1 = .ok (.ldc 79, 2) := by decide +kernel
theorem dX6_stepKind_3 : decode cX6_stepKind 3 = .ok (.invokevirtual 81, 3) := by decide +kernel
theorem dX6_stepKind_6 : decode cX6_stepKind 6 = .ok (.ifCond .eq 5, 3) := by decide +kernel
theorem dX6_stepKind_9 : decode cX6_stepKind 9 = .ok (.iconst 1, 1) := by decide +kernel
theorem dX6_stepKind_10 : decode cX6_stepKind 10 = .ok (.ireturn, 1) := by decide +kernel
theorem dX6_stepKind_11 : decode cX6_stepKind 11 = .ok (.aload_n 0, 1) := by decide +kernel
theorem dX6_stepKind_12 : decode cX6_stepKind 12 = .ok (.ldc 85, 2) := by decide +kernel
theorem dX6_stepKind_14 : decode cX6_stepKind 14 = .ok (.invokevirtual 81, 3) := by decide +kernel
theorem dX6_stepKind_17 : decode cX6_stepKind 17 = .ok (.ifCond .eq 5, 3) := by decide +kernel
theorem dX6_stepKind_20 : decode cX6_stepKind 20 = .ok (.iconst 2, 1) := by decide +kernel
theorem dX6_stepKind_21 : decode cX6_stepKind 21 = .ok (.ireturn, 1) := by decide +kernel
theorem dX6_stepKind_22 : decode cX6_stepKind 22 = .ok (.aload_n 0, 1) := by decide +kernel
theorem dX6_stepKind_23 : decode cX6_stepKind 23 = .ok (.ldc 87, 2) := by decide +kernel
theorem dX6_stepKind_25 : decode cX6_stepKind 25 = .ok (.invokevirtual 81, 3) := by decide +kernel
theorem dX6_stepKind_28 : decode cX6_stepKind 28 = .ok (.ifCond .eq 5, 3) := by decide +kernel
theorem dX6_stepKind_31 : decode cX6_stepKind 31 = .ok (.iconst 3, 1) := by decide +kernel
theorem dX6_stepKind_32 : decode cX6_stepKind 32 = .ok (.ireturn, 1) := by decide +kernel
theorem dX6_stepKind_33 : decode cX6_stepKind 33 = .ok (.aload_n 0, 1) := by decide +kernel
theorem dX6_stepKind_34 : decode cX6_stepKind 34 = .ok (.ldc 89, 2) := by decide +kernel
theorem dX6_stepKind_36 : decode cX6_stepKind 36 = .ok (.invokevirtual 81, 3) := by decide +kernel
theorem dX6_stepKind_39 : decode cX6_stepKind 39 = .ok (.ifCond .eq 5, 3) := by decide +kernel
theorem dX6_stepKind_42 : decode cX6_stepKind 42 = .ok (.iconst 4, 1) := by decide +kernel
theorem dX6_stepKind_43 : decode cX6_stepKind 43 = .ok (.ireturn, 1) := by decide +kernel
theorem dX6_stepKind_44 : decode cX6_stepKind 44 = .ok (.aload_n 0, 1) := by decide +kernel
theorem dX6_stepKind_45 : decode cX6_stepKind 45 = .ok (.ldc 91, 2) := by decide +kernel
theorem dX6_stepKind_47 : decode cX6_stepKind 47 = .ok (.invokevirtual 81, 3) := by decide +kernel
theorem dX6_stepKind_50 : decode cX6_stepKind 50 = .ok (.ifCond .eq 5, 3) := by decide +kernel
theorem dX6_stepKind_53 : decode cX6_stepKind 53 = .ok (.iconst 5, 1) := by decide +kernel
theorem dX6_stepKind_54 : decode cX6_stepKind 54 = .ok (.ireturn, 1) := by decide +kernel
theorem dX6_stepKind_55 : decode cX6_stepKind 55 = .ok (.aload_n 0, 1) := by decide +kernel
theorem dX6_stepKind_56 : decode cX6_stepKind 56 = .ok (.ldc 93, 2) := by decide +kernel
theorem dX6_stepKind_58 : decode cX6_stepKind 58 = .ok (.invokevirtual 81, 3) := by decide +kernel
theorem dX6_stepKind_61 : decode cX6_stepKind 61 = .ok (.ifCond .eq 6, 3) := by decide +kernel
theorem dX6_stepKind_64 : decode cX6_stepKind 64 = .ok (.bipush 6, 2) := by decide +kernel
theorem dX6_stepKind_66 : decode cX6_stepKind 66 = .ok (.ireturn, 1) := by decide +kernel
theorem dX6_stepKind_67 : decode cX6_stepKind 67 = .ok (.aload_n 0, 1) := by decide +kernel
theorem dX6_stepKind_68 : decode cX6_stepKind 68 = .ok (.ldc 95, 2) := by decide +kernel
theorem dX6_stepKind_70 : decode cX6_stepKind 70 = .ok (.invokevirtual 81, 3) := by decide +kernel
theorem dX6_stepKind_73 : decode cX6_stepKind 73 = .ok (.ifCond .eq 8, 3) := by decide +kernel
theorem dX6_stepKind_76 : decode cX6_stepKind 76 = .ok (.bipush 7, 2) := by decide +kernel
theorem dX6_stepKind_78 : decode cX6_stepKind 78 = .ok (.goto 4, 3) := by decide +kernel
theorem dX6_stepKind_81 : decode cX6_stepKind 81 = .ok (.iconst 0, 1) := by decide +kernel
theorem dX6_stepKind_82 : decode cX6_stepKind 82 = .ok (.ireturn, 1) := by decide +kernel
abbrev mt_X6_stepKind : AxM := (RX6, cX6_stepKind, 1, (some .int), false, [])
theorem L1_X6_stepKind {g : AxG} {l : Launch} (N : Nat) {v0 : Nat} {S : AxS} {r9 : Int32} {S9 : AxS} (h : F_X6_stepKind N v0 S = some ((r9, S9))) : AxMet g l yX6_stepKind cX6_stepKind 1 (some .int) (5) 0 0 [.ref v0] S ((.inl (some (.int r9)), S9)) := by
  refine ax_met (own := RX6) (ini := false) (by decide +kernel) rfl (fun h => nomatch h) rfl ?_
  show AW g l (axRm (5) 0 0) mt_X6_stepKind (axMQ g 0 0 (.inl (some (.int r9)), S9)) 0 0 S 0 [(0, .ref v0)] []
  unfold F_X6_stepKind at h
  refine aw_aload_n 0 dX6_stepKind_0 rfl rfl ?_
  refine aw_ldcS 18 (i := 79) (tx := "pay") rfl dX6_stepKind_1 ?_
  obtain ⟨hL1, h⟩ := ax_is_spec h
  refine aw_doneI (rest := []) h (fun r9 S9 hF => aw_runV (As := [.ref (axTx S 18)]) (rest := []) (L1_X7_isWord N hF) axc7 hL1 wd_701 wd_851 wd_699 wd_700 wd_88 pd_X7_isWord rfl (ax_rm (by omega) rfl) ax_hf0 (Nat.le_of_ble_eq_true rfl) rfl dX6_stepKind_3) (fun x3 T2 h => ?_)
  refine aw_if_eq 11 dX6_stepKind_6 (by decide) h (fun h => ?_) (fun h => ?_)
  · refine aw_aload_n 0 dX6_stepKind_11 rfl rfl ?_
    refine aw_ldcS 19 (i := 85) (tx := "alms") rfl dX6_stepKind_12 ?_
    obtain ⟨hL4, h⟩ := ax_is_spec h
    refine aw_doneI (rest := []) h (fun r9 S9 hF => aw_runV (As := [.ref (axTx T2 19)]) (rest := []) (L1_X7_isWord N hF) axc7 hL4 wd_701 wd_851 wd_699 wd_700 wd_88 pd_X7_isWord rfl (ax_rm (by omega) rfl) ax_hf0 (Nat.le_of_ble_eq_true rfl) rfl dX6_stepKind_14) (fun x6 T5 h => ?_)
    refine aw_if_eq 22 dX6_stepKind_17 (by decide) h (fun h => ?_) (fun h => ?_)
    · refine aw_aload_n 0 dX6_stepKind_22 rfl rfl ?_
      refine aw_ldcS 20 (i := 87) (tx := "wax") rfl dX6_stepKind_23 ?_
      obtain ⟨hL7, h⟩ := ax_is_spec h
      refine aw_doneI (rest := []) h (fun r9 S9 hF => aw_runV (As := [.ref (axTx T5 20)]) (rest := []) (L1_X7_isWord N hF) axc7 hL7 wd_701 wd_851 wd_699 wd_700 wd_88 pd_X7_isWord rfl (ax_rm (by omega) rfl) ax_hf0 (Nat.le_of_ble_eq_true rfl) rfl dX6_stepKind_25) (fun x9 T8 h => ?_)
      refine aw_if_eq 33 dX6_stepKind_28 (by decide) h (fun h => ?_) (fun h => ?_)
      · refine aw_aload_n 0 dX6_stepKind_33 rfl rfl ?_
        refine aw_ldcS 21 (i := 89) (tx := "receipt") rfl dX6_stepKind_34 ?_
        obtain ⟨hL10, h⟩ := ax_is_spec h
        refine aw_doneI (rest := []) h (fun r9 S9 hF => aw_runV (As := [.ref (axTx T8 21)]) (rest := []) (L1_X7_isWord N hF) axc7 hL10 wd_701 wd_851 wd_699 wd_700 wd_88 pd_X7_isWord rfl (ax_rm (by omega) rfl) ax_hf0 (Nat.le_of_ble_eq_true rfl) rfl dX6_stepKind_36) (fun x12 T11 h => ?_)
        refine aw_if_eq 44 dX6_stepKind_39 (by decide) h (fun h => ?_) (fun h => ?_)
        · refine aw_aload_n 0 dX6_stepKind_44 rfl rfl ?_
          refine aw_ldcS 22 (i := 91) (tx := "swap") rfl dX6_stepKind_45 ?_
          obtain ⟨hL13, h⟩ := ax_is_spec h
          refine aw_doneI (rest := []) h (fun r9 S9 hF => aw_runV (As := [.ref (axTx T11 22)]) (rest := []) (L1_X7_isWord N hF) axc7 hL13 wd_701 wd_851 wd_699 wd_700 wd_88 pd_X7_isWord rfl (ax_rm (by omega) rfl) ax_hf0 (Nat.le_of_ble_eq_true rfl) rfl dX6_stepKind_47) (fun x15 T14 h => ?_)
          refine aw_if_eq 55 dX6_stepKind_50 (by decide) h (fun h => ?_) (fun h => ?_)
          · refine aw_aload_n 0 dX6_stepKind_55 rfl rfl ?_
            refine aw_ldcS 23 (i := 93) (tx := "night") rfl dX6_stepKind_56 ?_
            obtain ⟨hL16, h⟩ := ax_is_spec h
            refine aw_doneI (rest := []) h (fun r9 S9 hF => aw_runV (As := [.ref (axTx T14 23)]) (rest := []) (L1_X7_isWord N hF) axc7 hL16 wd_701 wd_851 wd_699 wd_700 wd_88 pd_X7_isWord rfl (ax_rm (by omega) rfl) ax_hf0 (Nat.le_of_ble_eq_true rfl) rfl dX6_stepKind_58) (fun x18 T17 h => ?_)
            refine aw_if_eq 67 dX6_stepKind_61 (by decide) h (fun h => ?_) (fun h => ?_)
            · refine aw_aload_n 0 dX6_stepKind_67 rfl rfl ?_
              refine aw_ldcS 24 (i := 95) (tx := "again") rfl dX6_stepKind_68 ?_
              obtain ⟨hL19, h⟩ := ax_is_spec h
              refine aw_doneI (rest := []) h (fun r9 S9 hF => aw_runV (As := [.ref (axTx T17 24)]) (rest := []) (L1_X7_isWord N hF) axc7 hL19 wd_701 wd_851 wd_699 wd_700 wd_88 pd_X7_isWord rfl (ax_rm (by omega) rfl) ax_hf0 (Nat.le_of_ble_eq_true rfl) rfl dX6_stepKind_70) (fun x21 T20 h => ?_)
              refine aw_if_eq 81 dX6_stepKind_73 (by decide) h (fun h => ?_) (fun h => ?_)
              · refine aw_iconst 0 dX6_stepKind_81 rfl ?_
                exact aw_iret dX6_stepKind_82 rfl (Nat.le_refl _) (Nat.le_refl _) h
              · refine aw_bipush 7 dX6_stepKind_76 (by decide) ?_
                refine aw_goto 82 dX6_stepKind_78 (by decide) ?_
                exact aw_iret dX6_stepKind_82 rfl (Nat.le_refl _) (Nat.le_refl _) h
            · refine aw_bipush 6 dX6_stepKind_64 (by decide) ?_
              exact aw_iret dX6_stepKind_66 rfl (Nat.le_refl _) (Nat.le_refl _) h
          · refine aw_iconst 5 dX6_stepKind_53 rfl ?_
            exact aw_iret dX6_stepKind_54 rfl (Nat.le_refl _) (Nat.le_refl _) h
        · refine aw_iconst 4 dX6_stepKind_42 rfl ?_
          exact aw_iret dX6_stepKind_43 rfl (Nat.le_refl _) (Nat.le_refl _) h
      · refine aw_iconst 3 dX6_stepKind_31 rfl ?_
        exact aw_iret dX6_stepKind_32 rfl (Nat.le_refl _) (Nat.le_refl _) h
    · refine aw_iconst 2 dX6_stepKind_20 rfl ?_
      exact aw_iret dX6_stepKind_21 rfl (Nat.le_refl _) (Nat.le_refl _) h
  · refine aw_iconst 1 dX6_stepKind_9 rfl ?_
    exact aw_iret dX6_stepKind_10 rfl (Nat.le_refl _) (Nat.le_refl _) h

theorem dX6_readNumbers_0 : decode cX6_readNumbers 0 = .ok (.iload 4, 2) := by decide +kernel
theorem dX6_readNumbers_2 : decode cX6_readNumbers 2 = .ok (.tableswitch 142 1 7 #[42, 61, 142, 42, 83, 142, 124], 42) := by decide +kernel
theorem dX6_readNumbers_44 : decode cX6_readNumbers 44 = .ok (.aload_n 0, 1) := by decide +kernel
theorem dX6_readNumbers_45 : decode cX6_readNumbers 45 = .ok (.getfield 15, 3) := by decide +kernel
theorem dX6_readNumbers_48 : decode cX6_readNumbers 48 = .ok (.iload_n 3, 1) := by decide +kernel
theorem dX6_readNumbers_49 : decode cX6_readNumbers 49 = .ok (.aload_n 1, 1) := by decide +kernel
theorem dX6_readNumbers_50 : decode cX6_readNumbers 50 = .ok (.iconst 1, 1) := by decide +kernel
theorem dX6_readNumbers_51 : decode cX6_readNumbers 51 = .ok (.sipush 999, 3) := by decide +kernel
theorem dX6_readNumbers_54 : decode cX6_readNumbers 54 = .ok (.invokevirtual 67, 3) := by decide +kernel
theorem dX6_readNumbers_57 : decode cX6_readNumbers 57 = .ok (.invokestatic 55, 3) := by decide +kernel
theorem dX6_readNumbers_60 : decode cX6_readNumbers 60 = .ok (.goto 84, 3) := by decide +kernel
theorem dX6_readNumbers_63 : decode cX6_readNumbers 63 = .ok (.aload_n 0, 1) := by decide +kernel
theorem dX6_readNumbers_64 : decode cX6_readNumbers 64 = .ok (.getfield 15, 3) := by decide +kernel
theorem dX6_readNumbers_67 : decode cX6_readNumbers 67 = .ok (.iload_n 3, 1) := by decide +kernel
theorem dX6_readNumbers_68 : decode cX6_readNumbers 68 = .ok (.aload_n 1, 1) := by decide +kernel
theorem dX6_readNumbers_69 : decode cX6_readNumbers 69 = .ok (.iconst 0, 1) := by decide +kernel
theorem dX6_readNumbers_70 : decode cX6_readNumbers 70 = .ok (.aload_n 2, 1) := by decide +kernel
theorem dX6_readNumbers_71 : decode cX6_readNumbers 71 = .ok (.getfield 71, 3) := by decide +kernel
theorem dX6_readNumbers_74 : decode cX6_readNumbers 74 = .ok (.iconst 1, 1) := by decide +kernel
theorem dX6_readNumbers_75 : decode cX6_readNumbers 75 = .ok (.isub, 1) := by decide +kernel
theorem dX6_readNumbers_76 : decode cX6_readNumbers 76 = .ok (.invokevirtual 67, 3) := by decide +kernel
theorem dX6_readNumbers_79 : decode cX6_readNumbers 79 = .ok (.invokestatic 55, 3) := by decide +kernel
theorem dX6_readNumbers_82 : decode cX6_readNumbers 82 = .ok (.goto 62, 3) := by decide +kernel
theorem dX6_readNumbers_85 : decode cX6_readNumbers 85 = .ok (.aload_n 0, 1) := by decide +kernel
theorem dX6_readNumbers_86 : decode cX6_readNumbers 86 = .ok (.getfield 15, 3) := by decide +kernel
theorem dX6_readNumbers_89 : decode cX6_readNumbers 89 = .ok (.iload_n 3, 1) := by decide +kernel
theorem dX6_readNumbers_90 : decode cX6_readNumbers 90 = .ok (.aload_n 1, 1) := by decide +kernel
theorem dX6_readNumbers_91 : decode cX6_readNumbers 91 = .ok (.iconst 0, 1) := by decide +kernel
theorem dX6_readNumbers_92 : decode cX6_readNumbers 92 = .ok (.aload_n 2, 1) := by decide +kernel
theorem dX6_readNumbers_93 : decode cX6_readNumbers 93 = .ok (.getfield 76, 3) := by decide +kernel
theorem dX6_readNumbers_96 : decode cX6_readNumbers 96 = .ok (.iconst 1, 1) := by decide +kernel
theorem dX6_readNumbers_97 : decode cX6_readNumbers 97 = .ok (.isub, 1) := by decide +kernel
theorem dX6_readNumbers_98 : decode cX6_readNumbers 98 = .ok (.invokevirtual 67, 3) := by decide +kernel
theorem dX6_readNumbers_101 : decode cX6_readNumbers 101 = .ok (.invokestatic 55, 3) := by decide +kernel
theorem dX6_readNumbers_104 : decode cX6_readNumbers 104 = .ok (.aload_n 0, 1) := by decide +kernel
theorem dX6_readNumbers_105 : decode cX6_readNumbers 105 = .ok (.getfield 18, 3) := by decide +kernel
theorem dX6_readNumbers_108 : decode cX6_readNumbers 108 = .ok (.iload_n 3, 1) := by decide +kernel
theorem dX6_readNumbers_109 : decode cX6_readNumbers 109 = .ok (.aload_n 1, 1) := by decide +kernel
theorem dX6_readNumbers_110 : decode cX6_readNumbers 110 = .ok (.iconst 0, 1) := by decide +kernel
theorem dX6_readNumbers_111 : decode cX6_readNumbers 111 = .ok (.aload_n 2, 1) := by decide +kernel
theorem dX6_readNumbers_112 : decode cX6_readNumbers 112 = .ok (.getfield 76, 3) := by decide +kernel
theorem dX6_readNumbers_115 : decode cX6_readNumbers 115 = .ok (.iconst 1, 1) := by decide +kernel
theorem dX6_readNumbers_116 : decode cX6_readNumbers 116 = .ok (.isub, 1) := by decide +kernel
theorem dX6_readNumbers_117 : decode cX6_readNumbers 117 = .ok (.invokevirtual 67, 3) := by decide +kernel
theorem dX6_readNumbers_120 : decode cX6_readNumbers 120 = .ok (.invokestatic 55, 3) := by decide +kernel
theorem dX6_readNumbers_123 : decode cX6_readNumbers 123 = .ok (.goto 21, 3) := by decide +kernel
theorem dX6_readNumbers_126 : decode cX6_readNumbers 126 = .ok (.aload_n 0, 1) := by decide +kernel
theorem dX6_readNumbers_127 : decode cX6_readNumbers 127 = .ok (.getfield 15, 3) := by decide +kernel
theorem dX6_readNumbers_130 : decode cX6_readNumbers 130 = .ok (.iload_n 3, 1) := by decide +kernel
theorem dX6_readNumbers_131 : decode cX6_readNumbers 131 = .ok (.aload_n 1, 1) := by decide +kernel
theorem dX6_readNumbers_132 : decode cX6_readNumbers 132 = .ok (.iconst 0, 1) := by decide +kernel
theorem dX6_readNumbers_133 : decode cX6_readNumbers 133 = .ok (.bipush 30, 2) := by decide +kernel
theorem dX6_readNumbers_135 : decode cX6_readNumbers 135 = .ok (.invokevirtual 67, 3) := by decide +kernel
theorem dX6_readNumbers_138 : decode cX6_readNumbers 138 = .ok (.invokestatic 55, 3) := by decide +kernel
theorem dX6_readNumbers_141 : decode cX6_readNumbers 141 = .ok (.goto 3, 3) := by decide +kernel
theorem dX6_readNumbers_144 : decode cX6_readNumbers 144 = .ok (.return_, 1) := by decide +kernel
abbrev mt_X6_readNumbers : AxM := (RX6, cX6_readNumbers, 5, none, false, [])
theorem L1_X6_readNumbers_44 {g : AxG} {l : Launch} {S9 : AxS} (N : Nat)  (v0 : Nat) (v1 : Nat) (v3 : Int32) (S : AxS) (h : F_X6_readNumbers_44 N  v0 v1 v3 S = some S9) : AW g l (axRm (3) 0 0) mt_X6_readNumbers (axMQ g 0 0 (.inl none, S9)) 0 0 S 44 [(0, .ref v0), (1, .ref v1), (3, .int v3)] [] := by
  unfold F_X6_readNumbers_44 at h
  refine aw_aload_n 0 dX6_readNumbers_44 rfl rfl ?_
  refine aw_getR axc6 1 rfl rfl wd_265 dX6_readNumbers_45 h (fun a1 h => ?_)
  refine aw_iload_n 2 dX6_readNumbers_48 rfl rfl ?_
  refine aw_aload_n 1 dX6_readNumbers_49 rfl rfl ?_
  refine aw_iconst 1 dX6_readNumbers_50 rfl ?_
  refine aw_sipush 999 dX6_readNumbers_51 (by decide) ?_
  obtain ⟨hL2, h⟩ := ax_is_spec h
  refine aw_doneI (rest := [.int v3, .ref a1]) h (fun r9 S9 hF => aw_runV (As := [.int 1, .int 999]) (rest := [.int v3, .ref a1]) (L1_X7_number N hF) axc7 hL2 wd_772 wd_864 wd_770 wd_771 wd_88 pd_X7_number rfl (ax_rm (by omega) rfl) ax_hf0 (Nat.le_of_ble_eq_true rfl) rfl dX6_readNumbers_54) (fun x4 T3 h => ?_)
  refine aw_doneV (rest := []) h (fun S9 hF => aw_runSN (As := [.ref a1, .int v3, .int x4]) (rest := []) (L1_X9_put N hF) wd_443 wd_859 wd_442 wd_87 pd_X9_put.2 rfl (ax_rm (by omega) rfl) ax_hf0 (Nat.le_of_ble_eq_true rfl) rfl dX6_readNumbers_57) (fun T5 h => ?_)
  refine aw_goto 144 dX6_readNumbers_60 (by decide) ?_
  exact aw_vret dX6_readNumbers_144 rfl (Nat.le_refl _) (Nat.le_refl _) h
theorem L1_X6_readNumbers {g : AxG} {l : Launch} (N : Nat) {v0 : Nat} {v1 : Nat} {v2 : Nat} {v3 : Int32} {v4 : Int32} {S : AxS} {S9 : AxS} (h : F_X6_readNumbers N v0 v1 v2 v3 v4 S = some S9) : AxMet g l yX6_readNumbers cX6_readNumbers 5 none (3) 0 0 [.ref v0, .ref v1, .ref v2, .int v3, .int v4] S ((.inl none, S9)) := by
  refine ax_met (own := RX6) (ini := false) (by decide +kernel) rfl (fun h => nomatch h) rfl ?_
  show AW g l (axRm (3) 0 0) mt_X6_readNumbers (axMQ g 0 0 (.inl none, S9)) 0 0 S 0 [(0, .ref v0), (1, .ref v1), (2, .ref v2), (3, .int v3), (4, .int v4)] []
  unfold F_X6_readNumbers at h
  refine aw_iload 4 dX6_readNumbers_0 rfl ?_
  refine aw_case 1 h (fun h => ?_) (fun c1 h => ?_)
  · refine aw_tswIn 44 (off := 42) dX6_readNumbers_2 (by decide) (by decide) (by decide) (by decide) ?_
    refine aw_env [(0, .ref v0), (1, .ref v1), (3, .int v3)] [0, 1, 3] rfl ?_
    exact L1_X6_readNumbers_44 N  v0 v1 v3 S h
  refine aw_case 2 h (fun h => ?_) (fun c9 h => ?_)
  · refine aw_tswIn 63 (off := 61) dX6_readNumbers_2 (by decide) (by decide) (by decide) (by decide) ?_
    refine aw_aload_n 0 dX6_readNumbers_63 rfl rfl ?_
    refine aw_getR axc6 1 rfl rfl wd_265 dX6_readNumbers_64 h (fun a2 h => ?_)
    refine aw_iload_n 3 dX6_readNumbers_67 rfl rfl ?_
    refine aw_aload_n 1 dX6_readNumbers_68 rfl rfl ?_
    refine aw_iconst 0 dX6_readNumbers_69 rfl ?_
    refine aw_aload_n 2 dX6_readNumbers_70 rfl rfl ?_
    refine aw_getI axc1 3 rfl rfl wd_178 dX6_readNumbers_71 h (fun x3 h => ?_)
    refine aw_iconst 1 dX6_readNumbers_74 rfl ?_
    refine aw_isub dX6_readNumbers_75 ?_
    obtain ⟨hL4, h⟩ := ax_is_spec h
    refine aw_doneI (rest := [.int v3, .ref a2]) h (fun r9 S9 hF => aw_runV (As := [.int 0, .int (x3 - 1)]) (rest := [.int v3, .ref a2]) (L1_X7_number N hF) axc7 hL4 wd_772 wd_864 wd_770 wd_771 wd_88 pd_X7_number rfl (ax_rm (by omega) rfl) ax_hf0 (Nat.le_of_ble_eq_true rfl) rfl dX6_readNumbers_76) (fun x6 T5 h => ?_)
    refine aw_doneV (rest := []) h (fun S9 hF => aw_runSN (As := [.ref a2, .int v3, .int x6]) (rest := []) (L1_X9_put N hF) wd_443 wd_859 wd_442 wd_87 pd_X9_put.2 rfl (ax_rm (by omega) rfl) ax_hf0 (Nat.le_of_ble_eq_true rfl) rfl dX6_readNumbers_79) (fun T7 h => ?_)
    refine aw_goto 144 dX6_readNumbers_82 (by decide) ?_
    exact aw_vret dX6_readNumbers_144 rfl (Nat.le_refl _) (Nat.le_refl _) h
  refine aw_case 3 h (fun h => ?_) (fun c10 h => ?_)
  · refine aw_tswIn 144 (off := 142) dX6_readNumbers_2 (by decide) (by decide) (by decide) (by decide) ?_
    exact aw_vret dX6_readNumbers_144 rfl (Nat.le_refl _) (Nat.le_refl _) h
  refine aw_case 4 h (fun h => ?_) (fun c11 h => ?_)
  · refine aw_tswIn 44 (off := 42) dX6_readNumbers_2 (by decide) (by decide) (by decide) (by decide) ?_
    refine aw_env [(0, .ref v0), (1, .ref v1), (3, .int v3)] [0, 1, 3] rfl ?_
    exact L1_X6_readNumbers_44 N  v0 v1 v3 S h
  refine aw_case 5 h (fun h => ?_) (fun c26 h => ?_)
  · refine aw_tswIn 85 (off := 83) dX6_readNumbers_2 (by decide) (by decide) (by decide) (by decide) ?_
    refine aw_aload_n 0 dX6_readNumbers_85 rfl rfl ?_
    refine aw_getR axc6 1 rfl rfl wd_265 dX6_readNumbers_86 h (fun a12 h => ?_)
    refine aw_iload_n 3 dX6_readNumbers_89 rfl rfl ?_
    refine aw_aload_n 1 dX6_readNumbers_90 rfl rfl ?_
    refine aw_iconst 0 dX6_readNumbers_91 rfl ?_
    refine aw_aload_n 2 dX6_readNumbers_92 rfl rfl ?_
    refine aw_getI axc1 5 rfl rfl wd_184 dX6_readNumbers_93 h (fun x13 h => ?_)
    refine aw_iconst 1 dX6_readNumbers_96 rfl ?_
    refine aw_isub dX6_readNumbers_97 ?_
    obtain ⟨hL14, h⟩ := ax_is_spec h
    refine aw_doneI (rest := [.int v3, .ref a12]) h (fun r9 S9 hF => aw_runV (As := [.int 0, .int (x13 - 1)]) (rest := [.int v3, .ref a12]) (L1_X7_number N hF) axc7 hL14 wd_772 wd_864 wd_770 wd_771 wd_88 pd_X7_number rfl (ax_rm (by omega) rfl) ax_hf0 (Nat.le_of_ble_eq_true rfl) rfl dX6_readNumbers_98) (fun x16 T15 h => ?_)
    refine aw_doneV (rest := []) h (fun S9 hF => aw_runSN (As := [.ref a12, .int v3, .int x16]) (rest := []) (L1_X9_put N hF) wd_443 wd_859 wd_442 wd_87 pd_X9_put.2 rfl (ax_rm (by omega) rfl) ax_hf0 (Nat.le_of_ble_eq_true rfl) rfl dX6_readNumbers_101) (fun T17 h => ?_)
    refine aw_aload_n 0 dX6_readNumbers_104 rfl rfl ?_
    refine aw_getR axc6 2 rfl rfl wd_267 dX6_readNumbers_105 h (fun a19 h => ?_)
    refine aw_iload_n 3 dX6_readNumbers_108 rfl rfl ?_
    refine aw_aload_n 1 dX6_readNumbers_109 rfl rfl ?_
    refine aw_iconst 0 dX6_readNumbers_110 rfl ?_
    refine aw_aload_n 2 dX6_readNumbers_111 rfl rfl ?_
    refine aw_getI axc1 5 rfl rfl wd_184 dX6_readNumbers_112 h (fun x20 h => ?_)
    refine aw_iconst 1 dX6_readNumbers_115 rfl ?_
    refine aw_isub dX6_readNumbers_116 ?_
    obtain ⟨hL21, h⟩ := ax_is_spec h
    refine aw_doneI (rest := [.int v3, .ref a19]) h (fun r9 S9 hF => aw_runV (As := [.int 0, .int (x20 - 1)]) (rest := [.int v3, .ref a19]) (L1_X7_number N hF) axc7 hL21 wd_772 wd_864 wd_770 wd_771 wd_88 pd_X7_number rfl (ax_rm (by omega) rfl) ax_hf0 (Nat.le_of_ble_eq_true rfl) rfl dX6_readNumbers_117) (fun x23 T22 h => ?_)
    refine aw_doneV (rest := []) h (fun S9 hF => aw_runSN (As := [.ref a19, .int v3, .int x23]) (rest := []) (L1_X9_put N hF) wd_443 wd_859 wd_442 wd_87 pd_X9_put.2 rfl (ax_rm (by omega) rfl) ax_hf0 (Nat.le_of_ble_eq_true rfl) rfl dX6_readNumbers_120) (fun T24 h => ?_)
    refine aw_goto 144 dX6_readNumbers_123 (by decide) ?_
    exact aw_vret dX6_readNumbers_144 rfl (Nat.le_refl _) (Nat.le_refl _) h
  refine aw_case 6 h (fun h => ?_) (fun c27 h => ?_)
  · refine aw_tswIn 144 (off := 142) dX6_readNumbers_2 (by decide) (by decide) (by decide) (by decide) ?_
    exact aw_vret dX6_readNumbers_144 rfl (Nat.le_refl _) (Nat.le_refl _) h
  refine aw_case 7 h (fun h => ?_) (fun c34 h => ?_)
  · refine aw_tswIn 126 (off := 124) dX6_readNumbers_2 (by decide) (by decide) (by decide) (by decide) ?_
    refine aw_aload_n 0 dX6_readNumbers_126 rfl rfl ?_
    refine aw_getR axc6 1 rfl rfl wd_265 dX6_readNumbers_127 h (fun a28 h => ?_)
    refine aw_iload_n 3 dX6_readNumbers_130 rfl rfl ?_
    refine aw_aload_n 1 dX6_readNumbers_131 rfl rfl ?_
    refine aw_iconst 0 dX6_readNumbers_132 rfl ?_
    refine aw_bipush 30 dX6_readNumbers_133 (by decide) ?_
    obtain ⟨hL29, h⟩ := ax_is_spec h
    refine aw_doneI (rest := [.int v3, .ref a28]) h (fun r9 S9 hF => aw_runV (As := [.int 0, .int 30]) (rest := [.int v3, .ref a28]) (L1_X7_number N hF) axc7 hL29 wd_772 wd_864 wd_770 wd_771 wd_88 pd_X7_number rfl (ax_rm (by omega) rfl) ax_hf0 (Nat.le_of_ble_eq_true rfl) rfl dX6_readNumbers_135) (fun x31 T30 h => ?_)
    refine aw_doneV (rest := []) h (fun S9 hF => aw_runSN (As := [.ref a28, .int v3, .int x31]) (rest := []) (L1_X9_put N hF) wd_443 wd_859 wd_442 wd_87 pd_X9_put.2 rfl (ax_rm (by omega) rfl) ax_hf0 (Nat.le_of_ble_eq_true rfl) rfl dX6_readNumbers_138) (fun T32 h => ?_)
    refine aw_goto 144 dX6_readNumbers_141 (by decide) ?_
    exact aw_vret dX6_readNumbers_144 rfl (Nat.le_refl _) (Nat.le_refl _) h
  refine aw_tswOut 144 dX6_readNumbers_2 (by have q0 := ax_i32ne c1 (v := 1) (i := 1) (by decide); have q1 := ax_i32ne c9 (v := 2) (i := 2) (by decide); have q2 := ax_i32ne c10 (v := 3) (i := 3) (by decide); have q3 := ax_i32ne c11 (v := 4) (i := 4) (by decide); have q4 := ax_i32ne c26 (v := 5) (i := 5) (by decide); have q5 := ax_i32ne c27 (v := 6) (i := 6) (by decide); have q6 := ax_i32ne c34 (v := 7) (i := 7) (by decide); omega) (by decide) ?_
  exact aw_vret dX6_readNumbers_144 rfl (Nat.le_refl _) (Nat.le_refl _) h
