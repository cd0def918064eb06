theorem dX0_init_0 : decode cX0_init 0 = .ok (.aload_n 0, 1) := by decide +kernel
theorem dX0_init_1 : decode cX0_init 1 = .ok (.invokespecial 3, 3) := by decide +kernel
theorem dX0_init_4 : decode cX0_init 4 = .ok (.aload_n 0, 1) := by decide +kernel
theorem dX0_init_5 : decode cX0_init 5 = .ok (.bipush 60, 2) := by decide +kernel
theorem dX0_init_7 : decode cX0_init 7 = .ok (.newarray .int, 2) := by decide +kernel
theorem dX0_init_9 : decode cX0_init 9 = .ok (.putfield 9, 3) := by decide +kernel
theorem dX0_init_12 : decode cX0_init 12 = .ok (.return_, 1) := by decide +kernel
abbrev mt_X0_init : AxM := (RX0, cX0_init, 1, none, true, [])
theorem L1_X0_init {g : AxG} {l : Launch} (N : Nat) {v0 : Nat} {S : AxS} {S9 : AxS} (h : F_X0_init N v0 S = some S9) : AxMet g l yX0_init cX0_init 1 none (8) 1 60 [.ref v0] S ((.inl none, S9)) := by
  refine ax_met (own := RX0) (ini := true) (by decide +kernel) rfl (fun h => rfl) rfl ?_
  show AW g l (axRm (8) 1 60) mt_X0_init (axMQ g 1 60 (.inl none, S9)) 0 0 S 0 [(0, .ref v0)] []
  unfold F_X0_init at h
  refine aw_aload_n 0 dX0_init_0 rfl rfl ?_
  refine aw_objInit wd_246 wd_115 wd_116 rfl dX0_init_1 rfl ?_
  refine aw_aload_n 0 dX0_init_4 rfl rfl ?_
  refine aw_bipush 60 dX0_init_5 (by decide) ?_
  refine aw_newI (N := 60) wd_160 dX0_init_7 (by decide) (by decide) rfl (by show _ ≤ (1 : Nat); omega) (by show _ ≤ (60 : Nat); omega) h (fun q1 T2 h => ?_)
  refine aw_putR axc0 0 rfl rfl wd_247 (Or.inr ⟨rfl, rfl, rfl⟩) rfl rfl dX0_init_9 h (fun T3 h => ?_)
  exact aw_vret dX0_init_12 rfl (by omega) (by omega) h

theorem dX1_init_0 : decode cX1_init 0 = .ok (.aload_n 0, 1) := by decide +kernel
theorem dX1_init_1 : decode cX1_init 1 = .ok (.invokespecial 3, 3) := by decide +kernel
theorem dX1_init_4 : decode cX1_init 4 = .ok (.aload_n 0, 1) := by decide +kernel
theorem dX1_init_5 : decode cX1_init 5 = .ok (.bipush 12, 2) := by decide +kernel
theorem dX1_init_7 : decode cX1_init 7 = .ok (.newarray .int, 2) := by decide +kernel
theorem dX1_init_9 : decode cX1_init 9 = .ok (.putfield 9, 3) := by decide +kernel
theorem dX1_init_12 : decode cX1_init 12 = .ok (.aload_n 0, 1) := by decide +kernel
theorem dX1_init_13 : decode cX1_init 13 = .ok (.bipush 6, 2) := by decide +kernel
theorem dX1_init_15 : decode cX1_init 15 = .ok (.newarray .int, 2) := by decide +kernel
theorem dX1_init_17 : decode cX1_init 17 = .ok (.putfield 15, 3) := by decide +kernel
theorem dX1_init_20 : decode cX1_init 20 = .ok (.aload_n 0, 1) := by decide +kernel
theorem dX1_init_21 : decode cX1_init 21 = .ok (.bipush 8, 2) := by decide +kernel
theorem dX1_init_23 : decode cX1_init 23 = .ok (.newarray .int, 2) := by decide +kernel
theorem dX1_init_25 : decode cX1_init 25 = .ok (.putfield 18, 3) := by decide +kernel
theorem dX1_init_28 : decode cX1_init 28 = .ok (.aload_n 0, 1) := by decide +kernel
theorem dX1_init_29 : decode cX1_init 29 = .ok (.bipush 8, 2) := by decide +kernel
theorem dX1_init_31 : decode cX1_init 31 = .ok (.newarray .int, 2) := by decide +kernel
theorem dX1_init_33 : decode cX1_init 33 = .ok (.putfield 21, 3) := by decide +kernel
theorem dX1_init_36 : decode cX1_init 36 = .ok (.aload_n 0, 1) := by decide +kernel
theorem dX1_init_37 : decode cX1_init 37 = .ok (.iconst 4, 1) := by decide +kernel
theorem dX1_init_38 : decode cX1_init 38 = .ok (.newarray .int, 2) := by decide +kernel
theorem dX1_init_40 : decode cX1_init 40 = .ok (.putfield 24, 3) := by decide +kernel
theorem dX1_init_43 : decode cX1_init 43 = .ok (.aload_n 0, 1) := by decide +kernel
theorem dX1_init_44 : decode cX1_init 44 = .ok (.invokevirtual 27, 3) := by decide +kernel
theorem dX1_init_47 : decode cX1_init 47 = .ok (.return_, 1) := by decide +kernel
abbrev mt_X1_init : AxM := (RX1, cX1_init, 1, none, true, [])
theorem L1_X1_init {g : AxG} {l : Launch} (N : Nat) {v0 : Nat} {S : AxS} {S9 : AxS} (h : F_X1_init N v0 S = some S9) : AxMet g l yX1_init cX1_init 1 none (8) 5 38 [.ref v0] S ((.inl none, S9)) := by
  refine ax_met (own := RX1) (ini := true) (by decide +kernel) rfl (fun h => rfl) rfl ?_
  show AW g l (axRm (8) 5 38) mt_X1_init (axMQ g 5 38 (.inl none, S9)) 0 0 S 0 [(0, .ref v0)] []
  unfold F_X1_init at h
  refine aw_aload_n 0 dX1_init_0 rfl rfl ?_
  refine aw_objInit wd_166 wd_115 wd_116 rfl dX1_init_1 rfl ?_
  refine aw_aload_n 0 dX1_init_4 rfl rfl ?_
  refine aw_bipush 12 dX1_init_5 (by decide) ?_
  refine aw_newI (N := 12) wd_160 dX1_init_7 (by decide) (by decide) rfl (by show _ ≤ (5 : Nat); omega) (by show _ ≤ (38 : Nat); omega) h (fun q1 T2 h => ?_)
  refine aw_putR axc1 7 rfl rfl wd_187 (Or.inr ⟨rfl, rfl, rfl⟩) rfl rfl dX1_init_9 h (fun T3 h => ?_)
  refine aw_aload_n 0 dX1_init_12 rfl rfl ?_
  refine aw_bipush 6 dX1_init_13 (by decide) ?_
  refine aw_newI (N := 6) wd_160 dX1_init_15 (by decide) (by decide) rfl (by show _ ≤ (5 : Nat); omega) (by show _ ≤ (38 : Nat); omega) h (fun q4 T5 h => ?_)
  refine aw_putR axc1 8 rfl rfl wd_189 (Or.inr ⟨rfl, rfl, rfl⟩) rfl rfl dX1_init_17 h (fun T6 h => ?_)
  refine aw_aload_n 0 dX1_init_20 rfl rfl ?_
  refine aw_bipush 8 dX1_init_21 (by decide) ?_
  refine aw_newI (N := 8) wd_160 dX1_init_23 (by decide) (by decide) rfl (by show _ ≤ (5 : Nat); omega) (by show _ ≤ (38 : Nat); omega) h (fun q7 T8 h => ?_)
  refine aw_putR axc1 9 rfl rfl wd_191 (Or.inr ⟨rfl, rfl, rfl⟩) rfl rfl dX1_init_25 h (fun T9 h => ?_)
  refine aw_aload_n 0 dX1_init_28 rfl rfl ?_
  refine aw_bipush 8 dX1_init_29 (by decide) ?_
  refine aw_newI (N := 8) wd_160 dX1_init_31 (by decide) (by decide) rfl (by show _ ≤ (5 : Nat); omega) (by show _ ≤ (38 : Nat); omega) h (fun q10 T11 h => ?_)
  refine aw_putR axc1 10 rfl rfl wd_193 (Or.inr ⟨rfl, rfl, rfl⟩) rfl rfl dX1_init_33 h (fun T12 h => ?_)
  refine aw_aload_n 0 dX1_init_36 rfl rfl ?_
  refine aw_iconst 4 dX1_init_37 rfl ?_
  refine aw_newI (N := 4) wd_160 dX1_init_38 (by decide) (by decide) rfl (by show _ ≤ (5 : Nat); omega) (by show _ ≤ (38 : Nat); omega) h (fun q13 T14 h => ?_)
  refine aw_putR axc1 11 rfl rfl wd_195 (Or.inr ⟨rfl, rfl, rfl⟩) rfl rfl dX1_init_40 h (fun T15 h => ?_)
  refine aw_aload_n 0 dX1_init_43 rfl rfl ?_
  obtain ⟨hL16, h⟩ := ax_is_spec h
  refine aw_doneV (rest := []) h (fun S9 hF => aw_runV (As := []) (rest := []) (L1_X1_clear N hF) axc1 hL16 wd_170 wd_167 wd_168 wd_169 wd_89 pd_X1_clear rfl (ax_rm (by omega) rfl) (ax_hfk (by omega) (by omega)) (Nat.le_of_ble_eq_true rfl) rfl dX1_init_44) (fun T17 h => ?_)
  exact aw_vret dX1_init_47 rfl (by omega) (by omega) h

theorem dX5_init_0 : decode cX5_init 0 = .ok (.aload_n 0, 1) := by decide +kernel
theorem dX5_init_1 : decode cX5_init 1 = .ok (.invokespecial 3, 3) := by decide +kernel
theorem dX5_init_4 : decode cX5_init 4 = .ok (.aload_n 0, 1) := by decide +kernel
theorem dX5_init_5 : decode cX5_init 5 = .ok (.bipush 8, 2) := by decide +kernel
theorem dX5_init_7 : decode cX5_init 7 = .ok (.newarray .int, 2) := by decide +kernel
theorem dX5_init_9 : decode cX5_init 9 = .ok (.putfield 9, 3) := by decide +kernel
theorem dX5_init_12 : decode cX5_init 12 = .ok (.aload_n 0, 1) := by decide +kernel
theorem dX5_init_13 : decode cX5_init 13 = .ok (.bipush 8, 2) := by decide +kernel
theorem dX5_init_15 : decode cX5_init 15 = .ok (.newarray .int, 2) := by decide +kernel
theorem dX5_init_17 : decode cX5_init 17 = .ok (.putfield 15, 3) := by decide +kernel
theorem dX5_init_20 : decode cX5_init 20 = .ok (.return_, 1) := by decide +kernel
abbrev mt_X5_init : AxM := (RX5, cX5_init, 1, none, true, [])
theorem L1_X5_init {g : AxG} {l : Launch} (N : Nat) {v0 : Nat} {S : AxS} {S9 : AxS} (h : F_X5_init N v0 S = some S9) : AxMet g l yX5_init cX5_init 1 none (8) 2 16 [.ref v0] S ((.inl none, S9)) := by
  refine ax_met (own := RX5) (ini := true) (by decide +kernel) rfl (fun h => rfl) rfl ?_
  show AW g l (axRm (8) 2 16) mt_X5_init (axMQ g 2 16 (.inl none, S9)) 0 0 S 0 [(0, .ref v0)] []
  unfold F_X5_init at h
  refine aw_aload_n 0 dX5_init_0 rfl rfl ?_
  refine aw_objInit wd_291 wd_115 wd_116 rfl dX5_init_1 rfl ?_
  refine aw_aload_n 0 dX5_init_4 rfl rfl ?_
  refine aw_bipush 8 dX5_init_5 (by decide) ?_
  refine aw_newI (N := 8) wd_160 dX5_init_7 (by decide) (by decide) rfl (by show _ ≤ (2 : Nat); omega) (by show _ ≤ (16 : Nat); omega) h (fun q1 T2 h => ?_)
  refine aw_putR axc5 12 rfl rfl wd_316 (Or.inr ⟨rfl, rfl, rfl⟩) rfl rfl dX5_init_9 h (fun T3 h => ?_)
  refine aw_aload_n 0 dX5_init_12 rfl rfl ?_
  refine aw_bipush 8 dX5_init_13 (by decide) ?_
  refine aw_newI (N := 8) wd_160 dX5_init_15 (by decide) (by decide) rfl (by show _ ≤ (2 : Nat); omega) (by show _ ≤ (16 : Nat); omega) h (fun q4 T5 h => ?_)
  refine aw_putR axc5 13 rfl rfl wd_318 (Or.inr ⟨rfl, rfl, rfl⟩) rfl rfl dX5_init_17 h (fun T6 h => ?_)
  exact aw_vret dX5_init_20 rfl (by omega) (by omega) h

theorem dX2_init_0 : decode cX2_init 0 = .ok (.aload_n 0, 1) := by decide +kernel
theorem dX2_init_1 : decode cX2_init 1 = .ok (.invokespecial 3, 3) := by decide +kernel
theorem dX2_init_4 : decode cX2_init 4 = .ok (.aload_n 0, 1) := by decide +kernel
theorem dX2_init_5 : decode cX2_init 5 = .ok (.bipush 60, 2) := by decide +kernel
theorem dX2_init_7 : decode cX2_init 7 = .ok (.newarray .int, 2) := by decide +kernel
theorem dX2_init_9 : decode cX2_init 9 = .ok (.putfield 9, 3) := by decide +kernel
theorem dX2_init_12 : decode cX2_init 12 = .ok (.aload_n 0, 1) := by decide +kernel
theorem dX2_init_13 : decode cX2_init 13 = .ok (.bipush 60, 2) := by decide +kernel
theorem dX2_init_15 : decode cX2_init 15 = .ok (.sipush 1000, 3) := by decide +kernel
theorem dX2_init_18 : decode cX2_init 18 = .ok (.multianewarray 15 2, 4) := by decide +kernel
theorem dX2_init_22 : decode cX2_init 22 = .ok (.putfield 17, 3) := by decide +kernel
theorem dX2_init_25 : decode cX2_init 25 = .ok (.return_, 1) := by decide +kernel
abbrev mt_X2_init : AxM := (RX2, cX2_init, 1, none, true, [])
theorem L1_X2_init {g : AxG} {l : Launch} (N : Nat) {v0 : Nat} {S : AxS} {S9 : AxS} (h : F_X2_init N v0 S = some S9) : AxMet g l yX2_init cX2_init 1 none (8) 62 60120 [.ref v0] S ((.inl none, S9)) := by
  refine ax_met (own := RX2) (ini := true) (by decide +kernel) rfl (fun h => rfl) rfl ?_
  show AW g l (axRm (8) 62 60120) mt_X2_init (axMQ g 62 60120 (.inl none, S9)) 0 0 S 0 [(0, .ref v0)] []
  unfold F_X2_init at h
  refine aw_aload_n 0 dX2_init_0 rfl rfl ?_
  refine aw_objInit wd_373 wd_115 wd_116 rfl dX2_init_1 rfl ?_
  refine aw_aload_n 0 dX2_init_4 rfl rfl ?_
  refine aw_bipush 60 dX2_init_5 (by decide) ?_
  refine aw_newI (N := 60) wd_160 dX2_init_7 (by decide) (by decide) rfl (by show _ ≤ (62 : Nat); omega) (by show _ ≤ (60120 : Nat); omega) h (fun q1 T2 h => ?_)
  refine aw_putR axc2 7 rfl rfl wd_389 (Or.inr ⟨rfl, rfl, rfl⟩) rfl rfl dX2_init_9 h (fun T3 h => ?_)
  refine aw_aload_n 0 dX2_init_12 rfl rfl ?_
  refine aw_bipush 60 dX2_init_13 (by decide) ?_
  refine aw_sipush 1000 dX2_init_15 (by decide) ?_
  refine aw_newM (N0 := 60) (K0 := 1000) wd_374 wd_375 wd_160 dX2_init_18 (by decide) (by decide) (by decide) (by decide) rfl rfl (by show _ ≤ (62 : Nat); omega) (by show _ ≤ (60120 : Nat); omega) h (fun q4 T5 h => ?_)
  refine aw_putR axc2 8 rfl rfl wd_391 (Or.inr ⟨rfl, rfl, rfl⟩) rfl rfl dX2_init_22 h (fun T6 h => ?_)
  exact aw_vret dX2_init_25 rfl (by omega) (by omega) h

theorem dX4_init_0 : decode cX4_init 0 = .ok (.aload_n 0, 1) := by decide +kernel
theorem dX4_init_1 : decode cX4_init 1 = .ok (.invokespecial 3, 3) := by decide +kernel
theorem dX4_init_4 : decode cX4_init 4 = .ok (.aload_n 0, 1) := by decide +kernel
theorem dX4_init_5 : decode cX4_init 5 = .ok (.sipush 150, 3) := by decide +kernel
theorem dX4_init_8 : decode cX4_init 8 = .ok (.newarray .int, 2) := by decide +kernel
theorem dX4_init_10 : decode cX4_init 10 = .ok (.putfield 9, 3) := by decide +kernel
theorem dX4_init_13 : decode cX4_init 13 = .ok (.aload_n 0, 1) := by decide +kernel
theorem dX4_init_14 : decode cX4_init 14 = .ok (.bipush 7, 2) := by decide +kernel
theorem dX4_init_16 : decode cX4_init 16 = .ok (.newarray .int, 2) := by decide +kernel
theorem dX4_init_18 : decode cX4_init 18 = .ok (.putfield 15, 3) := by decide +kernel
theorem dX4_init_21 : decode cX4_init 21 = .ok (.aload_n 0, 1) := by decide +kernel
theorem dX4_init_22 : decode cX4_init 22 = .ok (.bipush 32, 2) := by decide +kernel
theorem dX4_init_24 : decode cX4_init 24 = .ok (.newarray .int, 2) := by decide +kernel
theorem dX4_init_26 : decode cX4_init 26 = .ok (.putfield 18, 3) := by decide +kernel
theorem dX4_init_29 : decode cX4_init 29 = .ok (.return_, 1) := by decide +kernel
abbrev mt_X4_init : AxM := (RX4, cX4_init, 1, none, true, [])
theorem L1_X4_init {g : AxG} {l : Launch} (N : Nat) {v0 : Nat} {S : AxS} {S9 : AxS} (h : F_X4_init N v0 S = some S9) : AxMet g l yX4_init cX4_init 1 none (8) 3 189 [.ref v0] S ((.inl none, S9)) := by
  refine ax_met (own := RX4) (ini := true) (by decide +kernel) rfl (fun h => rfl) rfl ?_
  show AW g l (axRm (8) 3 189) mt_X4_init (axMQ g 3 189 (.inl none, S9)) 0 0 S 0 [(0, .ref v0)] []
  unfold F_X4_init at h
  refine aw_aload_n 0 dX4_init_0 rfl rfl ?_
  refine aw_objInit wd_227 wd_115 wd_116 rfl dX4_init_1 rfl ?_
  refine aw_aload_n 0 dX4_init_4 rfl rfl ?_
  refine aw_sipush 150 dX4_init_5 (by decide) ?_
  refine aw_newI (N := 150) wd_160 dX4_init_8 (by decide) (by decide) rfl (by show _ ≤ (3 : Nat); omega) (by show _ ≤ (189 : Nat); omega) h (fun q1 T2 h => ?_)
  refine aw_putR axc4 0 rfl rfl wd_228 (Or.inr ⟨rfl, rfl, rfl⟩) rfl rfl dX4_init_10 h (fun T3 h => ?_)
  refine aw_aload_n 0 dX4_init_13 rfl rfl ?_
  refine aw_bipush 7 dX4_init_14 (by decide) ?_
  refine aw_newI (N := 7) wd_160 dX4_init_16 (by decide) (by decide) rfl (by show _ ≤ (3 : Nat); omega) (by show _ ≤ (189 : Nat); omega) h (fun q4 T5 h => ?_)
  refine aw_putR axc4 1 rfl rfl wd_229 (Or.inr ⟨rfl, rfl, rfl⟩) rfl rfl dX4_init_18 h (fun T6 h => ?_)
  refine aw_aload_n 0 dX4_init_21 rfl rfl ?_
  refine aw_bipush 32 dX4_init_22 (by decide) ?_
  refine aw_newI (N := 32) wd_160 dX4_init_24 (by decide) (by decide) rfl (by show _ ≤ (3 : Nat); omega) (by show _ ≤ (189 : Nat); omega) h (fun q7 T8 h => ?_)
  refine aw_putR axc4 2 rfl rfl wd_230 (Or.inr ⟨rfl, rfl, rfl⟩) rfl rfl dX4_init_26 h (fun T9 h => ?_)
  exact aw_vret dX4_init_29 rfl (by omega) (by omega) h

theorem dX6_init_0 : decode cX6_init 0 = .ok (.aload_n 0, 1) := by decide +kernel
theorem dX6_init_1 : decode cX6_init 1 = .ok (.invokespecial 3, 3) := by decide +kernel
theorem dX6_init_4 : decode cX6_init 4 = .ok (.aload_n 0, 1) := by decide +kernel
theorem dX6_init_5 : decode cX6_init 5 = .ok (.sipush 150, 3) := by decide +kernel
theorem dX6_init_8 : decode cX6_init 8 = .ok (.newarray .int, 2) := by decide +kernel
theorem dX6_init_10 : decode cX6_init 10 = .ok (.putfield 9, 3) := by decide +kernel
theorem dX6_init_13 : decode cX6_init 13 = .ok (.aload_n 0, 1) := by decide +kernel
theorem dX6_init_14 : decode cX6_init 14 = .ok (.sipush 150, 3) := by decide +kernel
theorem dX6_init_17 : decode cX6_init 17 = .ok (.newarray .int, 2) := by decide +kernel
theorem dX6_init_19 : decode cX6_init 19 = .ok (.putfield 15, 3) := by decide +kernel
theorem dX6_init_22 : decode cX6_init 22 = .ok (.aload_n 0, 1) := by decide +kernel
theorem dX6_init_23 : decode cX6_init 23 = .ok (.sipush 150, 3) := by decide +kernel
theorem dX6_init_26 : decode cX6_init 26 = .ok (.newarray .int, 2) := by decide +kernel
theorem dX6_init_28 : decode cX6_init 28 = .ok (.putfield 18, 3) := by decide +kernel
theorem dX6_init_31 : decode cX6_init 31 = .ok (.return_, 1) := by decide +kernel
abbrev mt_X6_init : AxM := (RX6, cX6_init, 1, none, true, [])
theorem L1_X6_init {g : AxG} {l : Launch} (N : Nat) {v0 : Nat} {S : AxS} {S9 : AxS} (h : F_X6_init N v0 S = some S9) : AxMet g l yX6_init cX6_init 1 none (8) 3 450 [.ref v0] S ((.inl none, S9)) := by
  refine ax_met (own := RX6) (ini := true) (by decide +kernel) rfl (fun h => rfl) rfl ?_
  show AW g l (axRm (8) 3 450) mt_X6_init (axMQ g 3 450 (.inl none, S9)) 0 0 S 0 [(0, .ref v0)] []
  unfold F_X6_init at h
  refine aw_aload_n 0 dX6_init_0 rfl rfl ?_
  refine aw_objInit wd_262 wd_115 wd_116 rfl dX6_init_1 rfl ?_
  refine aw_aload_n 0 dX6_init_4 rfl rfl ?_
  refine aw_sipush 150 dX6_init_5 (by decide) ?_
  refine aw_newI (N := 150) wd_160 dX6_init_8 (by decide) (by decide) rfl (by show _ ≤ (3 : Nat); omega) (by show _ ≤ (450 : Nat); omega) h (fun q1 T2 h => ?_)
  refine aw_putR axc6 0 rfl rfl wd_263 (Or.inr ⟨rfl, rfl, rfl⟩) rfl rfl dX6_init_10 h (fun T3 h => ?_)
  refine aw_aload_n 0 dX6_init_13 rfl rfl ?_
  refine aw_sipush 150 dX6_init_14 (by decide) ?_
  refine aw_newI (N := 150) wd_160 dX6_init_17 (by decide) (by decide) rfl (by show _ ≤ (3 : Nat); omega) (by show _ ≤ (450 : Nat); omega) h (fun q4 T5 h => ?_)
  refine aw_putR axc6 1 rfl rfl wd_265 (Or.inr ⟨rfl, rfl, rfl⟩) rfl rfl dX6_init_19 h (fun T6 h => ?_)
  refine aw_aload_n 0 dX6_init_22 rfl rfl ?_
  refine aw_sipush 150 dX6_init_23 (by decide) ?_
  refine aw_newI (N := 150) wd_160 dX6_init_26 (by decide) (by decide) rfl (by show _ ≤ (3 : Nat); omega) (by show _ ≤ (450 : Nat); omega) h (fun q7 T8 h => ?_)
  refine aw_putR axc6 2 rfl rfl wd_267 (Or.inr ⟨rfl, rfl, rfl⟩) rfl rfl dX6_init_28 h (fun T9 h => ?_)
  exact aw_vret dX6_init_31 rfl (by omega) (by omega) h

theorem dX7_init_0 : decode cX7_init 0 = .ok (.aload_n 0, 1) := by decide +kernel
theorem dX7_init_1 : decode cX7_init 1 = .ok (.invokespecial 3, 3) := by decide +kernel
theorem dX7_init_4 : decode cX7_init 4 = .ok (.aload_n 0, 1) := by decide +kernel
theorem dX7_init_5 : decode cX7_init 5 = .ok (.sipush 600, 3) := by decide +kernel
theorem dX7_init_8 : decode cX7_init 8 = .ok (.newarray .int, 2) := by decide +kernel
theorem dX7_init_10 : decode cX7_init 10 = .ok (.putfield 9, 3) := by decide +kernel
theorem dX7_init_13 : decode cX7_init 13 = .ok (.aload_n 0, 1) := by decide +kernel
theorem dX7_init_14 : decode cX7_init 14 = .ok (.iconst (-1), 1) := by decide +kernel
theorem dX7_init_15 : decode cX7_init 15 = .ok (.putfield 15, 3) := by decide +kernel
theorem dX7_init_18 : decode cX7_init 18 = .ok (.return_, 1) := by decide +kernel
abbrev mt_X7_init : AxM := (RX7, cX7_init, 1, none, true, [])
theorem L1_X7_init {g : AxG} {l : Launch} (N : Nat) {v0 : Nat} {S : AxS} {S9 : AxS} (h : F_X7_init N v0 S = some S9) : AxMet g l yX7_init cX7_init 1 none (8) 1 600 [.ref v0] S ((.inl none, S9)) := by
  refine ax_met (own := RX7) (ini := true) (by decide +kernel) rfl (fun h => rfl) rfl ?_
  show AW g l (axRm (8) 1 600) mt_X7_init (axMQ g 1 600 (.inl none, S9)) 0 0 S 0 [(0, .ref v0)] []
  unfold F_X7_init at h
  refine aw_aload_n 0 dX7_init_0 rfl rfl ?_
  refine aw_objInit wd_122 wd_115 wd_116 rfl dX7_init_1 rfl ?_
  refine aw_aload_n 0 dX7_init_4 rfl rfl ?_
  refine aw_sipush 600 dX7_init_5 (by decide) ?_
  refine aw_newI (N := 600) wd_160 dX7_init_8 (by decide) (by decide) rfl (by show _ ≤ (1 : Nat); omega) (by show _ ≤ (600 : Nat); omega) h (fun q1 T2 h => ?_)
  refine aw_putR axc7 0 rfl rfl wd_123 (Or.inr ⟨rfl, rfl, rfl⟩) rfl rfl dX7_init_10 h (fun T3 h => ?_)
  refine aw_aload_n 0 dX7_init_13 rfl rfl ?_
  refine aw_iconst (-1) dX7_init_14 rfl ?_
  refine aw_putI axc7 5 rfl rfl wd_135 rfl rfl rfl dX7_init_15 h (fun T4 h => ?_)
  exact aw_vret dX7_init_18 rfl (by omega) (by omega) h

theorem dX8_init_0 : decode cX8_init 0 = .ok (.aload_n 0, 1) := by decide +kernel
theorem dX8_init_1 : decode cX8_init 1 = .ok (.invokespecial 3, 3) := by decide +kernel
theorem dX8_init_4 : decode cX8_init 4 = .ok (.aload_n 0, 1) := by decide +kernel
theorem dX8_init_5 : decode cX8_init 5 = .ok (.bipush 16, 2) := by decide +kernel
theorem dX8_init_7 : decode cX8_init 7 = .ok (.anewarray 9, 3) := by decide +kernel
theorem dX8_init_10 : decode cX8_init 10 = .ok (.putfield 11, 3) := by decide +kernel
theorem dX8_init_13 : decode cX8_init 13 = .ok (.iconst 0, 1) := by decide +kernel
theorem dX8_init_14 : decode cX8_init 14 = .ok (.istore_n 1, 1) := by decide +kernel
theorem dX8_init_15 : decode cX8_init 15 = .ok (.iload_n 1, 1) := by decide +kernel
theorem dX8_init_16 : decode cX8_init 16 = .ok (.aload_n 0, 1) := by decide +kernel
theorem dX8_init_17 : decode cX8_init 17 = .ok (.getfield 11, 3) := by decide +kernel
theorem dX8_init_20 : decode cX8_init 20 = .ok (.arraylength, 1) := by decide +kernel
theorem dX8_init_21 : decode cX8_init 21 = .ok (.if_icmp .ge 22, 3) := by decide +kernel
theorem dX8_init_24 : decode cX8_init 24 = .ok (.aload_n 0, 1) := by decide +kernel
theorem dX8_init_25 : decode cX8_init 25 = .ok (.getfield 11, 3) := by decide +kernel
theorem dX8_init_28 : decode cX8_init 28 = .ok (.iload_n 1, 1) := by decide +kernel
theorem dX8_init_29 : decode cX8_init 29 = .ok (.new 9, 3) := by decide +kernel
theorem dX8_init_32 : decode cX8_init 32 = .ok (.dup, 1) := by decide +kernel
theorem dX8_init_33 : decode cX8_init 33 = .ok (.invokespecial 17, 3) := by decide +kernel
theorem dX8_init_36 : decode cX8_init 36 = .ok (.aastore, 1) := by decide +kernel
theorem dX8_init_37 : decode cX8_init 37 = .ok (.iinc 1 1, 3) := by decide +kernel
theorem dX8_init_40 : decode cX8_init 40 = .ok (.goto (-25), 3) := by decide +kernel
theorem dX8_init_43 : decode cX8_init 43 = .ok (.return_, 1) := by decide +kernel
abbrev mt_X8_init : AxM := (RX8, cX8_init, 2, none, true, [])
theorem L1_X8_init_15b {g : AxG} {l : Launch} {S9 : AxS} (N : Nat) (n15 : Nat) (K15 : Nat → Int32 → AxS → Option (AxS)) (hK15 : ∀ (v0 : Nat) (v1 : Int32) (S : AxS) (k9 n9 : Nat) (hk9 : k9 + 3 * (n15) ≤ 52) (hn9 : n9 + 30 * (n15) ≤ 526), K15 v0 v1 S = some S9 → AW g l (axRm (9) 52 526) mt_X8_init (axMQ g 52 526 (.inl none, S9)) k9 n9 S 15 [(0, .ref v0), (1, .int v1)] []) (v0 : Nat) (v1 : Int32) (S : AxS) (k9 n9 : Nat) (hk9 : k9 + 3 * (n15 + 1) ≤ 52) (hn9 : n9 + 30 * (n15 + 1) ≤ 526) (h : F_X8_init_15b N K15 v0 v1 S = some S9) : AW g l (axRm (9) 52 526) mt_X8_init (axMQ g 52 526 (.inl none, S9)) k9 n9 S 15 [(0, .ref v0), (1, .int v1)] [] := by
  unfold F_X8_init_15b at h
  refine aw_iload_n 1 dX8_init_15 rfl rfl ?_
  refine aw_aload_n 0 dX8_init_16 rfl rfl ?_
  refine aw_getR axc8 0 rfl rfl wd_358 dX8_init_17 h (fun a1 h => ?_)
  refine aw_alen dX8_init_20 h (fun x2 h => ?_)
  refine aw_icmp_ge 43 dX8_init_21 (by decide) h (fun h => ?_) (fun h => ?_)
  · exact aw_vret dX8_init_43 rfl (by omega) (by omega) h
  · refine aw_aload_n 0 dX8_init_24 rfl rfl ?_
    refine aw_getR axc8 0 rfl rfl wd_358 dX8_init_25 h (fun a3 h => ?_)
    refine aw_iload_n 1 dX8_init_28 rfl rfl ?_
    refine aw_new axc5 axd5 wd_355 wd_287 wd_93 dX8_init_29 (by show _ ≤ (52 : Nat); omega) (by show _ ≤ (526 : Nat); omega) h (fun q4 T5 h => ?_)
    refine aw_dup rfl dX8_init_32 ?_
    refine aw_doneV (rest := [.ref q4, .int v1, .ref a3]) h (fun S9 hF => aw_runIN (As := []) (rest := [.ref q4, .int v1, .ref a3]) (L1_X5_init N hF) wd_290 wd_357 wd_289 wd_93 rfl pd_X5_init.2 rfl (ax_rm (by omega) rfl) (ax_hfk (by omega) (by omega)) (Nat.le_of_ble_eq_true rfl) rfl dX8_init_33) (fun T6 h => ?_)
    refine aw_aast (t := 2) axc5 rfl (by decide) dX8_init_36 h (fun T8 h => ?_)
    refine aw_iinc 1 [(1, .int (v1 + 1)), (0, .ref v0)] (v1 + 1) dX8_init_37 rfl rfl rfl rfl ?_
    refine aw_goto 15 dX8_init_40 (by decide) ?_
    refine aw_env [(0, .ref v0), (1, .int (v1 + 1))] [1, 0] rfl ?_
    exact hK15 v0 (v1 + 1) T8 _ _ (by omega) (by omega) h
theorem L1_X8_init_15 {g : AxG} {l : Launch} {S9 : AxS} (N : Nat)  : ∀ (n : Nat) (v0 : Nat) (v1 : Int32) (S : AxS) (k9 n9 : Nat) (hk9 : k9 + 3 * (n) ≤ 52) (hn9 : n9 + 30 * (n) ≤ 526), F_X8_init_15 N  n v0 v1 S = some S9 → AW g l (axRm (9) 52 526) mt_X8_init (axMQ g 52 526 (.inl none, S9)) k9 n9 S 15 [(0, .ref v0), (1, .int v1)] [] := by
  intro n
  induction n with
  | zero => intro v0 v1 S k9 n9 hk9 hn9 h; cases h
  | succ n ih => intro v0 v1 S k9 n9 hk9 hn9 h; exact L1_X8_init_15b N n (F_X8_init_15 N  n) ih v0 v1 S k9 n9 hk9 hn9 h
theorem L1_X8_init {g : AxG} {l : Launch} (N : Nat) {v0 : Nat} {S : AxS} {S9 : AxS} (h : F_X8_init N v0 S = some S9) : AxMet g l yX8_init cX8_init 2 none (9) 52 526 [.ref v0] S ((.inl none, S9)) := by
  refine ax_met (own := RX8) (ini := true) (by decide +kernel) rfl (fun h => rfl) rfl ?_
  show AW g l (axRm (9) 52 526) mt_X8_init (axMQ g 52 526 (.inl none, S9)) 0 0 S 0 [(0, .ref v0)] []
  unfold F_X8_init at h
  refine aw_aload_n 0 dX8_init_0 rfl rfl ?_
  refine aw_objInit wd_354 wd_115 wd_116 rfl dX8_init_1 rfl ?_
  refine aw_aload_n 0 dX8_init_4 rfl rfl ?_
  refine aw_bipush 16 dX8_init_5 (by decide) ?_
  refine aw_newR (N := 16) (t := 2) (C0 := RX5) rfl (by decide) wd_355 wd_356 dX8_init_7 (by decide) (by decide) rfl (by show _ ≤ (52 : Nat); omega) (by show _ ≤ (526 : Nat); omega) h (fun q1 T2 h => ?_)
  refine aw_putR axc8 0 rfl rfl wd_358 (Or.inr ⟨rfl, rfl, rfl⟩) rfl rfl dX8_init_10 h (fun T3 h => ?_)
  refine aw_iconst 0 dX8_init_13 rfl ?_
  refine aw_istore_n 1 [(1, .int 0), (0, .ref v0)] dX8_init_14 rfl rfl rfl ?_
  refine aw_env [(0, .ref v0), (1, .int 0)] [1, 0] rfl ?_
  exact L1_X8_init_15 N  17 v0 0 T3 _ _ (by omega) (by omega) h

theorem dX3_init_0 : decode cX3_init 0 = .ok (.aload_n 0, 1) := by decide +kernel
theorem dX3_init_1 : decode cX3_init 1 = .ok (.invokespecial 1, 3) := by decide +kernel
theorem dX3_init_4 : decode cX3_init 4 = .ok (.aload_n 0, 1) := by decide +kernel
theorem dX3_init_5 : decode cX3_init 5 = .ok (.new 7, 3) := by decide +kernel
theorem dX3_init_8 : decode cX3_init 8 = .ok (.dup, 1) := by decide +kernel
theorem dX3_init_9 : decode cX3_init 9 = .ok (.invokespecial 9, 3) := by decide +kernel
theorem dX3_init_12 : decode cX3_init 12 = .ok (.putfield 10, 3) := by decide +kernel
theorem dX3_init_15 : decode cX3_init 15 = .ok (.aload_n 0, 1) := by decide +kernel
theorem dX3_init_16 : decode cX3_init 16 = .ok (.new 16, 3) := by decide +kernel
theorem dX3_init_19 : decode cX3_init 19 = .ok (.dup, 1) := by decide +kernel
theorem dX3_init_20 : decode cX3_init 20 = .ok (.invokespecial 18, 3) := by decide +kernel
theorem dX3_init_23 : decode cX3_init 23 = .ok (.putfield 19, 3) := by decide +kernel
theorem dX3_init_26 : decode cX3_init 26 = .ok (.return_, 1) := by decide +kernel
abbrev mt_X3_init : AxM := (RX3, cX3_init, 1, none, true, [])
theorem L1_X3_init {g : AxG} {l : Launch} (N : Nat) {v0 : Nat} {S : AxS} {S9 : AxS} (h : F_X3_init N v0 S = some S9) : AxMet g l yX3_init cX3_init 1 none (10) 56 558 [.ref v0] S ((.inl none, S9)) := by
  refine ax_met (own := RX3) (ini := true) (by decide +kernel) rfl (fun h => rfl) rfl ?_
  show AW g l (axRm (10) 56 558) mt_X3_init (axMQ g 56 558 (.inl none, S9)) 0 0 S 0 [(0, .ref v0)] []
  unfold F_X3_init at h
  refine aw_aload_n 0 dX3_init_0 rfl rfl ?_
  refine aw_objInit wd_415 wd_115 wd_116 rfl dX3_init_1 rfl ?_
  refine aw_aload_n 0 dX3_init_4 rfl rfl ?_
  refine aw_new axc5 axd5 wd_416 wd_287 wd_93 dX3_init_5 (by show _ ≤ (56 : Nat); omega) (by show _ ≤ (558 : Nat); omega) h (fun q1 T2 h => ?_)
  refine aw_dup rfl dX3_init_8 ?_
  refine aw_doneV (rest := [.ref q1, .ref v0]) h (fun S9 hF => aw_runIN (As := []) (rest := [.ref q1, .ref v0]) (L1_X5_init N hF) wd_290 wd_417 wd_289 wd_93 rfl pd_X5_init.2 rfl (ax_rm (by omega) rfl) (ax_hfk (by omega) (by omega)) (Nat.le_of_ble_eq_true rfl) rfl dX3_init_9) (fun T3 h => ?_)
  refine aw_putR axc3 0 rfl rfl wd_420 (Or.inr ⟨rfl, rfl, rfl⟩) rfl rfl dX3_init_12 h (fun T5 h => ?_)
  refine aw_aload_n 0 dX3_init_15 rfl rfl ?_
  refine aw_new axc8 axd8 wd_418 wd_350 wd_94 dX3_init_16 (by show _ ≤ (56 : Nat); omega) (by show _ ≤ (558 : Nat); omega) h (fun q6 T7 h => ?_)
  refine aw_dup rfl dX3_init_19 ?_
  refine aw_doneV (rest := [.ref q6, .ref v0]) h (fun S9 hF => aw_runI (As := []) (rest := [.ref q6, .ref v0]) (L1_X8_init N hF) wd_353 wd_419 wd_352 wd_94 rfl pd_X8_init.2 rfl (ax_rm (by omega) rfl) (ax_hfk (by omega) (by omega)) (Nat.le_of_ble_eq_true rfl) rfl dX3_init_20) (fun T8 h => ?_)
  refine aw_putR axc3 1 rfl rfl wd_422 (Or.inr ⟨rfl, rfl, rfl⟩) rfl rfl dX3_init_23 h (fun T10 h => ?_)
  exact aw_vret dX3_init_26 rfl (by omega) (by omega) h

theorem dX9_init_0 : decode cX9_init 0 = .ok (.aload_n 0, 1) := by decide +kernel
theorem dX9_init_1 : decode cX9_init 1 = .ok (.invokespecial 1, 3) := by decide +kernel
theorem dX9_init_4 : decode cX9_init 4 = .ok (.aload_n 0, 1) := by decide +kernel
theorem dX9_init_5 : decode cX9_init 5 = .ok (.new 7, 3) := by decide +kernel
theorem dX9_init_8 : decode cX9_init 8 = .ok (.dup, 1) := by decide +kernel
theorem dX9_init_9 : decode cX9_init 9 = .ok (.invokespecial 9, 3) := by decide +kernel
theorem dX9_init_12 : decode cX9_init 12 = .ok (.putfield 10, 3) := by decide +kernel
theorem dX9_init_15 : decode cX9_init 15 = .ok (.aload_n 0, 1) := by decide +kernel
theorem dX9_init_16 : decode cX9_init 16 = .ok (.new 16, 3) := by decide +kernel
theorem dX9_init_19 : decode cX9_init 19 = .ok (.dup, 1) := by decide +kernel
theorem dX9_init_20 : decode cX9_init 20 = .ok (.invokespecial 18, 3) := by decide +kernel
theorem dX9_init_23 : decode cX9_init 23 = .ok (.putfield 19, 3) := by decide +kernel
theorem dX9_init_26 : decode cX9_init 26 = .ok (.aload_n 0, 1) := by decide +kernel
theorem dX9_init_27 : decode cX9_init 27 = .ok (.new 16, 3) := by decide +kernel
theorem dX9_init_30 : decode cX9_init 30 = .ok (.dup, 1) := by decide +kernel
theorem dX9_init_31 : decode cX9_init 31 = .ok (.invokespecial 18, 3) := by decide +kernel
theorem dX9_init_34 : decode cX9_init 34 = .ok (.putfield 23, 3) := by decide +kernel
theorem dX9_init_37 : decode cX9_init 37 = .ok (.aload_n 0, 1) := by decide +kernel
theorem dX9_init_38 : decode cX9_init 38 = .ok (.new 26, 3) := by decide +kernel
theorem dX9_init_41 : decode cX9_init 41 = .ok (.dup, 1) := by decide +kernel
theorem dX9_init_42 : decode cX9_init 42 = .ok (.invokespecial 28, 3) := by decide +kernel
theorem dX9_init_45 : decode cX9_init 45 = .ok (.putfield 29, 3) := by decide +kernel
theorem dX9_init_48 : decode cX9_init 48 = .ok (.aload_n 0, 1) := by decide +kernel
theorem dX9_init_49 : decode cX9_init 49 = .ok (.new 26, 3) := by decide +kernel
theorem dX9_init_52 : decode cX9_init 52 = .ok (.dup, 1) := by decide +kernel
theorem dX9_init_53 : decode cX9_init 53 = .ok (.invokespecial 28, 3) := by decide +kernel
theorem dX9_init_56 : decode cX9_init 56 = .ok (.putfield 33, 3) := by decide +kernel
theorem dX9_init_59 : decode cX9_init 59 = .ok (.aload_n 0, 1) := by decide +kernel
theorem dX9_init_60 : decode cX9_init 60 = .ok (.new 36, 3) := by decide +kernel
theorem dX9_init_63 : decode cX9_init 63 = .ok (.dup, 1) := by decide +kernel
theorem dX9_init_64 : decode cX9_init 64 = .ok (.invokespecial 38, 3) := by decide +kernel
theorem dX9_init_67 : decode cX9_init 67 = .ok (.putfield 39, 3) := by decide +kernel
theorem dX9_init_70 : decode cX9_init 70 = .ok (.aload_n 0, 1) := by decide +kernel
theorem dX9_init_71 : decode cX9_init 71 = .ok (.new 36, 3) := by decide +kernel
theorem dX9_init_74 : decode cX9_init 74 = .ok (.dup, 1) := by decide +kernel
theorem dX9_init_75 : decode cX9_init 75 = .ok (.invokespecial 38, 3) := by decide +kernel
theorem dX9_init_78 : decode cX9_init 78 = .ok (.putfield 43, 3) := by decide +kernel
theorem dX9_init_81 : decode cX9_init 81 = .ok (.aload_n 0, 1) := by decide +kernel
theorem dX9_init_82 : decode cX9_init 82 = .ok (.new 46, 3) := by decide +kernel
theorem dX9_init_85 : decode cX9_init 85 = .ok (.dup, 1) := by decide +kernel
theorem dX9_init_86 : decode cX9_init 86 = .ok (.invokespecial 48, 3) := by decide +kernel
theorem dX9_init_89 : decode cX9_init 89 = .ok (.putfield 49, 3) := by decide +kernel
theorem dX9_init_92 : decode cX9_init 92 = .ok (.aload_n 0, 1) := by decide +kernel
theorem dX9_init_93 : decode cX9_init 93 = .ok (.new 53, 3) := by decide +kernel
theorem dX9_init_96 : decode cX9_init 96 = .ok (.dup, 1) := by decide +kernel
theorem dX9_init_97 : decode cX9_init 97 = .ok (.invokespecial 55, 3) := by decide +kernel
theorem dX9_init_100 : decode cX9_init 100 = .ok (.putfield 56, 3) := by decide +kernel
theorem dX9_init_103 : decode cX9_init 103 = .ok (.aload_n 0, 1) := by decide +kernel
theorem dX9_init_104 : decode cX9_init 104 = .ok (.new 53, 3) := by decide +kernel
theorem dX9_init_107 : decode cX9_init 107 = .ok (.dup, 1) := by decide +kernel
theorem dX9_init_108 : decode cX9_init 108 = .ok (.invokespecial 55, 3) := by decide +kernel
theorem dX9_init_111 : decode cX9_init 111 = .ok (.putfield 60, 3) := by decide +kernel
theorem dX9_init_114 : decode cX9_init 114 = .ok (.aload_n 0, 1) := by decide +kernel
theorem dX9_init_115 : decode cX9_init 115 = .ok (.new 63, 3) := by decide +kernel
theorem dX9_init_118 : decode cX9_init 118 = .ok (.dup, 1) := by decide +kernel
theorem dX9_init_119 : decode cX9_init 119 = .ok (.invokespecial 65, 3) := by decide +kernel
theorem dX9_init_122 : decode cX9_init 122 = .ok (.putfield 66, 3) := by decide +kernel
theorem dX9_init_125 : decode cX9_init 125 = .ok (.aload_n 0, 1) := by decide +kernel
theorem dX9_init_126 : decode cX9_init 126 = .ok (.iconst 3, 1) := by decide +kernel
theorem dX9_init_127 : decode cX9_init 127 = .ok (.anewarray 70, 3) := by decide +kernel
theorem dX9_init_130 : decode cX9_init 130 = .ok (.putfield 72, 3) := by decide +kernel
theorem dX9_init_133 : decode cX9_init 133 = .ok (.aload_n 0, 1) := by decide +kernel
theorem dX9_init_134 : decode cX9_init 134 = .ok (.new 76, 3) := by decide +kernel
theorem dX9_init_137 : decode cX9_init 137 = .ok (.dup, 1) := by decide +kernel
theorem dX9_init_138 : decode cX9_init 138 = .ok (.invokespecial 78, 3) := by decide +kernel
theorem dX9_init_141 : decode cX9_init 141 = .ok (.putfield 79, 3) := by decide +kernel
theorem dX9_init_144 : decode cX9_init 144 = .ok (.aload_n 0, 1) := by decide +kernel
theorem dX9_init_145 : decode cX9_init 145 = .ok (.iconst 4, 1) := by decide +kernel
theorem dX9_init_146 : decode cX9_init 146 = .ok (.newarray .int, 2) := by decide +kernel
theorem dX9_init_148 : decode cX9_init 148 = .ok (.putfield 83, 3) := by decide +kernel
theorem dX9_init_151 : decode cX9_init 151 = .ok (.aload_n 0, 1) := by decide +kernel
theorem dX9_init_152 : decode cX9_init 152 = .ok (.sipush 256, 3) := by decide +kernel
theorem dX9_init_155 : decode cX9_init 155 = .ok (.newarray .int, 2) := by decide +kernel
theorem dX9_init_157 : decode cX9_init 157 = .ok (.putfield 87, 3) := by decide +kernel
theorem dX9_init_160 : decode cX9_init 160 = .ok (.aload_n 0, 1) := by decide +kernel
theorem dX9_init_161 : decode cX9_init 161 = .ok (.bipush 8, 2) := by decide +kernel
theorem dX9_init_163 : decode cX9_init 163 = .ok (.newarray .int, 2) := by decide +kernel
theorem dX9_init_165 : decode cX9_init 165 = .ok (.putfield 90, 3) := by decide +kernel
theorem dX9_init_168 : decode cX9_init 168 = .ok (.iconst 0, 1) := by decide +kernel
theorem dX9_init_169 : decode cX9_init 169 = .ok (.istore_n 1, 1) := by decide +kernel
theorem dX9_init_170 : decode cX9_init 170 = .ok (.iload_n 1, 1) := by decide +kernel
theorem dX9_init_171 : decode cX9_init 171 = .ok (.aload_n 0, 1) := by decide +kernel
theorem dX9_init_172 : decode cX9_init 172 = .ok (.getfield 72, 3) := by decide +kernel
theorem dX9_init_175 : decode cX9_init 175 = .ok (.arraylength, 1) := by decide +kernel
theorem dX9_init_176 : decode cX9_init 176 = .ok (.if_icmp .ge 22, 3) := by decide +kernel
theorem dX9_init_179 : decode cX9_init 179 = .ok (.aload_n 0, 1) := by decide +kernel
theorem dX9_init_180 : decode cX9_init 180 = .ok (.getfield 72, 3) := by decide +kernel
theorem dX9_init_183 : decode cX9_init 183 = .ok (.iload_n 1, 1) := by decide +kernel
theorem dX9_init_184 : decode cX9_init 184 = .ok (.new 70, 3) := by decide +kernel
theorem dX9_init_187 : decode cX9_init 187 = .ok (.dup, 1) := by decide +kernel
theorem dX9_init_188 : decode cX9_init 188 = .ok (.invokespecial 93, 3) := by decide +kernel
theorem dX9_init_191 : decode cX9_init 191 = .ok (.aastore, 1) := by decide +kernel
theorem dX9_init_192 : decode cX9_init 192 = .ok (.iinc 1 1, 3) := by decide +kernel
theorem dX9_init_195 : decode cX9_init 195 = .ok (.goto (-25), 3) := by decide +kernel
theorem dX9_init_198 : decode cX9_init 198 = .ok (.aload_n 0, 1) := by decide +kernel
theorem dX9_init_199 : decode cX9_init 199 = .ok (.invokevirtual 94, 3) := by decide +kernel
theorem dX9_init_202 : decode cX9_init 202 = .ok (.return_, 1) := by decide +kernel
abbrev mt_X9_init : AxM := (RX9, cX9_init, 2, none, true, [])
set_option maxRecDepth 8000 in
theorem L1_X9_init_170b {g : AxG} {l : Launch} {S9 : AxS} (N : Nat) (n170 : Nat) (K170 : Nat → Int32 → AxS → Option (AxS)) (hK170 : ∀ (v0 : Nat) (v1 : Int32) (S : AxS) (k9 n9 : Nat) (hk9 : k9 + 57 * (n170) ≤ 384) (hn9 : n9 + 560 * (n170) ≤ 64902), K170 v0 v1 S = some S9 → AW g l (axRm (11) 384 64902) mt_X9_init (axMQ g 384 64902 (.inl none, S9)) k9 n9 S 170 [(0, .ref v0), (1, .int v1)] []) (v0 : Nat) (v1 : Int32) (S : AxS) (k9 n9 : Nat) (hk9 : k9 + 57 * (n170 + 1) ≤ 384) (hn9 : n9 + 560 * (n170 + 1) ≤ 64902) (h : F_X9_init_170b N K170 v0 v1 S = some S9) : AW g l (axRm (11) 384 64902) mt_X9_init (axMQ g 384 64902 (.inl none, S9)) k9 n9 S 170 [(0, .ref v0), (1, .int v1)] [] := by
  unfold F_X9_init_170b at h
  refine aw_iload_n 1 dX9_init_170 rfl rfl ?_
  refine aw_aload_n 0 dX9_init_171 rfl rfl ?_
  refine aw_getR axc9 11 rfl rfl wd_464 dX9_init_172 h (fun a1 h => ?_)
  refine aw_alen dX9_init_175 h (fun x2 h => ?_)
  refine aw_icmp_ge 198 dX9_init_176 (by decide) h (fun h => ?_) (fun h => ?_)
  · refine aw_aload_n 0 dX9_init_198 rfl rfl ?_
    obtain ⟨hL3, h⟩ := ax_is_spec h
    refine aw_doneV (rest := []) h (fun S9 hF => aw_runV (As := []) (rest := []) (L1_X9_beginAnew N hF) axc9 hL3 wd_432 wd_429 wd_431 wd_0 wd_87 pd_X9_beginAnew rfl (ax_rm (by omega) rfl) (ax_hfk (by omega) (by omega)) (Nat.le_of_ble_eq_true rfl) rfl dX9_init_199) (fun T4 h => ?_)
    exact aw_vret dX9_init_202 rfl (by omega) (by omega) h
  · refine aw_aload_n 0 dX9_init_179 rfl rfl ?_
    refine aw_getR axc9 11 rfl rfl wd_464 dX9_init_180 h (fun a6 h => ?_)
    refine aw_iload_n 1 dX9_init_183 rfl rfl ?_
    refine aw_new axc3 axd3 wd_366 wd_411 wd_96 dX9_init_184 (by show _ ≤ (384 : Nat); omega) (by show _ ≤ (64902 : Nat); omega) h (fun q7 T8 h => ?_)
    refine aw_dup rfl dX9_init_187 ?_
    refine aw_doneV (rest := [.ref q7, .int v1, .ref a6]) h (fun S9 hF => aw_runIN (As := []) (rest := [.ref q7, .int v1, .ref a6]) (L1_X3_init N hF) wd_414 wd_412 wd_413 wd_96 rfl pd_X3_init.2 rfl (ax_rm (by omega) rfl) (ax_hfk (by omega) (by omega)) (Nat.le_of_ble_eq_true rfl) rfl dX9_init_188) (fun T9 h => ?_)
    refine aw_aast (t := 1) axc3 rfl (by decide) dX9_init_191 h (fun T11 h => ?_)
    refine aw_iinc 1 [(1, .int (v1 + 1)), (0, .ref v0)] (v1 + 1) dX9_init_192 rfl rfl rfl rfl ?_
    refine aw_goto 170 dX9_init_195 (by decide) ?_
    refine aw_env [(0, .ref v0), (1, .int (v1 + 1))] [1, 0] rfl ?_
    exact hK170 v0 (v1 + 1) T11 _ _ (by omega) (by omega) h
set_option maxRecDepth 8000 in
theorem L1_X9_init_170 {g : AxG} {l : Launch} {S9 : AxS} (N : Nat)  : ∀ (n : Nat) (v0 : Nat) (v1 : Int32) (S : AxS) (k9 n9 : Nat) (hk9 : k9 + 57 * (n) ≤ 384) (hn9 : n9 + 560 * (n) ≤ 64902), F_X9_init_170 N  n v0 v1 S = some S9 → AW g l (axRm (11) 384 64902) mt_X9_init (axMQ g 384 64902 (.inl none, S9)) k9 n9 S 170 [(0, .ref v0), (1, .int v1)] [] := by
  intro n
  induction n with
  | zero => intro v0 v1 S k9 n9 hk9 hn9 h; cases h
  | succ n ih => intro v0 v1 S k9 n9 hk9 hn9 h; exact L1_X9_init_170b N n (F_X9_init_170 N  n) ih v0 v1 S k9 n9 hk9 hn9 h
set_option maxRecDepth 8000 in
theorem L1_X9_init {g : AxG} {l : Launch} (N : Nat) {v0 : Nat} {S : AxS} {S9 : AxS} (h : F_X9_init N v0 S = some S9) : AxMet g l yX9_init cX9_init 2 none (11) 384 64902 [.ref v0] S ((.inl none, S9)) := by
  refine ax_met (own := RX9) (ini := true) (by decide +kernel) rfl (fun h => rfl) rfl ?_
  show AW g l (axRm (11) 384 64902) mt_X9_init (axMQ g 384 64902 (.inl none, S9)) 0 0 S 0 [(0, .ref v0)] []
  unfold F_X9_init at h
  refine aw_aload_n 0 dX9_init_0 rfl rfl ?_
  refine aw_objInit wd_114 wd_115 wd_116 rfl dX9_init_1 rfl ?_
  refine aw_aload_n 0 dX9_init_4 rfl rfl ?_
  refine aw_new axc7 axd7 wd_117 wd_118 wd_88 dX9_init_5 (by show _ ≤ (384 : Nat); omega) (by show _ ≤ (64902 : Nat); omega) h (fun q1 T2 h => ?_)
  refine aw_dup rfl dX9_init_8 ?_
  refine aw_doneV (rest := [.ref q1, .ref v0]) h (fun S9 hF => aw_runIN (As := []) (rest := [.ref q1, .ref v0]) (L1_X7_init N hF) wd_121 wd_119 wd_120 wd_88 rfl pd_X7_init.2 rfl (ax_rm (by omega) rfl) (ax_hfk (by omega) (by omega)) (Nat.le_of_ble_eq_true rfl) rfl dX9_init_9) (fun T3 h => ?_)
  refine aw_putR axc9 0 rfl rfl wd_453 (Or.inr ⟨rfl, rfl, rfl⟩) rfl rfl dX9_init_12 h (fun T5 h => ?_)
  refine aw_aload_n 0 dX9_init_15 rfl rfl ?_
  refine aw_new axc1 axd1 wd_161 wd_162 wd_89 dX9_init_16 (by show _ ≤ (384 : Nat); omega) (by show _ ≤ (64902 : Nat); omega) h (fun q6 T7 h => ?_)
  refine aw_dup rfl dX9_init_19 ?_
  refine aw_doneV (rest := [.ref q6, .ref v0]) h (fun S9 hF => aw_runI (As := []) (rest := [.ref q6, .ref v0]) (L1_X1_init N hF) wd_165 wd_163 wd_164 wd_89 rfl pd_X1_init.2 rfl (ax_rm (by omega) rfl) (ax_hfk (by omega) (by omega)) (Nat.le_of_ble_eq_true rfl) rfl dX9_init_20) (fun T8 h => ?_)
  refine aw_putR axc9 1 rfl rfl wd_454 (Or.inl rfl) rfl rfl dX9_init_23 h (fun T10 h => ?_)
  refine aw_aload_n 0 dX9_init_26 rfl rfl ?_
  refine aw_new axc1 axd1 wd_161 wd_162 wd_89 dX9_init_27 (by show _ ≤ (384 : Nat); omega) (by show _ ≤ (64902 : Nat); omega) h (fun q11 T12 h => ?_)
  refine aw_dup rfl dX9_init_30 ?_
  refine aw_doneV (rest := [.ref q11, .ref v0]) h (fun S9 hF => aw_runI (As := []) (rest := [.ref q11, .ref v0]) (L1_X1_init N hF) wd_165 wd_163 wd_164 wd_89 rfl pd_X1_init.2 rfl (ax_rm (by omega) rfl) (ax_hfk (by omega) (by omega)) (Nat.le_of_ble_eq_true rfl) rfl dX9_init_31) (fun T13 h => ?_)
  refine aw_putR axc9 2 rfl rfl wd_455 (Or.inl rfl) rfl rfl dX9_init_34 h (fun T15 h => ?_)
  refine aw_aload_n 0 dX9_init_37 rfl rfl ?_
  refine aw_new axc4 axd4 wd_222 wd_223 wd_90 dX9_init_38 (by show _ ≤ (384 : Nat); omega) (by show _ ≤ (64902 : Nat); omega) h (fun q16 T17 h => ?_)
  refine aw_dup rfl dX9_init_41 ?_
  refine aw_doneV (rest := [.ref q16, .ref v0]) h (fun S9 hF => aw_runIN (As := []) (rest := [.ref q16, .ref v0]) (L1_X4_init N hF) wd_226 wd_224 wd_225 wd_90 rfl pd_X4_init.2 rfl (ax_rm (by omega) rfl) (ax_hfk (by omega) (by omega)) (Nat.le_of_ble_eq_true rfl) rfl dX9_init_42) (fun T18 h => ?_)
  refine aw_putR axc9 3 rfl rfl wd_456 (Or.inl rfl) rfl rfl dX9_init_45 h (fun T20 h => ?_)
  refine aw_aload_n 0 dX9_init_48 rfl rfl ?_
  refine aw_new axc4 axd4 wd_222 wd_223 wd_90 dX9_init_49 (by show _ ≤ (384 : Nat); omega) (by show _ ≤ (64902 : Nat); omega) h (fun q21 T22 h => ?_)
  refine aw_dup rfl dX9_init_52 ?_
  refine aw_doneV (rest := [.ref q21, .ref v0]) h (fun S9 hF => aw_runIN (As := []) (rest := [.ref q21, .ref v0]) (L1_X4_init N hF) wd_226 wd_224 wd_225 wd_90 rfl pd_X4_init.2 rfl (ax_rm (by omega) rfl) (ax_hfk (by omega) (by omega)) (Nat.le_of_ble_eq_true rfl) rfl dX9_init_53) (fun T23 h => ?_)
  refine aw_putR axc9 4 rfl rfl wd_457 (Or.inl rfl) rfl rfl dX9_init_56 h (fun T25 h => ?_)
  refine aw_aload_n 0 dX9_init_59 rfl rfl ?_
  refine aw_new axc0 axd0 wd_241 wd_242 wd_91 dX9_init_60 (by show _ ≤ (384 : Nat); omega) (by show _ ≤ (64902 : Nat); omega) h (fun q26 T27 h => ?_)
  refine aw_dup rfl dX9_init_63 ?_
  refine aw_doneV (rest := [.ref q26, .ref v0]) h (fun S9 hF => aw_runIN (As := []) (rest := [.ref q26, .ref v0]) (L1_X0_init N hF) wd_245 wd_243 wd_244 wd_91 rfl pd_X0_init.2 rfl (ax_rm (by omega) rfl) (ax_hfk (by omega) (by omega)) (Nat.le_of_ble_eq_true rfl) rfl dX9_init_64) (fun T28 h => ?_)
  refine aw_putR axc9 5 rfl rfl wd_458 (Or.inl rfl) rfl rfl dX9_init_67 h (fun T30 h => ?_)
  refine aw_aload_n 0 dX9_init_70 rfl rfl ?_
  refine aw_new axc0 axd0 wd_241 wd_242 wd_91 dX9_init_71 (by show _ ≤ (384 : Nat); omega) (by show _ ≤ (64902 : Nat); omega) h (fun q31 T32 h => ?_)
  refine aw_dup rfl dX9_init_74 ?_
  refine aw_doneV (rest := [.ref q31, .ref v0]) h (fun S9 hF => aw_runIN (As := []) (rest := [.ref q31, .ref v0]) (L1_X0_init N hF) wd_245 wd_243 wd_244 wd_91 rfl pd_X0_init.2 rfl (ax_rm (by omega) rfl) (ax_hfk (by omega) (by omega)) (Nat.le_of_ble_eq_true rfl) rfl dX9_init_75) (fun T33 h => ?_)
  refine aw_putR axc9 6 rfl rfl wd_459 (Or.inl rfl) rfl rfl dX9_init_78 h (fun T35 h => ?_)
  refine aw_aload_n 0 dX9_init_81 rfl rfl ?_
  refine aw_new axc6 axd6 wd_257 wd_258 wd_92 dX9_init_82 (by show _ ≤ (384 : Nat); omega) (by show _ ≤ (64902 : Nat); omega) h (fun q36 T37 h => ?_)
  refine aw_dup rfl dX9_init_85 ?_
  refine aw_doneV (rest := [.ref q36, .ref v0]) h (fun S9 hF => aw_runIN (As := []) (rest := [.ref q36, .ref v0]) (L1_X6_init N hF) wd_261 wd_259 wd_260 wd_92 rfl pd_X6_init.2 rfl (ax_rm (by omega) rfl) (ax_hfk (by omega) (by omega)) (Nat.le_of_ble_eq_true rfl) rfl dX9_init_86) (fun T38 h => ?_)
  refine aw_putR axc9 7 rfl rfl wd_460 (Or.inr ⟨rfl, rfl, rfl⟩) rfl rfl dX9_init_89 h (fun T40 h => ?_)
  refine aw_aload_n 0 dX9_init_92 rfl rfl ?_
  refine aw_new axc5 axd5 wd_286 wd_287 wd_93 dX9_init_93 (by show _ ≤ (384 : Nat); omega) (by show _ ≤ (64902 : Nat); omega) h (fun q41 T42 h => ?_)
  refine aw_dup rfl dX9_init_96 ?_
  refine aw_doneV (rest := [.ref q41, .ref v0]) h (fun S9 hF => aw_runIN (As := []) (rest := [.ref q41, .ref v0]) (L1_X5_init N hF) wd_290 wd_288 wd_289 wd_93 rfl pd_X5_init.2 rfl (ax_rm (by omega) rfl) (ax_hfk (by omega) (by omega)) (Nat.le_of_ble_eq_true rfl) rfl dX9_init_97) (fun T43 h => ?_)
  refine aw_putR axc9 8 rfl rfl wd_461 (Or.inr ⟨rfl, rfl, rfl⟩) rfl rfl dX9_init_100 h (fun T45 h => ?_)
  refine aw_aload_n 0 dX9_init_103 rfl rfl ?_
  refine aw_new axc5 axd5 wd_286 wd_287 wd_93 dX9_init_104 (by show _ ≤ (384 : Nat); omega) (by show _ ≤ (64902 : Nat); omega) h (fun q46 T47 h => ?_)
  refine aw_dup rfl dX9_init_107 ?_
  refine aw_doneV (rest := [.ref q46, .ref v0]) h (fun S9 hF => aw_runIN (As := []) (rest := [.ref q46, .ref v0]) (L1_X5_init N hF) wd_290 wd_288 wd_289 wd_93 rfl pd_X5_init.2 rfl (ax_rm (by omega) rfl) (ax_hfk (by omega) (by omega)) (Nat.le_of_ble_eq_true rfl) rfl dX9_init_108) (fun T48 h => ?_)
  refine aw_putR axc9 9 rfl rfl wd_462 (Or.inr ⟨rfl, rfl, rfl⟩) rfl rfl dX9_init_111 h (fun T50 h => ?_)
  refine aw_aload_n 0 dX9_init_114 rfl rfl ?_
  refine aw_new axc8 axd8 wd_349 wd_350 wd_94 dX9_init_115 (by show _ ≤ (384 : Nat); omega) (by show _ ≤ (64902 : Nat); omega) h (fun q51 T52 h => ?_)
  refine aw_dup rfl dX9_init_118 ?_
  refine aw_doneV (rest := [.ref q51, .ref v0]) h (fun S9 hF => aw_runI (As := []) (rest := [.ref q51, .ref v0]) (L1_X8_init N hF) wd_353 wd_351 wd_352 wd_94 rfl pd_X8_init.2 rfl (ax_rm (by omega) rfl) (ax_hfk (by omega) (by omega)) (Nat.le_of_ble_eq_true rfl) rfl dX9_init_119) (fun T53 h => ?_)
  refine aw_putR axc9 10 rfl rfl wd_463 (Or.inr ⟨rfl, rfl, rfl⟩) rfl rfl dX9_init_122 h (fun T55 h => ?_)
  refine aw_aload_n 0 dX9_init_125 rfl rfl ?_
  refine aw_iconst 3 dX9_init_126 rfl ?_
  refine aw_newR (N := 3) (t := 1) (C0 := RX3) rfl (by decide) wd_366 wd_367 dX9_init_127 (by decide) (by decide) rfl (by show _ ≤ (384 : Nat); omega) (by show _ ≤ (64902 : Nat); omega) h (fun q56 T57 h => ?_)
  refine aw_putR axc9 11 rfl rfl wd_464 (Or.inr ⟨rfl, rfl, rfl⟩) rfl rfl dX9_init_130 h (fun T58 h => ?_)
  refine aw_aload_n 0 dX9_init_133 rfl rfl ?_
  refine aw_new axc2 axd2 wd_368 wd_369 wd_95 dX9_init_134 (by show _ ≤ (384 : Nat); omega) (by show _ ≤ (64902 : Nat); omega) h (fun q59 T60 h => ?_)
  refine aw_dup rfl dX9_init_137 ?_
  refine aw_doneV (rest := [.ref q59, .ref v0]) h (fun S9 hF => aw_runIN (As := []) (rest := [.ref q59, .ref v0]) (L1_X2_init N hF) wd_372 wd_370 wd_371 wd_95 rfl pd_X2_init.2 rfl (ax_rm (by omega) rfl) (ax_hfk (by omega) (by omega)) (Nat.le_of_ble_eq_true rfl) rfl dX9_init_138) (fun T61 h => ?_)
  refine aw_putR axc9 16 rfl rfl wd_469 (Or.inr ⟨rfl, rfl, rfl⟩) rfl rfl dX9_init_141 h (fun T63 h => ?_)
  refine aw_aload_n 0 dX9_init_144 rfl rfl ?_
  refine aw_iconst 4 dX9_init_145 rfl ?_
  refine aw_newI (N := 4) wd_160 dX9_init_146 (by decide) (by decide) rfl (by show _ ≤ (384 : Nat); omega) (by show _ ≤ (64902 : Nat); omega) h (fun q64 T65 h => ?_)
  refine aw_putR axc9 17 rfl rfl wd_470 (Or.inr ⟨rfl, rfl, rfl⟩) rfl rfl dX9_init_148 h (fun T66 h => ?_)
  refine aw_aload_n 0 dX9_init_151 rfl rfl ?_
  refine aw_sipush 256 dX9_init_152 (by decide) ?_
  refine aw_newI (N := 256) wd_160 dX9_init_155 (by decide) (by decide) rfl (by show _ ≤ (384 : Nat); omega) (by show _ ≤ (64902 : Nat); omega) h (fun q67 T68 h => ?_)
  refine aw_putR axc9 18 rfl rfl wd_471 (Or.inr ⟨rfl, rfl, rfl⟩) rfl rfl dX9_init_157 h (fun T69 h => ?_)
  refine aw_aload_n 0 dX9_init_160 rfl rfl ?_
  refine aw_bipush 8 dX9_init_161 (by decide) ?_
  refine aw_newI (N := 8) wd_160 dX9_init_163 (by decide) (by decide) rfl (by show _ ≤ (384 : Nat); omega) (by show _ ≤ (64902 : Nat); omega) h (fun q70 T71 h => ?_)
  refine aw_putR axc9 19 rfl rfl wd_472 (Or.inr ⟨rfl, rfl, rfl⟩) rfl rfl dX9_init_165 h (fun T72 h => ?_)
  refine aw_iconst 0 dX9_init_168 rfl ?_
  refine aw_istore_n 1 [(1, .int 0), (0, .ref v0)] dX9_init_169 rfl rfl rfl ?_
  refine aw_env [(0, .ref v0), (1, .int 0)] [1, 0] rfl ?_
  exact L1_X9_init_170 N  4 v0 0 T72 _ _ (by omega) (by omega) h

theorem dX10_init_0 : decode cX10_init 0 = .ok (.aload_n 0, 1) := by decide +kernel
theorem dX10_init_1 : decode cX10_init 1 = .ok (.invokespecial 1, 3) := by decide +kernel
theorem dX10_init_4 : decode cX10_init 4 = .ok (.aload_n 0, 1) := by decide +kernel
theorem dX10_init_5 : decode cX10_init 5 = .ok (.iconst (-1), 1) := by decide +kernel
theorem dX10_init_6 : decode cX10_init 6 = .ok (.putfield 9, 3) := by decide +kernel
theorem dX10_init_9 : decode cX10_init 9 = .ok (.aload_n 0, 1) := by decide +kernel
theorem dX10_init_10 : decode cX10_init 10 = .ok (.sipush 600, 3) := by decide +kernel
theorem dX10_init_13 : decode cX10_init 13 = .ok (.newarray .int, 2) := by decide +kernel
theorem dX10_init_15 : decode cX10_init 15 = .ok (.putfield 13, 3) := by decide +kernel
theorem dX10_init_18 : decode cX10_init 18 = .ok (.aload_n 0, 1) := by decide +kernel
theorem dX10_init_19 : decode cX10_init 19 = .ok (.iconst 2, 1) := by decide +kernel
theorem dX10_init_20 : decode cX10_init 20 = .ok (.newarray .int, 2) := by decide +kernel
theorem dX10_init_22 : decode cX10_init 22 = .ok (.putfield 17, 3) := by decide +kernel
theorem dX10_init_25 : decode cX10_init 25 = .ok (.aload_n 0, 1) := by decide +kernel
theorem dX10_init_26 : decode cX10_init 26 = .ok (.bipush 7, 2) := by decide +kernel
theorem dX10_init_28 : decode cX10_init 28 = .ok (.newarray .int, 2) := by decide +kernel
theorem dX10_init_30 : decode cX10_init 30 = .ok (.putfield 20, 3) := by decide +kernel
theorem dX10_init_33 : decode cX10_init 33 = .ok (.aload_n 0, 1) := by decide +kernel
theorem dX10_init_34 : decode cX10_init 34 = .ok (.bipush 7, 2) := by decide +kernel
theorem dX10_init_36 : decode cX10_init 36 = .ok (.newarray .int, 2) := by decide +kernel
theorem dX10_init_38 : decode cX10_init 38 = .ok (.putfield 23, 3) := by decide +kernel
theorem dX10_init_41 : decode cX10_init 41 = .ok (.aload_n 0, 1) := by decide +kernel
theorem dX10_init_42 : decode cX10_init 42 = .ok (.bipush 12, 2) := by decide +kernel
theorem dX10_init_44 : decode cX10_init 44 = .ok (.newarray .int, 2) := by decide +kernel
theorem dX10_init_46 : decode cX10_init 46 = .ok (.putfield 26, 3) := by decide +kernel
theorem dX10_init_49 : decode cX10_init 49 = .ok (.aload_n 0, 1) := by decide +kernel
theorem dX10_init_50 : decode cX10_init 50 = .ok (.bipush 12, 2) := by decide +kernel
theorem dX10_init_52 : decode cX10_init 52 = .ok (.newarray .int, 2) := by decide +kernel
theorem dX10_init_54 : decode cX10_init 54 = .ok (.putfield 29, 3) := by decide +kernel
theorem dX10_init_57 : decode cX10_init 57 = .ok (.aload_n 0, 1) := by decide +kernel
theorem dX10_init_58 : decode cX10_init 58 = .ok (.iconst 4, 1) := by decide +kernel
theorem dX10_init_59 : decode cX10_init 59 = .ok (.bipush 8, 2) := by decide +kernel
theorem dX10_init_61 : decode cX10_init 61 = .ok (.multianewarray 32 2, 4) := by decide +kernel
theorem dX10_init_65 : decode cX10_init 65 = .ok (.putfield 34, 3) := by decide +kernel
theorem dX10_init_68 : decode cX10_init 68 = .ok (.aload_n 0, 1) := by decide +kernel
theorem dX10_init_69 : decode cX10_init 69 = .ok (.iconst 4, 1) := by decide +kernel
theorem dX10_init_70 : decode cX10_init 70 = .ok (.bipush 8, 2) := by decide +kernel
theorem dX10_init_72 : decode cX10_init 72 = .ok (.multianewarray 32 2, 4) := by decide +kernel
theorem dX10_init_76 : decode cX10_init 76 = .ok (.putfield 37, 3) := by decide +kernel
theorem dX10_init_79 : decode cX10_init 79 = .ok (.aload_n 0, 1) := by decide +kernel
theorem dX10_init_80 : decode cX10_init 80 = .ok (.sipush 160, 3) := by decide +kernel
theorem dX10_init_83 : decode cX10_init 83 = .ok (.iconst 2, 1) := by decide +kernel
theorem dX10_init_84 : decode cX10_init 84 = .ok (.multianewarray 32 2, 4) := by decide +kernel
theorem dX10_init_88 : decode cX10_init 88 = .ok (.putfield 40, 3) := by decide +kernel
theorem dX10_init_91 : decode cX10_init 91 = .ok (.aload_n 0, 1) := by decide +kernel
theorem dX10_init_92 : decode cX10_init 92 = .ok (.sipush 160, 3) := by decide +kernel
theorem dX10_init_95 : decode cX10_init 95 = .ok (.iconst 2, 1) := by decide +kernel
theorem dX10_init_96 : decode cX10_init 96 = .ok (.multianewarray 32 2, 4) := by decide +kernel
theorem dX10_init_100 : decode cX10_init 100 = .ok (.putfield 43, 3) := by decide +kernel
theorem dX10_init_103 : decode cX10_init 103 = .ok (.aload_n 0, 1) := by decide +kernel
theorem dX10_init_104 : decode cX10_init 104 = .ok (.bipush 8, 2) := by decide +kernel
theorem dX10_init_106 : decode cX10_init 106 = .ok (.iconst 2, 1) := by decide +kernel
theorem dX10_init_107 : decode cX10_init 107 = .ok (.multianewarray 32 2, 4) := by decide +kernel
theorem dX10_init_111 : decode cX10_init 111 = .ok (.putfield 46, 3) := by decide +kernel
theorem dX10_init_114 : decode cX10_init 114 = .ok (.aload_n 0, 1) := by decide +kernel
theorem dX10_init_115 : decode cX10_init 115 = .ok (.bipush 8, 2) := by decide +kernel
theorem dX10_init_117 : decode cX10_init 117 = .ok (.iconst 2, 1) := by decide +kernel
theorem dX10_init_118 : decode cX10_init 118 = .ok (.multianewarray 32 2, 4) := by decide +kernel
theorem dX10_init_122 : decode cX10_init 122 = .ok (.putfield 49, 3) := by decide +kernel
theorem dX10_init_125 : decode cX10_init 125 = .ok (.aload_n 0, 1) := by decide +kernel
theorem dX10_init_126 : decode cX10_init 126 = .ok (.sipush 160, 3) := by decide +kernel
theorem dX10_init_129 : decode cX10_init 129 = .ok (.newarray .int, 2) := by decide +kernel
theorem dX10_init_131 : decode cX10_init 131 = .ok (.putfield 52, 3) := by decide +kernel
theorem dX10_init_134 : decode cX10_init 134 = .ok (.aload_n 0, 1) := by decide +kernel
theorem dX10_init_135 : decode cX10_init 135 = .ok (.bipush 7, 2) := by decide +kernel
theorem dX10_init_137 : decode cX10_init 137 = .ok (.newarray .int, 2) := by decide +kernel
theorem dX10_init_139 : decode cX10_init 139 = .ok (.putfield 55, 3) := by decide +kernel
theorem dX10_init_142 : decode cX10_init 142 = .ok (.aload_n 0, 1) := by decide +kernel
theorem dX10_init_143 : decode cX10_init 143 = .ok (.bipush 80, 2) := by decide +kernel
theorem dX10_init_145 : decode cX10_init 145 = .ok (.iconst 4, 1) := by decide +kernel
theorem dX10_init_146 : decode cX10_init 146 = .ok (.multianewarray 32 2, 4) := by decide +kernel
theorem dX10_init_150 : decode cX10_init 150 = .ok (.putfield 58, 3) := by decide +kernel
theorem dX10_init_153 : decode cX10_init 153 = .ok (.aload_n 0, 1) := by decide +kernel
theorem dX10_init_154 : decode cX10_init 154 = .ok (.bipush 29, 2) := by decide +kernel
theorem dX10_init_156 : decode cX10_init 156 = .ok (.newarray .int, 2) := by decide +kernel
theorem dX10_init_158 : decode cX10_init 158 = .ok (.putfield 61, 3) := by decide +kernel
theorem dX10_init_161 : decode cX10_init 161 = .ok (.aload_n 0, 1) := by decide +kernel
theorem dX10_init_162 : decode cX10_init 162 = .ok (.bipush 29, 2) := by decide +kernel
theorem dX10_init_164 : decode cX10_init 164 = .ok (.newarray .int, 2) := by decide +kernel
theorem dX10_init_166 : decode cX10_init 166 = .ok (.putfield 64, 3) := by decide +kernel
theorem dX10_init_169 : decode cX10_init 169 = .ok (.aload_n 0, 1) := by decide +kernel
theorem dX10_init_170 : decode cX10_init 170 = .ok (.bipush 16, 2) := by decide +kernel
theorem dX10_init_172 : decode cX10_init 172 = .ok (.bipush 29, 2) := by decide +kernel
theorem dX10_init_174 : decode cX10_init 174 = .ok (.multianewarray 32 2, 4) := by decide +kernel
theorem dX10_init_178 : decode cX10_init 178 = .ok (.putfield 67, 3) := by decide +kernel
theorem dX10_init_181 : decode cX10_init 181 = .ok (.aload_n 0, 1) := by decide +kernel
theorem dX10_init_182 : decode cX10_init 182 = .ok (.iconst 3, 1) := by decide +kernel
theorem dX10_init_183 : decode cX10_init 183 = .ok (.sipush 494, 3) := by decide +kernel
theorem dX10_init_186 : decode cX10_init 186 = .ok (.multianewarray 32 2, 4) := by decide +kernel
theorem dX10_init_190 : decode cX10_init 190 = .ok (.putfield 70, 3) := by decide +kernel
theorem dX10_init_193 : decode cX10_init 193 = .ok (.aload_n 0, 1) := by decide +kernel
theorem dX10_init_194 : decode cX10_init 194 = .ok (.iconst 5, 1) := by decide +kernel
theorem dX10_init_195 : decode cX10_init 195 = .ok (.newarray .int, 2) := by decide +kernel
theorem dX10_init_197 : decode cX10_init 197 = .ok (.putfield 73, 3) := by decide +kernel
theorem dX10_init_200 : decode cX10_init 200 = .ok (.aload_n 0, 1) := by decide +kernel
theorem dX10_init_201 : decode cX10_init 201 = .ok (.bipush 60, 2) := by decide +kernel
theorem dX10_init_203 : decode cX10_init 203 = .ok (.newarray .int, 2) := by decide +kernel
theorem dX10_init_205 : decode cX10_init 205 = .ok (.putfield 76, 3) := by decide +kernel
theorem dX10_init_208 : decode cX10_init 208 = .ok (.aload_n 0, 1) := by decide +kernel
theorem dX10_init_209 : decode cX10_init 209 = .ok (.bipush 60, 2) := by decide +kernel
theorem dX10_init_211 : decode cX10_init 211 = .ok (.sipush 1000, 3) := by decide +kernel
theorem dX10_init_214 : decode cX10_init 214 = .ok (.multianewarray 32 2, 4) := by decide +kernel
theorem dX10_init_218 : decode cX10_init 218 = .ok (.putfield 79, 3) := by decide +kernel
theorem dX10_init_221 : decode cX10_init 221 = .ok (.aload_n 0, 1) := by decide +kernel
theorem dX10_init_222 : decode cX10_init 222 = .ok (.bipush 10, 2) := by decide +kernel
theorem dX10_init_224 : decode cX10_init 224 = .ok (.newarray .long, 2) := by decide +kernel
theorem dX10_init_226 : decode cX10_init 226 = .ok (.putfield 82, 3) := by decide +kernel
theorem dX10_init_229 : decode cX10_init 229 = .ok (.aload_n 0, 1) := by decide +kernel
theorem dX10_init_230 : decode cX10_init 230 = .ok (.bipush 8, 2) := by decide +kernel
theorem dX10_init_232 : decode cX10_init 232 = .ok (.newarray .int, 2) := by decide +kernel
theorem dX10_init_234 : decode cX10_init 234 = .ok (.putfield 86, 3) := by decide +kernel
theorem dX10_init_237 : decode cX10_init 237 = .ok (.aload_n 0, 1) := by decide +kernel
theorem dX10_init_238 : decode cX10_init 238 = .ok (.bipush 8, 2) := by decide +kernel
theorem dX10_init_240 : decode cX10_init 240 = .ok (.newarray .int, 2) := by decide +kernel
theorem dX10_init_242 : decode cX10_init 242 = .ok (.putfield 89, 3) := by decide +kernel
theorem dX10_init_245 : decode cX10_init 245 = .ok (.aload_n 0, 1) := by decide +kernel
theorem dX10_init_246 : decode cX10_init 246 = .ok (.bipush 8, 2) := by decide +kernel
theorem dX10_init_248 : decode cX10_init 248 = .ok (.newarray .int, 2) := by decide +kernel
theorem dX10_init_250 : decode cX10_init 250 = .ok (.putfield 92, 3) := by decide +kernel
theorem dX10_init_253 : decode cX10_init 253 = .ok (.aload_n 0, 1) := by decide +kernel
theorem dX10_init_254 : decode cX10_init 254 = .ok (.iconst 4, 1) := by decide +kernel
theorem dX10_init_255 : decode cX10_init 255 = .ok (.newarray .int, 2) := by decide +kernel
theorem dX10_init_257 : decode cX10_init 257 = .ok (.putfield 95, 3) := by decide +kernel
theorem dX10_init_260 : decode cX10_init 260 = .ok (.aload_n 0, 1) := by decide +kernel
theorem dX10_init_261 : decode cX10_init 261 = .ok (.invokevirtual 98, 3) := by decide +kernel
theorem dX10_init_264 : decode cX10_init 264 = .ok (.aload_n 0, 1) := by decide +kernel
theorem dX10_init_265 : decode cX10_init 265 = .ok (.invokevirtual 101, 3) := by decide +kernel
theorem dX10_init_268 : decode cX10_init 268 = .ok (.return_, 1) := by decide +kernel
abbrev mt_X10_init : AxM := (RX10, cX10_init, 1, none, true, [])
set_option maxRecDepth 8000 in
theorem L1_X10_init {g : AxG} {l : Launch} (N : Nat) {v0 : Nat} {S : AxS} {S9 : AxS} (h : F_X10_init N v0 S = some S9) : AxMet g l yX10_init cX10_init 1 none (8) 530 64473 [.ref v0] S ((.inl none, S9)) := by
  refine ax_met (own := RX10) (ini := true) (by decide +kernel) rfl (fun h => rfl) rfl ?_
  show AW g l (axRm (8) 530 64473) mt_X10_init (axMQ g 530 64473 (.inl none, S9)) 0 0 S 0 [(0, .ref v0)] []
  unfold F_X10_init at h
  refine aw_aload_n 0 dX10_init_0 rfl rfl ?_
  refine aw_objInit wd_1268 wd_115 wd_116 rfl dX10_init_1 rfl ?_
  refine aw_aload_n 0 dX10_init_4 rfl rfl ?_
  refine aw_iconst (-1) dX10_init_5 rfl ?_
  refine aw_putI axc10 3 rfl rfl wd_1288 rfl rfl rfl dX10_init_6 h (fun T1 h => ?_)
  refine aw_aload_n 0 dX10_init_9 rfl rfl ?_
  refine aw_sipush 600 dX10_init_10 (by decide) ?_
  refine aw_newI (N := 600) wd_160 dX10_init_13 (by decide) (by decide) rfl (by show _ ≤ (530 : Nat); omega) (by show _ ≤ (64473 : Nat); omega) h (fun q2 T3 h => ?_)
  refine aw_putR axc10 9 rfl rfl wd_1294 (Or.inr ⟨rfl, rfl, rfl⟩) rfl rfl dX10_init_15 h (fun T4 h => ?_)
  refine aw_aload_n 0 dX10_init_18 rfl rfl ?_
  refine aw_iconst 2 dX10_init_19 rfl ?_
  refine aw_newI (N := 2) wd_160 dX10_init_20 (by decide) (by decide) rfl (by show _ ≤ (530 : Nat); omega) (by show _ ≤ (64473 : Nat); omega) h (fun q5 T6 h => ?_)
  refine aw_putR axc10 10 rfl rfl wd_1295 (Or.inr ⟨rfl, rfl, rfl⟩) rfl rfl dX10_init_22 h (fun T7 h => ?_)
  refine aw_aload_n 0 dX10_init_25 rfl rfl ?_
  refine aw_bipush 7 dX10_init_26 (by decide) ?_
  refine aw_newI (N := 7) wd_160 dX10_init_28 (by decide) (by decide) rfl (by show _ ≤ (530 : Nat); omega) (by show _ ≤ (64473 : Nat); omega) h (fun q8 T9 h => ?_)
  refine aw_putR axc10 11 rfl rfl wd_1296 (Or.inr ⟨rfl, rfl, rfl⟩) rfl rfl dX10_init_30 h (fun T10 h => ?_)
  refine aw_aload_n 0 dX10_init_33 rfl rfl ?_
  refine aw_bipush 7 dX10_init_34 (by decide) ?_
  refine aw_newI (N := 7) wd_160 dX10_init_36 (by decide) (by decide) rfl (by show _ ≤ (530 : Nat); omega) (by show _ ≤ (64473 : Nat); omega) h (fun q11 T12 h => ?_)
  refine aw_putR axc10 12 rfl rfl wd_1297 (Or.inr ⟨rfl, rfl, rfl⟩) rfl rfl dX10_init_38 h (fun T13 h => ?_)
  refine aw_aload_n 0 dX10_init_41 rfl rfl ?_
  refine aw_bipush 12 dX10_init_42 (by decide) ?_
  refine aw_newI (N := 12) wd_160 dX10_init_44 (by decide) (by decide) rfl (by show _ ≤ (530 : Nat); omega) (by show _ ≤ (64473 : Nat); omega) h (fun q14 T15 h => ?_)
  refine aw_putR axc10 13 rfl rfl wd_1298 (Or.inr ⟨rfl, rfl, rfl⟩) rfl rfl dX10_init_46 h (fun T16 h => ?_)
  refine aw_aload_n 0 dX10_init_49 rfl rfl ?_
  refine aw_bipush 12 dX10_init_50 (by decide) ?_
  refine aw_newI (N := 12) wd_160 dX10_init_52 (by decide) (by decide) rfl (by show _ ≤ (530 : Nat); omega) (by show _ ≤ (64473 : Nat); omega) h (fun q17 T18 h => ?_)
  refine aw_putR axc10 14 rfl rfl wd_1299 (Or.inr ⟨rfl, rfl, rfl⟩) rfl rfl dX10_init_54 h (fun T19 h => ?_)
  refine aw_aload_n 0 dX10_init_57 rfl rfl ?_
  refine aw_iconst 4 dX10_init_58 rfl ?_
  refine aw_bipush 8 dX10_init_59 (by decide) ?_
  refine aw_newM (N0 := 4) (K0 := 8) wd_1269 wd_375 wd_160 dX10_init_61 (by decide) (by decide) (by decide) (by decide) rfl rfl (by show _ ≤ (530 : Nat); omega) (by show _ ≤ (64473 : Nat); omega) h (fun q20 T21 h => ?_)
  refine aw_putR axc10 15 rfl rfl wd_1300 (Or.inr ⟨rfl, rfl, rfl⟩) rfl rfl dX10_init_65 h (fun T22 h => ?_)
  refine aw_aload_n 0 dX10_init_68 rfl rfl ?_
  refine aw_iconst 4 dX10_init_69 rfl ?_
  refine aw_bipush 8 dX10_init_70 (by decide) ?_
  refine aw_newM (N0 := 4) (K0 := 8) wd_1269 wd_375 wd_160 dX10_init_72 (by decide) (by decide) (by decide) (by decide) rfl rfl (by show _ ≤ (530 : Nat); omega) (by show _ ≤ (64473 : Nat); omega) h (fun q23 T24 h => ?_)
  refine aw_putR axc10 16 rfl rfl wd_1301 (Or.inr ⟨rfl, rfl, rfl⟩) rfl rfl dX10_init_76 h (fun T25 h => ?_)
  refine aw_aload_n 0 dX10_init_79 rfl rfl ?_
  refine aw_sipush 160 dX10_init_80 (by decide) ?_
  refine aw_iconst 2 dX10_init_83 rfl ?_
  refine aw_newM (N0 := 160) (K0 := 2) wd_1269 wd_375 wd_160 dX10_init_84 (by decide) (by decide) (by decide) (by decide) rfl rfl (by show _ ≤ (530 : Nat); omega) (by show _ ≤ (64473 : Nat); omega) h (fun q26 T27 h => ?_)
  refine aw_putR axc10 19 rfl rfl wd_1304 (Or.inr ⟨rfl, rfl, rfl⟩) rfl rfl dX10_init_88 h (fun T28 h => ?_)
  refine aw_aload_n 0 dX10_init_91 rfl rfl ?_
  refine aw_sipush 160 dX10_init_92 (by decide) ?_
  refine aw_iconst 2 dX10_init_95 rfl ?_
  refine aw_newM (N0 := 160) (K0 := 2) wd_1269 wd_375 wd_160 dX10_init_96 (by decide) (by decide) (by decide) (by decide) rfl rfl (by show _ ≤ (530 : Nat); omega) (by show _ ≤ (64473 : Nat); omega) h (fun q29 T30 h => ?_)
  refine aw_putR axc10 20 rfl rfl wd_1305 (Or.inr ⟨rfl, rfl, rfl⟩) rfl rfl dX10_init_100 h (fun T31 h => ?_)
  refine aw_aload_n 0 dX10_init_103 rfl rfl ?_
  refine aw_bipush 8 dX10_init_104 (by decide) ?_
  refine aw_iconst 2 dX10_init_106 rfl ?_
  refine aw_newM (N0 := 8) (K0 := 2) wd_1269 wd_375 wd_160 dX10_init_107 (by decide) (by decide) (by decide) (by decide) rfl rfl (by show _ ≤ (530 : Nat); omega) (by show _ ≤ (64473 : Nat); omega) h (fun q32 T33 h => ?_)
  refine aw_putR axc10 21 rfl rfl wd_1306 (Or.inr ⟨rfl, rfl, rfl⟩) rfl rfl dX10_init_111 h (fun T34 h => ?_)
  refine aw_aload_n 0 dX10_init_114 rfl rfl ?_
  refine aw_bipush 8 dX10_init_115 (by decide) ?_
  refine aw_iconst 2 dX10_init_117 rfl ?_
  refine aw_newM (N0 := 8) (K0 := 2) wd_1269 wd_375 wd_160 dX10_init_118 (by decide) (by decide) (by decide) (by decide) rfl rfl (by show _ ≤ (530 : Nat); omega) (by show _ ≤ (64473 : Nat); omega) h (fun q35 T36 h => ?_)
  refine aw_putR axc10 22 rfl rfl wd_1307 (Or.inr ⟨rfl, rfl, rfl⟩) rfl rfl dX10_init_122 h (fun T37 h => ?_)
  refine aw_aload_n 0 dX10_init_125 rfl rfl ?_
  refine aw_sipush 160 dX10_init_126 (by decide) ?_
  refine aw_newI (N := 160) wd_160 dX10_init_129 (by decide) (by decide) rfl (by show _ ≤ (530 : Nat); omega) (by show _ ≤ (64473 : Nat); omega) h (fun q38 T39 h => ?_)
  refine aw_putR axc10 23 rfl rfl wd_1308 (Or.inr ⟨rfl, rfl, rfl⟩) rfl rfl dX10_init_131 h (fun T40 h => ?_)
  refine aw_aload_n 0 dX10_init_134 rfl rfl ?_
  refine aw_bipush 7 dX10_init_135 (by decide) ?_
  refine aw_newI (N := 7) wd_160 dX10_init_137 (by decide) (by decide) rfl (by show _ ≤ (530 : Nat); omega) (by show _ ≤ (64473 : Nat); omega) h (fun q41 T42 h => ?_)
  refine aw_putR axc10 24 rfl rfl wd_1309 (Or.inr ⟨rfl, rfl, rfl⟩) rfl rfl dX10_init_139 h (fun T43 h => ?_)
  refine aw_aload_n 0 dX10_init_142 rfl rfl ?_
  refine aw_bipush 80 dX10_init_143 (by decide) ?_
  refine aw_iconst 4 dX10_init_145 rfl ?_
  refine aw_newM (N0 := 80) (K0 := 4) wd_1269 wd_375 wd_160 dX10_init_146 (by decide) (by decide) (by decide) (by decide) rfl rfl (by show _ ≤ (530 : Nat); omega) (by show _ ≤ (64473 : Nat); omega) h (fun q44 T45 h => ?_)
  refine aw_putR axc10 25 rfl rfl wd_1310 (Or.inr ⟨rfl, rfl, rfl⟩) rfl rfl dX10_init_150 h (fun T46 h => ?_)
  refine aw_aload_n 0 dX10_init_153 rfl rfl ?_
  refine aw_bipush 29 dX10_init_154 (by decide) ?_
  refine aw_newI (N := 29) wd_160 dX10_init_156 (by decide) (by decide) rfl (by show _ ≤ (530 : Nat); omega) (by show _ ≤ (64473 : Nat); omega) h (fun q47 T48 h => ?_)
  refine aw_putR axc10 27 rfl rfl wd_1312 (Or.inr ⟨rfl, rfl, rfl⟩) rfl rfl dX10_init_158 h (fun T49 h => ?_)
  refine aw_aload_n 0 dX10_init_161 rfl rfl ?_
  refine aw_bipush 29 dX10_init_162 (by decide) ?_
  refine aw_newI (N := 29) wd_160 dX10_init_164 (by decide) (by decide) rfl (by show _ ≤ (530 : Nat); omega) (by show _ ≤ (64473 : Nat); omega) h (fun q50 T51 h => ?_)
  refine aw_putR axc10 28 rfl rfl wd_1313 (Or.inr ⟨rfl, rfl, rfl⟩) rfl rfl dX10_init_166 h (fun T52 h => ?_)
  refine aw_aload_n 0 dX10_init_169 rfl rfl ?_
  refine aw_bipush 16 dX10_init_170 (by decide) ?_
  refine aw_bipush 29 dX10_init_172 (by decide) ?_
  refine aw_newM (N0 := 16) (K0 := 29) wd_1269 wd_375 wd_160 dX10_init_174 (by decide) (by decide) (by decide) (by decide) rfl rfl (by show _ ≤ (530 : Nat); omega) (by show _ ≤ (64473 : Nat); omega) h (fun q53 T54 h => ?_)
  refine aw_putR axc10 29 rfl rfl wd_1314 (Or.inr ⟨rfl, rfl, rfl⟩) rfl rfl dX10_init_178 h (fun T55 h => ?_)
  refine aw_aload_n 0 dX10_init_181 rfl rfl ?_
  refine aw_iconst 3 dX10_init_182 rfl ?_
  refine aw_sipush 494 dX10_init_183 (by decide) ?_
  refine aw_newM (N0 := 3) (K0 := 494) wd_1269 wd_375 wd_160 dX10_init_186 (by decide) (by decide) (by decide) (by decide) rfl rfl (by show _ ≤ (530 : Nat); omega) (by show _ ≤ (64473 : Nat); omega) h (fun q56 T57 h => ?_)
  refine aw_putR axc10 30 rfl rfl wd_1315 (Or.inr ⟨rfl, rfl, rfl⟩) rfl rfl dX10_init_190 h (fun T58 h => ?_)
  refine aw_aload_n 0 dX10_init_193 rfl rfl ?_
  refine aw_iconst 5 dX10_init_194 rfl ?_
  refine aw_newI (N := 5) wd_160 dX10_init_195 (by decide) (by decide) rfl (by show _ ≤ (530 : Nat); omega) (by show _ ≤ (64473 : Nat); omega) h (fun q59 T60 h => ?_)
  refine aw_putR axc10 38 rfl rfl wd_1323 (Or.inr ⟨rfl, rfl, rfl⟩) rfl rfl dX10_init_197 h (fun T61 h => ?_)
  refine aw_aload_n 0 dX10_init_200 rfl rfl ?_
  refine aw_bipush 60 dX10_init_201 (by decide) ?_
  refine aw_newI (N := 60) wd_160 dX10_init_203 (by decide) (by decide) rfl (by show _ ≤ (530 : Nat); omega) (by show _ ≤ (64473 : Nat); omega) h (fun q62 T63 h => ?_)
  refine aw_putR axc10 39 rfl rfl wd_1324 (Or.inr ⟨rfl, rfl, rfl⟩) rfl rfl dX10_init_205 h (fun T64 h => ?_)
  refine aw_aload_n 0 dX10_init_208 rfl rfl ?_
  refine aw_bipush 60 dX10_init_209 (by decide) ?_
  refine aw_sipush 1000 dX10_init_211 (by decide) ?_
  refine aw_newM (N0 := 60) (K0 := 1000) wd_1269 wd_375 wd_160 dX10_init_214 (by decide) (by decide) (by decide) (by decide) rfl rfl (by show _ ≤ (530 : Nat); omega) (by show _ ≤ (64473 : Nat); omega) h (fun q65 T66 h => ?_)
  refine aw_putR axc10 40 rfl rfl wd_1325 (Or.inr ⟨rfl, rfl, rfl⟩) rfl rfl dX10_init_218 h (fun T67 h => ?_)
  refine aw_aload_n 0 dX10_init_221 rfl rfl ?_
  refine aw_bipush 10 dX10_init_222 (by decide) ?_
  refine aw_newJ (N := 10) wd_1433 dX10_init_224 (by decide) (by decide) rfl (by show _ ≤ (530 : Nat); omega) (by show _ ≤ (64473 : Nat); omega) h (fun q68 T69 h => ?_)
  refine aw_putR axc10 41 rfl rfl wd_1326 (Or.inr ⟨rfl, rfl, rfl⟩) rfl rfl dX10_init_226 h (fun T70 h => ?_)
  refine aw_aload_n 0 dX10_init_229 rfl rfl ?_
  refine aw_bipush 8 dX10_init_230 (by decide) ?_
  refine aw_newI (N := 8) wd_160 dX10_init_232 (by decide) (by decide) rfl (by show _ ≤ (530 : Nat); omega) (by show _ ≤ (64473 : Nat); omega) h (fun q71 T72 h => ?_)
  refine aw_putR axc10 42 rfl rfl wd_1327 (Or.inr ⟨rfl, rfl, rfl⟩) rfl rfl dX10_init_234 h (fun T73 h => ?_)
  refine aw_aload_n 0 dX10_init_237 rfl rfl ?_
  refine aw_bipush 8 dX10_init_238 (by decide) ?_
  refine aw_newI (N := 8) wd_160 dX10_init_240 (by decide) (by decide) rfl (by show _ ≤ (530 : Nat); omega) (by show _ ≤ (64473 : Nat); omega) h (fun q74 T75 h => ?_)
  refine aw_putR axc10 43 rfl rfl wd_1328 (Or.inr ⟨rfl, rfl, rfl⟩) rfl rfl dX10_init_242 h (fun T76 h => ?_)
  refine aw_aload_n 0 dX10_init_245 rfl rfl ?_
  refine aw_bipush 8 dX10_init_246 (by decide) ?_
  refine aw_newI (N := 8) wd_160 dX10_init_248 (by decide) (by decide) rfl (by show _ ≤ (530 : Nat); omega) (by show _ ≤ (64473 : Nat); omega) h (fun q77 T78 h => ?_)
  refine aw_putR axc10 45 rfl rfl wd_1330 (Or.inr ⟨rfl, rfl, rfl⟩) rfl rfl dX10_init_250 h (fun T79 h => ?_)
  refine aw_aload_n 0 dX10_init_253 rfl rfl ?_
  refine aw_iconst 4 dX10_init_254 rfl ?_
  refine aw_newI (N := 4) wd_160 dX10_init_255 (by decide) (by decide) rfl (by show _ ≤ (530 : Nat); omega) (by show _ ≤ (64473 : Nat); omega) h (fun q80 T81 h => ?_)
  refine aw_putR axc10 46 rfl rfl wd_1331 (Or.inr ⟨rfl, rfl, rfl⟩) rfl rfl dX10_init_257 h (fun T82 h => ?_)
  refine aw_aload_n 0 dX10_init_260 rfl rfl ?_
  obtain ⟨hL83, h⟩ := ax_is_spec h
  refine aw_doneV (rest := []) h (fun S9 hF => aw_runV (As := []) (rest := []) (L1_X10_tellsNothing N hF) axc10 hL83 wd_1273 wd_1270 wd_1272 wd_35 wd_97 pd_X10_tellsNothing rfl (ax_rm (by omega) rfl) (ax_hfk (by omega) (by omega)) (Nat.le_of_ble_eq_true rfl) rfl dX10_init_261) (fun T84 h => ?_)
  refine aw_aload_n 0 dX10_init_264 rfl rfl ?_
  obtain ⟨hL86, h⟩ := ax_is_spec h
  refine aw_doneV (rest := []) h (fun S9 hF => aw_runV (As := []) (rest := []) (L1_X10_beginsAnew N hF) axc10 hL86 wd_1277 wd_1274 wd_1276 wd_36 wd_97 pd_X10_beginsAnew rfl (ax_rm (by omega) rfl) (ax_hfk (by omega) (by omega)) (Nat.le_of_ble_eq_true rfl) rfl dX10_init_265) (fun T87 h => ?_)
  exact aw_vret dX10_init_268 rfl (by omega) (by omega) h
