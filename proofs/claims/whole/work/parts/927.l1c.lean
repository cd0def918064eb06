theorem dX9_findBeds_0 : decode cX9_findBeds 0 = .ok (.iconst 1, 1) := by decide +kernel
theorem dX9_findBeds_1 : decode cX9_findBeds 1 = .ok (.aload_n 0, 1) := by decide +kernel
theorem dX9_findBeds_2 : decode cX9_findBeds 2 = .ok (.getfield 19, 3) := by decide +kernel
theorem dX9_findBeds_5 : decode cX9_findBeds 5 = .ok (.getfield 210, 3) := by decide +kernel
theorem dX9_findBeds_8 : decode cX9_findBeds 8 = .ok (.bipush 8, 2) := by decide +kernel
theorem dX9_findBeds_10 : decode cX9_findBeds 10 = .ok (.invokestatic 290, 3) := by decide +kernel
theorem dX9_findBeds_13 : decode cX9_findBeds 13 = .ok (.ishl, 1) := by decide +kernel
theorem dX9_findBeds_14 : decode cX9_findBeds 14 = .ok (.istore_n 2, 1) := by decide +kernel
theorem dX9_findBeds_15 : decode cX9_findBeds 15 = .ok (.iload_n 2, 1) := by decide +kernel
theorem dX9_findBeds_16 : decode cX9_findBeds 16 = .ok (.iconst 1, 1) := by decide +kernel
theorem dX9_findBeds_17 : decode cX9_findBeds 17 = .ok (.isub, 1) := by decide +kernel
theorem dX9_findBeds_18 : decode cX9_findBeds 18 = .ok (.istore_n 3, 1) := by decide +kernel
theorem dX9_findBeds_19 : decode cX9_findBeds 19 = .ok (.iload_n 3, 1) := by decide +kernel
theorem dX9_findBeds_20 : decode cX9_findBeds 20 = .ok (.ifCond .lt 87, 3) := by decide +kernel
theorem dX9_findBeds_23 : decode cX9_findBeds 23 = .ok (.iload_n 3, 1) := by decide +kernel
theorem dX9_findBeds_24 : decode cX9_findBeds 24 = .ok (.invokestatic 450, 3) := by decide +kernel
theorem dX9_findBeds_27 : decode cX9_findBeds 27 = .ok (.istore 4, 2) := by decide +kernel
theorem dX9_findBeds_29 : decode cX9_findBeds 29 = .ok (.iconst 0, 1) := by decide +kernel
theorem dX9_findBeds_30 : decode cX9_findBeds 30 = .ok (.istore 5, 2) := by decide +kernel
theorem dX9_findBeds_32 : decode cX9_findBeds 32 = .ok (.iconst 0, 1) := by decide +kernel
theorem dX9_findBeds_33 : decode cX9_findBeds 33 = .ok (.istore 6, 2) := by decide +kernel
theorem dX9_findBeds_35 : decode cX9_findBeds 35 = .ok (.iload 6, 2) := by decide +kernel
theorem dX9_findBeds_37 : decode cX9_findBeds 37 = .ok (.aload_n 0, 1) := by decide +kernel
theorem dX9_findBeds_38 : decode cX9_findBeds 38 = .ok (.getfield 19, 3) := by decide +kernel
theorem dX9_findBeds_41 : decode cX9_findBeds 41 = .ok (.getfield 210, 3) := by decide +kernel
theorem dX9_findBeds_44 : decode cX9_findBeds 44 = .ok (.if_icmp .ge 47, 3) := by decide +kernel
theorem dX9_findBeds_47 : decode cX9_findBeds 47 = .ok (.iload 4, 2) := by decide +kernel
theorem dX9_findBeds_49 : decode cX9_findBeds 49 = .ok (.aload_n 0, 1) := by decide +kernel
theorem dX9_findBeds_50 : decode cX9_findBeds 50 = .ok (.getfield 19, 3) := by decide +kernel
theorem dX9_findBeds_53 : decode cX9_findBeds 53 = .ok (.getfield 142, 3) := by decide +kernel
theorem dX9_findBeds_56 : decode cX9_findBeds 56 = .ok (.if_icmp .ge 35, 3) := by decide +kernel
theorem dX9_findBeds_59 : decode cX9_findBeds 59 = .ok (.iload_n 3, 1) := by decide +kernel
theorem dX9_findBeds_60 : decode cX9_findBeds 60 = .ok (.iload 6, 2) := by decide +kernel
theorem dX9_findBeds_62 : decode cX9_findBeds 62 = .ok (.ishr, 1) := by decide +kernel
theorem dX9_findBeds_63 : decode cX9_findBeds 63 = .ok (.iconst 1, 1) := by decide +kernel
theorem dX9_findBeds_64 : decode cX9_findBeds 64 = .ok (.iand, 1) := by decide +kernel
theorem dX9_findBeds_65 : decode cX9_findBeds 65 = .ok (.ifCond .ne 20, 3) := by decide +kernel
theorem dX9_findBeds_68 : decode cX9_findBeds 68 = .ok (.iload 5, 2) := by decide +kernel
theorem dX9_findBeds_70 : decode cX9_findBeds 70 = .ok (.aload_n 0, 1) := by decide +kernel
theorem dX9_findBeds_71 : decode cX9_findBeds 71 = .ok (.iload 4, 2) := by decide +kernel
theorem dX9_findBeds_73 : decode cX9_findBeds 73 = .ok (.iload 6, 2) := by decide +kernel
theorem dX9_findBeds_75 : decode cX9_findBeds 75 = .ok (.iload_n 3, 1) := by decide +kernel
theorem dX9_findBeds_76 : decode cX9_findBeds 76 = .ok (.iload_n 1, 1) := by decide +kernel
theorem dX9_findBeds_77 : decode cX9_findBeds 77 = .ok (.invokevirtual 455, 3) := by decide +kernel
theorem dX9_findBeds_80 : decode cX9_findBeds 80 = .ok (.invokestatic 295, 3) := by decide +kernel
theorem dX9_findBeds_83 : decode cX9_findBeds 83 = .ok (.istore 5, 2) := by decide +kernel
theorem dX9_findBeds_85 : decode cX9_findBeds 85 = .ok (.iinc 6 1, 3) := by decide +kernel
theorem dX9_findBeds_88 : decode cX9_findBeds 88 = .ok (.goto (-53), 3) := by decide +kernel
theorem dX9_findBeds_91 : decode cX9_findBeds 91 = .ok (.aload_n 0, 1) := by decide +kernel
theorem dX9_findBeds_92 : decode cX9_findBeds 92 = .ok (.getfield 87, 3) := by decide +kernel
theorem dX9_findBeds_95 : decode cX9_findBeds 95 = .ok (.iload_n 3, 1) := by decide +kernel
theorem dX9_findBeds_96 : decode cX9_findBeds 96 = .ok (.iload 5, 2) := by decide +kernel
theorem dX9_findBeds_98 : decode cX9_findBeds 98 = .ok (.invokestatic 380, 3) := by decide +kernel
theorem dX9_findBeds_101 : decode cX9_findBeds 101 = .ok (.iinc 3 (-1), 3) := by decide +kernel
theorem dX9_findBeds_104 : decode cX9_findBeds 104 = .ok (.goto (-85), 3) := by decide +kernel
theorem dX9_findBeds_107 : decode cX9_findBeds 107 = .ok (.iconst 0, 1) := by decide +kernel
theorem dX9_findBeds_108 : decode cX9_findBeds 108 = .ok (.istore_n 3, 1) := by decide +kernel
theorem dX9_findBeds_109 : decode cX9_findBeds 109 = .ok (.iconst 0, 1) := by decide +kernel
theorem dX9_findBeds_110 : decode cX9_findBeds 110 = .ok (.istore 4, 2) := by decide +kernel
theorem dX9_findBeds_112 : decode cX9_findBeds 112 = .ok (.iload 4, 2) := by decide +kernel
theorem dX9_findBeds_114 : decode cX9_findBeds 114 = .ok (.aload_n 0, 1) := by decide +kernel
theorem dX9_findBeds_115 : decode cX9_findBeds 115 = .ok (.getfield 19, 3) := by decide +kernel
theorem dX9_findBeds_118 : decode cX9_findBeds 118 = .ok (.getfield 142, 3) := by decide +kernel
theorem dX9_findBeds_121 : decode cX9_findBeds 121 = .ok (.if_icmp .ge 37, 3) := by decide +kernel
theorem dX9_findBeds_124 : decode cX9_findBeds 124 = .ok (.aload_n 0, 1) := by decide +kernel
theorem dX9_findBeds_125 : decode cX9_findBeds 125 = .ok (.iload 4, 2) := by decide +kernel
theorem dX9_findBeds_127 : decode cX9_findBeds 127 = .ok (.iload_n 3, 1) := by decide +kernel
theorem dX9_findBeds_128 : decode cX9_findBeds 128 = .ok (.iload_n 1, 1) := by decide +kernel
theorem dX9_findBeds_129 : decode cX9_findBeds 129 = .ok (.invokevirtual 459, 3) := by decide +kernel
theorem dX9_findBeds_132 : decode cX9_findBeds 132 = .ok (.istore 5, 2) := by decide +kernel
theorem dX9_findBeds_134 : decode cX9_findBeds 134 = .ok (.aload_n 0, 1) := by decide +kernel
theorem dX9_findBeds_135 : decode cX9_findBeds 135 = .ok (.getfield 90, 3) := by decide +kernel
theorem dX9_findBeds_138 : decode cX9_findBeds 138 = .ok (.iload 4, 2) := by decide +kernel
theorem dX9_findBeds_140 : decode cX9_findBeds 140 = .ok (.iload 5, 2) := by decide +kernel
theorem dX9_findBeds_142 : decode cX9_findBeds 142 = .ok (.invokestatic 380, 3) := by decide +kernel
theorem dX9_findBeds_145 : decode cX9_findBeds 145 = .ok (.iload_n 3, 1) := by decide +kernel
theorem dX9_findBeds_146 : decode cX9_findBeds 146 = .ok (.iconst 1, 1) := by decide +kernel
theorem dX9_findBeds_147 : decode cX9_findBeds 147 = .ok (.iload 5, 2) := by decide +kernel
theorem dX9_findBeds_149 : decode cX9_findBeds 149 = .ok (.ishl, 1) := by decide +kernel
theorem dX9_findBeds_150 : decode cX9_findBeds 150 = .ok (.ior, 1) := by decide +kernel
theorem dX9_findBeds_151 : decode cX9_findBeds 151 = .ok (.istore_n 3, 1) := by decide +kernel
theorem dX9_findBeds_152 : decode cX9_findBeds 152 = .ok (.iinc 4 1, 3) := by decide +kernel
theorem dX9_findBeds_155 : decode cX9_findBeds 155 = .ok (.goto (-43), 3) := by decide +kernel
theorem dX9_findBeds_158 : decode cX9_findBeds 158 = .ok (.return_, 1) := by decide +kernel
abbrev mt_X9_findBeds : AxM := (RX9, cX9_findBeds, 7, none, false, [])
theorem L1_X9_findBeds_112b {g : AxG} {l : Launch} {S9 : AxS} (N : Nat) (K112 : Nat → Int32 → Int32 → Int32 → AxS → Option (AxS)) (hK112 : ∀ (v0 : Nat) (v1 : Int32) (v3 : Int32) (v4 : Int32) (S : AxS), K112 v0 v1 v3 v4 S = some S9 → AW g l (axRm (5) 0 0) mt_X9_findBeds (axMQ g 0 0 (.inl none, S9)) 0 0 S 112 [(0, .ref v0), (1, .int v1), (3, .int v3), (4, .int v4)] []) (v0 : Nat) (v1 : Int32) (v3 : Int32) (v4 : Int32) (S : AxS) (h : F_X9_findBeds_112b N K112 v0 v1 v3 v4 S = some S9) : AW g l (axRm (5) 0 0) mt_X9_findBeds (axMQ g 0 0 (.inl none, S9)) 0 0 S 112 [(0, .ref v0), (1, .int v1), (3, .int v3), (4, .int v4)] [] := by
  unfold F_X9_findBeds_112b at h
  refine aw_iload 3 dX9_findBeds_112 rfl ?_
  refine aw_aload_n 0 dX9_findBeds_114 rfl rfl ?_
  refine aw_getR axc9 1 rfl rfl wd_454 dX9_findBeds_115 h (fun a1 h => ?_)
  refine aw_getI axc1 5 rfl rfl wd_183 dX9_findBeds_118 h (fun x2 h => ?_)
  refine aw_icmp_ge 158 dX9_findBeds_121 (by decide) h (fun h => ?_) (fun h => ?_)
  · exact aw_vret dX9_findBeds_158 rfl (Nat.le_refl _) (Nat.le_refl _) h
  · refine aw_aload_n 0 dX9_findBeds_124 rfl rfl ?_
    refine aw_iload 3 dX9_findBeds_125 rfl ?_
    refine aw_iload_n 2 dX9_findBeds_127 rfl rfl ?_
    refine aw_iload_n 1 dX9_findBeds_128 rfl rfl ?_
    obtain ⟨hL3, h⟩ := ax_is_spec h
    refine aw_doneI (rest := []) h (fun r9 S9 hF => aw_runV (As := [.int v4, .int v3, .int v1]) (rest := []) (L1_X9_leastBed N hF) axc9 hL3 wd_1164 wd_1161 wd_1163 wd_27 wd_87 pd_X9_leastBed rfl (ax_rm (by omega) rfl) ax_hf0 (Nat.le_of_ble_eq_true rfl) rfl dX9_findBeds_129) (fun x5 T4 h => ?_)
    refine aw_istore [(5, .int x5), (0, .ref v0), (1, .int v1), (3, .int v3), (4, .int v4)] dX9_findBeds_132 rfl rfl ?_
    refine aw_aload_n 1 dX9_findBeds_134 rfl rfl ?_
    refine aw_getR axc9 19 rfl rfl wd_472 dX9_findBeds_135 h (fun a6 h => ?_)
    refine aw_iload 4 dX9_findBeds_138 rfl ?_
    refine aw_iload 0 dX9_findBeds_140 rfl ?_
    refine aw_doneV (rest := []) h (fun S9 hF => aw_runS (As := [.ref a6, .int v4, .int x5]) (rest := []) (L1_X9_put N hF) wd_443 wd_918 wd_442 wd_87 pd_X9_put.2 rfl (ax_rm (by omega) rfl) ax_hf0 (Nat.le_of_ble_eq_true rfl) rfl dX9_findBeds_142) (fun T7 h => ?_)
    refine aw_iload_n 3 dX9_findBeds_145 rfl rfl ?_
    refine aw_iconst 1 dX9_findBeds_146 rfl ?_
    refine aw_iload 0 dX9_findBeds_147 rfl ?_
    refine aw_ishl dX9_findBeds_149 ?_
    refine aw_ior dX9_findBeds_150 ?_
    refine aw_istore_n 3 [(3, .int (v3 ||| (1 <<< (x5 &&& 31)))), (5, .int x5), (0, .ref v0), (1, .int v1), (4, .int v4)] dX9_findBeds_151 rfl rfl rfl ?_
    refine aw_iinc 4 [(4, .int (v4 + 1)), (3, .int (v3 ||| (1 <<< (x5 &&& 31)))), (5, .int x5), (0, .ref v0), (1, .int v1)] (v4 + 1) dX9_findBeds_152 rfl rfl rfl rfl ?_
    refine aw_goto 112 dX9_findBeds_155 (by decide) ?_
    refine aw_env [(0, .ref v0), (1, .int v1), (3, .int (v3 ||| (1 <<< (x5 &&& 31)))), (4, .int (v4 + 1))] [3, 4, 1, 0] rfl ?_
    exact hK112 v0 v1 (v3 ||| (1 <<< (x5 &&& 31))) (v4 + 1) T7 h
theorem L1_X9_findBeds_112 {g : AxG} {l : Launch} {S9 : AxS} (N : Nat)  : ∀ (n : Nat) (v0 : Nat) (v1 : Int32) (v3 : Int32) (v4 : Int32) (S : AxS), F_X9_findBeds_112 N  n v0 v1 v3 v4 S = some S9 → AW g l (axRm (5) 0 0) mt_X9_findBeds (axMQ g 0 0 (.inl none, S9)) 0 0 S 112 [(0, .ref v0), (1, .int v1), (3, .int v3), (4, .int v4)] [] := by
  intro n
  induction n with
  | zero => intro v0 v1 v3 v4 S h; cases h
  | succ n ih => intro v0 v1 v3 v4 S h; exact L1_X9_findBeds_112b N (F_X9_findBeds_112 N  n) ih v0 v1 v3 v4 S h
theorem L1_X9_findBeds_91 {g : AxG} {l : Launch} {S9 : AxS} (N : Nat) (K19 : Nat → Int32 → Int32 → AxS → Option (AxS)) (hK19 : ∀ (v0 : Nat) (v1 : Int32) (v3 : Int32) (S : AxS), K19 v0 v1 v3 S = some S9 → AW g l (axRm (5) 0 0) mt_X9_findBeds (axMQ g 0 0 (.inl none, S9)) 0 0 S 19 [(0, .ref v0), (1, .int v1), (3, .int v3)] []) (v0 : Nat) (v1 : Int32) (v3 : Int32) (v5 : Int32) (S : AxS) (h : F_X9_findBeds_91 N K19 v0 v1 v3 v5 S = some S9) : AW g l (axRm (5) 0 0) mt_X9_findBeds (axMQ g 0 0 (.inl none, S9)) 0 0 S 91 [(0, .ref v0), (1, .int v1), (3, .int v3), (5, .int v5)] [] := by
  unfold F_X9_findBeds_91 at h
  refine aw_aload_n 0 dX9_findBeds_91 rfl rfl ?_
  refine aw_getR axc9 18 rfl rfl wd_471 dX9_findBeds_92 h (fun a1 h => ?_)
  refine aw_iload_n 2 dX9_findBeds_95 rfl rfl ?_
  refine aw_iload 3 dX9_findBeds_96 rfl ?_
  refine aw_doneV (rest := []) h (fun S9 hF => aw_runS (As := [.ref a1, .int v3, .int v5]) (rest := []) (L1_X9_put N hF) wd_443 wd_918 wd_442 wd_87 pd_X9_put.2 rfl (ax_rm (by omega) rfl) ax_hf0 (Nat.le_of_ble_eq_true rfl) rfl dX9_findBeds_98) (fun T2 h => ?_)
  refine aw_iinc 2 [(3, .int (v3 + (-1))), (0, .ref v0), (1, .int v1), (5, .int v5)] (v3 + (-1)) dX9_findBeds_101 rfl rfl rfl rfl ?_
  refine aw_goto 19 dX9_findBeds_104 (by decide) ?_
  refine aw_env [(0, .ref v0), (1, .int v1), (3, .int (v3 + (-1)))] [1, 2, 0] rfl ?_
  exact hK19 v0 v1 (v3 + (-1)) T2 h
theorem L1_X9_findBeds_85 {g : AxG} {l : Launch} {S9 : AxS} (N : Nat) (K35 : Nat → Int32 → Int32 → Int32 → Int32 → Int32 → AxS → Option (AxS)) (hK35 : ∀ (v0 : Nat) (v1 : Int32) (v3 : Int32) (v4 : Int32) (v5 : Int32) (v6 : Int32) (S : AxS), K35 v0 v1 v3 v4 v5 v6 S = some S9 → AW g l (axRm (5) 0 0) mt_X9_findBeds (axMQ g 0 0 (.inl none, S9)) 0 0 S 35 [(0, .ref v0), (1, .int v1), (3, .int v3), (4, .int v4), (5, .int v5), (6, .int v6)] []) (v0 : Nat) (v1 : Int32) (v3 : Int32) (v4 : Int32) (v5 : Int32) (v6 : Int32) (S : AxS) (h : F_X9_findBeds_85 N K35 v0 v1 v3 v4 v5 v6 S = some S9) : AW g l (axRm (5) 0 0) mt_X9_findBeds (axMQ g 0 0 (.inl none, S9)) 0 0 S 85 [(0, .ref v0), (1, .int v1), (3, .int v3), (4, .int v4), (5, .int v5), (6, .int v6)] [] := by
  unfold F_X9_findBeds_85 at h
  refine aw_iinc 5 [(6, .int (v6 + 1)), (0, .ref v0), (1, .int v1), (3, .int v3), (4, .int v4), (5, .int v5)] (v6 + 1) dX9_findBeds_85 rfl rfl rfl rfl ?_
  refine aw_goto 35 dX9_findBeds_88 (by decide) ?_
  refine aw_env [(0, .ref v0), (1, .int v1), (3, .int v3), (4, .int v4), (5, .int v5), (6, .int (v6 + 1))] [1, 2, 3, 4, 5, 0] rfl ?_
  exact hK35 v0 v1 v3 v4 v5 (v6 + 1) S h
theorem L1_X9_findBeds_35b {g : AxG} {l : Launch} {S9 : AxS} (N : Nat) (K19 : Nat → Int32 → Int32 → AxS → Option (AxS)) (hK19 : ∀ (v0 : Nat) (v1 : Int32) (v3 : Int32) (S : AxS), K19 v0 v1 v3 S = some S9 → AW g l (axRm (5) 0 0) mt_X9_findBeds (axMQ g 0 0 (.inl none, S9)) 0 0 S 19 [(0, .ref v0), (1, .int v1), (3, .int v3)] []) (K35 : Nat → Int32 → Int32 → Int32 → Int32 → Int32 → AxS → Option (AxS)) (hK35 : ∀ (v0 : Nat) (v1 : Int32) (v3 : Int32) (v4 : Int32) (v5 : Int32) (v6 : Int32) (S : AxS), K35 v0 v1 v3 v4 v5 v6 S = some S9 → AW g l (axRm (5) 0 0) mt_X9_findBeds (axMQ g 0 0 (.inl none, S9)) 0 0 S 35 [(0, .ref v0), (1, .int v1), (3, .int v3), (4, .int v4), (5, .int v5), (6, .int v6)] []) (v0 : Nat) (v1 : Int32) (v3 : Int32) (v4 : Int32) (v5 : Int32) (v6 : Int32) (S : AxS) (h : F_X9_findBeds_35b N K19 K35 v0 v1 v3 v4 v5 v6 S = some S9) : AW g l (axRm (5) 0 0) mt_X9_findBeds (axMQ g 0 0 (.inl none, S9)) 0 0 S 35 [(0, .ref v0), (1, .int v1), (3, .int v3), (4, .int v4), (5, .int v5), (6, .int v6)] [] := by
  unfold F_X9_findBeds_35b at h
  refine aw_iload 5 dX9_findBeds_35 rfl ?_
  refine aw_aload_n 0 dX9_findBeds_37 rfl rfl ?_
  refine aw_getR axc9 1 rfl rfl wd_454 dX9_findBeds_38 h (fun a1 h => ?_)
  refine aw_getI axc1 4 rfl rfl wd_181 dX9_findBeds_41 h (fun x2 h => ?_)
  refine aw_icmp_ge 91 dX9_findBeds_44 (by decide) h (fun h => ?_) (fun h => ?_)
  · refine aw_env [(0, .ref v0), (1, .int v1), (3, .int v3), (5, .int v5)] [0, 1, 2, 4] rfl ?_
    exact L1_X9_findBeds_91 N K19 hK19 v0 v1 v3 v5 S h
  · refine aw_iload 3 dX9_findBeds_47 rfl ?_
    refine aw_aload_n 0 dX9_findBeds_49 rfl rfl ?_
    refine aw_getR axc9 1 rfl rfl wd_454 dX9_findBeds_50 h (fun a3 h => ?_)
    refine aw_getI axc1 5 rfl rfl wd_183 dX9_findBeds_53 h (fun x4 h => ?_)
    refine aw_icmp_ge 91 dX9_findBeds_56 (by decide) h (fun h => ?_) (fun h => ?_)
    · refine aw_env [(0, .ref v0), (1, .int v1), (3, .int v3), (5, .int v5)] [0, 1, 2, 4] rfl ?_
      exact L1_X9_findBeds_91 N K19 hK19 v0 v1 v3 v5 S h
    · refine aw_iload_n 2 dX9_findBeds_59 rfl rfl ?_
      refine aw_iload 5 dX9_findBeds_60 rfl ?_
      refine aw_ishr dX9_findBeds_62 ?_
      refine aw_iconst 1 dX9_findBeds_63 rfl ?_
      refine aw_iand dX9_findBeds_64 ?_
      refine aw_if_ne 85 dX9_findBeds_65 (by decide) h (fun h => ?_) (fun h => ?_)
      · refine aw_env [(0, .ref v0), (1, .int v1), (3, .int v3), (4, .int v4), (5, .int v5), (6, .int v6)] [0, 1, 2, 3, 4, 5] rfl ?_
        exact L1_X9_findBeds_85 N K35 hK35 v0 v1 v3 v4 v5 v6 S h
      · refine aw_iload 4 dX9_findBeds_68 rfl ?_
        refine aw_aload_n 0 dX9_findBeds_70 rfl rfl ?_
        refine aw_iload 3 dX9_findBeds_71 rfl ?_
        refine aw_iload 5 dX9_findBeds_73 rfl ?_
        refine aw_iload_n 2 dX9_findBeds_75 rfl rfl ?_
        refine aw_iload_n 1 dX9_findBeds_76 rfl rfl ?_
        obtain ⟨hL5, h⟩ := ax_is_spec h
        refine aw_doneI (rest := [.int v5]) h (fun r9 S9 hF => aw_runV (As := [.int v4, .int v6, .int v3, .int v1]) (rest := [.int v5]) (L1_X9_sleepWith N hF) axc9 hL5 wd_1155 wd_1152 wd_1154 wd_26 wd_87 pd_X9_sleepWith rfl (ax_rm (by omega) rfl) ax_hf0 (Nat.le_of_ble_eq_true rfl) rfl dX9_findBeds_77) (fun x7 T6 h => ?_)
        refine aw_doneI (rest := []) h (fun r9 S9 hF => aw_runS (As := [.int v5, .int x7]) (rest := []) (L1_J9_max_7cf53 N hF) wd_552 wd_550 wd_551 wd_106 pd_J9_max_7cf53.2 rfl (ax_rm (by omega) rfl) ax_hf0 (Nat.le_of_ble_eq_true rfl) rfl dX9_findBeds_80) (fun x9 T8 h => ?_)
        refine aw_istore [(5, .int x9), (0, .ref v0), (1, .int v1), (3, .int v3), (4, .int v4), (6, .int v6)] dX9_findBeds_83 rfl rfl ?_
        refine aw_env [(0, .ref v0), (1, .int v1), (3, .int v3), (4, .int v4), (5, .int x9), (6, .int v6)] [1, 2, 3, 4, 0, 5] rfl ?_
        exact L1_X9_findBeds_85 N K35 hK35 v0 v1 v3 v4 x9 v6 T8 h
theorem L1_X9_findBeds_35 {g : AxG} {l : Launch} {S9 : AxS} (N : Nat) (K19 : Nat → Int32 → Int32 → AxS → Option (AxS)) (hK19 : ∀ (v0 : Nat) (v1 : Int32) (v3 : Int32) (S : AxS), K19 v0 v1 v3 S = some S9 → AW g l (axRm (5) 0 0) mt_X9_findBeds (axMQ g 0 0 (.inl none, S9)) 0 0 S 19 [(0, .ref v0), (1, .int v1), (3, .int v3)] []) : ∀ (n : Nat) (v0 : Nat) (v1 : Int32) (v3 : Int32) (v4 : Int32) (v5 : Int32) (v6 : Int32) (S : AxS), F_X9_findBeds_35 N K19 n v0 v1 v3 v4 v5 v6 S = some S9 → AW g l (axRm (5) 0 0) mt_X9_findBeds (axMQ g 0 0 (.inl none, S9)) 0 0 S 35 [(0, .ref v0), (1, .int v1), (3, .int v3), (4, .int v4), (5, .int v5), (6, .int v6)] [] := by
  intro n
  induction n with
  | zero => intro v0 v1 v3 v4 v5 v6 S h; cases h
  | succ n ih => intro v0 v1 v3 v4 v5 v6 S h; exact L1_X9_findBeds_35b N K19 hK19 (F_X9_findBeds_35 N K19 n) ih v0 v1 v3 v4 v5 v6 S h
theorem L1_X9_findBeds_19b {g : AxG} {l : Launch} {S9 : AxS} (N : Nat) (K19 : Nat → Int32 → Int32 → AxS → Option (AxS)) (hK19 : ∀ (v0 : Nat) (v1 : Int32) (v3 : Int32) (S : AxS), K19 v0 v1 v3 S = some S9 → AW g l (axRm (5) 0 0) mt_X9_findBeds (axMQ g 0 0 (.inl none, S9)) 0 0 S 19 [(0, .ref v0), (1, .int v1), (3, .int v3)] []) (v0 : Nat) (v1 : Int32) (v3 : Int32) (S : AxS) (h : F_X9_findBeds_19b N K19 v0 v1 v3 S = some S9) : AW g l (axRm (5) 0 0) mt_X9_findBeds (axMQ g 0 0 (.inl none, S9)) 0 0 S 19 [(0, .ref v0), (1, .int v1), (3, .int v3)] [] := by
  unfold F_X9_findBeds_19b at h
  refine aw_iload_n 2 dX9_findBeds_19 rfl rfl ?_
  refine aw_if_lt 107 dX9_findBeds_20 (by decide) h (fun h => ?_) (fun h => ?_)
  · refine aw_iconst 0 dX9_findBeds_107 rfl ?_
    refine aw_istore_n 3 [(3, .int 0), (0, .ref v0), (1, .int v1)] dX9_findBeds_108 rfl rfl rfl ?_
    refine aw_iconst 0 dX9_findBeds_109 rfl ?_
    refine aw_istore [(4, .int 0), (3, .int 0), (0, .ref v0), (1, .int v1)] dX9_findBeds_110 rfl rfl ?_
    refine aw_env [(0, .ref v0), (1, .int v1), (3, .int 0), (4, .int 0)] [2, 3, 1, 0] rfl ?_
    exact L1_X9_findBeds_112 N  N v0 v1 0 0 S h
  · refine aw_iload_n 2 dX9_findBeds_23 rfl rfl ?_
    refine aw_doneI (rest := []) h (fun r9 S9 hF => aw_runS (As := [.int v3]) (rest := []) (L1_J6_bitCount_0f7a4 N hF) wd_1148 wd_1146 wd_1147 wd_108 pd_J6_bitCount_0f7a4.2 rfl (ax_rm (by omega) rfl) ax_hf0 (Nat.le_of_ble_eq_true rfl) rfl dX9_findBeds_24) (fun x2 T1 h => ?_)
    refine aw_istore [(4, .int x2), (0, .ref v0), (1, .int v1), (3, .int v3)] dX9_findBeds_27 rfl rfl ?_
    refine aw_iconst 0 dX9_findBeds_29 rfl ?_
    refine aw_istore [(5, .int 0), (4, .int x2), (0, .ref v0), (1, .int v1), (3, .int v3)] dX9_findBeds_30 rfl rfl ?_
    refine aw_iconst 0 dX9_findBeds_32 rfl ?_
    refine aw_istore [(6, .int 0), (5, .int 0), (4, .int x2), (0, .ref v0), (1, .int v1), (3, .int v3)] dX9_findBeds_33 rfl rfl ?_
    refine aw_env [(0, .ref v0), (1, .int v1), (3, .int v3), (4, .int x2), (5, .int 0), (6, .int 0)] [3, 4, 5, 2, 1, 0] rfl ?_
    exact L1_X9_findBeds_35 N K19 hK19 N v0 v1 v3 x2 0 0 T1 h
theorem L1_X9_findBeds_19 {g : AxG} {l : Launch} {S9 : AxS} (N : Nat)  : ∀ (n : Nat) (v0 : Nat) (v1 : Int32) (v3 : Int32) (S : AxS), F_X9_findBeds_19 N  n v0 v1 v3 S = some S9 → AW g l (axRm (5) 0 0) mt_X9_findBeds (axMQ g 0 0 (.inl none, S9)) 0 0 S 19 [(0, .ref v0), (1, .int v1), (3, .int v3)] [] := by
  intro n
  induction n with
  | zero => intro v0 v1 v3 S h; cases h
  | succ n ih => intro v0 v1 v3 S h; exact L1_X9_findBeds_19b N (F_X9_findBeds_19 N  n) ih v0 v1 v3 S h
theorem L1_X9_findBeds {g : AxG} {l : Launch} (N : Nat) {v0 : Nat} {v1 : Int32} {S : AxS} {S9 : AxS} (h : F_X9_findBeds N v0 v1 S = some S9) : AxMet g l yX9_findBeds cX9_findBeds 7 none (5) 0 0 [.ref v0, .int v1] S ((.inl none, S9)) := by
  refine ax_met (own := RX9) (ini := false) (by decide +kernel) rfl (fun h => nomatch h) rfl ?_
  show AW g l (axRm (5) 0 0) mt_X9_findBeds (axMQ g 0 0 (.inl none, S9)) 0 0 S 0 [(0, .ref v0), (1, .int v1)] []
  unfold F_X9_findBeds at h
  refine aw_iconst 1 dX9_findBeds_0 rfl ?_
  refine aw_aload_n 0 dX9_findBeds_1 rfl rfl ?_
  refine aw_getR axc9 1 rfl rfl wd_454 dX9_findBeds_2 h (fun a1 h => ?_)
  refine aw_getI axc1 4 rfl rfl wd_181 dX9_findBeds_5 h (fun x2 h => ?_)
  refine aw_bipush 8 dX9_findBeds_8 (by decide) ?_
  refine aw_doneI (rest := [.int 1]) h (fun r9 S9 hF => aw_runS (As := [.int x2, .int 8]) (rest := [.int 1]) (L1_J9_min_7cf53 N hF) wd_563 wd_565 wd_562 wd_106 pd_J9_min_7cf53.2 rfl (ax_rm (by omega) rfl) ax_hf0 (Nat.le_of_ble_eq_true rfl) rfl dX9_findBeds_10) (fun x4 T3 h => ?_)
  refine aw_ishl dX9_findBeds_13 ?_
  refine aw_istore_n 2 [(2, .int (1 <<< (x4 &&& 31))), (0, .ref v0), (1, .int v1)] dX9_findBeds_14 rfl rfl rfl ?_
  refine aw_iload_n 0 dX9_findBeds_15 rfl rfl ?_
  refine aw_iconst 1 dX9_findBeds_16 rfl ?_
  refine aw_isub dX9_findBeds_17 ?_
  refine aw_istore_n 3 [(3, .int ((1 <<< (x4 &&& 31)) - 1)), (2, .int (1 <<< (x4 &&& 31))), (0, .ref v0), (1, .int v1)] dX9_findBeds_18 rfl rfl rfl ?_
  refine aw_env [(0, .ref v0), (1, .int v1), (3, .int ((1 <<< (x4 &&& 31)) - 1))] [2, 3, 0] rfl ?_
  exact L1_X9_findBeds_19 N  N v0 v1 ((1 <<< (x4 &&& 31)) - 1) T3 h

theorem dX9_beds_0 : decode cX9_beds 0 = .ok (.aload_n 0, 1) := by decide +kernel
theorem dX9_beds_1 : decode cX9_beds 1 = .ok (.iload_n 1, 1) := by decide +kernel
theorem dX9_beds_2 : decode cX9_beds 2 = .ok (.ifCond .lt 14, 3) := by decide +kernel
theorem dX9_beds_5 : decode cX9_beds 5 = .ok (.iload_n 1, 1) := by decide +kernel
theorem dX9_beds_6 : decode cX9_beds 6 = .ok (.sipush 999, 3) := by decide +kernel
theorem dX9_beds_9 : decode cX9_beds 9 = .ok (.if_icmp .gt 7, 3) := by decide +kernel
theorem dX9_beds_12 : decode cX9_beds 12 = .ok (.iconst 1, 1) := by decide +kernel
theorem dX9_beds_13 : decode cX9_beds 13 = .ok (.goto 4, 3) := by decide +kernel
theorem dX9_beds_16 : decode cX9_beds 16 = .ok (.iconst 0, 1) := by decide +kernel
theorem dX9_beds_17 : decode cX9_beds 17 = .ok (.invokevirtual 128, 3) := by decide +kernel
theorem dX9_beds_20 : decode cX9_beds 20 = .ok (.aload_n 0, 1) := by decide +kernel
theorem dX9_beds_21 : decode cX9_beds 21 = .ok (.iload_n 1, 1) := by decide +kernel
theorem dX9_beds_22 : decode cX9_beds 22 = .ok (.invokevirtual 330, 3) := by decide +kernel
theorem dX9_beds_25 : decode cX9_beds 25 = .ok (.aload_n 0, 1) := by decide +kernel
theorem dX9_beds_26 : decode cX9_beds 26 = .ok (.getfield 87, 3) := by decide +kernel
theorem dX9_beds_29 : decode cX9_beds 29 = .ok (.iconst 0, 1) := by decide +kernel
theorem dX9_beds_30 : decode cX9_beds 30 = .ok (.invokestatic 223, 3) := by decide +kernel
theorem dX9_beds_33 : decode cX9_beds 33 = .ok (.ireturn, 1) := by decide +kernel
abbrev mt_X9_beds : AxM := (RX9, cX9_beds, 2, (some .int), false, [])
theorem L1_X9_beds_17 {g : AxG} {l : Launch} (hl0 : l.stackTraces = false) {res : AxT Int32} (N : Nat)  (v0 : Nat) (v1 : Int32) (w0 : Int32) (w1 : Nat) (S : AxS) (h : F_X9_beds_17 N  v0 v1 w0 w1 S = some res) : AW g l (axRm (9) (axCs (axOI res)) (6 * axCs (axOI res))) mt_X9_beds (axMQ g (axCs (axOI res)) (6 * axCs (axOI res)) (axOI res)) 0 0 S 17 [(0, .ref v0), (1, .int v1)] [.int w0, .ref w1] := by
  unfold F_X9_beds_17 at h
  obtain ⟨hL1, h⟩ := ax_is_spec h
  refine aw_thV (ob := axOI) (rest := []) (fun _ _ => rfl) rfl h (fun u9 hF hu => aw_runV (As := [.int w0]) (rest := []) (L1_X9_needArgument hl0 N hF) axc9 hL1 wd_604 wd_601 wd_603 wd_3 wd_87 pd_X9_needArgument rfl (ax_rm (by omega) rfl) (ax_hfV (fun _ _ => rfl) hu) (Nat.le_of_ble_eq_true rfl) rfl dX9_beds_17) (fun T2 h => ?_)
  refine aw_aload_n 0 dX9_beds_20 rfl rfl ?_
  refine aw_iload_n 1 dX9_beds_21 rfl rfl ?_
  obtain ⟨hL4, h⟩ := ax_is_spec h
  refine aw_doneV (rest := []) h (fun S9 hF => aw_runV (As := [.int v1]) (rest := []) (L1_X9_findBeds N hF) axc9 hL4 wd_1145 wd_1142 wd_1144 wd_25 wd_87 pd_X9_findBeds rfl (ax_rm (by omega) rfl) ax_hf0 (Nat.le_of_ble_eq_true rfl) rfl dX9_beds_22) (fun T5 h => ?_)
  refine aw_aload_n 0 dX9_beds_25 rfl rfl ?_
  refine aw_getR axc9 18 rfl rfl wd_471 dX9_beds_26 h (fun a7 h => ?_)
  refine aw_iconst 0 dX9_beds_29 rfl ?_
  refine aw_doneI (rest := []) h (fun r9 S9 hF => aw_runS (As := [.ref a7, .int 0]) (rest := []) (L1_X9_at N hF) wd_541 wd_874 wd_540 wd_87 pd_X9_at.2 rfl (ax_rm (by omega) rfl) ax_hf0 (Nat.le_of_ble_eq_true rfl) rfl dX9_beds_30) (fun x9 T8 h => ?_)
  exact aw_iretT dX9_beds_33 rfl h
theorem L1_X9_beds_16 {g : AxG} {l : Launch} (hl0 : l.stackTraces = false) {res : AxT Int32} (N : Nat)  (v0 : Nat) (v1 : Int32) (w0 : Nat) (S : AxS) (h : F_X9_beds_16 N  v0 v1 w0 S = some res) : AW g l (axRm (9) (axCs (axOI res)) (6 * axCs (axOI res))) mt_X9_beds (axMQ g (axCs (axOI res)) (6 * axCs (axOI res)) (axOI res)) 0 0 S 16 [(0, .ref v0), (1, .int v1)] [.ref w0] := by
  unfold F_X9_beds_16 at h
  refine aw_iconst 0 dX9_beds_16 rfl ?_
  refine aw_env [(0, .ref v0), (1, .int v1)] [0, 1] rfl ?_
  exact L1_X9_beds_17 hl0 N  v0 v1 0 w0 S h
theorem L1_X9_beds {g : AxG} {l : Launch} (hl0 : l.stackTraces = false) (N : Nat) {v0 : Nat} {v1 : Int32} {S : AxS} {res : AxT Int32} (h : F_X9_beds N v0 v1 S = some res) : AxMet g l yX9_beds cX9_beds 2 (some .int) (9) (axCs (axOI res)) (6 * axCs (axOI res)) [.ref v0, .int v1] S (axOI res) := by
  refine ax_met (own := RX9) (ini := false) (by decide +kernel) rfl (fun h => nomatch h) rfl ?_
  show AW g l (axRm (9) (axCs (axOI res)) (6 * axCs (axOI res))) mt_X9_beds (axMQ g (axCs (axOI res)) (6 * axCs (axOI res)) (axOI res)) 0 0 S 0 [(0, .ref v0), (1, .int v1)] []
  unfold F_X9_beds at h
  refine aw_aload_n 0 dX9_beds_0 rfl rfl ?_
  refine aw_iload_n 1 dX9_beds_1 rfl rfl ?_
  refine aw_if_lt 16 dX9_beds_2 (by decide) h (fun h => ?_) (fun h => ?_)
  · refine aw_env [(0, .ref v0), (1, .int v1)] [0, 1] rfl ?_
    exact L1_X9_beds_16 hl0 N  v0 v1 v0 S h
  · refine aw_iload_n 1 dX9_beds_5 rfl rfl ?_
    refine aw_sipush 999 dX9_beds_6 (by decide) ?_
    refine aw_icmp_gt 16 dX9_beds_9 (by decide) h (fun h => ?_) (fun h => ?_)
    · refine aw_env [(0, .ref v0), (1, .int v1)] [0, 1] rfl ?_
      exact L1_X9_beds_16 hl0 N  v0 v1 v0 S h
    · refine aw_iconst 1 dX9_beds_12 rfl ?_
      refine aw_goto 17 dX9_beds_13 (by decide) ?_
      refine aw_env [(0, .ref v0), (1, .int v1)] [0, 1] rfl ?_
      exact L1_X9_beds_17 hl0 N  v0 v1 1 v0 S h

theorem dX9_bed_0 : decode cX9_bed 0 = .ok (.aload_n 0, 1) := by decide +kernel
theorem dX9_bed_1 : decode cX9_bed 1 = .ok (.iload_n 1, 1) := by decide +kernel
theorem dX9_bed_2 : decode cX9_bed 2 = .ok (.aload_n 0, 1) := by decide +kernel
theorem dX9_bed_3 : decode cX9_bed 3 = .ok (.getfield 19, 3) := by decide +kernel
theorem dX9_bed_6 : decode cX9_bed 6 = .ok (.getfield 142, 3) := by decide +kernel
theorem dX9_bed_9 : decode cX9_bed 9 = .ok (.invokevirtual 216, 3) := by decide +kernel
theorem dX9_bed_12 : decode cX9_bed 12 = .ok (.aload_n 0, 1) := by decide +kernel
theorem dX9_bed_13 : decode cX9_bed 13 = .ok (.iload_n 2, 1) := by decide +kernel
theorem dX9_bed_14 : decode cX9_bed 14 = .ok (.ifCond .lt 14, 3) := by decide +kernel
theorem dX9_bed_17 : decode cX9_bed 17 = .ok (.iload_n 2, 1) := by decide +kernel
theorem dX9_bed_18 : decode cX9_bed 18 = .ok (.sipush 999, 3) := by decide +kernel
theorem dX9_bed_21 : decode cX9_bed 21 = .ok (.if_icmp .gt 7, 3) := by decide +kernel
theorem dX9_bed_24 : decode cX9_bed 24 = .ok (.iconst 1, 1) := by decide +kernel
theorem dX9_bed_25 : decode cX9_bed 25 = .ok (.goto 4, 3) := by decide +kernel
theorem dX9_bed_28 : decode cX9_bed 28 = .ok (.iconst 0, 1) := by decide +kernel
theorem dX9_bed_29 : decode cX9_bed 29 = .ok (.invokevirtual 128, 3) := by decide +kernel
theorem dX9_bed_32 : decode cX9_bed 32 = .ok (.aload_n 0, 1) := by decide +kernel
theorem dX9_bed_33 : decode cX9_bed 33 = .ok (.iload_n 2, 1) := by decide +kernel
theorem dX9_bed_34 : decode cX9_bed 34 = .ok (.invokevirtual 330, 3) := by decide +kernel
theorem dX9_bed_37 : decode cX9_bed 37 = .ok (.aload_n 0, 1) := by decide +kernel
theorem dX9_bed_38 : decode cX9_bed 38 = .ok (.getfield 90, 3) := by decide +kernel
theorem dX9_bed_41 : decode cX9_bed 41 = .ok (.iload_n 1, 1) := by decide +kernel
theorem dX9_bed_42 : decode cX9_bed 42 = .ok (.invokestatic 223, 3) := by decide +kernel
theorem dX9_bed_45 : decode cX9_bed 45 = .ok (.ireturn, 1) := by decide +kernel
abbrev mt_X9_bed : AxM := (RX9, cX9_bed, 3, (some .int), false, [])
theorem L1_X9_bed_29 {g : AxG} {l : Launch} (hl0 : l.stackTraces = false) {res : AxT Int32} (N : Nat)  (v0 : Nat) (v1 : Int32) (v2 : Int32) (w0 : Int32) (w1 : Nat) (S : AxS) (h : F_X9_bed_29 N  v0 v1 v2 w0 w1 S = some res) : AW g l (axRm (9) (axCs (axOI res)) (6 * axCs (axOI res))) mt_X9_bed (axMQ g (axCs (axOI res)) (6 * axCs (axOI res)) (axOI res)) 0 0 S 29 [(0, .ref v0), (1, .int v1), (2, .int v2)] [.int w0, .ref w1] := by
  unfold F_X9_bed_29 at h
  obtain ⟨hL1, h⟩ := ax_is_spec h
  refine aw_thV (ob := axOI) (rest := []) (fun _ _ => rfl) rfl h (fun u9 hF hu => aw_runV (As := [.int w0]) (rest := []) (L1_X9_needArgument hl0 N hF) axc9 hL1 wd_604 wd_601 wd_603 wd_3 wd_87 pd_X9_needArgument rfl (ax_rm (by omega) rfl) (ax_hfV (fun _ _ => rfl) hu) (Nat.le_of_ble_eq_true rfl) rfl dX9_bed_29) (fun T2 h => ?_)
  refine aw_aload_n 0 dX9_bed_32 rfl rfl ?_
  refine aw_iload_n 2 dX9_bed_33 rfl rfl ?_
  obtain ⟨hL4, h⟩ := ax_is_spec h
  refine aw_doneV (rest := []) h (fun S9 hF => aw_runV (As := [.int v2]) (rest := []) (L1_X9_findBeds N hF) axc9 hL4 wd_1145 wd_1142 wd_1144 wd_25 wd_87 pd_X9_findBeds rfl (ax_rm (by omega) rfl) ax_hf0 (Nat.le_of_ble_eq_true rfl) rfl dX9_bed_34) (fun T5 h => ?_)
  refine aw_aload_n 0 dX9_bed_37 rfl rfl ?_
  refine aw_getR axc9 19 rfl rfl wd_472 dX9_bed_38 h (fun a7 h => ?_)
  refine aw_iload_n 1 dX9_bed_41 rfl rfl ?_
  refine aw_doneI (rest := []) h (fun r9 S9 hF => aw_runS (As := [.ref a7, .int v1]) (rest := []) (L1_X9_at N hF) wd_541 wd_874 wd_540 wd_87 pd_X9_at.2 rfl (ax_rm (by omega) rfl) ax_hf0 (Nat.le_of_ble_eq_true rfl) rfl dX9_bed_42) (fun x9 T8 h => ?_)
  exact aw_iretT dX9_bed_45 rfl h
theorem L1_X9_bed_28 {g : AxG} {l : Launch} (hl0 : l.stackTraces = false) {res : AxT Int32} (N : Nat)  (v0 : Nat) (v1 : Int32) (v2 : Int32) (w0 : Nat) (S : AxS) (h : F_X9_bed_28 N  v0 v1 v2 w0 S = some res) : AW g l (axRm (9) (axCs (axOI res)) (6 * axCs (axOI res))) mt_X9_bed (axMQ g (axCs (axOI res)) (6 * axCs (axOI res)) (axOI res)) 0 0 S 28 [(0, .ref v0), (1, .int v1), (2, .int v2)] [.ref w0] := by
  unfold F_X9_bed_28 at h
  refine aw_iconst 0 dX9_bed_28 rfl ?_
  refine aw_env [(0, .ref v0), (1, .int v1), (2, .int v2)] [0, 1, 2] rfl ?_
  exact L1_X9_bed_29 hl0 N  v0 v1 v2 0 w0 S h
theorem L1_X9_bed {g : AxG} {l : Launch} (hl0 : l.stackTraces = false) (N : Nat) {v0 : Nat} {v1 : Int32} {v2 : Int32} {S : AxS} {res : AxT Int32} (h : F_X9_bed N v0 v1 v2 S = some res) : AxMet g l yX9_bed cX9_bed 3 (some .int) (9) (axCs (axOI res)) (6 * axCs (axOI res)) [.ref v0, .int v1, .int v2] S (axOI res) := by
  refine ax_met (own := RX9) (ini := false) (by decide +kernel) rfl (fun h => nomatch h) rfl ?_
  show AW g l (axRm (9) (axCs (axOI res)) (6 * axCs (axOI res))) mt_X9_bed (axMQ g (axCs (axOI res)) (6 * axCs (axOI res)) (axOI res)) 0 0 S 0 [(0, .ref v0), (1, .int v1), (2, .int v2)] []
  unfold F_X9_bed at h
  refine aw_aload_n 0 dX9_bed_0 rfl rfl ?_
  refine aw_iload_n 1 dX9_bed_1 rfl rfl ?_
  refine aw_aload_n 0 dX9_bed_2 rfl rfl ?_
  refine aw_getR axc9 1 rfl rfl wd_454 dX9_bed_3 h (fun a1 h => ?_)
  refine aw_getI axc1 5 rfl rfl wd_183 dX9_bed_6 h (fun x2 h => ?_)
  obtain ⟨hL3, h⟩ := ax_is_spec h
  refine aw_thV (ob := axOI) (rest := []) (fun _ _ => rfl) rfl h (fun u9 hF hu => aw_runV (As := [.int v1, .int x2]) (rest := []) (L1_X9_needOne hl0 N hF) axc9 hL3 wd_975 wd_972 wd_974 wd_20 wd_87 pd_X9_needOne rfl (ax_rm (by omega) rfl) (ax_hfV (fun _ _ => rfl) hu) (Nat.le_of_ble_eq_true rfl) rfl dX9_bed_9) (fun T4 h => ?_)
  refine aw_aload_n 0 dX9_bed_12 rfl rfl ?_
  refine aw_iload_n 2 dX9_bed_13 rfl rfl ?_
  refine aw_if_lt 28 dX9_bed_14 (by decide) h (fun h => ?_) (fun h => ?_)
  · refine aw_env [(0, .ref v0), (1, .int v1), (2, .int v2)] [0, 1, 2] rfl ?_
    exact L1_X9_bed_28 hl0 N  v0 v1 v2 v0 T4 h
  · refine aw_iload_n 2 dX9_bed_17 rfl rfl ?_
    refine aw_sipush 999 dX9_bed_18 (by decide) ?_
    refine aw_icmp_gt 28 dX9_bed_21 (by decide) h (fun h => ?_) (fun h => ?_)
    · refine aw_env [(0, .ref v0), (1, .int v1), (2, .int v2)] [0, 1, 2] rfl ?_
      exact L1_X9_bed_28 hl0 N  v0 v1 v2 v0 T4 h
    · refine aw_iconst 1 dX9_bed_24 rfl ?_
      refine aw_goto 29 dX9_bed_25 (by decide) ?_
      refine aw_env [(0, .ref v0), (1, .int v1), (2, .int v2)] [0, 1, 2] rfl ?_
      exact L1_X9_bed_29 hl0 N  v0 v1 v2 1 v0 T4 h

theorem dX9_watch_0 : decode cX9_watch 0 = .ok (.aload_n 0, 1) := by decide +kernel
theorem dX9_watch_1 : decode cX9_watch 1 = .ok (.iload_n 1, 1) := by decide +kernel
theorem dX9_watch_2 : decode cX9_watch 2 = .ok (.aload_n 0, 1) := by decide +kernel
theorem dX9_watch_3 : decode cX9_watch 3 = .ok (.getfield 19, 3) := by decide +kernel
theorem dX9_watch_6 : decode cX9_watch 6 = .ok (.getfield 142, 3) := by decide +kernel
theorem dX9_watch_9 : decode cX9_watch 9 = .ok (.invokevirtual 216, 3) := by decide +kernel
theorem dX9_watch_12 : decode cX9_watch 12 = .ok (.aload_n 0, 1) := by decide +kernel
theorem dX9_watch_13 : decode cX9_watch 13 = .ok (.iload_n 2, 1) := by decide +kernel
theorem dX9_watch_14 : decode cX9_watch 14 = .ok (.ifCond .lt 13, 3) := by decide +kernel
theorem dX9_watch_17 : decode cX9_watch 17 = .ok (.iload_n 2, 1) := by decide +kernel
theorem dX9_watch_18 : decode cX9_watch 18 = .ok (.bipush 60, 2) := by decide +kernel
theorem dX9_watch_20 : decode cX9_watch 20 = .ok (.if_icmp .gt 7, 3) := by decide +kernel
theorem dX9_watch_23 : decode cX9_watch 23 = .ok (.iconst 1, 1) := by decide +kernel
theorem dX9_watch_24 : decode cX9_watch 24 = .ok (.goto 4, 3) := by decide +kernel
theorem dX9_watch_27 : decode cX9_watch 27 = .ok (.iconst 0, 1) := by decide +kernel
theorem dX9_watch_28 : decode cX9_watch 28 = .ok (.invokevirtual 128, 3) := by decide +kernel
theorem dX9_watch_31 : decode cX9_watch 31 = .ok (.aload_n 0, 1) := by decide +kernel
theorem dX9_watch_32 : decode cX9_watch 32 = .ok (.getfield 19, 3) := by decide +kernel
theorem dX9_watch_35 : decode cX9_watch 35 = .ok (.getfield 142, 3) := by decide +kernel
theorem dX9_watch_38 : decode cX9_watch 38 = .ok (.ifCond .gt 5, 3) := by decide +kernel
theorem dX9_watch_41 : decode cX9_watch 41 = .ok (.iconst 0, 1) := by decide +kernel
theorem dX9_watch_42 : decode cX9_watch 42 = .ok (.ireturn, 1) := by decide +kernel
theorem dX9_watch_43 : decode cX9_watch 43 = .ok (.iconst 0, 1) := by decide +kernel
theorem dX9_watch_44 : decode cX9_watch 44 = .ok (.istore_n 3, 1) := by decide +kernel
theorem dX9_watch_45 : decode cX9_watch 45 = .ok (.iconst 0, 1) := by decide +kernel
theorem dX9_watch_46 : decode cX9_watch 46 = .ok (.istore 4, 2) := by decide +kernel
theorem dX9_watch_48 : decode cX9_watch 48 = .ok (.iload 4, 2) := by decide +kernel
theorem dX9_watch_50 : decode cX9_watch 50 = .ok (.aload_n 0, 1) := by decide +kernel
theorem dX9_watch_51 : decode cX9_watch 51 = .ok (.getfield 19, 3) := by decide +kernel
theorem dX9_watch_54 : decode cX9_watch 54 = .ok (.getfield 142, 3) := by decide +kernel
theorem dX9_watch_57 : decode cX9_watch 57 = .ok (.if_icmp .ge 54, 3) := by decide +kernel
theorem dX9_watch_60 : decode cX9_watch 60 = .ok (.aload_n 0, 1) := by decide +kernel
theorem dX9_watch_61 : decode cX9_watch 61 = .ok (.getfield 19, 3) := by decide +kernel
theorem dX9_watch_64 : decode cX9_watch 64 = .ok (.getfield 220, 3) := by decide +kernel
theorem dX9_watch_67 : decode cX9_watch 67 = .ok (.iload 4, 2) := by decide +kernel
theorem dX9_watch_69 : decode cX9_watch 69 = .ok (.invokestatic 223, 3) := by decide +kernel
theorem dX9_watch_72 : decode cX9_watch 72 = .ok (.aload_n 0, 1) := by decide +kernel
theorem dX9_watch_73 : decode cX9_watch 73 = .ok (.getfield 19, 3) := by decide +kernel
theorem dX9_watch_76 : decode cX9_watch 76 = .ok (.getfield 220, 3) := by decide +kernel
theorem dX9_watch_79 : decode cX9_watch 79 = .ok (.iload_n 1, 1) := by decide +kernel
theorem dX9_watch_80 : decode cX9_watch 80 = .ok (.invokestatic 223, 3) := by decide +kernel
theorem dX9_watch_83 : decode cX9_watch 83 = .ok (.isub, 1) := by decide +kernel
theorem dX9_watch_84 : decode cX9_watch 84 = .ok (.istore 5, 2) := by decide +kernel
theorem dX9_watch_86 : decode cX9_watch 86 = .ok (.iload 5, 2) := by decide +kernel
theorem dX9_watch_88 : decode cX9_watch 88 = .ok (.ifCond .gt 14, 3) := by decide +kernel
theorem dX9_watch_91 : decode cX9_watch 91 = .ok (.iload 5, 2) := by decide +kernel
theorem dX9_watch_93 : decode cX9_watch 93 = .ok (.ifCond .ne 12, 3) := by decide +kernel
theorem dX9_watch_96 : decode cX9_watch 96 = .ok (.iload 4, 2) := by decide +kernel
theorem dX9_watch_98 : decode cX9_watch 98 = .ok (.iload_n 1, 1) := by decide +kernel
theorem dX9_watch_99 : decode cX9_watch 99 = .ok (.if_icmp .ge 6, 3) := by decide +kernel
theorem dX9_watch_102 : decode cX9_watch 102 = .ok (.iinc 3 1, 3) := by decide +kernel
theorem dX9_watch_105 : decode cX9_watch 105 = .ok (.iinc 4 1, 3) := by decide +kernel
theorem dX9_watch_108 : decode cX9_watch 108 = .ok (.goto (-60), 3) := by decide +kernel
theorem dX9_watch_111 : decode cX9_watch 111 = .ok (.iload_n 2, 1) := by decide +kernel
theorem dX9_watch_112 : decode cX9_watch 112 = .ok (.aload_n 0, 1) := by decide +kernel
theorem dX9_watch_113 : decode cX9_watch 113 = .ok (.getfield 19, 3) := by decide +kernel
theorem dX9_watch_116 : decode cX9_watch 116 = .ok (.getfield 142, 3) := by decide +kernel
theorem dX9_watch_119 : decode cX9_watch 119 = .ok (.idiv, 1) := by decide +kernel
theorem dX9_watch_120 : decode cX9_watch 120 = .ok (.iload_n 3, 1) := by decide +kernel
theorem dX9_watch_121 : decode cX9_watch 121 = .ok (.iload_n 2, 1) := by decide +kernel
theorem dX9_watch_122 : decode cX9_watch 122 = .ok (.aload_n 0, 1) := by decide +kernel
theorem dX9_watch_123 : decode cX9_watch 123 = .ok (.getfield 19, 3) := by decide +kernel
theorem dX9_watch_126 : decode cX9_watch 126 = .ok (.getfield 142, 3) := by decide +kernel
theorem dX9_watch_129 : decode cX9_watch 129 = .ok (.irem, 1) := by decide +kernel
theorem dX9_watch_130 : decode cX9_watch 130 = .ok (.if_icmp .ge 7, 3) := by decide +kernel
theorem dX9_watch_133 : decode cX9_watch 133 = .ok (.iconst 1, 1) := by decide +kernel
theorem dX9_watch_134 : decode cX9_watch 134 = .ok (.goto 4, 3) := by decide +kernel
theorem dX9_watch_137 : decode cX9_watch 137 = .ok (.iconst 0, 1) := by decide +kernel
theorem dX9_watch_138 : decode cX9_watch 138 = .ok (.iadd, 1) := by decide +kernel
theorem dX9_watch_139 : decode cX9_watch 139 = .ok (.ireturn, 1) := by decide +kernel
abbrev mt_X9_watch : AxM := (RX9, cX9_watch, 6, (some .int), false, [])
theorem L1_X9_watch_105 {g : AxG} {l : Launch} (hl0 : l.stackTraces = false) {res : AxT Int32} (N : Nat) (K48 : Nat → Int32 → Int32 → Int32 → Int32 → AxS → Option (AxT Int32)) (hK48 : ∀ (v0 : Nat) (v1 : Int32) (v2 : Int32) (v3 : Int32) (v4 : Int32) (S : AxS), K48 v0 v1 v2 v3 v4 S = some res → AW g l (axRm (9) (axCs (axOI res)) (6 * axCs (axOI res))) mt_X9_watch (axMQ g (axCs (axOI res)) (6 * axCs (axOI res)) (axOI res)) 0 0 S 48 [(0, .ref v0), (1, .int v1), (2, .int v2), (3, .int v3), (4, .int v4)] []) (v0 : Nat) (v1 : Int32) (v2 : Int32) (v3 : Int32) (v4 : Int32) (S : AxS) (h : F_X9_watch_105 N K48 v0 v1 v2 v3 v4 S = some res) : AW g l (axRm (9) (axCs (axOI res)) (6 * axCs (axOI res))) mt_X9_watch (axMQ g (axCs (axOI res)) (6 * axCs (axOI res)) (axOI res)) 0 0 S 105 [(0, .ref v0), (1, .int v1), (2, .int v2), (3, .int v3), (4, .int v4)] [] := by
  unfold F_X9_watch_105 at h
  refine aw_iinc 4 [(4, .int (v4 + 1)), (0, .ref v0), (1, .int v1), (2, .int v2), (3, .int v3)] (v4 + 1) dX9_watch_105 rfl rfl rfl rfl ?_
  refine aw_goto 48 dX9_watch_108 (by decide) ?_
  refine aw_env [(0, .ref v0), (1, .int v1), (2, .int v2), (3, .int v3), (4, .int (v4 + 1))] [1, 2, 3, 4, 0] rfl ?_
  exact hK48 v0 v1 v2 v3 (v4 + 1) S h
theorem L1_X9_watch_102 {g : AxG} {l : Launch} (hl0 : l.stackTraces = false) {res : AxT Int32} (N : Nat) (K48 : Nat → Int32 → Int32 → Int32 → Int32 → AxS → Option (AxT Int32)) (hK48 : ∀ (v0 : Nat) (v1 : Int32) (v2 : Int32) (v3 : Int32) (v4 : Int32) (S : AxS), K48 v0 v1 v2 v3 v4 S = some res → AW g l (axRm (9) (axCs (axOI res)) (6 * axCs (axOI res))) mt_X9_watch (axMQ g (axCs (axOI res)) (6 * axCs (axOI res)) (axOI res)) 0 0 S 48 [(0, .ref v0), (1, .int v1), (2, .int v2), (3, .int v3), (4, .int v4)] []) (v0 : Nat) (v1 : Int32) (v2 : Int32) (v3 : Int32) (v4 : Int32) (S : AxS) (h : F_X9_watch_102 N K48 v0 v1 v2 v3 v4 S = some res) : AW g l (axRm (9) (axCs (axOI res)) (6 * axCs (axOI res))) mt_X9_watch (axMQ g (axCs (axOI res)) (6 * axCs (axOI res)) (axOI res)) 0 0 S 102 [(0, .ref v0), (1, .int v1), (2, .int v2), (3, .int v3), (4, .int v4)] [] := by
  unfold F_X9_watch_102 at h
  refine aw_iinc 3 [(3, .int (v3 + 1)), (0, .ref v0), (1, .int v1), (2, .int v2), (4, .int v4)] (v3 + 1) dX9_watch_102 rfl rfl rfl rfl ?_
  refine aw_env [(0, .ref v0), (1, .int v1), (2, .int v2), (3, .int (v3 + 1)), (4, .int v4)] [1, 2, 3, 0, 4] rfl ?_
  exact L1_X9_watch_105 hl0 N K48 hK48 v0 v1 v2 (v3 + 1) v4 S h
theorem L1_X9_watch_48b {g : AxG} {l : Launch} (hl0 : l.stackTraces = false) {res : AxT Int32} (N : Nat) (K48 : Nat → Int32 → Int32 → Int32 → Int32 → AxS → Option (AxT Int32)) (hK48 : ∀ (v0 : Nat) (v1 : Int32) (v2 : Int32) (v3 : Int32) (v4 : Int32) (S : AxS), K48 v0 v1 v2 v3 v4 S = some res → AW g l (axRm (9) (axCs (axOI res)) (6 * axCs (axOI res))) mt_X9_watch (axMQ g (axCs (axOI res)) (6 * axCs (axOI res)) (axOI res)) 0 0 S 48 [(0, .ref v0), (1, .int v1), (2, .int v2), (3, .int v3), (4, .int v4)] []) (v0 : Nat) (v1 : Int32) (v2 : Int32) (v3 : Int32) (v4 : Int32) (S : AxS) (h : F_X9_watch_48b N K48 v0 v1 v2 v3 v4 S = some res) : AW g l (axRm (9) (axCs (axOI res)) (6 * axCs (axOI res))) mt_X9_watch (axMQ g (axCs (axOI res)) (6 * axCs (axOI res)) (axOI res)) 0 0 S 48 [(0, .ref v0), (1, .int v1), (2, .int v2), (3, .int v3), (4, .int v4)] [] := by
  unfold F_X9_watch_48b at h
  refine aw_iload 4 dX9_watch_48 rfl ?_
  refine aw_aload_n 0 dX9_watch_50 rfl rfl ?_
  refine aw_getR axc9 1 rfl rfl wd_454 dX9_watch_51 h (fun a1 h => ?_)
  refine aw_getI axc1 5 rfl rfl wd_183 dX9_watch_54 h (fun x2 h => ?_)
  refine aw_icmp_ge 111 dX9_watch_57 (by decide) h (fun h => ?_) (fun h => ?_)
  · refine aw_iload_n 2 dX9_watch_111 rfl rfl ?_
    refine aw_aload_n 0 dX9_watch_112 rfl rfl ?_
    refine aw_getR axc9 1 rfl rfl wd_454 dX9_watch_113 h (fun a3 h => ?_)
    refine aw_getI axc1 5 rfl rfl wd_183 dX9_watch_116 h (fun x4 h => ?_)
    refine aw_idiv dX9_watch_119 h (fun h => ?_)
    refine aw_iload_n 3 dX9_watch_120 rfl rfl ?_
    refine aw_iload_n 2 dX9_watch_121 rfl rfl ?_
    refine aw_aload_n 0 dX9_watch_122 rfl rfl ?_
    refine aw_getR axc9 1 rfl rfl wd_454 dX9_watch_123 h (fun a5 h => ?_)
    refine aw_getI axc1 5 rfl rfl wd_183 dX9_watch_126 h (fun x6 h => ?_)
    refine aw_irem dX9_watch_129 h (fun h => ?_)
    refine aw_icmp_ge 137 dX9_watch_130 (by decide) h (fun h => ?_) (fun h => ?_)
    · refine aw_iconst 0 dX9_watch_137 rfl ?_
      refine aw_iadd dX9_watch_138 ?_
      exact aw_iretT dX9_watch_139 rfl h
    · refine aw_iconst 1 dX9_watch_133 rfl ?_
      refine aw_goto 138 dX9_watch_134 (by decide) ?_
      refine aw_iadd dX9_watch_138 ?_
      exact aw_iretT dX9_watch_139 rfl h
  · refine aw_aload_n 0 dX9_watch_60 rfl rfl ?_
    refine aw_getR axc9 1 rfl rfl wd_454 dX9_watch_61 h (fun a7 h => ?_)
    refine aw_getR axc1 10 rfl rfl wd_194 dX9_watch_64 h (fun a8 h => ?_)
    refine aw_iload 4 dX9_watch_67 rfl ?_
    refine aw_doneI (rest := []) h (fun r9 S9 hF => aw_runS (As := [.ref a8, .int v4]) (rest := []) (L1_X9_at N hF) wd_541 wd_874 wd_540 wd_87 pd_X9_at.2 rfl (ax_rm (by omega) rfl) ax_hf0 (Nat.le_of_ble_eq_true rfl) rfl dX9_watch_69) (fun x10 T9 h => ?_)
    refine aw_aload_n 0 dX9_watch_72 rfl rfl ?_
    refine aw_getR axc9 1 rfl rfl wd_454 dX9_watch_73 h (fun a11 h => ?_)
    refine aw_getR axc1 10 rfl rfl wd_194 dX9_watch_76 h (fun a12 h => ?_)
    refine aw_iload_n 1 dX9_watch_79 rfl rfl ?_
    refine aw_doneI (rest := [.int x10]) h (fun r9 S9 hF => aw_runS (As := [.ref a12, .int v1]) (rest := [.int x10]) (L1_X9_at N hF) wd_541 wd_874 wd_540 wd_87 pd_X9_at.2 rfl (ax_rm (by omega) rfl) ax_hf0 (Nat.le_of_ble_eq_true rfl) rfl dX9_watch_80) (fun x14 T13 h => ?_)
    refine aw_isub dX9_watch_83 ?_
    refine aw_istore [(5, .int (x10 - x14)), (0, .ref v0), (1, .int v1), (2, .int v2), (3, .int v3), (4, .int v4)] dX9_watch_84 rfl rfl ?_
    refine aw_iload 0 dX9_watch_86 rfl ?_
    refine aw_if_gt 102 dX9_watch_88 (by decide) h (fun h => ?_) (fun h => ?_)
    · refine aw_env [(0, .ref v0), (1, .int v1), (2, .int v2), (3, .int v3), (4, .int v4)] [1, 2, 3, 4, 5] rfl ?_
      exact L1_X9_watch_102 hl0 N K48 hK48 v0 v1 v2 v3 v4 T13 h
    · refine aw_iload 0 dX9_watch_91 rfl ?_
      refine aw_if_ne 105 dX9_watch_93 (by decide) h (fun h => ?_) (fun h => ?_)
      · refine aw_env [(0, .ref v0), (1, .int v1), (2, .int v2), (3, .int v3), (4, .int v4)] [1, 2, 3, 4, 5] rfl ?_
        exact L1_X9_watch_105 hl0 N K48 hK48 v0 v1 v2 v3 v4 T13 h
      · refine aw_iload 5 dX9_watch_96 rfl ?_
        refine aw_iload_n 2 dX9_watch_98 rfl rfl ?_
        refine aw_icmp_ge 105 dX9_watch_99 (by decide) h (fun h => ?_) (fun h => ?_)
        · refine aw_env [(0, .ref v0), (1, .int v1), (2, .int v2), (3, .int v3), (4, .int v4)] [1, 2, 3, 4, 5] rfl ?_
          exact L1_X9_watch_105 hl0 N K48 hK48 v0 v1 v2 v3 v4 T13 h
        · refine aw_env [(0, .ref v0), (1, .int v1), (2, .int v2), (3, .int v3), (4, .int v4)] [1, 2, 3, 4, 5] rfl ?_
          exact L1_X9_watch_102 hl0 N K48 hK48 v0 v1 v2 v3 v4 T13 h
theorem L1_X9_watch_48 {g : AxG} {l : Launch} (hl0 : l.stackTraces = false) {res : AxT Int32} (N : Nat)  : ∀ (n : Nat) (v0 : Nat) (v1 : Int32) (v2 : Int32) (v3 : Int32) (v4 : Int32) (S : AxS), F_X9_watch_48 N  n v0 v1 v2 v3 v4 S = some res → AW g l (axRm (9) (axCs (axOI res)) (6 * axCs (axOI res))) mt_X9_watch (axMQ g (axCs (axOI res)) (6 * axCs (axOI res)) (axOI res)) 0 0 S 48 [(0, .ref v0), (1, .int v1), (2, .int v2), (3, .int v3), (4, .int v4)] [] := by
  intro n
  induction n with
  | zero => intro v0 v1 v2 v3 v4 S h; cases h
  | succ n ih => intro v0 v1 v2 v3 v4 S h; exact L1_X9_watch_48b hl0 N (F_X9_watch_48 N  n) ih v0 v1 v2 v3 v4 S h
theorem L1_X9_watch_28 {g : AxG} {l : Launch} (hl0 : l.stackTraces = false) {res : AxT Int32} (N : Nat)  (v0 : Nat) (v1 : Int32) (v2 : Int32) (w0 : Int32) (w1 : Nat) (S : AxS) (h : F_X9_watch_28 N  v0 v1 v2 w0 w1 S = some res) : AW g l (axRm (9) (axCs (axOI res)) (6 * axCs (axOI res))) mt_X9_watch (axMQ g (axCs (axOI res)) (6 * axCs (axOI res)) (axOI res)) 0 0 S 28 [(0, .ref v0), (1, .int v1), (2, .int v2)] [.int w0, .ref w1] := by
  unfold F_X9_watch_28 at h
  obtain ⟨hL1, h⟩ := ax_is_spec h
  refine aw_thV (ob := axOI) (rest := []) (fun _ _ => rfl) rfl h (fun u9 hF hu => aw_runV (As := [.int w0]) (rest := []) (L1_X9_needArgument hl0 N hF) axc9 hL1 wd_604 wd_601 wd_603 wd_3 wd_87 pd_X9_needArgument rfl (ax_rm (by omega) rfl) (ax_hfV (fun _ _ => rfl) hu) (Nat.le_of_ble_eq_true rfl) rfl dX9_watch_28) (fun T2 h => ?_)
  refine aw_aload_n 0 dX9_watch_31 rfl rfl ?_
  refine aw_getR axc9 1 rfl rfl wd_454 dX9_watch_32 h (fun a4 h => ?_)
  refine aw_getI axc1 5 rfl rfl wd_183 dX9_watch_35 h (fun x5 h => ?_)
  refine aw_if_gt 43 dX9_watch_38 (by decide) h (fun h => ?_) (fun h => ?_)
  · refine aw_iconst 0 dX9_watch_43 rfl ?_
    refine aw_istore_n 3 [(3, .int 0), (0, .ref v0), (1, .int v1), (2, .int v2)] dX9_watch_44 rfl rfl rfl ?_
    refine aw_iconst 0 dX9_watch_45 rfl ?_
    refine aw_istore [(4, .int 0), (3, .int 0), (0, .ref v0), (1, .int v1), (2, .int v2)] dX9_watch_46 rfl rfl ?_
    refine aw_env [(0, .ref v0), (1, .int v1), (2, .int v2), (3, .int 0), (4, .int 0)] [2, 3, 4, 1, 0] rfl ?_
    exact L1_X9_watch_48 hl0 N  N v0 v1 v2 0 0 T2 h
  · refine aw_iconst 0 dX9_watch_41 rfl ?_
    exact aw_iretT dX9_watch_42 rfl h
theorem L1_X9_watch_27 {g : AxG} {l : Launch} (hl0 : l.stackTraces = false) {res : AxT Int32} (N : Nat)  (v0 : Nat) (v1 : Int32) (v2 : Int32) (w0 : Nat) (S : AxS) (h : F_X9_watch_27 N  v0 v1 v2 w0 S = some res) : AW g l (axRm (9) (axCs (axOI res)) (6 * axCs (axOI res))) mt_X9_watch (axMQ g (axCs (axOI res)) (6 * axCs (axOI res)) (axOI res)) 0 0 S 27 [(0, .ref v0), (1, .int v1), (2, .int v2)] [.ref w0] := by
  unfold F_X9_watch_27 at h
  refine aw_iconst 0 dX9_watch_27 rfl ?_
  refine aw_env [(0, .ref v0), (1, .int v1), (2, .int v2)] [0, 1, 2] rfl ?_
  exact L1_X9_watch_28 hl0 N  v0 v1 v2 0 w0 S h
theorem L1_X9_watch {g : AxG} {l : Launch} (hl0 : l.stackTraces = false) (N : Nat) {v0 : Nat} {v1 : Int32} {v2 : Int32} {S : AxS} {res : AxT Int32} (h : F_X9_watch N v0 v1 v2 S = some res) : AxMet g l yX9_watch cX9_watch 6 (some .int) (9) (axCs (axOI res)) (6 * axCs (axOI res)) [.ref v0, .int v1, .int v2] S (axOI res) := by
  refine ax_met (own := RX9) (ini := false) (by decide +kernel) rfl (fun h => nomatch h) rfl ?_
  show AW g l (axRm (9) (axCs (axOI res)) (6 * axCs (axOI res))) mt_X9_watch (axMQ g (axCs (axOI res)) (6 * axCs (axOI res)) (axOI res)) 0 0 S 0 [(0, .ref v0), (1, .int v1), (2, .int v2)] []
  unfold F_X9_watch at h
  refine aw_aload_n 0 dX9_watch_0 rfl rfl ?_
  refine aw_iload_n 1 dX9_watch_1 rfl rfl ?_
  refine aw_aload_n 0 dX9_watch_2 rfl rfl ?_
  refine aw_getR axc9 1 rfl rfl wd_454 dX9_watch_3 h (fun a1 h => ?_)
  refine aw_getI axc1 5 rfl rfl wd_183 dX9_watch_6 h (fun x2 h => ?_)
  obtain ⟨hL3, h⟩ := ax_is_spec h
  refine aw_thV (ob := axOI) (rest := []) (fun _ _ => rfl) rfl h (fun u9 hF hu => aw_runV (As := [.int v1, .int x2]) (rest := []) (L1_X9_needOne hl0 N hF) axc9 hL3 wd_975 wd_972 wd_974 wd_20 wd_87 pd_X9_needOne rfl (ax_rm (by omega) rfl) (ax_hfV (fun _ _ => rfl) hu) (Nat.le_of_ble_eq_true rfl) rfl dX9_watch_9) (fun T4 h => ?_)
  refine aw_aload_n 0 dX9_watch_12 rfl rfl ?_
  refine aw_iload_n 2 dX9_watch_13 rfl rfl ?_
  refine aw_if_lt 27 dX9_watch_14 (by decide) h (fun h => ?_) (fun h => ?_)
  · refine aw_env [(0, .ref v0), (1, .int v1), (2, .int v2)] [0, 1, 2] rfl ?_
    exact L1_X9_watch_27 hl0 N  v0 v1 v2 v0 T4 h
  · refine aw_iload_n 2 dX9_watch_17 rfl rfl ?_
    refine aw_bipush 60 dX9_watch_18 (by decide) ?_
    refine aw_icmp_gt 27 dX9_watch_20 (by decide) h (fun h => ?_) (fun h => ?_)
    · refine aw_env [(0, .ref v0), (1, .int v1), (2, .int v2)] [0, 1, 2] rfl ?_
      exact L1_X9_watch_27 hl0 N  v0 v1 v2 v0 T4 h
    · refine aw_iconst 1 dX9_watch_23 rfl ?_
      refine aw_goto 28 dX9_watch_24 (by decide) ?_
      refine aw_env [(0, .ref v0), (1, .int v1), (2, .int v2)] [0, 1, 2] rfl ?_
      exact L1_X9_watch_28 hl0 N  v0 v1 v2 1 v0 T4 h

theorem dX9_setBids_0 : decode cX9_setBids 0 = .ok (.iload_n 1, 1) := by decide +kernel
theorem dX9_setBids_1 : decode cX9_setBids 1 = .ok (.istore_n 3, 1) := by decide +kernel
theorem dX9_setBids_2 : decode cX9_setBids 2 = .ok (.iconst 0, 1) := by decide +kernel
theorem dX9_setBids_3 : decode cX9_setBids 3 = .ok (.istore 4, 2) := by decide +kernel
theorem dX9_setBids_5 : decode cX9_setBids 5 = .ok (.aload_n 0, 1) := by decide +kernel
theorem dX9_setBids_6 : decode cX9_setBids 6 = .ok (.getfield 19, 3) := by decide +kernel
theorem dX9_setBids_9 : decode cX9_setBids 9 = .ok (.getfield 213, 3) := by decide +kernel
theorem dX9_setBids_12 : decode cX9_setBids 12 = .ok (.iconst 1, 1) := by decide +kernel
theorem dX9_setBids_13 : decode cX9_setBids 13 = .ok (.isub, 1) := by decide +kernel
theorem dX9_setBids_14 : decode cX9_setBids 14 = .ok (.istore 5, 2) := by decide +kernel
theorem dX9_setBids_16 : decode cX9_setBids 16 = .ok (.iload 5, 2) := by decide +kernel
theorem dX9_setBids_18 : decode cX9_setBids 18 = .ok (.ifCond .lt 46, 3) := by decide +kernel
theorem dX9_setBids_21 : decode cX9_setBids 21 = .ok (.iload_n 2, 1) := by decide +kernel
theorem dX9_setBids_22 : decode cX9_setBids 22 = .ok (.ifCond .le 42, 3) := by decide +kernel
theorem dX9_setBids_25 : decode cX9_setBids 25 = .ok (.aload_n 0, 1) := by decide +kernel
theorem dX9_setBids_26 : decode cX9_setBids 26 = .ok (.getfield 83, 3) := by decide +kernel
theorem dX9_setBids_29 : decode cX9_setBids 29 = .ok (.iload 5, 2) := by decide +kernel
theorem dX9_setBids_31 : decode cX9_setBids 31 = .ok (.iload_n 3, 1) := by decide +kernel
theorem dX9_setBids_32 : decode cX9_setBids 32 = .ok (.iload_n 2, 1) := by decide +kernel
theorem dX9_setBids_33 : decode cX9_setBids 33 = .ok (.irem, 1) := by decide +kernel
theorem dX9_setBids_34 : decode cX9_setBids 34 = .ok (.invokestatic 380, 3) := by decide +kernel
theorem dX9_setBids_37 : decode cX9_setBids 37 = .ok (.iload 4, 2) := by decide +kernel
theorem dX9_setBids_39 : decode cX9_setBids 39 = .ok (.bipush 10, 2) := by decide +kernel
theorem dX9_setBids_41 : decode cX9_setBids 41 = .ok (.aload_n 0, 1) := by decide +kernel
theorem dX9_setBids_42 : decode cX9_setBids 42 = .ok (.getfield 83, 3) := by decide +kernel
theorem dX9_setBids_45 : decode cX9_setBids 45 = .ok (.iload 5, 2) := by decide +kernel
theorem dX9_setBids_47 : decode cX9_setBids 47 = .ok (.invokestatic 223, 3) := by decide +kernel
theorem dX9_setBids_50 : decode cX9_setBids 50 = .ok (.imul, 1) := by decide +kernel
theorem dX9_setBids_51 : decode cX9_setBids 51 = .ok (.iadd, 1) := by decide +kernel
theorem dX9_setBids_52 : decode cX9_setBids 52 = .ok (.istore 4, 2) := by decide +kernel
theorem dX9_setBids_54 : decode cX9_setBids 54 = .ok (.iload_n 3, 1) := by decide +kernel
theorem dX9_setBids_55 : decode cX9_setBids 55 = .ok (.iload_n 2, 1) := by decide +kernel
theorem dX9_setBids_56 : decode cX9_setBids 56 = .ok (.idiv, 1) := by decide +kernel
theorem dX9_setBids_57 : decode cX9_setBids 57 = .ok (.istore_n 3, 1) := by decide +kernel
theorem dX9_setBids_58 : decode cX9_setBids 58 = .ok (.iinc 5 (-1), 3) := by decide +kernel
theorem dX9_setBids_61 : decode cX9_setBids 61 = .ok (.goto (-45), 3) := by decide +kernel
theorem dX9_setBids_64 : decode cX9_setBids 64 = .ok (.iload 4, 2) := by decide +kernel
theorem dX9_setBids_66 : decode cX9_setBids 66 = .ok (.ireturn, 1) := by decide +kernel
abbrev mt_X9_setBids : AxM := (RX9, cX9_setBids, 6, (some .int), false, [])
theorem L1_X9_setBids_16b {g : AxG} {l : Launch} {r9 : Int32} {S9 : AxS} (N : Nat) (K16 : Nat → Int32 → Int32 → Int32 → Int32 → AxS → Option (Int32 × AxS)) (hK16 : ∀ (v0 : Nat) (v2 : Int32) (v3 : Int32) (v4 : Int32) (v5 : Int32) (S : AxS), K16 v0 v2 v3 v4 v5 S = some ((r9, S9)) → AW g l (axRm (1) 0 0) mt_X9_setBids (axMQ g 0 0 (.inl (some (.int r9)), S9)) 0 0 S 16 [(0, .ref v0), (2, .int v2), (3, .int v3), (4, .int v4), (5, .int v5)] []) (v0 : Nat) (v2 : Int32) (v3 : Int32) (v4 : Int32) (v5 : Int32) (S : AxS) (h : F_X9_setBids_16b N K16 v0 v2 v3 v4 v5 S = some ((r9, S9))) : AW g l (axRm (1) 0 0) mt_X9_setBids (axMQ g 0 0 (.inl (some (.int r9)), S9)) 0 0 S 16 [(0, .ref v0), (2, .int v2), (3, .int v3), (4, .int v4), (5, .int v5)] [] := by
  unfold F_X9_setBids_16b at h
  refine aw_iload 4 dX9_setBids_16 rfl ?_
  refine aw_if_lt 64 dX9_setBids_18 (by decide) h (fun h => ?_) (fun h => ?_)
  · refine aw_iload 3 dX9_setBids_64 rfl ?_
    exact aw_iret dX9_setBids_66 rfl (Nat.le_refl _) (Nat.le_refl _) h
  · refine aw_iload_n 1 dX9_setBids_21 rfl rfl ?_
    refine aw_if_le 64 dX9_setBids_22 (by decide) h (fun h => ?_) (fun h => ?_)
    · refine aw_iload 3 dX9_setBids_64 rfl ?_
      exact aw_iret dX9_setBids_66 rfl (Nat.le_refl _) (Nat.le_refl _) h
    · refine aw_aload_n 0 dX9_setBids_25 rfl rfl ?_
      refine aw_getR axc9 17 rfl rfl wd_470 dX9_setBids_26 h (fun a1 h => ?_)
      refine aw_iload 4 dX9_setBids_29 rfl ?_
      refine aw_iload_n 2 dX9_setBids_31 rfl rfl ?_
      refine aw_iload_n 1 dX9_setBids_32 rfl rfl ?_
      refine aw_irem dX9_setBids_33 h (fun h => ?_)
      refine aw_doneV (rest := []) h (fun S9 hF => aw_runS (As := [.ref a1, .int v5, .int (v3 - v3 / v2 * v2)]) (rest := []) (L1_X9_put N hF) wd_443 wd_918 wd_442 wd_87 pd_X9_put.2 rfl (ax_rm (by omega) rfl) ax_hf0 (Nat.le_of_ble_eq_true rfl) rfl dX9_setBids_34) (fun T2 h => ?_)
      refine aw_iload 3 dX9_setBids_37 rfl ?_
      refine aw_bipush 10 dX9_setBids_39 (by decide) ?_
      refine aw_aload_n 0 dX9_setBids_41 rfl rfl ?_
      refine aw_getR axc9 17 rfl rfl wd_470 dX9_setBids_42 h (fun a4 h => ?_)
      refine aw_iload 4 dX9_setBids_45 rfl ?_
      refine aw_doneI (rest := [.int 10, .int v4]) h (fun r9 S9 hF => aw_runS (As := [.ref a4, .int v5]) (rest := [.int 10, .int v4]) (L1_X9_at N hF) wd_541 wd_874 wd_540 wd_87 pd_X9_at.2 rfl (ax_rm (by omega) rfl) ax_hf0 (Nat.le_of_ble_eq_true rfl) rfl dX9_setBids_47) (fun x6 T5 h => ?_)
      refine aw_imul dX9_setBids_50 ?_
      refine aw_iadd dX9_setBids_51 ?_
      refine aw_istore [(4, .int (v4 + (10 * x6))), (0, .ref v0), (2, .int v2), (3, .int v3), (5, .int v5)] dX9_setBids_52 rfl rfl ?_
      refine aw_iload_n 3 dX9_setBids_54 rfl rfl ?_
      refine aw_iload_n 2 dX9_setBids_55 rfl rfl ?_
      refine aw_idiv dX9_setBids_56 h (fun h => ?_)
      refine aw_istore_n 3 [(3, .int (v3 / v2)), (4, .int (v4 + (10 * x6))), (0, .ref v0), (2, .int v2), (5, .int v5)] dX9_setBids_57 rfl rfl rfl ?_
      refine aw_iinc 4 [(5, .int (v5 + (-1))), (3, .int (v3 / v2)), (4, .int (v4 + (10 * x6))), (0, .ref v0), (2, .int v2)] (v5 + (-1)) dX9_setBids_58 rfl rfl rfl rfl ?_
      refine aw_goto 16 dX9_setBids_61 (by decide) ?_
      refine aw_env [(0, .ref v0), (2, .int v2), (3, .int (v3 / v2)), (4, .int (v4 + (10 * x6))), (5, .int (v5 + (-1)))] [3, 4, 1, 2, 0] rfl ?_
      exact hK16 v0 v2 (v3 / v2) (v4 + (10 * x6)) (v5 + (-1)) T5 h
theorem L1_X9_setBids_16 {g : AxG} {l : Launch} {r9 : Int32} {S9 : AxS} (N : Nat)  : ∀ (n : Nat) (v0 : Nat) (v2 : Int32) (v3 : Int32) (v4 : Int32) (v5 : Int32) (S : AxS), F_X9_setBids_16 N  n v0 v2 v3 v4 v5 S = some ((r9, S9)) → AW g l (axRm (1) 0 0) mt_X9_setBids (axMQ g 0 0 (.inl (some (.int r9)), S9)) 0 0 S 16 [(0, .ref v0), (2, .int v2), (3, .int v3), (4, .int v4), (5, .int v5)] [] := by
  intro n
  induction n with
  | zero => intro v0 v2 v3 v4 v5 S h; cases h
  | succ n ih => intro v0 v2 v3 v4 v5 S h; exact L1_X9_setBids_16b N (F_X9_setBids_16 N  n) ih v0 v2 v3 v4 v5 S h
theorem L1_X9_setBids {g : AxG} {l : Launch} (N : Nat) {v0 : Nat} {v1 : Int32} {v2 : Int32} {S : AxS} {r9 : Int32} {S9 : AxS} (h : F_X9_setBids N v0 v1 v2 S = some ((r9, S9))) : AxMet g l yX9_setBids cX9_setBids 6 (some .int) (1) 0 0 [.ref v0, .int v1, .int v2] S ((.inl (some (.int r9)), S9)) := by
  refine ax_met (own := RX9) (ini := false) (by decide +kernel) rfl (fun h => nomatch h) rfl ?_
  show AW g l (axRm (1) 0 0) mt_X9_setBids (axMQ g 0 0 (.inl (some (.int r9)), S9)) 0 0 S 0 [(0, .ref v0), (1, .int v1), (2, .int v2)] []
  unfold F_X9_setBids at h
  refine aw_iload_n 1 dX9_setBids_0 rfl rfl ?_
  refine aw_istore_n 3 [(3, .int v1), (0, .ref v0), (1, .int v1), (2, .int v2)] dX9_setBids_1 rfl rfl rfl ?_
  refine aw_iconst 0 dX9_setBids_2 rfl ?_
  refine aw_istore [(4, .int 0), (3, .int v1), (0, .ref v0), (1, .int v1), (2, .int v2)] dX9_setBids_3 rfl rfl ?_
  refine aw_aload_n 2 dX9_setBids_5 rfl rfl ?_
  refine aw_getR axc9 1 rfl rfl wd_454 dX9_setBids_6 h (fun a1 h => ?_)
  refine aw_getI axc1 6 rfl rfl wd_186 dX9_setBids_9 h (fun x2 h => ?_)
  refine aw_iconst 1 dX9_setBids_12 rfl ?_
  refine aw_isub dX9_setBids_13 ?_
  refine aw_istore [(5, .int (x2 - 1)), (4, .int 0), (3, .int v1), (0, .ref v0), (1, .int v1), (2, .int v2)] dX9_setBids_14 rfl rfl ?_
  refine aw_env [(0, .ref v0), (2, .int v2), (3, .int v1), (4, .int 0), (5, .int (x2 - 1))] [3, 5, 2, 1, 0] rfl ?_
  exact L1_X9_setBids_16 N  N v0 v2 v1 0 (x2 - 1) S h

theorem dX9_had_0 : decode cX9_had 0 = .ok (.iload_n 2, 1) := by decide +kernel
theorem dX9_had_1 : decode cX9_had 1 = .ok (.aload_n 0, 1) := by decide +kernel
theorem dX9_had_2 : decode cX9_had 2 = .ok (.getfield 56, 3) := by decide +kernel
theorem dX9_had_5 : decode cX9_had 5 = .ok (.getfield 174, 3) := by decide +kernel
theorem dX9_had_8 : decode cX9_had 8 = .ok (.if_icmp .le 7, 3) := by decide +kernel
theorem dX9_had_11 : decode cX9_had 11 = .ok (.iconst 0, 1) := by decide +kernel
theorem dX9_had_12 : decode cX9_had 12 = .ok (.goto 28, 3) := by decide +kernel
theorem dX9_had_15 : decode cX9_had 15 = .ok (.bipush 10, 2) := by decide +kernel
theorem dX9_had_17 : decode cX9_had 17 = .ok (.aload_n 0, 1) := by decide +kernel
theorem dX9_had_18 : decode cX9_had 18 = .ok (.getfield 83, 3) := by decide +kernel
theorem dX9_had_21 : decode cX9_had 21 = .ok (.iload_n 1, 1) := by decide +kernel
theorem dX9_had_22 : decode cX9_had 22 = .ok (.invokestatic 223, 3) := by decide +kernel
theorem dX9_had_25 : decode cX9_had 25 = .ok (.imul, 1) := by decide +kernel
theorem dX9_had_26 : decode cX9_had 26 = .ok (.aload_n 0, 1) := by decide +kernel
theorem dX9_had_27 : decode cX9_had 27 = .ok (.getfield 19, 3) := by decide +kernel
theorem dX9_had_30 : decode cX9_had 30 = .ok (.getfield 250, 3) := by decide +kernel
theorem dX9_had_33 : decode cX9_had 33 = .ok (.iload_n 1, 1) := by decide +kernel
theorem dX9_had_34 : decode cX9_had 34 = .ok (.invokestatic 223, 3) := by decide +kernel
theorem dX9_had_37 : decode cX9_had 37 = .ok (.invokestatic 290, 3) := by decide +kernel
theorem dX9_had_40 : decode cX9_had 40 = .ok (.ireturn, 1) := by decide +kernel
abbrev mt_X9_had : AxM := (RX9, cX9_had, 3, (some .int), false, [])
theorem L1_X9_had {g : AxG} {l : Launch} (N : Nat) {v0 : Nat} {v1 : Int32} {v2 : Int32} {S : AxS} {r9 : Int32} {S9 : AxS} (h : F_X9_had N v0 v1 v2 S = some ((r9, S9))) : AxMet g l yX9_had cX9_had 3 (some .int) (1) 0 0 [.ref v0, .int v1, .int v2] S ((.inl (some (.int r9)), S9)) := by
  refine ax_met (own := RX9) (ini := false) (by decide +kernel) rfl (fun h => nomatch h) rfl ?_
  show AW g l (axRm (1) 0 0) mt_X9_had (axMQ g 0 0 (.inl (some (.int r9)), S9)) 0 0 S 0 [(0, .ref v0), (1, .int v1), (2, .int v2)] []
  unfold F_X9_had at h
  refine aw_iload_n 2 dX9_had_0 rfl rfl ?_
  refine aw_aload_n 0 dX9_had_1 rfl rfl ?_
  refine aw_getR axc9 8 rfl rfl wd_461 dX9_had_2 h (fun a1 h => ?_)
  refine aw_getI axc5 0 rfl rfl wd_293 dX9_had_5 h (fun x2 h => ?_)
  refine aw_icmp_le 15 dX9_had_8 (by decide) h (fun h => ?_) (fun h => ?_)
  · refine aw_bipush 10 dX9_had_15 (by decide) ?_
    refine aw_aload_n 0 dX9_had_17 rfl rfl ?_
    refine aw_getR axc9 17 rfl rfl wd_470 dX9_had_18 h (fun a3 h => ?_)
    refine aw_iload_n 1 dX9_had_21 rfl rfl ?_
    refine aw_doneI (rest := [.int 10]) h (fun r9 S9 hF => aw_runS (As := [.ref a3, .int v1]) (rest := [.int 10]) (L1_X9_at N hF) wd_541 wd_874 wd_540 wd_87 pd_X9_at.2 rfl (ax_rm (by omega) rfl) ax_hf0 (Nat.le_of_ble_eq_true rfl) rfl dX9_had_22) (fun x5 T4 h => ?_)
    refine aw_imul dX9_had_25 ?_
    refine aw_aload_n 0 dX9_had_26 rfl rfl ?_
    refine aw_getR axc9 1 rfl rfl wd_454 dX9_had_27 h (fun a6 h => ?_)
    refine aw_getR axc1 11 rfl rfl wd_196 dX9_had_30 h (fun a7 h => ?_)
    refine aw_iload_n 1 dX9_had_33 rfl rfl ?_
    refine aw_doneI (rest := [.int (10 * x5)]) h (fun r9 S9 hF => aw_runS (As := [.ref a7, .int v1]) (rest := [.int (10 * x5)]) (L1_X9_at N hF) wd_541 wd_874 wd_540 wd_87 pd_X9_at.2 rfl (ax_rm (by omega) rfl) ax_hf0 (Nat.le_of_ble_eq_true rfl) rfl dX9_had_34) (fun x9 T8 h => ?_)
    refine aw_doneI (rest := []) h (fun r9 S9 hF => aw_runS (As := [.int (10 * x5), .int x9]) (rest := []) (L1_J9_min_7cf53 N hF) wd_563 wd_565 wd_562 wd_106 pd_J9_min_7cf53.2 rfl (ax_rm (by omega) rfl) ax_hf0 (Nat.le_of_ble_eq_true rfl) rfl dX9_had_37) (fun x11 T10 h => ?_)
    exact aw_iret dX9_had_40 rfl (Nat.le_refl _) (Nat.le_refl _) h
  · refine aw_iconst 0 dX9_had_11 rfl ?_
    refine aw_goto 40 dX9_had_12 (by decide) ?_
    exact aw_iret dX9_had_40 rfl (Nat.le_refl _) (Nat.le_refl _) h

theorem dX9_restsBy_0 : decode cX9_restsBy 0 = .ok (.iconst 0, 1) := by decide +kernel
theorem dX9_restsBy_1 : decode cX9_restsBy 1 = .ok (.istore_n 3, 1) := by decide +kernel
theorem dX9_restsBy_2 : decode cX9_restsBy 2 = .ok (.iload_n 3, 1) := by decide +kernel
theorem dX9_restsBy_3 : decode cX9_restsBy 3 = .ok (.aload_n 0, 1) := by decide +kernel
theorem dX9_restsBy_4 : decode cX9_restsBy 4 = .ok (.getfield 19, 3) := by decide +kernel
theorem dX9_restsBy_7 : decode cX9_restsBy 7 = .ok (.getfield 213, 3) := by decide +kernel
theorem dX9_restsBy_10 : decode cX9_restsBy 10 = .ok (.if_icmp .ge 82, 3) := by decide +kernel
theorem dX9_restsBy_13 : decode cX9_restsBy 13 = .ok (.aload_n 0, 1) := by decide +kernel
theorem dX9_restsBy_14 : decode cX9_restsBy 14 = .ok (.getfield 56, 3) := by decide +kernel
theorem dX9_restsBy_17 : decode cX9_restsBy 17 = .ok (.getfield 174, 3) := by decide +kernel
theorem dX9_restsBy_20 : decode cX9_restsBy 20 = .ok (.iload_n 1, 1) := by decide +kernel
theorem dX9_restsBy_21 : decode cX9_restsBy 21 = .ok (.bipush 10, 2) := by decide +kernel
theorem dX9_restsBy_23 : decode cX9_restsBy 23 = .ok (.aload_n 0, 1) := by decide +kernel
theorem dX9_restsBy_24 : decode cX9_restsBy 24 = .ok (.getfield 83, 3) := by decide +kernel
theorem dX9_restsBy_27 : decode cX9_restsBy 27 = .ok (.iload_n 3, 1) := by decide +kernel
theorem dX9_restsBy_28 : decode cX9_restsBy 28 = .ok (.invokestatic 223, 3) := by decide +kernel
theorem dX9_restsBy_31 : decode cX9_restsBy 31 = .ok (.imul, 1) := by decide +kernel
theorem dX9_restsBy_32 : decode cX9_restsBy 32 = .ok (.isub, 1) := by decide +kernel
theorem dX9_restsBy_33 : decode cX9_restsBy 33 = .ok (.isub, 1) := by decide +kernel
theorem dX9_restsBy_34 : decode cX9_restsBy 34 = .ok (.istore 4, 2) := by decide +kernel
theorem dX9_restsBy_36 : decode cX9_restsBy 36 = .ok (.iload 4, 2) := by decide +kernel
theorem dX9_restsBy_38 : decode cX9_restsBy 38 = .ok (.ifCond .ge 7, 3) := by decide +kernel
theorem dX9_restsBy_41 : decode cX9_restsBy 41 = .ok (.iconst 0, 1) := by decide +kernel
theorem dX9_restsBy_42 : decode cX9_restsBy 42 = .ok (.goto 15, 3) := by decide +kernel
theorem dX9_restsBy_45 : decode cX9_restsBy 45 = .ok (.bipush 10, 2) := by decide +kernel
theorem dX9_restsBy_47 : decode cX9_restsBy 47 = .ok (.iload_n 2, 1) := by decide +kernel
theorem dX9_restsBy_48 : decode cX9_restsBy 48 = .ok (.iload 4, 2) := by decide +kernel
theorem dX9_restsBy_50 : decode cX9_restsBy 50 = .ok (.bipush 10, 2) := by decide +kernel
theorem dX9_restsBy_52 : decode cX9_restsBy 52 = .ok (.idiv, 1) := by decide +kernel
theorem dX9_restsBy_53 : decode cX9_restsBy 53 = .ok (.invokestatic 290, 3) := by decide +kernel
theorem dX9_restsBy_56 : decode cX9_restsBy 56 = .ok (.imul, 1) := by decide +kernel
theorem dX9_restsBy_57 : decode cX9_restsBy 57 = .ok (.istore 5, 2) := by decide +kernel
theorem dX9_restsBy_59 : decode cX9_restsBy 59 = .ok (.aload_n 0, 1) := by decide +kernel
theorem dX9_restsBy_60 : decode cX9_restsBy 60 = .ok (.iload_n 3, 1) := by decide +kernel
theorem dX9_restsBy_61 : decode cX9_restsBy 61 = .ok (.iload_n 1, 1) := by decide +kernel
theorem dX9_restsBy_62 : decode cX9_restsBy 62 = .ok (.invokevirtual 462, 3) := by decide +kernel
theorem dX9_restsBy_65 : decode cX9_restsBy 65 = .ok (.iload 5, 2) := by decide +kernel
theorem dX9_restsBy_67 : decode cX9_restsBy 67 = .ok (.aload_n 0, 1) := by decide +kernel
theorem dX9_restsBy_68 : decode cX9_restsBy 68 = .ok (.getfield 19, 3) := by decide +kernel
theorem dX9_restsBy_71 : decode cX9_restsBy 71 = .ok (.getfield 250, 3) := by decide +kernel
theorem dX9_restsBy_74 : decode cX9_restsBy 74 = .ok (.iload_n 3, 1) := by decide +kernel
theorem dX9_restsBy_75 : decode cX9_restsBy 75 = .ok (.invokestatic 223, 3) := by decide +kernel
theorem dX9_restsBy_78 : decode cX9_restsBy 78 = .ok (.invokestatic 290, 3) := by decide +kernel
theorem dX9_restsBy_81 : decode cX9_restsBy 81 = .ok (.if_icmp .ge 5, 3) := by decide +kernel
theorem dX9_restsBy_84 : decode cX9_restsBy 84 = .ok (.iconst 0, 1) := by decide +kernel
theorem dX9_restsBy_85 : decode cX9_restsBy 85 = .ok (.ireturn, 1) := by decide +kernel
theorem dX9_restsBy_86 : decode cX9_restsBy 86 = .ok (.iinc 3 1, 3) := by decide +kernel
theorem dX9_restsBy_89 : decode cX9_restsBy 89 = .ok (.goto (-87), 3) := by decide +kernel
theorem dX9_restsBy_92 : decode cX9_restsBy 92 = .ok (.iconst 1, 1) := by decide +kernel
theorem dX9_restsBy_93 : decode cX9_restsBy 93 = .ok (.ireturn, 1) := by decide +kernel
abbrev mt_X9_restsBy : AxM := (RX9, cX9_restsBy, 6, (some .boolean), false, [])
theorem L1_X9_restsBy_57 {g : AxG} {l : Launch} {r9 : Int32} {S9 : AxS} (N : Nat) (K2 : Nat → Int32 → Int32 → Int32 → AxS → Option (Int32 × AxS)) (hK2 : ∀ (v0 : Nat) (v1 : Int32) (v2 : Int32) (v3 : Int32) (S : AxS), K2 v0 v1 v2 v3 S = some ((r9, S9)) → AW g l (axRm (2) 0 0) mt_X9_restsBy (axMQ g 0 0 (.inl (some (.int r9)), S9)) 0 0 S 2 [(0, .ref v0), (1, .int v1), (2, .int v2), (3, .int v3)] []) (v0 : Nat) (v1 : Int32) (v2 : Int32) (v3 : Int32) (w0 : Int32) (S : AxS) (h : F_X9_restsBy_57 N K2 v0 v1 v2 v3 w0 S = some ((r9, S9))) : AW g l (axRm (2) 0 0) mt_X9_restsBy (axMQ g 0 0 (.inl (some (.int r9)), S9)) 0 0 S 57 [(0, .ref v0), (1, .int v1), (2, .int v2), (3, .int v3)] [.int w0] := by
  unfold F_X9_restsBy_57 at h
  refine aw_istore [(5, .int w0), (0, .ref v0), (1, .int v1), (2, .int v2), (3, .int v3)] dX9_restsBy_57 rfl rfl ?_
  refine aw_aload_n 1 dX9_restsBy_59 rfl rfl ?_
  refine aw_iload_n 4 dX9_restsBy_60 rfl rfl ?_
  refine aw_iload_n 2 dX9_restsBy_61 rfl rfl ?_
  obtain ⟨hL1, h⟩ := ax_is_spec h
  refine aw_doneI (rest := []) h (fun r9 S9 hF => aw_runV (As := [.int v3, .int v1]) (rest := []) (L1_X9_had N hF) axc9 hL1 wd_1197 wd_1194 wd_1196 wd_30 wd_87 pd_X9_had rfl (ax_rm (by omega) rfl) ax_hf0 (Nat.le_of_ble_eq_true rfl) rfl dX9_restsBy_62) (fun x3 T2 h => ?_)
  refine aw_iload 0 dX9_restsBy_65 rfl ?_
  refine aw_aload_n 1 dX9_restsBy_67 rfl rfl ?_
  refine aw_getR axc9 1 rfl rfl wd_454 dX9_restsBy_68 h (fun a4 h => ?_)
  refine aw_getR axc1 11 rfl rfl wd_196 dX9_restsBy_71 h (fun a5 h => ?_)
  refine aw_iload_n 4 dX9_restsBy_74 rfl rfl ?_
  refine aw_doneI (rest := [.int w0, .int x3]) h (fun r9 S9 hF => aw_runS (As := [.ref a5, .int v3]) (rest := [.int w0, .int x3]) (L1_X9_at N hF) wd_541 wd_874 wd_540 wd_87 pd_X9_at.2 rfl (ax_rm (by omega) rfl) ax_hf0 (Nat.le_of_ble_eq_true rfl) rfl dX9_restsBy_75) (fun x7 T6 h => ?_)
  refine aw_doneI (rest := [.int x3]) h (fun r9 S9 hF => aw_runS (As := [.int w0, .int x7]) (rest := [.int x3]) (L1_J9_min_7cf53 N hF) wd_563 wd_565 wd_562 wd_106 pd_J9_min_7cf53.2 rfl (ax_rm (by omega) rfl) ax_hf0 (Nat.le_of_ble_eq_true rfl) rfl dX9_restsBy_78) (fun x9 T8 h => ?_)
  refine aw_icmp_ge 86 dX9_restsBy_81 (by decide) h (fun h => ?_) (fun h => ?_)
  · refine aw_iinc 4 [(3, .int (v3 + 1)), (5, .int w0), (0, .ref v0), (1, .int v1), (2, .int v2)] (v3 + 1) dX9_restsBy_86 rfl rfl rfl rfl ?_
    refine aw_goto 2 dX9_restsBy_89 (by decide) ?_
    refine aw_env [(0, .ref v0), (1, .int v1), (2, .int v2), (3, .int (v3 + 1))] [2, 3, 4, 0] rfl ?_
    exact hK2 v0 v1 v2 (v3 + 1) T8 h
  · refine aw_iconst 0 dX9_restsBy_84 rfl ?_
    exact aw_zret dX9_restsBy_85 rfl (Nat.le_refl _) (Nat.le_refl _) h
theorem L1_X9_restsBy_2b {g : AxG} {l : Launch} {r9 : Int32} {S9 : AxS} (N : Nat) (K2 : Nat → Int32 → Int32 → Int32 → AxS → Option (Int32 × AxS)) (hK2 : ∀ (v0 : Nat) (v1 : Int32) (v2 : Int32) (v3 : Int32) (S : AxS), K2 v0 v1 v2 v3 S = some ((r9, S9)) → AW g l (axRm (2) 0 0) mt_X9_restsBy (axMQ g 0 0 (.inl (some (.int r9)), S9)) 0 0 S 2 [(0, .ref v0), (1, .int v1), (2, .int v2), (3, .int v3)] []) (v0 : Nat) (v1 : Int32) (v2 : Int32) (v3 : Int32) (S : AxS) (h : F_X9_restsBy_2b N K2 v0 v1 v2 v3 S = some ((r9, S9))) : AW g l (axRm (2) 0 0) mt_X9_restsBy (axMQ g 0 0 (.inl (some (.int r9)), S9)) 0 0 S 2 [(0, .ref v0), (1, .int v1), (2, .int v2), (3, .int v3)] [] := by
  unfold F_X9_restsBy_2b at h
  refine aw_iload_n 3 dX9_restsBy_2 rfl rfl ?_
  refine aw_aload_n 0 dX9_restsBy_3 rfl rfl ?_
  refine aw_getR axc9 1 rfl rfl wd_454 dX9_restsBy_4 h (fun a1 h => ?_)
  refine aw_getI axc1 6 rfl rfl wd_186 dX9_restsBy_7 h (fun x2 h => ?_)
  refine aw_icmp_ge 92 dX9_restsBy_10 (by decide) h (fun h => ?_) (fun h => ?_)
  · refine aw_iconst 1 dX9_restsBy_92 rfl ?_
    exact aw_zret dX9_restsBy_93 rfl (Nat.le_refl _) (Nat.le_refl _) h
  · refine aw_aload_n 0 dX9_restsBy_13 rfl rfl ?_
    refine aw_getR axc9 8 rfl rfl wd_461 dX9_restsBy_14 h (fun a3 h => ?_)
    refine aw_getI axc5 0 rfl rfl wd_293 dX9_restsBy_17 h (fun x4 h => ?_)
    refine aw_iload_n 1 dX9_restsBy_20 rfl rfl ?_
    refine aw_bipush 10 dX9_restsBy_21 (by decide) ?_
    refine aw_aload_n 0 dX9_restsBy_23 rfl rfl ?_
    refine aw_getR axc9 17 rfl rfl wd_470 dX9_restsBy_24 h (fun a5 h => ?_)
    refine aw_iload_n 3 dX9_restsBy_27 rfl rfl ?_
    refine aw_doneI (rest := [.int 10, .int v1, .int x4]) h (fun r9 S9 hF => aw_runS (As := [.ref a5, .int v3]) (rest := [.int 10, .int v1, .int x4]) (L1_X9_at N hF) wd_541 wd_874 wd_540 wd_87 pd_X9_at.2 rfl (ax_rm (by omega) rfl) ax_hf0 (Nat.le_of_ble_eq_true rfl) rfl dX9_restsBy_28) (fun x7 T6 h => ?_)
    refine aw_imul dX9_restsBy_31 ?_
    refine aw_isub dX9_restsBy_32 ?_
    refine aw_isub dX9_restsBy_33 ?_
    refine aw_istore [(4, .int (x4 - (v1 - (10 * x7)))), (0, .ref v0), (1, .int v1), (2, .int v2), (3, .int v3)] dX9_restsBy_34 rfl rfl ?_
    refine aw_iload 0 dX9_restsBy_36 rfl ?_
    refine aw_if_ge 45 dX9_restsBy_38 (by decide) h (fun h => ?_) (fun h => ?_)
    · refine aw_bipush 10 dX9_restsBy_45 (by decide) ?_
      refine aw_iload_n 3 dX9_restsBy_47 rfl rfl ?_
      refine aw_iload 0 dX9_restsBy_48 rfl ?_
      refine aw_bipush 10 dX9_restsBy_50 (by decide) ?_
      refine aw_idiv dX9_restsBy_52 h (fun h => ?_)
      refine aw_doneI (rest := [.int 10]) h (fun r9 S9 hF => aw_runS (As := [.int v2, .int ((x4 - (v1 - (10 * x7))) / 10)]) (rest := [.int 10]) (L1_J9_min_7cf53 N hF) wd_563 wd_565 wd_562 wd_106 pd_J9_min_7cf53.2 rfl (ax_rm (by omega) rfl) ax_hf0 (Nat.le_of_ble_eq_true rfl) rfl dX9_restsBy_53) (fun x9 T8 h => ?_)
      refine aw_imul dX9_restsBy_56 ?_
      refine aw_env [(0, .ref v0), (1, .int v1), (2, .int v2), (3, .int v3)] [1, 2, 3, 4] rfl ?_
      exact L1_X9_restsBy_57 N K2 hK2 v0 v1 v2 v3 (10 * x9) T8 h
    · refine aw_iconst 0 dX9_restsBy_41 rfl ?_
      refine aw_goto 57 dX9_restsBy_42 (by decide) ?_
      refine aw_env [(0, .ref v0), (1, .int v1), (2, .int v2), (3, .int v3)] [1, 2, 3, 4] rfl ?_
      exact L1_X9_restsBy_57 N K2 hK2 v0 v1 v2 v3 0 T6 h
theorem L1_X9_restsBy_2 {g : AxG} {l : Launch} {r9 : Int32} {S9 : AxS} (N : Nat)  : ∀ (n : Nat) (v0 : Nat) (v1 : Int32) (v2 : Int32) (v3 : Int32) (S : AxS), F_X9_restsBy_2 N  n v0 v1 v2 v3 S = some ((r9, S9)) → AW g l (axRm (2) 0 0) mt_X9_restsBy (axMQ g 0 0 (.inl (some (.int r9)), S9)) 0 0 S 2 [(0, .ref v0), (1, .int v1), (2, .int v2), (3, .int v3)] [] := by
  intro n
  induction n with
  | zero => intro v0 v1 v2 v3 S h; cases h
  | succ n ih => intro v0 v1 v2 v3 S h; exact L1_X9_restsBy_2b N (F_X9_restsBy_2 N  n) ih v0 v1 v2 v3 S h
theorem L1_X9_restsBy {g : AxG} {l : Launch} (N : Nat) {v0 : Nat} {v1 : Int32} {v2 : Int32} {S : AxS} {r9 : Int32} {S9 : AxS} (h : F_X9_restsBy N v0 v1 v2 S = some ((r9, S9))) : AxMet g l yX9_restsBy cX9_restsBy 6 (some .boolean) (2) 0 0 [.ref v0, .int v1, .int v2] S ((.inl (some (.int r9)), S9)) := by
  refine ax_met (own := RX9) (ini := false) (by decide +kernel) rfl (fun h => nomatch h) rfl ?_
  show AW g l (axRm (2) 0 0) mt_X9_restsBy (axMQ g 0 0 (.inl (some (.int r9)), S9)) 0 0 S 0 [(0, .ref v0), (1, .int v1), (2, .int v2)] []
  unfold F_X9_restsBy at h
  refine aw_iconst 0 dX9_restsBy_0 rfl ?_
  refine aw_istore_n 3 [(3, .int 0), (0, .ref v0), (1, .int v1), (2, .int v2)] dX9_restsBy_1 rfl rfl rfl ?_
  refine aw_env [(0, .ref v0), (1, .int v1), (2, .int v2), (3, .int 0)] [1, 2, 3, 0] rfl ?_
  exact L1_X9_restsBy_2 N  N v0 v1 v2 0 S h

theorem dX9_bidsAsDigits_0 : decode cX9_bidsAsDigits 0 = .ok (.iconst 0, 1) := by decide +kernel
theorem dX9_bidsAsDigits_1 : decode cX9_bidsAsDigits 1 = .ok (.istore_n 1, 1) := by decide +kernel
theorem dX9_bidsAsDigits_2 : decode cX9_bidsAsDigits 2 = .ok (.iconst 0, 1) := by decide +kernel
theorem dX9_bidsAsDigits_3 : decode cX9_bidsAsDigits 3 = .ok (.istore_n 2, 1) := by decide +kernel
theorem dX9_bidsAsDigits_4 : decode cX9_bidsAsDigits 4 = .ok (.iload_n 2, 1) := by decide +kernel
theorem dX9_bidsAsDigits_5 : decode cX9_bidsAsDigits 5 = .ok (.aload_n 0, 1) := by decide +kernel
theorem dX9_bidsAsDigits_6 : decode cX9_bidsAsDigits 6 = .ok (.getfield 19, 3) := by decide +kernel
theorem dX9_bidsAsDigits_9 : decode cX9_bidsAsDigits 9 = .ok (.getfield 213, 3) := by decide +kernel
theorem dX9_bidsAsDigits_12 : decode cX9_bidsAsDigits 12 = .ok (.if_icmp .ge 23, 3) := by decide +kernel
theorem dX9_bidsAsDigits_15 : decode cX9_bidsAsDigits 15 = .ok (.bipush 10, 2) := by decide +kernel
theorem dX9_bidsAsDigits_17 : decode cX9_bidsAsDigits 17 = .ok (.iload_n 1, 1) := by decide +kernel
theorem dX9_bidsAsDigits_18 : decode cX9_bidsAsDigits 18 = .ok (.imul, 1) := by decide +kernel
theorem dX9_bidsAsDigits_19 : decode cX9_bidsAsDigits 19 = .ok (.aload_n 0, 1) := by decide +kernel
theorem dX9_bidsAsDigits_20 : decode cX9_bidsAsDigits 20 = .ok (.getfield 83, 3) := by decide +kernel
theorem dX9_bidsAsDigits_23 : decode cX9_bidsAsDigits 23 = .ok (.iload_n 2, 1) := by decide +kernel
theorem dX9_bidsAsDigits_24 : decode cX9_bidsAsDigits 24 = .ok (.invokestatic 223, 3) := by decide +kernel
theorem dX9_bidsAsDigits_27 : decode cX9_bidsAsDigits 27 = .ok (.iadd, 1) := by decide +kernel
theorem dX9_bidsAsDigits_28 : decode cX9_bidsAsDigits 28 = .ok (.istore_n 1, 1) := by decide +kernel
theorem dX9_bidsAsDigits_29 : decode cX9_bidsAsDigits 29 = .ok (.iinc 2 1, 3) := by decide +kernel
theorem dX9_bidsAsDigits_32 : decode cX9_bidsAsDigits 32 = .ok (.goto (-28), 3) := by decide +kernel
theorem dX9_bidsAsDigits_35 : decode cX9_bidsAsDigits 35 = .ok (.iload_n 1, 1) := by decide +kernel
theorem dX9_bidsAsDigits_36 : decode cX9_bidsAsDigits 36 = .ok (.ireturn, 1) := by decide +kernel
abbrev mt_X9_bidsAsDigits : AxM := (RX9, cX9_bidsAsDigits, 3, (some .int), false, [])
theorem L1_X9_bidsAsDigits_4b {g : AxG} {l : Launch} {r9 : Int32} {S9 : AxS} (N : Nat) (K4 : Nat → Int32 → Int32 → AxS → Option (Int32 × AxS)) (hK4 : ∀ (v0 : Nat) (v1 : Int32) (v2 : Int32) (S : AxS), K4 v0 v1 v2 S = some ((r9, S9)) → AW g l (axRm (1) 0 0) mt_X9_bidsAsDigits (axMQ g 0 0 (.inl (some (.int r9)), S9)) 0 0 S 4 [(0, .ref v0), (1, .int v1), (2, .int v2)] []) (v0 : Nat) (v1 : Int32) (v2 : Int32) (S : AxS) (h : F_X9_bidsAsDigits_4b N K4 v0 v1 v2 S = some ((r9, S9))) : AW g l (axRm (1) 0 0) mt_X9_bidsAsDigits (axMQ g 0 0 (.inl (some (.int r9)), S9)) 0 0 S 4 [(0, .ref v0), (1, .int v1), (2, .int v2)] [] := by
  unfold F_X9_bidsAsDigits_4b at h
  refine aw_iload_n 2 dX9_bidsAsDigits_4 rfl rfl ?_
  refine aw_aload_n 0 dX9_bidsAsDigits_5 rfl rfl ?_
  refine aw_getR axc9 1 rfl rfl wd_454 dX9_bidsAsDigits_6 h (fun a1 h => ?_)
  refine aw_getI axc1 6 rfl rfl wd_186 dX9_bidsAsDigits_9 h (fun x2 h => ?_)
  refine aw_icmp_ge 35 dX9_bidsAsDigits_12 (by decide) h (fun h => ?_) (fun h => ?_)
  · refine aw_iload_n 1 dX9_bidsAsDigits_35 rfl rfl ?_
    exact aw_iret dX9_bidsAsDigits_36 rfl (Nat.le_refl _) (Nat.le_refl _) h
  · refine aw_bipush 10 dX9_bidsAsDigits_15 (by decide) ?_
    refine aw_iload_n 1 dX9_bidsAsDigits_17 rfl rfl ?_
    refine aw_imul dX9_bidsAsDigits_18 ?_
    refine aw_aload_n 0 dX9_bidsAsDigits_19 rfl rfl ?_
    refine aw_getR axc9 17 rfl rfl wd_470 dX9_bidsAsDigits_20 h (fun a3 h => ?_)
    refine aw_iload_n 2 dX9_bidsAsDigits_23 rfl rfl ?_
    refine aw_doneI (rest := [.int (10 * v1)]) h (fun r9 S9 hF => aw_runS (As := [.ref a3, .int v2]) (rest := [.int (10 * v1)]) (L1_X9_at N hF) wd_541 wd_874 wd_540 wd_87 pd_X9_at.2 rfl (ax_rm (by omega) rfl) ax_hf0 (Nat.le_of_ble_eq_true rfl) rfl dX9_bidsAsDigits_24) (fun x5 T4 h => ?_)
    refine aw_iadd dX9_bidsAsDigits_27 ?_
    refine aw_istore_n 1 [(1, .int ((10 * v1) + x5)), (0, .ref v0), (2, .int v2)] dX9_bidsAsDigits_28 rfl rfl rfl ?_
    refine aw_iinc 2 [(2, .int (v2 + 1)), (1, .int ((10 * v1) + x5)), (0, .ref v0)] (v2 + 1) dX9_bidsAsDigits_29 rfl rfl rfl rfl ?_
    refine aw_goto 4 dX9_bidsAsDigits_32 (by decide) ?_
    refine aw_env [(0, .ref v0), (1, .int ((10 * v1) + x5)), (2, .int (v2 + 1))] [2, 1, 0] rfl ?_
    exact hK4 v0 ((10 * v1) + x5) (v2 + 1) T4 h
theorem L1_X9_bidsAsDigits_4 {g : AxG} {l : Launch} {r9 : Int32} {S9 : AxS} (N : Nat)  : ∀ (n : Nat) (v0 : Nat) (v1 : Int32) (v2 : Int32) (S : AxS), F_X9_bidsAsDigits_4 N  n v0 v1 v2 S = some ((r9, S9)) → AW g l (axRm (1) 0 0) mt_X9_bidsAsDigits (axMQ g 0 0 (.inl (some (.int r9)), S9)) 0 0 S 4 [(0, .ref v0), (1, .int v1), (2, .int v2)] [] := by
  intro n
  induction n with
  | zero => intro v0 v1 v2 S h; cases h
  | succ n ih => intro v0 v1 v2 S h; exact L1_X9_bidsAsDigits_4b N (F_X9_bidsAsDigits_4 N  n) ih v0 v1 v2 S h
theorem L1_X9_bidsAsDigits {g : AxG} {l : Launch} (N : Nat) {v0 : Nat} {S : AxS} {r9 : Int32} {S9 : AxS} (h : F_X9_bidsAsDigits N v0 S = some ((r9, S9))) : AxMet g l yX9_bidsAsDigits cX9_bidsAsDigits 3 (some .int) (1) 0 0 [.ref v0] S ((.inl (some (.int r9)), S9)) := by
  refine ax_met (own := RX9) (ini := false) (by decide +kernel) rfl (fun h => nomatch h) rfl ?_
  show AW g l (axRm (1) 0 0) mt_X9_bidsAsDigits (axMQ g 0 0 (.inl (some (.int r9)), S9)) 0 0 S 0 [(0, .ref v0)] []
  unfold F_X9_bidsAsDigits at h
  refine aw_iconst 0 dX9_bidsAsDigits_0 rfl ?_
  refine aw_istore_n 1 [(1, .int 0), (0, .ref v0)] dX9_bidsAsDigits_1 rfl rfl rfl ?_
  refine aw_iconst 0 dX9_bidsAsDigits_2 rfl ?_
  refine aw_istore_n 2 [(2, .int 0), (1, .int 0), (0, .ref v0)] dX9_bidsAsDigits_3 rfl rfl rfl ?_
  refine aw_env [(0, .ref v0), (1, .int 0), (2, .int 0)] [2, 1, 0] rfl ?_
  exact L1_X9_bidsAsDigits_4 N  N v0 0 0 S h

theorem dX9_hadTogether_0 : decode cX9_hadTogether 0 = .ok (.iconst 0, 1) := by decide +kernel
theorem dX9_hadTogether_1 : decode cX9_hadTogether 1 = .ok (.istore_n 2, 1) := by decide +kernel
theorem dX9_hadTogether_2 : decode cX9_hadTogether 2 = .ok (.iconst 0, 1) := by decide +kernel
theorem dX9_hadTogether_3 : decode cX9_hadTogether 3 = .ok (.istore_n 3, 1) := by decide +kernel
theorem dX9_hadTogether_4 : decode cX9_hadTogether 4 = .ok (.iload_n 3, 1) := by decide +kernel
theorem dX9_hadTogether_5 : decode cX9_hadTogether 5 = .ok (.aload_n 0, 1) := by decide +kernel
theorem dX9_hadTogether_6 : decode cX9_hadTogether 6 = .ok (.getfield 19, 3) := by decide +kernel
theorem dX9_hadTogether_9 : decode cX9_hadTogether 9 = .ok (.getfield 213, 3) := by decide +kernel
theorem dX9_hadTogether_12 : decode cX9_hadTogether 12 = .ok (.if_icmp .ge 18, 3) := by decide +kernel
theorem dX9_hadTogether_15 : decode cX9_hadTogether 15 = .ok (.iload_n 2, 1) := by decide +kernel
theorem dX9_hadTogether_16 : decode cX9_hadTogether 16 = .ok (.aload_n 0, 1) := by decide +kernel
theorem dX9_hadTogether_17 : decode cX9_hadTogether 17 = .ok (.iload_n 3, 1) := by decide +kernel
theorem dX9_hadTogether_18 : decode cX9_hadTogether 18 = .ok (.iload_n 1, 1) := by decide +kernel
theorem dX9_hadTogether_19 : decode cX9_hadTogether 19 = .ok (.invokevirtual 462, 3) := by decide +kernel
theorem dX9_hadTogether_22 : decode cX9_hadTogether 22 = .ok (.iadd, 1) := by decide +kernel
theorem dX9_hadTogether_23 : decode cX9_hadTogether 23 = .ok (.istore_n 2, 1) := by decide +kernel
theorem dX9_hadTogether_24 : decode cX9_hadTogether 24 = .ok (.iinc 3 1, 3) := by decide +kernel
theorem dX9_hadTogether_27 : decode cX9_hadTogether 27 = .ok (.goto (-23), 3) := by decide +kernel
theorem dX9_hadTogether_30 : decode cX9_hadTogether 30 = .ok (.iload_n 2, 1) := by decide +kernel
theorem dX9_hadTogether_31 : decode cX9_hadTogether 31 = .ok (.ireturn, 1) := by decide +kernel
abbrev mt_X9_hadTogether : AxM := (RX9, cX9_hadTogether, 4, (some .int), false, [])
theorem L1_X9_hadTogether_4b {g : AxG} {l : Launch} {r9 : Int32} {S9 : AxS} (N : Nat) (K4 : Nat → Int32 → Int32 → Int32 → AxS → Option (Int32 × AxS)) (hK4 : ∀ (v0 : Nat) (v1 : Int32) (v2 : Int32) (v3 : Int32) (S : AxS), K4 v0 v1 v2 v3 S = some ((r9, S9)) → AW g l (axRm (2) 0 0) mt_X9_hadTogether (axMQ g 0 0 (.inl (some (.int r9)), S9)) 0 0 S 4 [(0, .ref v0), (1, .int v1), (2, .int v2), (3, .int v3)] []) (v0 : Nat) (v1 : Int32) (v2 : Int32) (v3 : Int32) (S : AxS) (h : F_X9_hadTogether_4b N K4 v0 v1 v2 v3 S = some ((r9, S9))) : AW g l (axRm (2) 0 0) mt_X9_hadTogether (axMQ g 0 0 (.inl (some (.int r9)), S9)) 0 0 S 4 [(0, .ref v0), (1, .int v1), (2, .int v2), (3, .int v3)] [] := by
  unfold F_X9_hadTogether_4b at h
  refine aw_iload_n 3 dX9_hadTogether_4 rfl rfl ?_
  refine aw_aload_n 0 dX9_hadTogether_5 rfl rfl ?_
  refine aw_getR axc9 1 rfl rfl wd_454 dX9_hadTogether_6 h (fun a1 h => ?_)
  refine aw_getI axc1 6 rfl rfl wd_186 dX9_hadTogether_9 h (fun x2 h => ?_)
  refine aw_icmp_ge 30 dX9_hadTogether_12 (by decide) h (fun h => ?_) (fun h => ?_)
  · refine aw_iload_n 2 dX9_hadTogether_30 rfl rfl ?_
    exact aw_iret dX9_hadTogether_31 rfl (Nat.le_refl _) (Nat.le_refl _) h
  · refine aw_iload_n 2 dX9_hadTogether_15 rfl rfl ?_
    refine aw_aload_n 0 dX9_hadTogether_16 rfl rfl ?_
    refine aw_iload_n 3 dX9_hadTogether_17 rfl rfl ?_
    refine aw_iload_n 1 dX9_hadTogether_18 rfl rfl ?_
    obtain ⟨hL3, h⟩ := ax_is_spec h
    refine aw_doneI (rest := [.int v2]) h (fun r9 S9 hF => aw_runV (As := [.int v3, .int v1]) (rest := [.int v2]) (L1_X9_had N hF) axc9 hL3 wd_1197 wd_1194 wd_1196 wd_30 wd_87 pd_X9_had rfl (ax_rm (by omega) rfl) ax_hf0 (Nat.le_of_ble_eq_true rfl) rfl dX9_hadTogether_19) (fun x5 T4 h => ?_)
    refine aw_iadd dX9_hadTogether_22 ?_
    refine aw_istore_n 2 [(2, .int (v2 + x5)), (0, .ref v0), (1, .int v1), (3, .int v3)] dX9_hadTogether_23 rfl rfl rfl ?_
    refine aw_iinc 3 [(3, .int (v3 + 1)), (2, .int (v2 + x5)), (0, .ref v0), (1, .int v1)] (v3 + 1) dX9_hadTogether_24 rfl rfl rfl rfl ?_
    refine aw_goto 4 dX9_hadTogether_27 (by decide) ?_
    refine aw_env [(0, .ref v0), (1, .int v1), (2, .int (v2 + x5)), (3, .int (v3 + 1))] [2, 3, 1, 0] rfl ?_
    exact hK4 v0 v1 (v2 + x5) (v3 + 1) T4 h
theorem L1_X9_hadTogether_4 {g : AxG} {l : Launch} {r9 : Int32} {S9 : AxS} (N : Nat)  : ∀ (n : Nat) (v0 : Nat) (v1 : Int32) (v2 : Int32) (v3 : Int32) (S : AxS), F_X9_hadTogether_4 N  n v0 v1 v2 v3 S = some ((r9, S9)) → AW g l (axRm (2) 0 0) mt_X9_hadTogether (axMQ g 0 0 (.inl (some (.int r9)), S9)) 0 0 S 4 [(0, .ref v0), (1, .int v1), (2, .int v2), (3, .int v3)] [] := by
  intro n
  induction n with
  | zero => intro v0 v1 v2 v3 S h; cases h
  | succ n ih => intro v0 v1 v2 v3 S h; exact L1_X9_hadTogether_4b N (F_X9_hadTogether_4 N  n) ih v0 v1 v2 v3 S h
theorem L1_X9_hadTogether {g : AxG} {l : Launch} (N : Nat) {v0 : Nat} {v1 : Int32} {S : AxS} {r9 : Int32} {S9 : AxS} (h : F_X9_hadTogether N v0 v1 S = some ((r9, S9))) : AxMet g l yX9_hadTogether cX9_hadTogether 4 (some .int) (2) 0 0 [.ref v0, .int v1] S ((.inl (some (.int r9)), S9)) := by
  refine ax_met (own := RX9) (ini := false) (by decide +kernel) rfl (fun h => nomatch h) rfl ?_
  show AW g l (axRm (2) 0 0) mt_X9_hadTogether (axMQ g 0 0 (.inl (some (.int r9)), S9)) 0 0 S 0 [(0, .ref v0), (1, .int v1)] []
  unfold F_X9_hadTogether at h
  refine aw_iconst 0 dX9_hadTogether_0 rfl ?_
  refine aw_istore_n 2 [(2, .int 0), (0, .ref v0), (1, .int v1)] dX9_hadTogether_1 rfl rfl rfl ?_
  refine aw_iconst 0 dX9_hadTogether_2 rfl ?_
  refine aw_istore_n 3 [(3, .int 0), (2, .int 0), (0, .ref v0), (1, .int v1)] dX9_hadTogether_3 rfl rfl rfl ?_
  refine aw_env [(0, .ref v0), (1, .int v1), (2, .int 0), (3, .int 0)] [2, 3, 1, 0] rfl ?_
  exact L1_X9_hadTogether_4 N  N v0 v1 0 0 S h

theorem dX9_heirs_0 : decode cX9_heirs 0 = .ok (.aload_n 0, 1) := by decide +kernel
theorem dX9_heirs_1 : decode cX9_heirs 1 = .ok (.iload_n 1, 1) := by decide +kernel
theorem dX9_heirs_2 : decode cX9_heirs 2 = .ok (.ifCond .lt 22, 3) := by decide +kernel
theorem dX9_heirs_5 : decode cX9_heirs 5 = .ok (.iload_n 1, 1) := by decide +kernel
theorem dX9_heirs_6 : decode cX9_heirs 6 = .ok (.bipush 9, 2) := by decide +kernel
theorem dX9_heirs_8 : decode cX9_heirs 8 = .ok (.if_icmp .gt 16, 3) := by decide +kernel
theorem dX9_heirs_11 : decode cX9_heirs 11 = .ok (.iload_n 2, 1) := by decide +kernel
theorem dX9_heirs_12 : decode cX9_heirs 12 = .ok (.ifCond .lt 12, 3) := by decide +kernel
theorem dX9_heirs_15 : decode cX9_heirs 15 = .ok (.iload_n 2, 1) := by decide +kernel
theorem dX9_heirs_16 : decode cX9_heirs 16 = .ok (.iconst 2, 1) := by decide +kernel
theorem dX9_heirs_17 : decode cX9_heirs 17 = .ok (.if_icmp .gt 7, 3) := by decide +kernel
theorem dX9_heirs_20 : decode cX9_heirs 20 = .ok (.iconst 1, 1) := by decide +kernel
theorem dX9_heirs_21 : decode cX9_heirs 21 = .ok (.goto 4, 3) := by decide +kernel
theorem dX9_heirs_24 : decode cX9_heirs 24 = .ok (.iconst 0, 1) := by decide +kernel
theorem dX9_heirs_25 : decode cX9_heirs 25 = .ok (.invokevirtual 128, 3) := by decide +kernel
theorem dX9_heirs_28 : decode cX9_heirs 28 = .ok (.iload_n 1, 1) := by decide +kernel
theorem dX9_heirs_29 : decode cX9_heirs 29 = .ok (.iconst 1, 1) := by decide +kernel
theorem dX9_heirs_30 : decode cX9_heirs 30 = .ok (.iadd, 1) := by decide +kernel
theorem dX9_heirs_31 : decode cX9_heirs 31 = .ok (.aload_n 0, 1) := by decide +kernel
theorem dX9_heirs_32 : decode cX9_heirs 32 = .ok (.getfield 19, 3) := by decide +kernel
theorem dX9_heirs_35 : decode cX9_heirs 35 = .ok (.getfield 213, 3) := by decide +kernel
theorem dX9_heirs_38 : decode cX9_heirs 38 = .ok (.invokestatic 322, 3) := by decide +kernel
theorem dX9_heirs_41 : decode cX9_heirs 41 = .ok (.l2i, 1) := by decide +kernel
theorem dX9_heirs_42 : decode cX9_heirs 42 = .ok (.istore_n 3, 1) := by decide +kernel
theorem dX9_heirs_43 : decode cX9_heirs 43 = .ok (.iconst 0, 1) := by decide +kernel
theorem dX9_heirs_44 : decode cX9_heirs 44 = .ok (.istore 4, 2) := by decide +kernel
theorem dX9_heirs_46 : decode cX9_heirs 46 = .ok (.iconst (-1), 1) := by decide +kernel
theorem dX9_heirs_47 : decode cX9_heirs 47 = .ok (.istore 5, 2) := by decide +kernel
theorem dX9_heirs_49 : decode cX9_heirs 49 = .ok (.iconst 0, 1) := by decide +kernel
theorem dX9_heirs_50 : decode cX9_heirs 50 = .ok (.istore 6, 2) := by decide +kernel
theorem dX9_heirs_52 : decode cX9_heirs 52 = .ok (.iconst 0, 1) := by decide +kernel
theorem dX9_heirs_53 : decode cX9_heirs 53 = .ok (.istore 7, 2) := by decide +kernel
theorem dX9_heirs_55 : decode cX9_heirs 55 = .ok (.iload 7, 2) := by decide +kernel
theorem dX9_heirs_57 : decode cX9_heirs 57 = .ok (.iload_n 3, 1) := by decide +kernel
theorem dX9_heirs_58 : decode cX9_heirs 58 = .ok (.if_icmp .ge 55, 3) := by decide +kernel
theorem dX9_heirs_61 : decode cX9_heirs 61 = .ok (.aload_n 0, 1) := by decide +kernel
theorem dX9_heirs_62 : decode cX9_heirs 62 = .ok (.iload 7, 2) := by decide +kernel
theorem dX9_heirs_64 : decode cX9_heirs 64 = .ok (.iload_n 1, 1) := by decide +kernel
theorem dX9_heirs_65 : decode cX9_heirs 65 = .ok (.iconst 1, 1) := by decide +kernel
theorem dX9_heirs_66 : decode cX9_heirs 66 = .ok (.iadd, 1) := by decide +kernel
theorem dX9_heirs_67 : decode cX9_heirs 67 = .ok (.invokevirtual 333, 3) := by decide +kernel
theorem dX9_heirs_70 : decode cX9_heirs 70 = .ok (.istore 8, 2) := by decide +kernel
theorem dX9_heirs_72 : decode cX9_heirs 72 = .ok (.aload_n 0, 1) := by decide +kernel
theorem dX9_heirs_73 : decode cX9_heirs 73 = .ok (.iload 8, 2) := by decide +kernel
theorem dX9_heirs_75 : decode cX9_heirs 75 = .ok (.iload_n 1, 1) := by decide +kernel
theorem dX9_heirs_76 : decode cX9_heirs 76 = .ok (.invokevirtual 336, 3) := by decide +kernel
theorem dX9_heirs_79 : decode cX9_heirs 79 = .ok (.ifCond .ne 6, 3) := by decide +kernel
theorem dX9_heirs_82 : decode cX9_heirs 82 = .ok (.goto 25, 3) := by decide +kernel
theorem dX9_heirs_85 : decode cX9_heirs 85 = .ok (.iload 4, 2) := by decide +kernel
theorem dX9_heirs_87 : decode cX9_heirs 87 = .ok (.ifCond .ne 17, 3) := by decide +kernel
theorem dX9_heirs_90 : decode cX9_heirs 90 = .ok (.aload_n 0, 1) := by decide +kernel
theorem dX9_heirs_91 : decode cX9_heirs 91 = .ok (.invokevirtual 340, 3) := by decide +kernel
theorem dX9_heirs_94 : decode cX9_heirs 94 = .ok (.istore 5, 2) := by decide +kernel
theorem dX9_heirs_96 : decode cX9_heirs 96 = .ok (.aload_n 0, 1) := by decide +kernel
theorem dX9_heirs_97 : decode cX9_heirs 97 = .ok (.iload 8, 2) := by decide +kernel
theorem dX9_heirs_99 : decode cX9_heirs 99 = .ok (.invokevirtual 344, 3) := by decide +kernel
theorem dX9_heirs_102 : decode cX9_heirs 102 = .ok (.istore 6, 2) := by decide +kernel
theorem dX9_heirs_104 : decode cX9_heirs 104 = .ok (.iinc 4 1, 3) := by decide +kernel
theorem dX9_heirs_107 : decode cX9_heirs 107 = .ok (.iinc 7 1, 3) := by decide +kernel
theorem dX9_heirs_110 : decode cX9_heirs 110 = .ok (.goto (-55), 3) := by decide +kernel
theorem dX9_heirs_113 : decode cX9_heirs 113 = .ok (.iload_n 2, 1) := by decide +kernel
theorem dX9_heirs_114 : decode cX9_heirs 114 = .ok (.lookupswitch 32 #[(0, 26), (1, 29)], 26) := by decide +kernel
theorem dX9_heirs_140 : decode cX9_heirs 140 = .ok (.iload 4, 2) := by decide +kernel
theorem dX9_heirs_142 : decode cX9_heirs 142 = .ok (.ireturn, 1) := by decide +kernel
theorem dX9_heirs_143 : decode cX9_heirs 143 = .ok (.iload 5, 2) := by decide +kernel
theorem dX9_heirs_145 : decode cX9_heirs 145 = .ok (.ireturn, 1) := by decide +kernel
theorem dX9_heirs_146 : decode cX9_heirs 146 = .ok (.iload 6, 2) := by decide +kernel
theorem dX9_heirs_148 : decode cX9_heirs 148 = .ok (.ireturn, 1) := by decide +kernel
abbrev mt_X9_heirs : AxM := (RX9, cX9_heirs, 9, (some .int), false, [])
theorem L1_X9_heirs_107 {g : AxG} {l : Launch} (hl0 : l.stackTraces = false) {res : AxT Int32} (N : Nat) (K55 : Nat → Int32 → Int32 → Int32 → Int32 → Int32 → Int32 → Int32 → AxS → Option (AxT Int32)) (hK55 : ∀ (v0 : Nat) (v1 : Int32) (v2 : Int32) (v3 : Int32) (v4 : Int32) (v5 : Int32) (v6 : Int32) (v7 : Int32) (S : AxS), K55 v0 v1 v2 v3 v4 v5 v6 v7 S = some res → AW g l (axRm (9) (axCs (axOI res)) (6 * axCs (axOI res))) mt_X9_heirs (axMQ g (axCs (axOI res)) (6 * axCs (axOI res)) (axOI res)) 0 0 S 55 [(0, .ref v0), (1, .int v1), (2, .int v2), (3, .int v3), (4, .int v4), (5, .int v5), (6, .int v6), (7, .int v7)] []) (v0 : Nat) (v1 : Int32) (v2 : Int32) (v3 : Int32) (v4 : Int32) (v5 : Int32) (v6 : Int32) (v7 : Int32) (S : AxS) (h : F_X9_heirs_107 N K55 v0 v1 v2 v3 v4 v5 v6 v7 S = some res) : AW g l (axRm (9) (axCs (axOI res)) (6 * axCs (axOI res))) mt_X9_heirs (axMQ g (axCs (axOI res)) (6 * axCs (axOI res)) (axOI res)) 0 0 S 107 [(0, .ref v0), (1, .int v1), (2, .int v2), (3, .int v3), (4, .int v4), (5, .int v5), (6, .int v6), (7, .int v7)] [] := by
  unfold F_X9_heirs_107 at h
  refine aw_iinc 7 [(7, .int (v7 + 1)), (0, .ref v0), (1, .int v1), (2, .int v2), (3, .int v3), (4, .int v4), (5, .int v5), (6, .int v6)] (v7 + 1) dX9_heirs_107 rfl rfl rfl rfl ?_
  refine aw_goto 55 dX9_heirs_110 (by decide) ?_
  refine aw_env [(0, .ref v0), (1, .int v1), (2, .int v2), (3, .int v3), (4, .int v4), (5, .int v5), (6, .int v6), (7, .int (v7 + 1))] [1, 2, 3, 4, 5, 6, 7, 0] rfl ?_
  exact hK55 v0 v1 v2 v3 v4 v5 v6 (v7 + 1) S h
theorem L1_X9_heirs_104 {g : AxG} {l : Launch} (hl0 : l.stackTraces = false) {res : AxT Int32} (N : Nat) (K55 : Nat → Int32 → Int32 → Int32 → Int32 → Int32 → Int32 → Int32 → AxS → Option (AxT Int32)) (hK55 : ∀ (v0 : Nat) (v1 : Int32) (v2 : Int32) (v3 : Int32) (v4 : Int32) (v5 : Int32) (v6 : Int32) (v7 : Int32) (S : AxS), K55 v0 v1 v2 v3 v4 v5 v6 v7 S = some res → AW g l (axRm (9) (axCs (axOI res)) (6 * axCs (axOI res))) mt_X9_heirs (axMQ g (axCs (axOI res)) (6 * axCs (axOI res)) (axOI res)) 0 0 S 55 [(0, .ref v0), (1, .int v1), (2, .int v2), (3, .int v3), (4, .int v4), (5, .int v5), (6, .int v6), (7, .int v7)] []) (v0 : Nat) (v1 : Int32) (v2 : Int32) (v3 : Int32) (v4 : Int32) (v5 : Int32) (v6 : Int32) (v7 : Int32) (S : AxS) (h : F_X9_heirs_104 N K55 v0 v1 v2 v3 v4 v5 v6 v7 S = some res) : AW g l (axRm (9) (axCs (axOI res)) (6 * axCs (axOI res))) mt_X9_heirs (axMQ g (axCs (axOI res)) (6 * axCs (axOI res)) (axOI res)) 0 0 S 104 [(0, .ref v0), (1, .int v1), (2, .int v2), (3, .int v3), (4, .int v4), (5, .int v5), (6, .int v6), (7, .int v7)] [] := by
  unfold F_X9_heirs_104 at h
  refine aw_iinc 4 [(4, .int (v4 + 1)), (0, .ref v0), (1, .int v1), (2, .int v2), (3, .int v3), (5, .int v5), (6, .int v6), (7, .int v7)] (v4 + 1) dX9_heirs_104 rfl rfl rfl rfl ?_
  refine aw_env [(0, .ref v0), (1, .int v1), (2, .int v2), (3, .int v3), (4, .int (v4 + 1)), (5, .int v5), (6, .int v6), (7, .int v7)] [1, 2, 3, 4, 0, 5, 6, 7] rfl ?_
  exact L1_X9_heirs_107 hl0 N K55 hK55 v0 v1 v2 v3 (v4 + 1) v5 v6 v7 S h
theorem L1_X9_heirs_55b {g : AxG} {l : Launch} (hl0 : l.stackTraces = false) {res : AxT Int32} (N : Nat) (K55 : Nat → Int32 → Int32 → Int32 → Int32 → Int32 → Int32 → Int32 → AxS → Option (AxT Int32)) (hK55 : ∀ (v0 : Nat) (v1 : Int32) (v2 : Int32) (v3 : Int32) (v4 : Int32) (v5 : Int32) (v6 : Int32) (v7 : Int32) (S : AxS), K55 v0 v1 v2 v3 v4 v5 v6 v7 S = some res → AW g l (axRm (9) (axCs (axOI res)) (6 * axCs (axOI res))) mt_X9_heirs (axMQ g (axCs (axOI res)) (6 * axCs (axOI res)) (axOI res)) 0 0 S 55 [(0, .ref v0), (1, .int v1), (2, .int v2), (3, .int v3), (4, .int v4), (5, .int v5), (6, .int v6), (7, .int v7)] []) (v0 : Nat) (v1 : Int32) (v2 : Int32) (v3 : Int32) (v4 : Int32) (v5 : Int32) (v6 : Int32) (v7 : Int32) (S : AxS) (h : F_X9_heirs_55b N K55 v0 v1 v2 v3 v4 v5 v6 v7 S = some res) : AW g l (axRm (9) (axCs (axOI res)) (6 * axCs (axOI res))) mt_X9_heirs (axMQ g (axCs (axOI res)) (6 * axCs (axOI res)) (axOI res)) 0 0 S 55 [(0, .ref v0), (1, .int v1), (2, .int v2), (3, .int v3), (4, .int v4), (5, .int v5), (6, .int v6), (7, .int v7)] [] := by
  unfold F_X9_heirs_55b at h
  refine aw_iload 7 dX9_heirs_55 rfl ?_
  refine aw_iload_n 3 dX9_heirs_57 rfl rfl ?_
  refine aw_icmp_ge 113 dX9_heirs_58 (by decide) h (fun h => ?_) (fun h => ?_)
  · refine aw_iload_n 2 dX9_heirs_113 rfl rfl ?_
    refine aw_case 0 h (fun h => ?_) (fun c1 h => ?_)
    · refine aw_lsw 140 (off := 26) dX9_heirs_114 (by decide) (by decide) (by decide) ?_
      refine aw_iload 4 dX9_heirs_140 rfl ?_
      exact aw_iretT dX9_heirs_142 rfl h
    refine aw_case 1 h (fun h => ?_) (fun c2 h => ?_)
    · refine aw_lsw 143 (off := 29) dX9_heirs_114 (by decide) (by decide) (by decide) ?_
      refine aw_iload 5 dX9_heirs_143 rfl ?_
      exact aw_iretT dX9_heirs_145 rfl h
    refine aw_lsw 146 (off := 32) dX9_heirs_114 (by decide) (by show Op.lookupswitch.offset [(0, 26), (1, 29)] 32 _ = _; rw [lv_osw c1 (by decide), lv_osw c2 (by decide)]; rfl) (by decide) ?_
    refine aw_iload 6 dX9_heirs_146 rfl ?_
    exact aw_iretT dX9_heirs_148 rfl h
  · refine aw_aload_n 0 dX9_heirs_61 rfl rfl ?_
    refine aw_iload 7 dX9_heirs_62 rfl ?_
    refine aw_iload_n 1 dX9_heirs_64 rfl rfl ?_
    refine aw_iconst 1 dX9_heirs_65 rfl ?_
    refine aw_iadd dX9_heirs_66 ?_
    obtain ⟨hL3, h⟩ := ax_is_spec h
    refine aw_doneI (rest := []) h (fun r9 S9 hF => aw_runV (As := [.int v7, .int (v1 + 1)]) (rest := []) (L1_X9_setBids N hF) axc9 hL3 wd_1189 wd_1186 wd_1188 wd_28 wd_87 pd_X9_setBids rfl (ax_rm (by omega) rfl) ax_hf0 (Nat.le_of_ble_eq_true rfl) rfl dX9_heirs_67) (fun x5 T4 h => ?_)
    refine aw_istore [(8, .int x5), (0, .ref v0), (1, .int v1), (2, .int v2), (3, .int v3), (4, .int v4), (5, .int v5), (6, .int v6), (7, .int v7)] dX9_heirs_70 rfl rfl ?_
    refine aw_aload_n 1 dX9_heirs_72 rfl rfl ?_
    refine aw_iload 0 dX9_heirs_73 rfl ?_
    refine aw_iload_n 2 dX9_heirs_75 rfl rfl ?_
    obtain ⟨hL6, h⟩ := ax_is_spec h
    refine aw_doneI (rest := []) h (fun r9 S9 hF => aw_runV (As := [.int x5, .int v1]) (rest := []) (L1_X9_restsBy N hF) axc9 hL6 wd_1193 wd_1190 wd_1192 wd_29 wd_87 pd_X9_restsBy rfl (ax_rm (by omega) rfl) ax_hf0 (Nat.le_of_ble_eq_true rfl) rfl dX9_heirs_76) (fun x8 T7 h => ?_)
    refine aw_if_ne 85 dX9_heirs_79 (by decide) h (fun h => ?_) (fun h => ?_)
    · refine aw_iload 5 dX9_heirs_85 rfl ?_
      refine aw_if_ne 104 dX9_heirs_87 (by decide) h (fun h => ?_) (fun h => ?_)
      · refine aw_env [(0, .ref v0), (1, .int v1), (2, .int v2), (3, .int v3), (4, .int v4), (5, .int v5), (6, .int v6), (7, .int v7)] [1, 2, 3, 4, 5, 6, 7, 8] rfl ?_
        exact L1_X9_heirs_104 hl0 N K55 hK55 v0 v1 v2 v3 v4 v5 v6 v7 T7 h
      · refine aw_aload_n 1 dX9_heirs_90 rfl rfl ?_
        obtain ⟨hL9, h⟩ := ax_is_spec h
        refine aw_doneI (rest := []) h (fun r9 S9 hF => aw_runV (As := []) (rest := []) (L1_X9_bidsAsDigits N hF) axc9 hL9 wd_1201 wd_1198 wd_1200 wd_31 wd_87 pd_X9_bidsAsDigits rfl (ax_rm (by omega) rfl) ax_hf0 (Nat.le_of_ble_eq_true rfl) rfl dX9_heirs_91) (fun x11 T10 h => ?_)
        refine aw_istore [(5, .int x11), (8, .int x5), (0, .ref v0), (1, .int v1), (2, .int v2), (3, .int v3), (4, .int v4), (6, .int v6), (7, .int v7)] dX9_heirs_94 rfl rfl ?_
        refine aw_aload_n 2 dX9_heirs_96 rfl rfl ?_
        refine aw_iload 1 dX9_heirs_97 rfl ?_
        obtain ⟨hL12, h⟩ := ax_is_spec h
        refine aw_doneI (rest := []) h (fun r9 S9 hF => aw_runV (As := [.int x5]) (rest := []) (L1_X9_hadTogether N hF) axc9 hL12 wd_1205 wd_1202 wd_1204 wd_32 wd_87 pd_X9_hadTogether rfl (ax_rm (by omega) rfl) ax_hf0 (Nat.le_of_ble_eq_true rfl) rfl dX9_heirs_99) (fun x14 T13 h => ?_)
        refine aw_istore [(6, .int x14), (5, .int x11), (8, .int x5), (0, .ref v0), (1, .int v1), (2, .int v2), (3, .int v3), (4, .int v4), (7, .int v7)] dX9_heirs_102 rfl rfl ?_
        refine aw_env [(0, .ref v0), (1, .int v1), (2, .int v2), (3, .int v3), (4, .int v4), (5, .int x11), (6, .int x14), (7, .int v7)] [3, 4, 5, 6, 7, 1, 0, 8] rfl ?_
        exact L1_X9_heirs_104 hl0 N K55 hK55 v0 v1 v2 v3 v4 x11 x14 v7 T13 h
    · refine aw_goto 107 dX9_heirs_82 (by decide) ?_
      refine aw_env [(0, .ref v0), (1, .int v1), (2, .int v2), (3, .int v3), (4, .int v4), (5, .int v5), (6, .int v6), (7, .int v7)] [1, 2, 3, 4, 5, 6, 7, 8] rfl ?_
      exact L1_X9_heirs_107 hl0 N K55 hK55 v0 v1 v2 v3 v4 v5 v6 v7 T7 h
theorem L1_X9_heirs_55 {g : AxG} {l : Launch} (hl0 : l.stackTraces = false) {res : AxT Int32} (N : Nat)  : ∀ (n : Nat) (v0 : Nat) (v1 : Int32) (v2 : Int32) (v3 : Int32) (v4 : Int32) (v5 : Int32) (v6 : Int32) (v7 : Int32) (S : AxS), F_X9_heirs_55 N  n v0 v1 v2 v3 v4 v5 v6 v7 S = some res → AW g l (axRm (9) (axCs (axOI res)) (6 * axCs (axOI res))) mt_X9_heirs (axMQ g (axCs (axOI res)) (6 * axCs (axOI res)) (axOI res)) 0 0 S 55 [(0, .ref v0), (1, .int v1), (2, .int v2), (3, .int v3), (4, .int v4), (5, .int v5), (6, .int v6), (7, .int v7)] [] := by
  intro n
  induction n with
  | zero => intro v0 v1 v2 v3 v4 v5 v6 v7 S h; cases h
  | succ n ih => intro v0 v1 v2 v3 v4 v5 v6 v7 S h; exact L1_X9_heirs_55b hl0 N (F_X9_heirs_55 N  n) ih v0 v1 v2 v3 v4 v5 v6 v7 S h
theorem L1_X9_heirs_25 {g : AxG} {l : Launch} (hl0 : l.stackTraces = false) {res : AxT Int32} (N : Nat)  (v0 : Nat) (v1 : Int32) (v2 : Int32) (w0 : Int32) (w1 : Nat) (S : AxS) (h : F_X9_heirs_25 N  v0 v1 v2 w0 w1 S = some res) : AW g l (axRm (9) (axCs (axOI res)) (6 * axCs (axOI res))) mt_X9_heirs (axMQ g (axCs (axOI res)) (6 * axCs (axOI res)) (axOI res)) 0 0 S 25 [(0, .ref v0), (1, .int v1), (2, .int v2)] [.int w0, .ref w1] := by
  unfold F_X9_heirs_25 at h
  obtain ⟨hL1, h⟩ := ax_is_spec h
  refine aw_thV (ob := axOI) (rest := []) (fun _ _ => rfl) rfl h (fun u9 hF hu => aw_runV (As := [.int w0]) (rest := []) (L1_X9_needArgument hl0 N hF) axc9 hL1 wd_604 wd_601 wd_603 wd_3 wd_87 pd_X9_needArgument rfl (ax_rm (by omega) rfl) (ax_hfV (fun _ _ => rfl) hu) (Nat.le_of_ble_eq_true rfl) rfl dX9_heirs_25) (fun T2 h => ?_)
  refine aw_iload_n 1 dX9_heirs_28 rfl rfl ?_
  refine aw_iconst 1 dX9_heirs_29 rfl ?_
  refine aw_iadd dX9_heirs_30 ?_
  refine aw_aload_n 0 dX9_heirs_31 rfl rfl ?_
  refine aw_getR axc9 1 rfl rfl wd_454 dX9_heirs_32 h (fun a4 h => ?_)
  refine aw_getI axc1 6 rfl rfl wd_186 dX9_heirs_35 h (fun x5 h => ?_)
  refine aw_doneL (rest := []) h (fun r9 S9 hF => aw_runS (As := [.int (v1 + 1), .int x5]) (rest := []) (L1_X9_power N hF) wd_1125 wd_1123 wd_1124 wd_87 pd_X9_power.2 rfl (ax_rm (by omega) rfl) ax_hf0 (Nat.le_of_ble_eq_true rfl) rfl dX9_heirs_38) (fun x7 T6 h => ?_)
  refine aw_l2i dX9_heirs_41 ?_
  refine aw_istore_n 3 [(3, .int (Int64.toInt32 x7)), (0, .ref v0), (1, .int v1), (2, .int v2)] dX9_heirs_42 rfl rfl rfl ?_
  refine aw_iconst 0 dX9_heirs_43 rfl ?_
  refine aw_istore [(4, .int 0), (3, .int (Int64.toInt32 x7)), (0, .ref v0), (1, .int v1), (2, .int v2)] dX9_heirs_44 rfl rfl ?_
  refine aw_iconst (-1) dX9_heirs_46 rfl ?_
  refine aw_istore [(5, .int ((-1))), (4, .int 0), (3, .int (Int64.toInt32 x7)), (0, .ref v0), (1, .int v1), (2, .int v2)] dX9_heirs_47 rfl rfl ?_
  refine aw_iconst 0 dX9_heirs_49 rfl ?_
  refine aw_istore [(6, .int 0), (5, .int ((-1))), (4, .int 0), (3, .int (Int64.toInt32 x7)), (0, .ref v0), (1, .int v1), (2, .int v2)] dX9_heirs_50 rfl rfl ?_
  refine aw_iconst 0 dX9_heirs_52 rfl ?_
  refine aw_istore [(7, .int 0), (6, .int 0), (5, .int ((-1))), (4, .int 0), (3, .int (Int64.toInt32 x7)), (0, .ref v0), (1, .int v1), (2, .int v2)] dX9_heirs_53 rfl rfl ?_
  refine aw_env [(0, .ref v0), (1, .int v1), (2, .int v2), (3, .int (Int64.toInt32 x7)), (4, .int 0), (5, .int ((-1))), (6, .int 0), (7, .int 0)] [5, 6, 7, 4, 3, 2, 1, 0] rfl ?_
  exact L1_X9_heirs_55 hl0 N  N v0 v1 v2 (Int64.toInt32 x7) 0 ((-1)) 0 0 T6 h
theorem L1_X9_heirs_24 {g : AxG} {l : Launch} (hl0 : l.stackTraces = false) {res : AxT Int32} (N : Nat)  (v0 : Nat) (v1 : Int32) (v2 : Int32) (w0 : Nat) (S : AxS) (h : F_X9_heirs_24 N  v0 v1 v2 w0 S = some res) : AW g l (axRm (9) (axCs (axOI res)) (6 * axCs (axOI res))) mt_X9_heirs (axMQ g (axCs (axOI res)) (6 * axCs (axOI res)) (axOI res)) 0 0 S 24 [(0, .ref v0), (1, .int v1), (2, .int v2)] [.ref w0] := by
  unfold F_X9_heirs_24 at h
  refine aw_iconst 0 dX9_heirs_24 rfl ?_
  refine aw_env [(0, .ref v0), (1, .int v1), (2, .int v2)] [0, 1, 2] rfl ?_
  exact L1_X9_heirs_25 hl0 N  v0 v1 v2 0 w0 S h
theorem L1_X9_heirs {g : AxG} {l : Launch} (hl0 : l.stackTraces = false) (N : Nat) {v0 : Nat} {v1 : Int32} {v2 : Int32} {S : AxS} {res : AxT Int32} (h : F_X9_heirs N v0 v1 v2 S = some res) : AxMet g l yX9_heirs cX9_heirs 9 (some .int) (9) (axCs (axOI res)) (6 * axCs (axOI res)) [.ref v0, .int v1, .int v2] S (axOI res) := by
  refine ax_met (own := RX9) (ini := false) (by decide +kernel) rfl (fun h => nomatch h) rfl ?_
  show AW g l (axRm (9) (axCs (axOI res)) (6 * axCs (axOI res))) mt_X9_heirs (axMQ g (axCs (axOI res)) (6 * axCs (axOI res)) (axOI res)) 0 0 S 0 [(0, .ref v0), (1, .int v1), (2, .int v2)] []
  unfold F_X9_heirs at h
  refine aw_aload_n 0 dX9_heirs_0 rfl rfl ?_
  refine aw_iload_n 1 dX9_heirs_1 rfl rfl ?_
  refine aw_if_lt 24 dX9_heirs_2 (by decide) h (fun h => ?_) (fun h => ?_)
  · refine aw_env [(0, .ref v0), (1, .int v1), (2, .int v2)] [0, 1, 2] rfl ?_
    exact L1_X9_heirs_24 hl0 N  v0 v1 v2 v0 S h
  · refine aw_iload_n 1 dX9_heirs_5 rfl rfl ?_
    refine aw_bipush 9 dX9_heirs_6 (by decide) ?_
    refine aw_icmp_gt 24 dX9_heirs_8 (by decide) h (fun h => ?_) (fun h => ?_)
    · refine aw_env [(0, .ref v0), (1, .int v1), (2, .int v2)] [0, 1, 2] rfl ?_
      exact L1_X9_heirs_24 hl0 N  v0 v1 v2 v0 S h
    · refine aw_iload_n 2 dX9_heirs_11 rfl rfl ?_
      refine aw_if_lt 24 dX9_heirs_12 (by decide) h (fun h => ?_) (fun h => ?_)
      · refine aw_env [(0, .ref v0), (1, .int v1), (2, .int v2)] [0, 1, 2] rfl ?_
        exact L1_X9_heirs_24 hl0 N  v0 v1 v2 v0 S h
      · refine aw_iload_n 2 dX9_heirs_15 rfl rfl ?_
        refine aw_iconst 2 dX9_heirs_16 rfl ?_
        refine aw_icmp_gt 24 dX9_heirs_17 (by decide) h (fun h => ?_) (fun h => ?_)
        · refine aw_env [(0, .ref v0), (1, .int v1), (2, .int v2)] [0, 1, 2] rfl ?_
          exact L1_X9_heirs_24 hl0 N  v0 v1 v2 v0 S h
        · refine aw_iconst 1 dX9_heirs_20 rfl ?_
          refine aw_goto 25 dX9_heirs_21 (by decide) ?_
          refine aw_env [(0, .ref v0), (1, .int v1), (2, .int v2)] [0, 1, 2] rfl ?_
          exact L1_X9_heirs_25 hl0 N  v0 v1 v2 1 v0 S h

theorem dX9_sleepers_0 : decode cX9_sleepers 0 = .ok (.aload_n 0, 1) := by decide +kernel
theorem dX9_sleepers_1 : decode cX9_sleepers 1 = .ok (.iload_n 1, 1) := by decide +kernel
theorem dX9_sleepers_2 : decode cX9_sleepers 2 = .ok (.ifCond .lt 14, 3) := by decide +kernel
theorem dX9_sleepers_5 : decode cX9_sleepers 5 = .ok (.iload_n 1, 1) := by decide +kernel
theorem dX9_sleepers_6 : decode cX9_sleepers 6 = .ok (.sipush 999, 3) := by decide +kernel
theorem dX9_sleepers_9 : decode cX9_sleepers 9 = .ok (.if_icmp .gt 7, 3) := by decide +kernel
theorem dX9_sleepers_12 : decode cX9_sleepers 12 = .ok (.iconst 1, 1) := by decide +kernel
theorem dX9_sleepers_13 : decode cX9_sleepers 13 = .ok (.goto 4, 3) := by decide +kernel
theorem dX9_sleepers_16 : decode cX9_sleepers 16 = .ok (.iconst 0, 1) := by decide +kernel
theorem dX9_sleepers_17 : decode cX9_sleepers 17 = .ok (.invokevirtual 128, 3) := by decide +kernel
theorem dX9_sleepers_20 : decode cX9_sleepers 20 = .ok (.iconst 0, 1) := by decide +kernel
theorem dX9_sleepers_21 : decode cX9_sleepers 21 = .ok (.istore_n 2, 1) := by decide +kernel
theorem dX9_sleepers_22 : decode cX9_sleepers 22 = .ok (.iconst 0, 1) := by decide +kernel
theorem dX9_sleepers_23 : decode cX9_sleepers 23 = .ok (.istore_n 3, 1) := by decide +kernel
theorem dX9_sleepers_24 : decode cX9_sleepers 24 = .ok (.iload_n 3, 1) := by decide +kernel
theorem dX9_sleepers_25 : decode cX9_sleepers 25 = .ok (.aload_n 0, 1) := by decide +kernel
theorem dX9_sleepers_26 : decode cX9_sleepers 26 = .ok (.getfield 19, 3) := by decide +kernel
theorem dX9_sleepers_29 : decode cX9_sleepers 29 = .ok (.getfield 142, 3) := by decide +kernel
theorem dX9_sleepers_32 : decode cX9_sleepers 32 = .ok (.if_icmp .ge 38, 3) := by decide +kernel
theorem dX9_sleepers_35 : decode cX9_sleepers 35 = .ok (.aload_n 0, 1) := by decide +kernel
theorem dX9_sleepers_36 : decode cX9_sleepers 36 = .ok (.getfield 19, 3) := by decide +kernel
theorem dX9_sleepers_39 : decode cX9_sleepers 39 = .ok (.iload_n 3, 1) := by decide +kernel
theorem dX9_sleepers_40 : decode cX9_sleepers 40 = .ok (.aload_n 0, 1) := by decide +kernel
theorem dX9_sleepers_41 : decode cX9_sleepers 41 = .ok (.getfield 56, 3) := by decide +kernel
theorem dX9_sleepers_44 : decode cX9_sleepers 44 = .ok (.getfield 227, 3) := by decide +kernel
theorem dX9_sleepers_47 : decode cX9_sleepers 47 = .ok (.iload_n 3, 1) := by decide +kernel
theorem dX9_sleepers_48 : decode cX9_sleepers 48 = .ok (.invokestatic 223, 3) := by decide +kernel
theorem dX9_sleepers_51 : decode cX9_sleepers 51 = .ok (.iload_n 1, 1) := by decide +kernel
theorem dX9_sleepers_52 : decode cX9_sleepers 52 = .ok (.invokevirtual 348, 3) := by decide +kernel
theorem dX9_sleepers_55 : decode cX9_sleepers 55 = .ok (.ifCond .eq 9, 3) := by decide +kernel
theorem dX9_sleepers_58 : decode cX9_sleepers 58 = .ok (.iload_n 2, 1) := by decide +kernel
theorem dX9_sleepers_59 : decode cX9_sleepers 59 = .ok (.iconst 1, 1) := by decide +kernel
theorem dX9_sleepers_60 : decode cX9_sleepers 60 = .ok (.iload_n 3, 1) := by decide +kernel
theorem dX9_sleepers_61 : decode cX9_sleepers 61 = .ok (.ishl, 1) := by decide +kernel
theorem dX9_sleepers_62 : decode cX9_sleepers 62 = .ok (.ior, 1) := by decide +kernel
theorem dX9_sleepers_63 : decode cX9_sleepers 63 = .ok (.istore_n 2, 1) := by decide +kernel
theorem dX9_sleepers_64 : decode cX9_sleepers 64 = .ok (.iinc 3 1, 3) := by decide +kernel
theorem dX9_sleepers_67 : decode cX9_sleepers 67 = .ok (.goto (-43), 3) := by decide +kernel
theorem dX9_sleepers_70 : decode cX9_sleepers 70 = .ok (.iload_n 2, 1) := by decide +kernel
theorem dX9_sleepers_71 : decode cX9_sleepers 71 = .ok (.ireturn, 1) := by decide +kernel
abbrev mt_X9_sleepers : AxM := (RX9, cX9_sleepers, 4, (some .int), false, [])
theorem L1_X9_sleepers_64 {g : AxG} {l : Launch} (hl0 : l.stackTraces = false) {res : AxT Int32} (N : Nat) (K24 : Nat → Int32 → Int32 → Int32 → AxS → Option (AxT Int32)) (hK24 : ∀ (v0 : Nat) (v1 : Int32) (v2 : Int32) (v3 : Int32) (S : AxS), K24 v0 v1 v2 v3 S = some res → AW g l (axRm (9) (axCs (axOI res)) (6 * axCs (axOI res))) mt_X9_sleepers (axMQ g (axCs (axOI res)) (6 * axCs (axOI res)) (axOI res)) 0 0 S 24 [(0, .ref v0), (1, .int v1), (2, .int v2), (3, .int v3)] []) (v0 : Nat) (v1 : Int32) (v2 : Int32) (v3 : Int32) (S : AxS) (h : F_X9_sleepers_64 N K24 v0 v1 v2 v3 S = some res) : AW g l (axRm (9) (axCs (axOI res)) (6 * axCs (axOI res))) mt_X9_sleepers (axMQ g (axCs (axOI res)) (6 * axCs (axOI res)) (axOI res)) 0 0 S 64 [(0, .ref v0), (1, .int v1), (2, .int v2), (3, .int v3)] [] := by
  unfold F_X9_sleepers_64 at h
  refine aw_iinc 3 [(3, .int (v3 + 1)), (0, .ref v0), (1, .int v1), (2, .int v2)] (v3 + 1) dX9_sleepers_64 rfl rfl rfl rfl ?_
  refine aw_goto 24 dX9_sleepers_67 (by decide) ?_
  refine aw_env [(0, .ref v0), (1, .int v1), (2, .int v2), (3, .int (v3 + 1))] [1, 2, 3, 0] rfl ?_
  exact hK24 v0 v1 v2 (v3 + 1) S h
theorem L1_X9_sleepers_24b {g : AxG} {l : Launch} (hl0 : l.stackTraces = false) {res : AxT Int32} (N : Nat) (K24 : Nat → Int32 → Int32 → Int32 → AxS → Option (AxT Int32)) (hK24 : ∀ (v0 : Nat) (v1 : Int32) (v2 : Int32) (v3 : Int32) (S : AxS), K24 v0 v1 v2 v3 S = some res → AW g l (axRm (9) (axCs (axOI res)) (6 * axCs (axOI res))) mt_X9_sleepers (axMQ g (axCs (axOI res)) (6 * axCs (axOI res)) (axOI res)) 0 0 S 24 [(0, .ref v0), (1, .int v1), (2, .int v2), (3, .int v3)] []) (v0 : Nat) (v1 : Int32) (v2 : Int32) (v3 : Int32) (S : AxS) (h : F_X9_sleepers_24b N K24 v0 v1 v2 v3 S = some res) : AW g l (axRm (9) (axCs (axOI res)) (6 * axCs (axOI res))) mt_X9_sleepers (axMQ g (axCs (axOI res)) (6 * axCs (axOI res)) (axOI res)) 0 0 S 24 [(0, .ref v0), (1, .int v1), (2, .int v2), (3, .int v3)] [] := by
  unfold F_X9_sleepers_24b at h
  refine aw_iload_n 3 dX9_sleepers_24 rfl rfl ?_
  refine aw_aload_n 0 dX9_sleepers_25 rfl rfl ?_
  refine aw_getR axc9 1 rfl rfl wd_454 dX9_sleepers_26 h (fun a1 h => ?_)
  refine aw_getI axc1 5 rfl rfl wd_183 dX9_sleepers_29 h (fun x2 h => ?_)
  refine aw_icmp_ge 70 dX9_sleepers_32 (by decide) h (fun h => ?_) (fun h => ?_)
  · refine aw_iload_n 2 dX9_sleepers_70 rfl rfl ?_
    exact aw_iretT dX9_sleepers_71 rfl h
  · refine aw_aload_n 0 dX9_sleepers_35 rfl rfl ?_
    refine aw_getR axc9 1 rfl rfl wd_454 dX9_sleepers_36 h (fun a3 h => ?_)
    refine aw_iload_n 3 dX9_sleepers_39 rfl rfl ?_
    refine aw_aload_n 0 dX9_sleepers_40 rfl rfl ?_
    refine aw_getR axc9 8 rfl rfl wd_461 dX9_sleepers_41 h (fun a4 h => ?_)
    refine aw_getR axc5 12 rfl rfl wd_317 dX9_sleepers_44 h (fun a5 h => ?_)
    refine aw_iload_n 3 dX9_sleepers_47 rfl rfl ?_
    refine aw_doneI (rest := [.int v3, .ref a3]) h (fun r9 S9 hF => aw_runS (As := [.ref a5, .int v3]) (rest := [.int v3, .ref a3]) (L1_X9_at N hF) wd_541 wd_874 wd_540 wd_87 pd_X9_at.2 rfl (ax_rm (by omega) rfl) ax_hf0 (Nat.le_of_ble_eq_true rfl) rfl dX9_sleepers_48) (fun x7 T6 h => ?_)
    refine aw_iload_n 1 dX9_sleepers_51 rfl rfl ?_
    obtain ⟨hL8, h⟩ := ax_is_spec h
    refine aw_doneI (rest := []) h (fun r9 S9 hF => aw_runV (As := [.int v3, .int x7, .int v1]) (rest := []) (L1_X1_sleeps N hF) axc1 hL8 wd_1159 wd_1156 wd_1157 wd_1158 wd_89 pd_X1_sleeps rfl (ax_rm (by omega) rfl) ax_hf0 (Nat.le_of_ble_eq_true rfl) rfl dX9_sleepers_52) (fun x10 T9 h => ?_)
    refine aw_if_eq 64 dX9_sleepers_55 (by decide) h (fun h => ?_) (fun h => ?_)
    · refine aw_env [(0, .ref v0), (1, .int v1), (2, .int v2), (3, .int v3)] [0, 1, 2, 3] rfl ?_
      exact L1_X9_sleepers_64 hl0 N K24 hK24 v0 v1 v2 v3 T9 h
    · refine aw_iload_n 2 dX9_sleepers_58 rfl rfl ?_
      refine aw_iconst 1 dX9_sleepers_59 rfl ?_
      refine aw_iload_n 3 dX9_sleepers_60 rfl rfl ?_
      refine aw_ishl dX9_sleepers_61 ?_
      refine aw_ior dX9_sleepers_62 ?_
      refine aw_istore_n 2 [(2, .int (v2 ||| (1 <<< (v3 &&& 31)))), (0, .ref v0), (1, .int v1), (3, .int v3)] dX9_sleepers_63 rfl rfl rfl ?_
      refine aw_env [(0, .ref v0), (1, .int v1), (2, .int (v2 ||| (1 <<< (v3 &&& 31)))), (3, .int v3)] [1, 2, 0, 3] rfl ?_
      exact L1_X9_sleepers_64 hl0 N K24 hK24 v0 v1 (v2 ||| (1 <<< (v3 &&& 31))) v3 T9 h
theorem L1_X9_sleepers_24 {g : AxG} {l : Launch} (hl0 : l.stackTraces = false) {res : AxT Int32} (N : Nat)  : ∀ (n : Nat) (v0 : Nat) (v1 : Int32) (v2 : Int32) (v3 : Int32) (S : AxS), F_X9_sleepers_24 N  n v0 v1 v2 v3 S = some res → AW g l (axRm (9) (axCs (axOI res)) (6 * axCs (axOI res))) mt_X9_sleepers (axMQ g (axCs (axOI res)) (6 * axCs (axOI res)) (axOI res)) 0 0 S 24 [(0, .ref v0), (1, .int v1), (2, .int v2), (3, .int v3)] [] := by
  intro n
  induction n with
  | zero => intro v0 v1 v2 v3 S h; cases h
  | succ n ih => intro v0 v1 v2 v3 S h; exact L1_X9_sleepers_24b hl0 N (F_X9_sleepers_24 N  n) ih v0 v1 v2 v3 S h
theorem L1_X9_sleepers_17 {g : AxG} {l : Launch} (hl0 : l.stackTraces = false) {res : AxT Int32} (N : Nat)  (v0 : Nat) (v1 : Int32) (w0 : Int32) (w1 : Nat) (S : AxS) (h : F_X9_sleepers_17 N  v0 v1 w0 w1 S = some res) : AW g l (axRm (9) (axCs (axOI res)) (6 * axCs (axOI res))) mt_X9_sleepers (axMQ g (axCs (axOI res)) (6 * axCs (axOI res)) (axOI res)) 0 0 S 17 [(0, .ref v0), (1, .int v1)] [.int w0, .ref w1] := by
  unfold F_X9_sleepers_17 at h
  obtain ⟨hL1, h⟩ := ax_is_spec h
  refine aw_thV (ob := axOI) (rest := []) (fun _ _ => rfl) rfl h (fun u9 hF hu => aw_runV (As := [.int w0]) (rest := []) (L1_X9_needArgument hl0 N hF) axc9 hL1 wd_604 wd_601 wd_603 wd_3 wd_87 pd_X9_needArgument rfl (ax_rm (by omega) rfl) (ax_hfV (fun _ _ => rfl) hu) (Nat.le_of_ble_eq_true rfl) rfl dX9_sleepers_17) (fun T2 h => ?_)
  refine aw_iconst 0 dX9_sleepers_20 rfl ?_
  refine aw_istore_n 2 [(2, .int 0), (0, .ref v0), (1, .int v1)] dX9_sleepers_21 rfl rfl rfl ?_
  refine aw_iconst 0 dX9_sleepers_22 rfl ?_
  refine aw_istore_n 3 [(3, .int 0), (2, .int 0), (0, .ref v0), (1, .int v1)] dX9_sleepers_23 rfl rfl rfl ?_
  refine aw_env [(0, .ref v0), (1, .int v1), (2, .int 0), (3, .int 0)] [2, 3, 1, 0] rfl ?_
  exact L1_X9_sleepers_24 hl0 N  N v0 v1 0 0 T2 h
theorem L1_X9_sleepers_16 {g : AxG} {l : Launch} (hl0 : l.stackTraces = false) {res : AxT Int32} (N : Nat)  (v0 : Nat) (v1 : Int32) (w0 : Nat) (S : AxS) (h : F_X9_sleepers_16 N  v0 v1 w0 S = some res) : AW g l (axRm (9) (axCs (axOI res)) (6 * axCs (axOI res))) mt_X9_sleepers (axMQ g (axCs (axOI res)) (6 * axCs (axOI res)) (axOI res)) 0 0 S 16 [(0, .ref v0), (1, .int v1)] [.ref w0] := by
  unfold F_X9_sleepers_16 at h
  refine aw_iconst 0 dX9_sleepers_16 rfl ?_
  refine aw_env [(0, .ref v0), (1, .int v1)] [0, 1] rfl ?_
  exact L1_X9_sleepers_17 hl0 N  v0 v1 0 w0 S h
theorem L1_X9_sleepers {g : AxG} {l : Launch} (hl0 : l.stackTraces = false) (N : Nat) {v0 : Nat} {v1 : Int32} {S : AxS} {res : AxT Int32} (h : F_X9_sleepers N v0 v1 S = some res) : AxMet g l yX9_sleepers cX9_sleepers 4 (some .int) (9) (axCs (axOI res)) (6 * axCs (axOI res)) [.ref v0, .int v1] S (axOI res) := by
  refine ax_met (own := RX9) (ini := false) (by decide +kernel) rfl (fun h => nomatch h) rfl ?_
  show AW g l (axRm (9) (axCs (axOI res)) (6 * axCs (axOI res))) mt_X9_sleepers (axMQ g (axCs (axOI res)) (6 * axCs (axOI res)) (axOI res)) 0 0 S 0 [(0, .ref v0), (1, .int v1)] []
  unfold F_X9_sleepers at h
  refine aw_aload_n 0 dX9_sleepers_0 rfl rfl ?_
  refine aw_iload_n 1 dX9_sleepers_1 rfl rfl ?_
  refine aw_if_lt 16 dX9_sleepers_2 (by decide) h (fun h => ?_) (fun h => ?_)
  · refine aw_env [(0, .ref v0), (1, .int v1)] [0, 1] rfl ?_
    exact L1_X9_sleepers_16 hl0 N  v0 v1 v0 S h
  · refine aw_iload_n 1 dX9_sleepers_5 rfl rfl ?_
    refine aw_sipush 999 dX9_sleepers_6 (by decide) ?_
    refine aw_icmp_gt 16 dX9_sleepers_9 (by decide) h (fun h => ?_) (fun h => ?_)
    · refine aw_env [(0, .ref v0), (1, .int v1)] [0, 1] rfl ?_
      exact L1_X9_sleepers_16 hl0 N  v0 v1 v0 S h
    · refine aw_iconst 1 dX9_sleepers_12 rfl ?_
      refine aw_goto 17 dX9_sleepers_13 (by decide) ?_
      refine aw_env [(0, .ref v0), (1, .int v1)] [0, 1] rfl ?_
      exact L1_X9_sleepers_17 hl0 N  v0 v1 1 v0 S h

theorem dX9_bears_0 : decode cX9_bears 0 = .ok (.aload_n 0, 1) := by decide +kernel
theorem dX9_bears_1 : decode cX9_bears 1 = .ok (.iload_n 1, 1) := by decide +kernel
theorem dX9_bears_2 : decode cX9_bears 2 = .ok (.aload_n 0, 1) := by decide +kernel
theorem dX9_bears_3 : decode cX9_bears 3 = .ok (.getfield 19, 3) := by decide +kernel
theorem dX9_bears_6 : decode cX9_bears 6 = .ok (.getfield 142, 3) := by decide +kernel
theorem dX9_bears_9 : decode cX9_bears 9 = .ok (.invokevirtual 216, 3) := by decide +kernel
theorem dX9_bears_12 : decode cX9_bears 12 = .ok (.aload_n 0, 1) := by decide +kernel
theorem dX9_bears_13 : decode cX9_bears 13 = .ok (.iload_n 2, 1) := by decide +kernel
theorem dX9_bears_14 : decode cX9_bears 14 = .ok (.aload_n 0, 1) := by decide +kernel
theorem dX9_bears_15 : decode cX9_bears 15 = .ok (.getfield 19, 3) := by decide +kernel
theorem dX9_bears_18 : decode cX9_bears 18 = .ok (.getfield 210, 3) := by decide +kernel
theorem dX9_bears_21 : decode cX9_bears 21 = .ok (.invokevirtual 216, 3) := by decide +kernel
theorem dX9_bears_24 : decode cX9_bears 24 = .ok (.iconst 0, 1) := by decide +kernel
theorem dX9_bears_25 : decode cX9_bears 25 = .ok (.istore_n 3, 1) := by decide +kernel
theorem dX9_bears_26 : decode cX9_bears 26 = .ok (.iconst 0, 1) := by decide +kernel
theorem dX9_bears_27 : decode cX9_bears 27 = .ok (.istore 4, 2) := by decide +kernel
theorem dX9_bears_29 : decode cX9_bears 29 = .ok (.iload 4, 2) := by decide +kernel
theorem dX9_bears_31 : decode cX9_bears 31 = .ok (.sipush 999, 3) := by decide +kernel
theorem dX9_bears_34 : decode cX9_bears 34 = .ok (.if_icmp .gt 26, 3) := by decide +kernel
theorem dX9_bears_37 : decode cX9_bears 37 = .ok (.aload_n 0, 1) := by decide +kernel
theorem dX9_bears_38 : decode cX9_bears 38 = .ok (.getfield 19, 3) := by decide +kernel
theorem dX9_bears_41 : decode cX9_bears 41 = .ok (.iload_n 1, 1) := by decide +kernel
theorem dX9_bears_42 : decode cX9_bears 42 = .ok (.iload_n 2, 1) := by decide +kernel
theorem dX9_bears_43 : decode cX9_bears 43 = .ok (.iload 4, 2) := by decide +kernel
theorem dX9_bears_45 : decode cX9_bears 45 = .ok (.invokevirtual 348, 3) := by decide +kernel
theorem dX9_bears_48 : decode cX9_bears 48 = .ok (.ifCond .eq 12, 3) := by decide +kernel
theorem dX9_bears_51 : decode cX9_bears 51 = .ok (.iload 4, 2) := by decide +kernel
theorem dX9_bears_53 : decode cX9_bears 53 = .ok (.istore_n 3, 1) := by decide +kernel
theorem dX9_bears_54 : decode cX9_bears 54 = .ok (.iinc 4 1, 3) := by decide +kernel
theorem dX9_bears_57 : decode cX9_bears 57 = .ok (.goto (-28), 3) := by decide +kernel
theorem dX9_bears_60 : decode cX9_bears 60 = .ok (.iload_n 3, 1) := by decide +kernel
theorem dX9_bears_61 : decode cX9_bears 61 = .ok (.ireturn, 1) := by decide +kernel
abbrev mt_X9_bears : AxM := (RX9, cX9_bears, 5, (some .int), false, [])
theorem L1_X9_bears_29b {g : AxG} {l : Launch} (hl0 : l.stackTraces = false) {res : AxT Int32} (N : Nat) (K29 : Nat → Int32 → Int32 → Int32 → Int32 → AxS → Option (AxT Int32)) (hK29 : ∀ (v0 : Nat) (v1 : Int32) (v2 : Int32) (v3 : Int32) (v4 : Int32) (S : AxS), K29 v0 v1 v2 v3 v4 S = some res → AW g l (axRm (9) (axCs (axOI res)) (6 * axCs (axOI res))) mt_X9_bears (axMQ g (axCs (axOI res)) (6 * axCs (axOI res)) (axOI res)) 0 0 S 29 [(0, .ref v0), (1, .int v1), (2, .int v2), (3, .int v3), (4, .int v4)] []) (v0 : Nat) (v1 : Int32) (v2 : Int32) (v3 : Int32) (v4 : Int32) (S : AxS) (h : F_X9_bears_29b N K29 v0 v1 v2 v3 v4 S = some res) : AW g l (axRm (9) (axCs (axOI res)) (6 * axCs (axOI res))) mt_X9_bears (axMQ g (axCs (axOI res)) (6 * axCs (axOI res)) (axOI res)) 0 0 S 29 [(0, .ref v0), (1, .int v1), (2, .int v2), (3, .int v3), (4, .int v4)] [] := by
  unfold F_X9_bears_29b at h
  refine aw_iload 4 dX9_bears_29 rfl ?_
  refine aw_sipush 999 dX9_bears_31 (by decide) ?_
  refine aw_icmp_gt 60 dX9_bears_34 (by decide) h (fun h => ?_) (fun h => ?_)
  · refine aw_iload_n 3 dX9_bears_60 rfl rfl ?_
    exact aw_iretT dX9_bears_61 rfl h
  · refine aw_aload_n 0 dX9_bears_37 rfl rfl ?_
    refine aw_getR axc9 1 rfl rfl wd_454 dX9_bears_38 h (fun a1 h => ?_)
    refine aw_iload_n 1 dX9_bears_41 rfl rfl ?_
    refine aw_iload_n 2 dX9_bears_42 rfl rfl ?_
    refine aw_iload 4 dX9_bears_43 rfl ?_
    obtain ⟨hL2, h⟩ := ax_is_spec h
    refine aw_doneI (rest := []) h (fun r9 S9 hF => aw_runV (As := [.int v1, .int v2, .int v4]) (rest := []) (L1_X1_sleeps N hF) axc1 hL2 wd_1159 wd_1156 wd_1157 wd_1158 wd_89 pd_X1_sleeps rfl (ax_rm (by omega) rfl) ax_hf0 (Nat.le_of_ble_eq_true rfl) rfl dX9_bears_45) (fun x4 T3 h => ?_)
    refine aw_if_eq 60 dX9_bears_48 (by decide) h (fun h => ?_) (fun h => ?_)
    · refine aw_iload_n 3 dX9_bears_60 rfl rfl ?_
      exact aw_iretT dX9_bears_61 rfl h
    · refine aw_iload 4 dX9_bears_51 rfl ?_
      refine aw_istore_n 3 [(3, .int v4), (0, .ref v0), (1, .int v1), (2, .int v2), (4, .int v4)] dX9_bears_53 rfl rfl rfl ?_
      refine aw_iinc 4 [(4, .int (v4 + 1)), (3, .int v4), (0, .ref v0), (1, .int v1), (2, .int v2)] (v4 + 1) dX9_bears_54 rfl rfl rfl rfl ?_
      refine aw_goto 29 dX9_bears_57 (by decide) ?_
      refine aw_env [(0, .ref v0), (1, .int v1), (2, .int v2), (3, .int v4), (4, .int (v4 + 1))] [2, 3, 4, 1, 0] rfl ?_
      exact hK29 v0 v1 v2 v4 (v4 + 1) T3 h
theorem L1_X9_bears_29 {g : AxG} {l : Launch} (hl0 : l.stackTraces = false) {res : AxT Int32} (N : Nat)  : ∀ (n : Nat) (v0 : Nat) (v1 : Int32) (v2 : Int32) (v3 : Int32) (v4 : Int32) (S : AxS), F_X9_bears_29 N  n v0 v1 v2 v3 v4 S = some res → AW g l (axRm (9) (axCs (axOI res)) (6 * axCs (axOI res))) mt_X9_bears (axMQ g (axCs (axOI res)) (6 * axCs (axOI res)) (axOI res)) 0 0 S 29 [(0, .ref v0), (1, .int v1), (2, .int v2), (3, .int v3), (4, .int v4)] [] := by
  intro n
  induction n with
  | zero => intro v0 v1 v2 v3 v4 S h; cases h
  | succ n ih => intro v0 v1 v2 v3 v4 S h; exact L1_X9_bears_29b hl0 N (F_X9_bears_29 N  n) ih v0 v1 v2 v3 v4 S h
theorem L1_X9_bears {g : AxG} {l : Launch} (hl0 : l.stackTraces = false) (N : Nat) {v0 : Nat} {v1 : Int32} {v2 : Int32} {S : AxS} {res : AxT Int32} (h : F_X9_bears N v0 v1 v2 S = some res) : AxMet g l yX9_bears cX9_bears 5 (some .int) (9) (axCs (axOI res)) (6 * axCs (axOI res)) [.ref v0, .int v1, .int v2] S (axOI res) := by
  refine ax_met (own := RX9) (ini := false) (by decide +kernel) rfl (fun h => nomatch h) rfl ?_
  show AW g l (axRm (9) (axCs (axOI res)) (6 * axCs (axOI res))) mt_X9_bears (axMQ g (axCs (axOI res)) (6 * axCs (axOI res)) (axOI res)) 0 0 S 0 [(0, .ref v0), (1, .int v1), (2, .int v2)] []
  unfold F_X9_bears at h
  refine aw_aload_n 0 dX9_bears_0 rfl rfl ?_
  refine aw_iload_n 1 dX9_bears_1 rfl rfl ?_
  refine aw_aload_n 0 dX9_bears_2 rfl rfl ?_
  refine aw_getR axc9 1 rfl rfl wd_454 dX9_bears_3 h (fun a1 h => ?_)
  refine aw_getI axc1 5 rfl rfl wd_183 dX9_bears_6 h (fun x2 h => ?_)
  obtain ⟨hL3, h⟩ := ax_is_spec h
  refine aw_thV (ob := axOI) (rest := []) (fun _ _ => rfl) rfl h (fun u9 hF hu => aw_runV (As := [.int v1, .int x2]) (rest := []) (L1_X9_needOne hl0 N hF) axc9 hL3 wd_975 wd_972 wd_974 wd_20 wd_87 pd_X9_needOne rfl (ax_rm (by omega) rfl) (ax_hfV (fun _ _ => rfl) hu) (Nat.le_of_ble_eq_true rfl) rfl dX9_bears_9) (fun T4 h => ?_)
  refine aw_aload_n 0 dX9_bears_12 rfl rfl ?_
  refine aw_iload_n 2 dX9_bears_13 rfl rfl ?_
  refine aw_aload_n 0 dX9_bears_14 rfl rfl ?_
  refine aw_getR axc9 1 rfl rfl wd_454 dX9_bears_15 h (fun a6 h => ?_)
  refine aw_getI axc1 4 rfl rfl wd_181 dX9_bears_18 h (fun x7 h => ?_)
  obtain ⟨hL8, h⟩ := ax_is_spec h
  refine aw_thV (ob := axOI) (rest := []) (fun _ _ => rfl) rfl h (fun u9 hF hu => aw_runV (As := [.int v2, .int x7]) (rest := []) (L1_X9_needOne hl0 N hF) axc9 hL8 wd_975 wd_972 wd_974 wd_20 wd_87 pd_X9_needOne rfl (ax_rm (by omega) rfl) (ax_hfV (fun _ _ => rfl) hu) (Nat.le_of_ble_eq_true rfl) rfl dX9_bears_21) (fun T9 h => ?_)
  refine aw_iconst 0 dX9_bears_24 rfl ?_
  refine aw_istore_n 3 [(3, .int 0), (0, .ref v0), (1, .int v1), (2, .int v2)] dX9_bears_25 rfl rfl rfl ?_
  refine aw_iconst 0 dX9_bears_26 rfl ?_
  refine aw_istore [(4, .int 0), (3, .int 0), (0, .ref v0), (1, .int v1), (2, .int v2)] dX9_bears_27 rfl rfl ?_
  refine aw_env [(0, .ref v0), (1, .int v1), (2, .int v2), (3, .int 0), (4, .int 0)] [2, 3, 4, 1, 0] rfl ?_
  exact L1_X9_bears_29 hl0 N  N v0 v1 v2 0 0 T9 h

theorem dX9_level_0 : decode cX9_level 0 = .ok (.aload_n 0, 1) := by decide +kernel
theorem dX9_level_1 : decode cX9_level 1 = .ok (.iload_n 1, 1) := by decide +kernel
theorem dX9_level_2 : decode cX9_level 2 = .ok (.ifCond .lt 14, 3) := by decide +kernel
theorem dX9_level_5 : decode cX9_level 5 = .ok (.iload_n 1, 1) := by decide +kernel
theorem dX9_level_6 : decode cX9_level 6 = .ok (.sipush 200, 3) := by decide +kernel
theorem dX9_level_9 : decode cX9_level 9 = .ok (.if_icmp .gt 7, 3) := by decide +kernel
theorem dX9_level_12 : decode cX9_level 12 = .ok (.iconst 1, 1) := by decide +kernel
theorem dX9_level_13 : decode cX9_level 13 = .ok (.goto 4, 3) := by decide +kernel
theorem dX9_level_16 : decode cX9_level 16 = .ok (.iconst 0, 1) := by decide +kernel
theorem dX9_level_17 : decode cX9_level 17 = .ok (.invokevirtual 128, 3) := by decide +kernel
theorem dX9_level_20 : decode cX9_level 20 = .ok (.iconst 0, 1) := by decide +kernel
theorem dX9_level_21 : decode cX9_level 21 = .ok (.istore_n 2, 1) := by decide +kernel
theorem dX9_level_22 : decode cX9_level 22 = .ok (.iload_n 2, 1) := by decide +kernel
theorem dX9_level_23 : decode cX9_level 23 = .ok (.bipush 20, 2) := by decide +kernel
theorem dX9_level_25 : decode cX9_level 25 = .ok (.if_icmp .gt 58, 3) := by decide +kernel
theorem dX9_level_28 : decode cX9_level 28 = .ok (.iconst 0, 1) := by decide +kernel
theorem dX9_level_29 : decode cX9_level 29 = .ok (.istore_n 3, 1) := by decide +kernel
theorem dX9_level_30 : decode cX9_level 30 = .ok (.iconst 0, 1) := by decide +kernel
theorem dX9_level_31 : decode cX9_level 31 = .ok (.istore 4, 2) := by decide +kernel
theorem dX9_level_33 : decode cX9_level 33 = .ok (.iload 4, 2) := by decide +kernel
theorem dX9_level_35 : decode cX9_level 35 = .ok (.aload_n 0, 1) := by decide +kernel
theorem dX9_level_36 : decode cX9_level 36 = .ok (.getfield 19, 3) := by decide +kernel
theorem dX9_level_39 : decode cX9_level 39 = .ok (.getfield 207, 3) := by decide +kernel
theorem dX9_level_42 : decode cX9_level 42 = .ok (.if_icmp .ge 28, 3) := by decide +kernel
theorem dX9_level_45 : decode cX9_level 45 = .ok (.iload_n 3, 1) := by decide +kernel
theorem dX9_level_46 : decode cX9_level 46 = .ok (.iload_n 2, 1) := by decide +kernel
theorem dX9_level_47 : decode cX9_level 47 = .ok (.aload_n 0, 1) := by decide +kernel
theorem dX9_level_48 : decode cX9_level 48 = .ok (.getfield 19, 3) := by decide +kernel
theorem dX9_level_51 : decode cX9_level 51 = .ok (.getfield 241, 3) := by decide +kernel
theorem dX9_level_54 : decode cX9_level 54 = .ok (.iload 4, 2) := by decide +kernel
theorem dX9_level_56 : decode cX9_level 56 = .ok (.invokestatic 223, 3) := by decide +kernel
theorem dX9_level_59 : decode cX9_level 59 = .ok (.invokestatic 290, 3) := by decide +kernel
theorem dX9_level_62 : decode cX9_level 62 = .ok (.iadd, 1) := by decide +kernel
theorem dX9_level_63 : decode cX9_level 63 = .ok (.istore_n 3, 1) := by decide +kernel
theorem dX9_level_64 : decode cX9_level 64 = .ok (.iinc 4 1, 3) := by decide +kernel
theorem dX9_level_67 : decode cX9_level 67 = .ok (.goto (-34), 3) := by decide +kernel
theorem dX9_level_70 : decode cX9_level 70 = .ok (.iload_n 3, 1) := by decide +kernel
theorem dX9_level_71 : decode cX9_level 71 = .ok (.iload_n 1, 1) := by decide +kernel
theorem dX9_level_72 : decode cX9_level 72 = .ok (.if_icmp .lt 5, 3) := by decide +kernel
theorem dX9_level_75 : decode cX9_level 75 = .ok (.iload_n 2, 1) := by decide +kernel
theorem dX9_level_76 : decode cX9_level 76 = .ok (.ireturn, 1) := by decide +kernel
theorem dX9_level_77 : decode cX9_level 77 = .ok (.iinc 2 1, 3) := by decide +kernel
theorem dX9_level_80 : decode cX9_level 80 = .ok (.goto (-58), 3) := by decide +kernel
theorem dX9_level_83 : decode cX9_level 83 = .ok (.iconst (-1), 1) := by decide +kernel
theorem dX9_level_84 : decode cX9_level 84 = .ok (.ireturn, 1) := by decide +kernel
abbrev mt_X9_level : AxM := (RX9, cX9_level, 5, (some .int), false, [])
theorem L1_X9_level_33b {g : AxG} {l : Launch} (hl0 : l.stackTraces = false) {res : AxT Int32} (N : Nat) (K22 : Nat → Int32 → Int32 → AxS → Option (AxT Int32)) (hK22 : ∀ (v0 : Nat) (v1 : Int32) (v2 : Int32) (S : AxS), K22 v0 v1 v2 S = some res → AW g l (axRm (9) (axCs (axOI res)) (6 * axCs (axOI res))) mt_X9_level (axMQ g (axCs (axOI res)) (6 * axCs (axOI res)) (axOI res)) 0 0 S 22 [(0, .ref v0), (1, .int v1), (2, .int v2)] []) (K33 : Nat → Int32 → Int32 → Int32 → Int32 → AxS → Option (AxT Int32)) (hK33 : ∀ (v0 : Nat) (v1 : Int32) (v2 : Int32) (v3 : Int32) (v4 : Int32) (S : AxS), K33 v0 v1 v2 v3 v4 S = some res → AW g l (axRm (9) (axCs (axOI res)) (6 * axCs (axOI res))) mt_X9_level (axMQ g (axCs (axOI res)) (6 * axCs (axOI res)) (axOI res)) 0 0 S 33 [(0, .ref v0), (1, .int v1), (2, .int v2), (3, .int v3), (4, .int v4)] []) (v0 : Nat) (v1 : Int32) (v2 : Int32) (v3 : Int32) (v4 : Int32) (S : AxS) (h : F_X9_level_33b N K22 K33 v0 v1 v2 v3 v4 S = some res) : AW g l (axRm (9) (axCs (axOI res)) (6 * axCs (axOI res))) mt_X9_level (axMQ g (axCs (axOI res)) (6 * axCs (axOI res)) (axOI res)) 0 0 S 33 [(0, .ref v0), (1, .int v1), (2, .int v2), (3, .int v3), (4, .int v4)] [] := by
  unfold F_X9_level_33b at h
  refine aw_iload 4 dX9_level_33 rfl ?_
  refine aw_aload_n 0 dX9_level_35 rfl rfl ?_
  refine aw_getR axc9 1 rfl rfl wd_454 dX9_level_36 h (fun a1 h => ?_)
  refine aw_getI axc1 3 rfl rfl wd_179 dX9_level_39 h (fun x2 h => ?_)
  refine aw_icmp_ge 70 dX9_level_42 (by decide) h (fun h => ?_) (fun h => ?_)
  · refine aw_iload_n 3 dX9_level_70 rfl rfl ?_
    refine aw_iload_n 1 dX9_level_71 rfl rfl ?_
    refine aw_icmp_lt 77 dX9_level_72 (by decide) h (fun h => ?_) (fun h => ?_)
    · refine aw_iinc 2 [(2, .int (v2 + 1)), (0, .ref v0), (1, .int v1), (3, .int v3), (4, .int v4)] (v2 + 1) dX9_level_77 rfl rfl rfl rfl ?_
      refine aw_goto 22 dX9_level_80 (by decide) ?_
      refine aw_env [(0, .ref v0), (1, .int v1), (2, .int (v2 + 1))] [1, 2, 0] rfl ?_
      exact hK22 v0 v1 (v2 + 1) S h
    · refine aw_iload_n 2 dX9_level_75 rfl rfl ?_
      exact aw_iretT dX9_level_76 rfl h
  · refine aw_iload_n 3 dX9_level_45 rfl rfl ?_
    refine aw_iload_n 2 dX9_level_46 rfl rfl ?_
    refine aw_aload_n 0 dX9_level_47 rfl rfl ?_
    refine aw_getR axc9 1 rfl rfl wd_454 dX9_level_48 h (fun a3 h => ?_)
    refine aw_getR axc1 8 rfl rfl wd_190 dX9_level_51 h (fun a4 h => ?_)
    refine aw_iload 4 dX9_level_54 rfl ?_
    refine aw_doneI (rest := [.int v2, .int v3]) h (fun r9 S9 hF => aw_runS (As := [.ref a4, .int v4]) (rest := [.int v2, .int v3]) (L1_X9_at N hF) wd_541 wd_874 wd_540 wd_87 pd_X9_at.2 rfl (ax_rm (by omega) rfl) ax_hf0 (Nat.le_of_ble_eq_true rfl) rfl dX9_level_56) (fun x6 T5 h => ?_)
    refine aw_doneI (rest := [.int v3]) h (fun r9 S9 hF => aw_runS (As := [.int v2, .int x6]) (rest := [.int v3]) (L1_J9_min_7cf53 N hF) wd_563 wd_565 wd_562 wd_106 pd_J9_min_7cf53.2 rfl (ax_rm (by omega) rfl) ax_hf0 (Nat.le_of_ble_eq_true rfl) rfl dX9_level_59) (fun x8 T7 h => ?_)
    refine aw_iadd dX9_level_62 ?_
    refine aw_istore_n 3 [(3, .int (v3 + x8)), (0, .ref v0), (1, .int v1), (2, .int v2), (4, .int v4)] dX9_level_63 rfl rfl rfl ?_
    refine aw_iinc 4 [(4, .int (v4 + 1)), (3, .int (v3 + x8)), (0, .ref v0), (1, .int v1), (2, .int v2)] (v4 + 1) dX9_level_64 rfl rfl rfl rfl ?_
    refine aw_goto 33 dX9_level_67 (by decide) ?_
    refine aw_env [(0, .ref v0), (1, .int v1), (2, .int v2), (3, .int (v3 + x8)), (4, .int (v4 + 1))] [2, 3, 4, 1, 0] rfl ?_
    exact hK33 v0 v1 v2 (v3 + x8) (v4 + 1) T7 h
theorem L1_X9_level_33 {g : AxG} {l : Launch} (hl0 : l.stackTraces = false) {res : AxT Int32} (N : Nat) (K22 : Nat → Int32 → Int32 → AxS → Option (AxT Int32)) (hK22 : ∀ (v0 : Nat) (v1 : Int32) (v2 : Int32) (S : AxS), K22 v0 v1 v2 S = some res → AW g l (axRm (9) (axCs (axOI res)) (6 * axCs (axOI res))) mt_X9_level (axMQ g (axCs (axOI res)) (6 * axCs (axOI res)) (axOI res)) 0 0 S 22 [(0, .ref v0), (1, .int v1), (2, .int v2)] []) : ∀ (n : Nat) (v0 : Nat) (v1 : Int32) (v2 : Int32) (v3 : Int32) (v4 : Int32) (S : AxS), F_X9_level_33 N K22 n v0 v1 v2 v3 v4 S = some res → AW g l (axRm (9) (axCs (axOI res)) (6 * axCs (axOI res))) mt_X9_level (axMQ g (axCs (axOI res)) (6 * axCs (axOI res)) (axOI res)) 0 0 S 33 [(0, .ref v0), (1, .int v1), (2, .int v2), (3, .int v3), (4, .int v4)] [] := by
  intro n
  induction n with
  | zero => intro v0 v1 v2 v3 v4 S h; cases h
  | succ n ih => intro v0 v1 v2 v3 v4 S h; exact L1_X9_level_33b hl0 N K22 hK22 (F_X9_level_33 N K22 n) ih v0 v1 v2 v3 v4 S h
theorem L1_X9_level_22b {g : AxG} {l : Launch} (hl0 : l.stackTraces = false) {res : AxT Int32} (N : Nat) (K22 : Nat → Int32 → Int32 → AxS → Option (AxT Int32)) (hK22 : ∀ (v0 : Nat) (v1 : Int32) (v2 : Int32) (S : AxS), K22 v0 v1 v2 S = some res → AW g l (axRm (9) (axCs (axOI res)) (6 * axCs (axOI res))) mt_X9_level (axMQ g (axCs (axOI res)) (6 * axCs (axOI res)) (axOI res)) 0 0 S 22 [(0, .ref v0), (1, .int v1), (2, .int v2)] []) (v0 : Nat) (v1 : Int32) (v2 : Int32) (S : AxS) (h : F_X9_level_22b N K22 v0 v1 v2 S = some res) : AW g l (axRm (9) (axCs (axOI res)) (6 * axCs (axOI res))) mt_X9_level (axMQ g (axCs (axOI res)) (6 * axCs (axOI res)) (axOI res)) 0 0 S 22 [(0, .ref v0), (1, .int v1), (2, .int v2)] [] := by
  unfold F_X9_level_22b at h
  refine aw_iload_n 2 dX9_level_22 rfl rfl ?_
  refine aw_bipush 20 dX9_level_23 (by decide) ?_
  refine aw_icmp_gt 83 dX9_level_25 (by decide) h (fun h => ?_) (fun h => ?_)
  · refine aw_iconst (-1) dX9_level_83 rfl ?_
    exact aw_iretT dX9_level_84 rfl h
  · refine aw_iconst 0 dX9_level_28 rfl ?_
    refine aw_istore_n 3 [(3, .int 0), (0, .ref v0), (1, .int v1), (2, .int v2)] dX9_level_29 rfl rfl rfl ?_
    refine aw_iconst 0 dX9_level_30 rfl ?_
    refine aw_istore [(4, .int 0), (3, .int 0), (0, .ref v0), (1, .int v1), (2, .int v2)] dX9_level_31 rfl rfl ?_
    refine aw_env [(0, .ref v0), (1, .int v1), (2, .int v2), (3, .int 0), (4, .int 0)] [2, 3, 4, 1, 0] rfl ?_
    exact L1_X9_level_33 hl0 N K22 hK22 N v0 v1 v2 0 0 S h
theorem L1_X9_level_22 {g : AxG} {l : Launch} (hl0 : l.stackTraces = false) {res : AxT Int32} (N : Nat)  : ∀ (n : Nat) (v0 : Nat) (v1 : Int32) (v2 : Int32) (S : AxS), F_X9_level_22 N  n v0 v1 v2 S = some res → AW g l (axRm (9) (axCs (axOI res)) (6 * axCs (axOI res))) mt_X9_level (axMQ g (axCs (axOI res)) (6 * axCs (axOI res)) (axOI res)) 0 0 S 22 [(0, .ref v0), (1, .int v1), (2, .int v2)] [] := by
  intro n
  induction n with
  | zero => intro v0 v1 v2 S h; cases h
  | succ n ih => intro v0 v1 v2 S h; exact L1_X9_level_22b hl0 N (F_X9_level_22 N  n) ih v0 v1 v2 S h
theorem L1_X9_level_17 {g : AxG} {l : Launch} (hl0 : l.stackTraces = false) {res : AxT Int32} (N : Nat)  (v0 : Nat) (v1 : Int32) (w0 : Int32) (w1 : Nat) (S : AxS) (h : F_X9_level_17 N  v0 v1 w0 w1 S = some res) : AW g l (axRm (9) (axCs (axOI res)) (6 * axCs (axOI res))) mt_X9_level (axMQ g (axCs (axOI res)) (6 * axCs (axOI res)) (axOI res)) 0 0 S 17 [(0, .ref v0), (1, .int v1)] [.int w0, .ref w1] := by
  unfold F_X9_level_17 at h
  obtain ⟨hL1, h⟩ := ax_is_spec h
  refine aw_thV (ob := axOI) (rest := []) (fun _ _ => rfl) rfl h (fun u9 hF hu => aw_runV (As := [.int w0]) (rest := []) (L1_X9_needArgument hl0 N hF) axc9 hL1 wd_604 wd_601 wd_603 wd_3 wd_87 pd_X9_needArgument rfl (ax_rm (by omega) rfl) (ax_hfV (fun _ _ => rfl) hu) (Nat.le_of_ble_eq_true rfl) rfl dX9_level_17) (fun T2 h => ?_)
  refine aw_iconst 0 dX9_level_20 rfl ?_
  refine aw_istore_n 2 [(2, .int 0), (0, .ref v0), (1, .int v1)] dX9_level_21 rfl rfl rfl ?_
  refine aw_env [(0, .ref v0), (1, .int v1), (2, .int 0)] [1, 2, 0] rfl ?_
  exact L1_X9_level_22 hl0 N  N v0 v1 0 T2 h
theorem L1_X9_level_16 {g : AxG} {l : Launch} (hl0 : l.stackTraces = false) {res : AxT Int32} (N : Nat)  (v0 : Nat) (v1 : Int32) (w0 : Nat) (S : AxS) (h : F_X9_level_16 N  v0 v1 w0 S = some res) : AW g l (axRm (9) (axCs (axOI res)) (6 * axCs (axOI res))) mt_X9_level (axMQ g (axCs (axOI res)) (6 * axCs (axOI res)) (axOI res)) 0 0 S 16 [(0, .ref v0), (1, .int v1)] [.ref w0] := by
  unfold F_X9_level_16 at h
  refine aw_iconst 0 dX9_level_16 rfl ?_
  refine aw_env [(0, .ref v0), (1, .int v1)] [0, 1] rfl ?_
  exact L1_X9_level_17 hl0 N  v0 v1 0 w0 S h
theorem L1_X9_level {g : AxG} {l : Launch} (hl0 : l.stackTraces = false) (N : Nat) {v0 : Nat} {v1 : Int32} {S : AxS} {res : AxT Int32} (h : F_X9_level N v0 v1 S = some res) : AxMet g l yX9_level cX9_level 5 (some .int) (9) (axCs (axOI res)) (6 * axCs (axOI res)) [.ref v0, .int v1] S (axOI res) := by
  refine ax_met (own := RX9) (ini := false) (by decide +kernel) rfl (fun h => nomatch h) rfl ?_
  show AW g l (axRm (9) (axCs (axOI res)) (6 * axCs (axOI res))) mt_X9_level (axMQ g (axCs (axOI res)) (6 * axCs (axOI res)) (axOI res)) 0 0 S 0 [(0, .ref v0), (1, .int v1)] []
  unfold F_X9_level at h
  refine aw_aload_n 0 dX9_level_0 rfl rfl ?_
  refine aw_iload_n 1 dX9_level_1 rfl rfl ?_
  refine aw_if_lt 16 dX9_level_2 (by decide) h (fun h => ?_) (fun h => ?_)
  · refine aw_env [(0, .ref v0), (1, .int v1)] [0, 1] rfl ?_
    exact L1_X9_level_16 hl0 N  v0 v1 v0 S h
  · refine aw_iload_n 1 dX9_level_5 rfl rfl ?_
    refine aw_sipush 200 dX9_level_6 (by decide) ?_
    refine aw_icmp_gt 16 dX9_level_9 (by decide) h (fun h => ?_) (fun h => ?_)
    · refine aw_env [(0, .ref v0), (1, .int v1)] [0, 1] rfl ?_
      exact L1_X9_level_16 hl0 N  v0 v1 v0 S h
    · refine aw_iconst 1 dX9_level_12 rfl ?_
      refine aw_goto 17 dX9_level_13 (by decide) ?_
      refine aw_env [(0, .ref v0), (1, .int v1)] [0, 1] rfl ?_
      exact L1_X9_level_17 hl0 N  v0 v1 1 v0 S h

theorem dX9_image_0 : decode cX9_image 0 = .ok (.aload_n 0, 1) := by decide +kernel
theorem dX9_image_1 : decode cX9_image 1 = .ok (.getfield 115, 3) := by decide +kernel
theorem dX9_image_4 : decode cX9_image 4 = .ok (.ifCond .lt 15, 3) := by decide +kernel
theorem dX9_image_7 : decode cX9_image 7 = .ok (.aload_n 0, 1) := by decide +kernel
theorem dX9_image_8 : decode cX9_image 8 = .ok (.getfield 115, 3) := by decide +kernel
theorem dX9_image_11 : decode cX9_image 11 = .ok (.aload_n 0, 1) := by decide +kernel
theorem dX9_image_12 : decode cX9_image 12 = .ok (.getfield 72, 3) := by decide +kernel
theorem dX9_image_15 : decode cX9_image 15 = .ok (.arraylength, 1) := by decide +kernel
theorem dX9_image_16 : decode cX9_image 16 = .ok (.if_icmp .lt 5, 3) := by decide +kernel
theorem dX9_image_19 : decode cX9_image 19 = .ok (.iconst (-1), 1) := by decide +kernel
theorem dX9_image_20 : decode cX9_image 20 = .ok (.ireturn, 1) := by decide +kernel
theorem dX9_image_21 : decode cX9_image 21 = .ok (.aload_n 0, 1) := by decide +kernel
theorem dX9_image_22 : decode cX9_image 22 = .ok (.getfield 72, 3) := by decide +kernel
theorem dX9_image_25 : decode cX9_image 25 = .ok (.aload_n 0, 1) := by decide +kernel
theorem dX9_image_26 : decode cX9_image 26 = .ok (.getfield 115, 3) := by decide +kernel
theorem dX9_image_29 : decode cX9_image 29 = .ok (.aaload, 1) := by decide +kernel
theorem dX9_image_30 : decode cX9_image 30 = .ok (.aload_n 0, 1) := by decide +kernel
theorem dX9_image_31 : decode cX9_image 31 = .ok (.getfield 56, 3) := by decide +kernel
theorem dX9_image_34 : decode cX9_image 34 = .ok (.aload_n 0, 1) := by decide +kernel
theorem dX9_image_35 : decode cX9_image 35 = .ok (.getfield 66, 3) := by decide +kernel
theorem dX9_image_38 : decode cX9_image 38 = .ok (.invokevirtual 352, 3) := by decide +kernel
theorem dX9_image_41 : decode cX9_image 41 = .ok (.aload_n 0, 1) := by decide +kernel
theorem dX9_image_42 : decode cX9_image 42 = .ok (.dup, 1) := by decide +kernel
theorem dX9_image_43 : decode cX9_image 43 = .ok (.getfield 115, 3) := by decide +kernel
theorem dX9_image_46 : decode cX9_image 46 = .ok (.iconst 1, 1) := by decide +kernel
theorem dX9_image_47 : decode cX9_image 47 = .ok (.iadd, 1) := by decide +kernel
theorem dX9_image_48 : decode cX9_image 48 = .ok (.putfield 115, 3) := by decide +kernel
theorem dX9_image_51 : decode cX9_image 51 = .ok (.aload_n 0, 1) := by decide +kernel
theorem dX9_image_52 : decode cX9_image 52 = .ok (.getfield 115, 3) := by decide +kernel
theorem dX9_image_55 : decode cX9_image 55 = .ok (.ireturn, 1) := by decide +kernel
abbrev mt_X9_image : AxM := (RX9, cX9_image, 1, (some .int), false, [])
theorem L1_X9_image {g : AxG} {l : Launch} (N : Nat) {v0 : Nat} {S : AxS} {r9 : Int32} {S9 : AxS} (h : F_X9_image N v0 S = some ((r9, S9))) : AxMet g l yX9_image cX9_image 1 (some .int) (4) 0 0 [.ref v0] S ((.inl (some (.int r9)), S9)) := by
  refine ax_met (own := RX9) (ini := false) (by decide +kernel) rfl (fun h => nomatch h) rfl ?_
  show AW g l (axRm (4) 0 0) mt_X9_image (axMQ g 0 0 (.inl (some (.int r9)), S9)) 0 0 S 0 [(0, .ref v0)] []
  unfold F_X9_image at h
  refine aw_aload_n 0 dX9_image_0 rfl rfl ?_
  refine aw_getI axc9 12 rfl rfl wd_465 dX9_image_1 h (fun x1 h => ?_)
  refine aw_if_lt 19 dX9_image_4 (by decide) h (fun h => ?_) (fun h => ?_)
  · refine aw_iconst (-1) dX9_image_19 rfl ?_
    exact aw_iret dX9_image_20 rfl (Nat.le_refl _) (Nat.le_refl _) h
  · refine aw_aload_n 0 dX9_image_7 rfl rfl ?_
    refine aw_getI axc9 12 rfl rfl wd_465 dX9_image_8 h (fun x2 h => ?_)
    refine aw_aload_n 0 dX9_image_11 rfl rfl ?_
    refine aw_getR axc9 11 rfl rfl wd_464 dX9_image_12 h (fun a3 h => ?_)
    refine aw_alen dX9_image_15 h (fun x4 h => ?_)
    refine aw_icmp_lt 21 dX9_image_16 (by decide) h (fun h => ?_) (fun h => ?_)
    · refine aw_aload_n 0 dX9_image_21 rfl rfl ?_
      refine aw_getR axc9 11 rfl rfl wd_464 dX9_image_22 h (fun a5 h => ?_)
      refine aw_aload_n 0 dX9_image_25 rfl rfl ?_
      refine aw_getI axc9 12 rfl rfl wd_465 dX9_image_26 h (fun x6 h => ?_)
      refine aw_aald dX9_image_29 h (fun a7 h => ?_)
      refine aw_aload_n 0 dX9_image_30 rfl rfl ?_
      refine aw_getR axc9 8 rfl rfl wd_461 dX9_image_31 h (fun a8 h => ?_)
      refine aw_aload_n 0 dX9_image_34 rfl rfl ?_
      refine aw_getR axc9 10 rfl rfl wd_463 dX9_image_35 h (fun a9 h => ?_)
      obtain ⟨hL10, h⟩ := ax_is_spec h
      refine aw_doneV (rest := []) h (fun S9 hF => aw_runV (As := [.ref a8, .ref a9]) (rest := []) (L1_X3_take N hF) axc3 hL10 wd_573 wd_570 wd_571 wd_572 wd_96 pd_X3_take rfl (ax_rm (by omega) rfl) ax_hf0 (Nat.le_of_ble_eq_true rfl) rfl dX9_image_38) (fun T11 h => ?_)
      refine aw_aload_n 0 dX9_image_41 rfl rfl ?_
      refine aw_dup rfl dX9_image_42 ?_
      refine aw_getI axc9 12 rfl rfl wd_465 dX9_image_43 h (fun x13 h => ?_)
      refine aw_iconst 1 dX9_image_46 rfl ?_
      refine aw_iadd dX9_image_47 ?_
      refine aw_putI axc9 12 rfl rfl wd_465 rfl rfl rfl dX9_image_48 h (fun T14 h => ?_)
      refine aw_aload_n 0 dX9_image_51 rfl rfl ?_
      refine aw_getI axc9 12 rfl rfl wd_465 dX9_image_52 h (fun x15 h => ?_)
      exact aw_iret dX9_image_55 rfl (Nat.le_refl _) (Nat.le_refl _) h
    · refine aw_iconst (-1) dX9_image_19 rfl ?_
      exact aw_iret dX9_image_20 rfl (Nat.le_refl _) (Nat.le_refl _) h
