theorem L1_L_law__23b {g : AxG} {l : Launch} (hl0 : l.stackTraces = false) {S9 : AxS} (N : Nat) (b9 : Nat) (L9 : Nat) (xs9 : Nat → Int32) (hsc : g.2.2.2.2.2.1 = b9 ∧ g.2.2.2.2.2.2.1 = L9 ∧ g.2.2.2.2.2.2.2.1 = xs9) (n23 : Nat) (K23 : Nat → Nat → Nat → Int32 → AxS → Option (Int32 × AxS)) (hK23 : ∀ (v1 : Nat) (v2 : Nat) (v3 : Nat) (v4 : Int32) (S : AxS) (k9 n9 : Nat) (hk9 : k9 + 1 * (n23) ≤ 601024) (hn9 : n9 + 6 * (n23) ≤ 7293034), K23 v1 v2 v3 v4 S = some ((1, S9)) → AW g l room_1 mt_L_law_ (axLQ g) k9 n9 S 23 [(0, .ref b9), (1, .ref v1), (2, .ref v2), (3, .ref v3), (4, .int v4)] []) (v1 : Nat) (v2 : Nat) (v3 : Nat) (v4 : Int32) (S : AxS) (k9 n9 : Nat) (hk9 : k9 + 1 * (n23 + 1) ≤ 601024) (hn9 : n9 + 6 * (n23 + 1) ≤ 7293034) (h : F_L_law__23b N L9 xs9 K23 v1 v2 v3 v4 S = some ((1, S9))) : AW g l room_1 mt_L_law_ (axLQ g) k9 n9 S 23 [(0, .ref b9), (1, .ref v1), (2, .ref v2), (3, .ref v3), (4, .int v4)] [] := by
  unfold F_L_law__23b at h
  refine aw_iload 4 dL_law__23 rfl ?_
  refine aw_aload_n 0 dL_law__25 rfl rfl ?_
  refine aw_slen hsc dL_law__26 ?_
  refine aw_bipush 8 dL_law__27 (by decide) ?_
  refine aw_isub dL_law__29 ?_
  refine aw_icmp_gt 2513 dL_law__30 (by decide) h (fun h => ?_) (fun h => ?_)
  · refine aw_iconst 1 dL_law__2513 rfl ?_
    exact aw_lawret rfl rfl dL_law__2514 (by omega) (by omega) h
  · refine aw_aload_n 0 dL_law__33 rfl rfl ?_
    refine aw_iload 4 dL_law__34 rfl ?_
    refine aw_sld hsc dL_law__36 h (fun x1 h => ?_)
    refine aw_bipush 63 dL_law__37 (by decide) ?_
    refine aw_iand dL_law__39 ?_
    refine aw_case 0 h (fun h => ?_) (fun c2 h => ?_)
    · refine aw_tswIn 208 (off := 168) dL_law__40 (by decide) (by decide) (by decide) (by decide) ?_
      refine aw_env [(0, .ref b9), (1, .ref v1), (2, .ref v2), (3, .ref v3), (4, .int v4)] [0, 1, 2, 3, 4] rfl ?_
      exact L1_L_law__208 hl0 N b9 L9 xs9 hsc n23 K23 hK23 v1 v2 v3 v4 S _ _ (by omega) (by omega) h
    refine aw_case 1 h (fun h => ?_) (fun c3 h => ?_)
    · refine aw_tswIn 281 (off := 241) dL_law__40 (by decide) (by decide) (by decide) (by decide) ?_
      refine aw_env [(0, .ref b9), (1, .ref v1), (2, .ref v2), (3, .ref v3), (4, .int v4)] [0, 1, 2, 3, 4] rfl ?_
      exact L1_L_law__281 hl0 N b9 L9 xs9 hsc n23 K23 hK23 v1 v2 v3 v4 S _ _ (by omega) (by omega) h
    refine aw_case 2 h (fun h => ?_) (fun c4 h => ?_)
    · refine aw_tswIn 337 (off := 297) dL_law__40 (by decide) (by decide) (by decide) (by decide) ?_
      refine aw_env [(0, .ref b9), (1, .ref v1), (2, .ref v2), (3, .ref v3), (4, .int v4)] [0, 1, 2, 3, 4] rfl ?_
      exact L1_L_law__337 hl0 N b9 L9 xs9 hsc n23 K23 hK23 v1 v2 v3 v4 S _ _ (by omega) (by omega) h
    refine aw_case 3 h (fun h => ?_) (fun c5 h => ?_)
    · refine aw_tswIn 393 (off := 353) dL_law__40 (by decide) (by decide) (by decide) (by decide) ?_
      refine aw_env [(0, .ref b9), (1, .ref v1), (2, .ref v2), (3, .ref v3), (4, .int v4)] [0, 1, 2, 3, 4] rfl ?_
      exact L1_L_law__393 hl0 N b9 L9 xs9 hsc n23 K23 hK23 v1 v2 v3 v4 S _ _ (by omega) (by omega) h
    refine aw_case 4 h (fun h => ?_) (fun c6 h => ?_)
    · refine aw_tswIn 449 (off := 409) dL_law__40 (by decide) (by decide) (by decide) (by decide) ?_
      refine aw_env [(0, .ref b9), (1, .ref v1), (2, .ref v2), (3, .ref v3), (4, .int v4)] [0, 1, 2, 3, 4] rfl ?_
      exact L1_L_law__449 hl0 N b9 L9 xs9 hsc n23 K23 hK23 v1 v2 v3 v4 S _ _ (by omega) (by omega) h
    refine aw_case 5 h (fun h => ?_) (fun c7 h => ?_)
    · refine aw_tswIn 505 (off := 465) dL_law__40 (by decide) (by decide) (by decide) (by decide) ?_
      refine aw_env [(0, .ref b9), (1, .ref v1), (2, .ref v2), (3, .ref v3), (4, .int v4)] [0, 1, 2, 3, 4] rfl ?_
      exact L1_L_law__505 hl0 N b9 L9 xs9 hsc n23 K23 hK23 v1 v2 v3 v4 S _ _ (by omega) (by omega) h
    refine aw_case 6 h (fun h => ?_) (fun c8 h => ?_)
    · refine aw_tswIn 518 (off := 478) dL_law__40 (by decide) (by decide) (by decide) (by decide) ?_
      refine aw_env [(0, .ref b9), (1, .ref v1), (2, .ref v2), (3, .ref v3), (4, .int v4)] [0, 1, 2, 3, 4] rfl ?_
      exact L1_L_law__518 hl0 N b9 L9 xs9 hsc n23 K23 hK23 v1 v2 v3 v4 S _ _ (by omega) (by omega) h
    refine aw_case 7 h (fun h => ?_) (fun c9 h => ?_)
    · refine aw_tswIn 531 (off := 491) dL_law__40 (by decide) (by decide) (by decide) (by decide) ?_
      refine aw_env [(0, .ref b9), (1, .ref v1), (2, .ref v2), (3, .ref v3), (4, .int v4)] [0, 1, 2, 3, 4] rfl ?_
      exact L1_L_law__531 hl0 N b9 L9 xs9 hsc n23 K23 hK23 v1 v2 v3 v4 S _ _ (by omega) (by omega) h
    refine aw_case 8 h (fun h => ?_) (fun c10 h => ?_)
    · refine aw_tswIn 587 (off := 547) dL_law__40 (by decide) (by decide) (by decide) (by decide) ?_
      refine aw_env [(0, .ref b9), (1, .ref v1), (2, .ref v2), (3, .ref v3), (4, .int v4)] [0, 1, 2, 3, 4] rfl ?_
      exact L1_L_law__587 hl0 N b9 L9 xs9 hsc n23 K23 hK23 v1 v2 v3 v4 S _ _ (by omega) (by omega) h
    refine aw_case 9 h (fun h => ?_) (fun c11 h => ?_)
    · refine aw_tswIn 643 (off := 603) dL_law__40 (by decide) (by decide) (by decide) (by decide) ?_
      refine aw_env [(0, .ref b9), (1, .ref v1), (2, .ref v2), (3, .ref v3), (4, .int v4)] [0, 1, 2, 3, 4] rfl ?_
      exact L1_L_law__643 hl0 N b9 L9 xs9 hsc n23 K23 hK23 v1 v2 v3 v4 S _ _ (by omega) (by omega) h
    refine aw_case 10 h (fun h => ?_) (fun c12 h => ?_)
    · refine aw_tswIn 711 (off := 671) dL_law__40 (by decide) (by decide) (by decide) (by decide) ?_
      refine aw_env [(0, .ref b9), (1, .ref v1), (2, .ref v2), (3, .ref v3), (4, .int v4)] [0, 1, 2, 3, 4] rfl ?_
      exact L1_L_law__711 hl0 N b9 L9 xs9 hsc n23 K23 hK23 v1 v2 v3 v4 S _ _ (by omega) (by omega) h
    refine aw_case 11 h (fun h => ?_) (fun c13 h => ?_)
    · refine aw_tswIn 779 (off := 739) dL_law__40 (by decide) (by decide) (by decide) (by decide) ?_
      refine aw_env [(0, .ref b9), (1, .ref v1), (2, .ref v2), (3, .ref v3), (4, .int v4)] [0, 1, 2, 3, 4] rfl ?_
      exact L1_L_law__779 hl0 N b9 L9 xs9 hsc n23 K23 hK23 v1 v2 v3 v4 S _ _ (by omega) (by omega) h
    refine aw_case 12 h (fun h => ?_) (fun c14 h => ?_)
    · refine aw_tswIn 835 (off := 795) dL_law__40 (by decide) (by decide) (by decide) (by decide) ?_
      refine aw_env [(0, .ref b9), (1, .ref v1), (2, .ref v2), (3, .ref v3), (4, .int v4)] [0, 1, 2, 3, 4] rfl ?_
      exact L1_L_law__835 hl0 N b9 L9 xs9 hsc n23 K23 hK23 v1 v2 v3 v4 S _ _ (by omega) (by omega) h
    refine aw_case 13 h (fun h => ?_) (fun c15 h => ?_)
    · refine aw_tswIn 891 (off := 851) dL_law__40 (by decide) (by decide) (by decide) (by decide) ?_
      refine aw_env [(0, .ref b9), (1, .ref v1), (2, .ref v2), (3, .ref v3), (4, .int v4)] [0, 1, 2, 3, 4] rfl ?_
      exact L1_L_law__891 hl0 N b9 L9 xs9 hsc n23 K23 hK23 v1 v2 v3 v4 S _ _ (by omega) (by omega) h
    refine aw_case 14 h (fun h => ?_) (fun c16 h => ?_)
    · refine aw_tswIn 904 (off := 864) dL_law__40 (by decide) (by decide) (by decide) (by decide) ?_
      refine aw_env [(0, .ref b9), (1, .ref v1), (2, .ref v2), (3, .ref v3), (4, .int v4)] [0, 1, 2, 3, 4] rfl ?_
      exact L1_L_law__904 hl0 N b9 L9 xs9 hsc n23 K23 hK23 v1 v2 v3 v4 S _ _ (by omega) (by omega) h
    refine aw_case 15 h (fun h => ?_) (fun c17 h => ?_)
    · refine aw_tswIn 1036 (off := 996) dL_law__40 (by decide) (by decide) (by decide) (by decide) ?_
      refine aw_env [(0, .ref b9), (1, .ref v1), (2, .ref v2), (3, .ref v3), (4, .int v4)] [0, 1, 2, 3, 4] rfl ?_
      exact L1_L_law__1036 hl0 N b9 L9 xs9 hsc n23 K23 hK23 v1 v2 v3 v4 S _ _ (by omega) (by omega) h
    refine aw_case 16 h (fun h => ?_) (fun c18 h => ?_)
    · refine aw_tswIn 1104 (off := 1064) dL_law__40 (by decide) (by decide) (by decide) (by decide) ?_
      refine aw_env [(0, .ref b9), (1, .ref v1), (2, .ref v2), (3, .ref v3), (4, .int v4)] [0, 1, 2, 3, 4] rfl ?_
      exact L1_L_law__1104 hl0 N b9 L9 xs9 hsc n23 K23 hK23 v1 v2 v3 v4 S _ _ (by omega) (by omega) h
    refine aw_case 17 h (fun h => ?_) (fun c19 h => ?_)
    · refine aw_tswIn 1172 (off := 1132) dL_law__40 (by decide) (by decide) (by decide) (by decide) ?_
      refine aw_env [(0, .ref b9), (1, .ref v1), (2, .ref v2), (3, .ref v3), (4, .int v4)] [0, 1, 2, 3, 4] rfl ?_
      exact L1_L_law__1172 hl0 N b9 L9 xs9 hsc n23 K23 hK23 v1 v2 v3 v4 S _ _ (by omega) (by omega) h
    refine aw_case 18 h (fun h => ?_) (fun c20 h => ?_)
    · refine aw_tswIn 1228 (off := 1188) dL_law__40 (by decide) (by decide) (by decide) (by decide) ?_
      refine aw_env [(0, .ref b9), (1, .ref v1), (2, .ref v2), (3, .ref v3), (4, .int v4)] [0, 1, 2, 3, 4] rfl ?_
      exact L1_L_law__1228 hl0 N b9 L9 xs9 hsc n23 K23 hK23 v1 v2 v3 v4 S _ _ (by omega) (by omega) h
    refine aw_case 19 h (fun h => ?_) (fun c21 h => ?_)
    · refine aw_tswIn 1284 (off := 1244) dL_law__40 (by decide) (by decide) (by decide) (by decide) ?_
      refine aw_env [(0, .ref b9), (1, .ref v1), (2, .ref v2), (3, .ref v3), (4, .int v4)] [0, 1, 2, 3, 4] rfl ?_
      exact L1_L_law__1284 hl0 N b9 L9 xs9 hsc n23 K23 hK23 v1 v2 v3 v4 S _ _ (by omega) (by omega) h
    refine aw_case 20 h (fun h => ?_) (fun c22 h => ?_)
    · refine aw_tswIn 1376 (off := 1336) dL_law__40 (by decide) (by decide) (by decide) (by decide) ?_
      refine aw_env [(0, .ref b9), (1, .ref v1), (2, .ref v2), (3, .ref v3), (4, .int v4)] [0, 1, 2, 3, 4] rfl ?_
      exact L1_L_law__1376 hl0 N b9 L9 xs9 hsc n23 K23 hK23 v1 v2 v3 v4 S _ _ (by omega) (by omega) h
    refine aw_case 21 h (fun h => ?_) (fun c23 h => ?_)
    · refine aw_tswIn 1432 (off := 1392) dL_law__40 (by decide) (by decide) (by decide) (by decide) ?_
      refine aw_env [(0, .ref b9), (1, .ref v1), (2, .ref v2), (3, .ref v3), (4, .int v4)] [0, 1, 2, 3, 4] rfl ?_
      exact L1_L_law__1432 hl0 N b9 L9 xs9 hsc n23 K23 hK23 v1 v2 v3 v4 S _ _ (by omega) (by omega) h
    refine aw_case 22 h (fun h => ?_) (fun c24 h => ?_)
    · refine aw_tswIn 1488 (off := 1448) dL_law__40 (by decide) (by decide) (by decide) (by decide) ?_
      refine aw_env [(0, .ref b9), (1, .ref v1), (2, .ref v2), (3, .ref v3), (4, .int v4)] [0, 1, 2, 3, 4] rfl ?_
      exact L1_L_law__1488 hl0 N b9 L9 xs9 hsc n23 K23 hK23 v1 v2 v3 v4 S _ _ (by omega) (by omega) h
    refine aw_case 23 h (fun h => ?_) (fun c25 h => ?_)
    · refine aw_tswIn 1605 (off := 1565) dL_law__40 (by decide) (by decide) (by decide) (by decide) ?_
      refine aw_env [(0, .ref b9), (1, .ref v1), (2, .ref v2), (3, .ref v3), (4, .int v4)] [0, 1, 2, 3, 4] rfl ?_
      exact L1_L_law__1605 hl0 N b9 L9 xs9 hsc n23 K23 hK23 v1 v2 v3 v4 S _ _ (by omega) (by omega) h
    refine aw_case 24 h (fun h => ?_) (fun c26 h => ?_)
    · refine aw_tswIn 1685 (off := 1645) dL_law__40 (by decide) (by decide) (by decide) (by decide) ?_
      refine aw_env [(0, .ref b9), (1, .ref v1), (2, .ref v2), (3, .ref v3), (4, .int v4)] [0, 1, 2, 3, 4] rfl ?_
      exact L1_L_law__1685 hl0 N b9 L9 xs9 hsc n23 K23 hK23 v1 v2 v3 v4 S _ _ (by omega) (by omega) h
    refine aw_case 25 h (fun h => ?_) (fun c27 h => ?_)
    · refine aw_tswIn 1741 (off := 1701) dL_law__40 (by decide) (by decide) (by decide) (by decide) ?_
      refine aw_env [(0, .ref b9), (1, .ref v1), (2, .ref v2), (3, .ref v3), (4, .int v4)] [0, 1, 2, 3, 4] rfl ?_
      exact L1_L_law__1741 hl0 N b9 L9 xs9 hsc n23 K23 hK23 v1 v2 v3 v4 S _ _ (by omega) (by omega) h
    refine aw_case 26 h (fun h => ?_) (fun c28 h => ?_)
    · refine aw_tswIn 1809 (off := 1769) dL_law__40 (by decide) (by decide) (by decide) (by decide) ?_
      refine aw_env [(0, .ref b9), (1, .ref v1), (2, .ref v2), (3, .ref v3), (4, .int v4)] [0, 1, 2, 3, 4] rfl ?_
      exact L1_L_law__1809 hl0 N b9 L9 xs9 hsc n23 K23 hK23 v1 v2 v3 v4 S _ _ (by omega) (by omega) h
    refine aw_case 27 h (fun h => ?_) (fun c29 h => ?_)
    · refine aw_tswIn 1877 (off := 1837) dL_law__40 (by decide) (by decide) (by decide) (by decide) ?_
      refine aw_env [(0, .ref b9), (1, .ref v1), (2, .ref v2), (3, .ref v3), (4, .int v4)] [0, 1, 2, 3, 4] rfl ?_
      exact L1_L_law__1877 hl0 N b9 L9 xs9 hsc n23 K23 hK23 v1 v2 v3 v4 S _ _ (by omega) (by omega) h
    refine aw_case 28 h (fun h => ?_) (fun c30 h => ?_)
    · refine aw_tswIn 1945 (off := 1905) dL_law__40 (by decide) (by decide) (by decide) (by decide) ?_
      refine aw_env [(0, .ref b9), (1, .ref v1), (2, .ref v2), (3, .ref v3), (4, .int v4)] [0, 1, 2, 3, 4] rfl ?_
      exact L1_L_law__1945 hl0 N b9 L9 xs9 hsc n23 K23 hK23 v1 v2 v3 v4 S _ _ (by omega) (by omega) h
    refine aw_case 29 h (fun h => ?_) (fun c31 h => ?_)
    · refine aw_tswIn 2001 (off := 1961) dL_law__40 (by decide) (by decide) (by decide) (by decide) ?_
      refine aw_env [(0, .ref b9), (1, .ref v1), (2, .ref v2), (3, .ref v3), (4, .int v4)] [0, 1, 2, 3, 4] rfl ?_
      exact L1_L_law__2001 hl0 N b9 L9 xs9 hsc n23 K23 hK23 v1 v2 v3 v4 S _ _ (by omega) (by omega) h
    refine aw_case 30 h (fun h => ?_) (fun c32 h => ?_)
    · refine aw_tswIn 2057 (off := 2017) dL_law__40 (by decide) (by decide) (by decide) (by decide) ?_
      refine aw_env [(0, .ref b9), (1, .ref v1), (2, .ref v2), (3, .ref v3), (4, .int v4)] [0, 1, 2, 3, 4] rfl ?_
      exact L1_L_law__2057 hl0 N b9 L9 xs9 hsc n23 K23 hK23 v1 v2 v3 v4 S _ _ (by omega) (by omega) h
    refine aw_case 31 h (fun h => ?_) (fun c33 h => ?_)
    · refine aw_tswIn 2125 (off := 2085) dL_law__40 (by decide) (by decide) (by decide) (by decide) ?_
      refine aw_env [(0, .ref b9), (1, .ref v1), (2, .ref v2), (3, .ref v3), (4, .int v4)] [0, 1, 2, 3, 4] rfl ?_
      exact L1_L_law__2125 hl0 N b9 L9 xs9 hsc n23 K23 hK23 v1 v2 v3 v4 S _ _ (by omega) (by omega) h
    refine aw_case 32 h (fun h => ?_) (fun c34 h => ?_)
    · refine aw_tswIn 2181 (off := 2141) dL_law__40 (by decide) (by decide) (by decide) (by decide) ?_
      refine aw_env [(0, .ref b9), (1, .ref v1), (2, .ref v2), (3, .ref v3), (4, .int v4)] [0, 1, 2, 3, 4] rfl ?_
      exact L1_L_law__2181 hl0 N b9 L9 xs9 hsc n23 K23 hK23 v1 v2 v3 v4 S _ _ (by omega) (by omega) h
    refine aw_case 33 h (fun h => ?_) (fun c35 h => ?_)
    · refine aw_tswIn 2299 (off := 2259) dL_law__40 (by decide) (by decide) (by decide) (by decide) ?_
      refine aw_env [(0, .ref b9), (1, .ref v1), (2, .ref v2), (3, .ref v3), (4, .int v4)] [0, 1, 2, 3, 4] rfl ?_
      exact L1_L_law__2299 hl0 N b9 L9 xs9 hsc n23 K23 hK23 v1 v2 v3 v4 S _ _ (by omega) (by omega) h
    refine aw_case 34 h (fun h => ?_) (fun c36 h => ?_)
    · refine aw_tswIn 2431 (off := 2391) dL_law__40 (by decide) (by decide) (by decide) (by decide) ?_
      refine aw_env [(0, .ref b9), (1, .ref v1), (2, .ref v2), (3, .ref v3), (4, .int v4)] [0, 1, 2, 3, 4] rfl ?_
      exact L1_L_law__2431 hl0 N b9 L9 xs9 hsc n23 K23 hK23 v1 v2 v3 v4 S _ _ (by omega) (by omega) h
    refine aw_case 35 h (fun h => ?_) (fun c37 h => ?_)
    · refine aw_tswIn 2444 (off := 2404) dL_law__40 (by decide) (by decide) (by decide) (by decide) ?_
      refine aw_env [(0, .ref b9), (1, .ref v1), (2, .ref v2), (3, .ref v3), (4, .int v4)] [0, 1, 2, 3, 4] rfl ?_
      exact L1_L_law__2444 hl0 N b9 L9 xs9 hsc n23 K23 hK23 v1 v2 v3 v4 S _ _ (by omega) (by omega) h
    refine aw_case 36 h (fun h => ?_) (fun c38 h => ?_)
    · refine aw_tswIn 2457 (off := 2417) dL_law__40 (by decide) (by decide) (by decide) (by decide) ?_
      refine aw_env [(0, .ref b9), (1, .ref v1), (2, .ref v2), (3, .ref v3), (4, .int v4)] [0, 1, 2, 3, 4] rfl ?_
      exact L1_L_law__2457 hl0 N b9 L9 xs9 hsc n23 K23 hK23 v1 v2 v3 v4 S _ _ (by omega) (by omega) h
    refine aw_case 37 h (fun h => ?_) (fun c39 h => ?_)
    · refine aw_tswIn 2482 (off := 2442) dL_law__40 (by decide) (by decide) (by decide) (by decide) ?_
      refine aw_env [(0, .ref b9), (1, .ref v1), (2, .ref v2), (3, .ref v3), (4, .int v4)] [0, 1, 2, 3, 4] rfl ?_
      exact L1_L_law__2482 hl0 N b9 L9 xs9 hsc n23 K23 hK23 v1 v2 v3 v4 S _ _ (by omega) (by omega) h
    refine aw_tswOut 2507 dL_law__40 (by have q0 := ax_i32ne c2 (v := 0) (i := 0) (by decide); have q1 := ax_i32ne c3 (v := 1) (i := 1) (by decide); have q2 := ax_i32ne c4 (v := 2) (i := 2) (by decide); have q3 := ax_i32ne c5 (v := 3) (i := 3) (by decide); have q4 := ax_i32ne c6 (v := 4) (i := 4) (by decide); have q5 := ax_i32ne c7 (v := 5) (i := 5) (by decide); have q6 := ax_i32ne c8 (v := 6) (i := 6) (by decide); have q7 := ax_i32ne c9 (v := 7) (i := 7) (by decide); have q8 := ax_i32ne c10 (v := 8) (i := 8) (by decide); have q9 := ax_i32ne c11 (v := 9) (i := 9) (by decide); have q10 := ax_i32ne c12 (v := 10) (i := 10) (by decide); have q11 := ax_i32ne c13 (v := 11) (i := 11) (by decide); have q12 := ax_i32ne c14 (v := 12) (i := 12) (by decide); have q13 := ax_i32ne c15 (v := 13) (i := 13) (by decide); have q14 := ax_i32ne c16 (v := 14) (i := 14) (by decide); have q15 := ax_i32ne c17 (v := 15) (i := 15) (by decide); have q16 := ax_i32ne c18 (v := 16) (i := 16) (by decide); have q17 := ax_i32ne c19 (v := 17) (i := 17) (by decide); have q18 := ax_i32ne c20 (v := 18) (i := 18) (by decide); have q19 := ax_i32ne c21 (v := 19) (i := 19) (by decide); have q20 := ax_i32ne c22 (v := 20) (i := 20) (by decide); have q21 := ax_i32ne c23 (v := 21) (i := 21) (by decide); have q22 := ax_i32ne c24 (v := 22) (i := 22) (by decide); have q23 := ax_i32ne c25 (v := 23) (i := 23) (by decide); have q24 := ax_i32ne c26 (v := 24) (i := 24) (by decide); have q25 := ax_i32ne c27 (v := 25) (i := 25) (by decide); have q26 := ax_i32ne c28 (v := 26) (i := 26) (by decide); have q27 := ax_i32ne c29 (v := 27) (i := 27) (by decide); have q28 := ax_i32ne c30 (v := 28) (i := 28) (by decide); have q29 := ax_i32ne c31 (v := 29) (i := 29) (by decide); have q30 := ax_i32ne c32 (v := 30) (i := 30) (by decide); have q31 := ax_i32ne c33 (v := 31) (i := 31) (by decide); have q32 := ax_i32ne c34 (v := 32) (i := 32) (by decide); have q33 := ax_i32ne c35 (v := 33) (i := 33) (by decide); have q34 := ax_i32ne c36 (v := 34) (i := 34) (by decide); have q35 := ax_i32ne c37 (v := 35) (i := 35) (by decide); have q36 := ax_i32ne c38 (v := 36) (i := 36) (by decide); have q37 := ax_i32ne c39 (v := 37) (i := 37) (by decide); omega) (by decide) ?_
    refine aw_env [(0, .ref b9), (1, .ref v1), (2, .ref v2), (3, .ref v3), (4, .int v4)] [0, 1, 2, 3, 4] rfl ?_
    exact L1_L_law__2507 hl0 N b9 L9 xs9 hsc n23 K23 hK23 v1 v2 v3 v4 S _ _ (by omega) (by omega) h
theorem L1_L_law__23 {g : AxG} {l : Launch} (hl0 : l.stackTraces = false) {S9 : AxS} (N : Nat) (b9 : Nat) (L9 : Nat) (xs9 : Nat → Int32) (hsc : g.2.2.2.2.2.1 = b9 ∧ g.2.2.2.2.2.2.1 = L9 ∧ g.2.2.2.2.2.2.2.1 = xs9)  : ∀ (n : Nat) (v1 : Nat) (v2 : Nat) (v3 : Nat) (v4 : Int32) (S : AxS) (k9 n9 : Nat) (hk9 : k9 + 1 * (n) ≤ 601024) (hn9 : n9 + 6 * (n) ≤ 7293034), F_L_law__23 N L9 xs9  n v1 v2 v3 v4 S = some ((1, S9)) → AW g l room_1 mt_L_law_ (axLQ g) k9 n9 S 23 [(0, .ref b9), (1, .ref v1), (2, .ref v2), (3, .ref v3), (4, .int v4)] [] := by
  intro n
  induction n with
  | zero => intro v1 v2 v3 v4 S k9 n9 hk9 hn9 h; cases h
  | succ n ih => intro v1 v2 v3 v4 S k9 n9 hk9 hn9 h; exact L1_L_law__23b hl0 N b9 L9 xs9 hsc n (F_L_law__23 N L9 xs9  n) ih v1 v2 v3 v4 S k9 n9 hk9 hn9 h
theorem L1_L_law_ {g : AxG} {l : Launch} (hl0 : l.stackTraces = false) {S9 : AxS} (N : Nat) (b9 : Nat) (L9 : Nat) (xs9 : Nat → Int32) (hsc : g.2.2.2.2.2.1 = b9 ∧ g.2.2.2.2.2.2.1 = L9 ∧ g.2.2.2.2.2.2.2.1 = xs9) (S : AxS) (h : F_L_law_ N L9 xs9 S = some ((1, S9))) : AW g l room_1 mt_L_law_ (axLQ g) 0 0 S 0 [(0, .ref b9)] [] := by
  unfold F_L_law_ at h
  refine aw_new axc9 axd9 wd_109 wd_110 wd_87 dL_law__0 (by show _ ≤ (601024 : Nat); omega) (by show _ ≤ (7293034 : Nat); omega) h (fun q1 T2 h => ?_)
  refine aw_dup rfl dL_law__3 ?_
  refine aw_doneV (rest := [.ref q1]) h (fun S9 hF => aw_runI (As := []) (rest := [.ref q1]) (L1_X9_init N hF) wd_113 wd_111 wd_112 wd_87 rfl pd_X9_init.2 rfl (ax_rmL rfl rfl) (ax_hfLw (by omega) (by omega)) (Nat.le_of_ble_eq_true rfl) rfl dL_law__4) (fun T3 h => ?_)
  refine aw_astore_n 1 [(1, .ref q1), (0, .ref b9)] dL_law__7 rfl rfl rfl ?_
  refine aw_new axc10 axd10 wd_1263 wd_1264 wd_97 dL_law__8 (by show _ ≤ (601024 : Nat); omega) (by show _ ≤ (7293034 : Nat); omega) h (fun q5 T6 h => ?_)
  refine aw_dup rfl dL_law__11 ?_
  refine aw_doneV (rest := [.ref q5]) h (fun S9 hF => aw_runI (As := []) (rest := [.ref q5]) (L1_X10_init N hF) wd_1267 wd_1265 wd_1266 wd_97 rfl pd_X10_init.2 rfl (ax_rmL rfl rfl) (ax_hfLw (by omega) (by omega)) (Nat.le_of_ble_eq_true rfl) rfl dL_law__12) (fun T7 h => ?_)
  refine aw_astore_n 2 [(2, .ref q5), (1, .ref q1), (0, .ref b9)] dL_law__15 rfl rfl rfl ?_
  refine aw_iconst 1 dL_law__16 rfl ?_
  refine aw_newJ (N := 1) wd_1433 dL_law__17 (by decide) (by decide) rfl (by show _ ≤ (601024 : Nat); omega) (by show _ ≤ (7293034 : Nat); omega) h (fun q9 T10 h => ?_)
  refine aw_astore_n 3 [(3, .ref q9), (2, .ref q5), (1, .ref q1), (0, .ref b9)] dL_law__19 rfl rfl rfl ?_
  refine aw_iconst 0 dL_law__20 rfl ?_
  refine aw_istore [(4, .int 0), (3, .ref q9), (2, .ref q5), (1, .ref q1), (0, .ref b9)] dL_law__21 rfl rfl ?_
  refine aw_env [(0, .ref b9), (1, .ref q1), (2, .ref q5), (3, .ref q9), (4, .int 0)] [4, 3, 2, 1, 0] rfl ?_
  exact L1_L_law__23 hl0 N b9 L9 xs9 hsc  514 q1 q5 q9 0 T10 _ _ (by omega) (by omega) h
